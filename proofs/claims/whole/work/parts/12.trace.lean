/-! the walks of these methods, printed by my own program (wip/whole/gen.py) -/
set_option maxHeartbeats 4000000 in
set_option maxRecDepth 100000 in
theorem c_X4_aOf (l : Launch) (D : va_G) (cI : ClassId) (q_tr q_tk q_tf q_tf_a q_tz q_tw : Nat) (n : Nat) (x1 : Int32) (tr_count : Int32) (tf_a : (Nat → Int32)) (res : Int32) (hf : f_X4_aOf n x1 tf_a = some res) : fr_Ci l yX4_aOf wsX4_aOf ({ frames := 1, cells := 0, slots := 0, locals := 21 }) D [(cI, .int)] [.ref q_tr, .int x1] [(q_tr, .inr (4, [.ref q_tk, .ref q_tf, .ref q_tz, .ref q_tw, .int tr_count])), (q_tf, .inr (3, [.ref q_tf_a])), (q_tf_a, .inl (cI, 20, .inl tf_a))] res [(q_tr, .inr (4, [.ref q_tk, .ref q_tf, .ref q_tz, .ref q_tw, .int tr_count])), (q_tf, .inr (3, [.ref q_tf_a])), (q_tf_a, .inl (cI, 20, .inl tf_a))] := by
  refine fr_open_i (cc := cX4_aOf) (maxL := 2) (ret := some .int) (by decide +kernel) rfl (Nat.le_of_ble_eq_true rfl) ⟨.int, rfl, vp_nar_int _⟩ ?_
  intro p e s m below meth c A Q ls hx hb hml hown hts hA hK hP hD hS hl hret
  have hown : s.vm.findClass RX4 = some m.cls := hown
  have hl : lv_has ls 2 [(0, .ref q_tr), (1, .int x1)] := hl
  have hin4 : ∀ w ∈ u_ws RX4 TX4 5, w ∈ wsX4_aOf := fun _ h9 => List.mem_cons_of_mem _ (List.mem_append_left _ (List.mem_append_right _ h9))
  unfold f_X4_aOf at hf
  refine lv_aload_n hx hb dX4_aOf_0 rfl (lv_at hl 0 rfl) ?_
  refine va_get (D := D) (ci := 4) (v := .ref q_tf) (C := RX4) (T := TX4) (N := 5) hx hb hts hin4 hown hK hP 0 rfl rfl 1 (by decide) (hts (.fieldLink RX4 20 "ColumnChooser$Trace" "firsts" "LColumnChooser$Row;") (List.mem_of_getElem? (i := 1) rfl)) (fun _ h9 => h9) rfl dX4_aOf_1 ?_
  refine lv_iload_n hx hb dX4_aOf_4 rfl (lv_at hl 1 rfl) ?_
  obtain ⟨u2, hu2, hf⟩ := pr_bd hf
  refine fr_iV (As := [.int x1]) ⟨hx, hb, hml, hown, hts⟩ hK hP hD hS hA (c_X3_get l D cI q_tf q_tf_a 20 n x1 tf_a u2 hu2) (cwV 1 hts gX4_aOf_X3_get rfl rfl rfl (by decide +kernel) ⟨Nat.le_of_ble_eq_true rfl, Nat.le_of_ble_eq_true rfl⟩) [(q_tr, .inr (4, [.ref q_tk, .ref q_tf, .ref q_tz, .ref q_tw, .int tr_count]))] [1, 2] [0] rfl rfl (by decide) (by decide) (by decide) 0 rfl rfl rfl rfl hl.1 (Nat.le_of_ble_eq_true rfl) dX4_aOf_5 ⟨Nat.zero_le _, Nat.zero_le _⟩ rfl (fun H locs hP hD hS => ?_)
  have hP : va_P D vwCl [(q_tr, .inr (4, [.ref q_tk, .ref q_tf, .ref q_tz, .ref q_tw, .int tr_count])), (q_tf, .inr (3, [.ref q_tf_a])), (q_tf_a, .inl (cI, 20, .inl tf_a))] H := hP
  have hD : va_D A [(q_tr, .inr (4, [.ref q_tk, .ref q_tf, .ref q_tz, .ref q_tw, .int tr_count])), (q_tf, .inr (3, [.ref q_tf_a])), (q_tf_a, .inl (cI, 20, .inl tf_a))] := hD
  obtain rfl := Option.some.inj hf
  exact hret _ _ _ _ dX4_aOf_8 (hP.sub [0, 1, 2] rfl) (hD.sub [0, 1, 2] (by decide) rfl) hS
set_option maxHeartbeats 4000000 in
set_option maxRecDepth 100000 in
theorem c_X4_kindOf (l : Launch) (D : va_G) (cI : ClassId) (q_tr q_tk q_tk_a q_tf q_tz q_tw : Nat) (n : Nat) (x1 : Int32) (tr_count : Int32) (tk_a : (Nat → Int32)) (res : Int32) (hf : f_X4_kindOf n x1 tk_a = some res) : fr_Ci l yX4_kindOf wsX4_kindOf ({ frames := 1, cells := 0, slots := 0, locals := 21 }) D [(cI, .int)] [.ref q_tr, .int x1] [(q_tr, .inr (4, [.ref q_tk, .ref q_tf, .ref q_tz, .ref q_tw, .int tr_count])), (q_tk, .inr (3, [.ref q_tk_a])), (q_tk_a, .inl (cI, 20, .inl tk_a))] res [(q_tr, .inr (4, [.ref q_tk, .ref q_tf, .ref q_tz, .ref q_tw, .int tr_count])), (q_tk, .inr (3, [.ref q_tk_a])), (q_tk_a, .inl (cI, 20, .inl tk_a))] := by
  refine fr_open_i (cc := cX4_kindOf) (maxL := 2) (ret := some .int) (by decide +kernel) rfl (Nat.le_of_ble_eq_true rfl) ⟨.int, rfl, vp_nar_int _⟩ ?_
  intro p e s m below meth c A Q ls hx hb hml hown hts hA hK hP hD hS hl hret
  have hown : s.vm.findClass RX4 = some m.cls := hown
  have hl : lv_has ls 2 [(0, .ref q_tr), (1, .int x1)] := hl
  have hin4 : ∀ w ∈ u_ws RX4 TX4 5, w ∈ wsX4_kindOf := fun _ h9 => List.mem_cons_of_mem _ (List.mem_append_left _ (List.mem_append_right _ h9))
  unfold f_X4_kindOf at hf
  refine lv_aload_n hx hb dX4_kindOf_0 rfl (lv_at hl 0 rfl) ?_
  refine va_get (D := D) (ci := 4) (v := .ref q_tk) (C := RX4) (T := TX4) (N := 5) hx hb hts hin4 hown hK hP 0 rfl rfl 0 (by decide) (hts (.fieldLink RX4 14 "ColumnChooser$Trace" "kinds" "LColumnChooser$Row;") (List.mem_of_getElem? (i := 1) rfl)) (fun _ h9 => h9) rfl dX4_kindOf_1 ?_
  refine lv_iload_n hx hb dX4_kindOf_4 rfl (lv_at hl 1 rfl) ?_
  obtain ⟨u2, hu2, hf⟩ := pr_bd hf
  refine fr_iV (As := [.int x1]) ⟨hx, hb, hml, hown, hts⟩ hK hP hD hS hA (c_X3_get l D cI q_tk q_tk_a 20 n x1 tk_a u2 hu2) (cwV 1 hts gX4_kindOf_X3_get rfl rfl rfl (by decide +kernel) ⟨Nat.le_of_ble_eq_true rfl, Nat.le_of_ble_eq_true rfl⟩) [(q_tr, .inr (4, [.ref q_tk, .ref q_tf, .ref q_tz, .ref q_tw, .int tr_count]))] [1, 2] [0] rfl rfl (by decide) (by decide) (by decide) 0 rfl rfl rfl rfl hl.1 (Nat.le_of_ble_eq_true rfl) dX4_kindOf_5 ⟨Nat.zero_le _, Nat.zero_le _⟩ rfl (fun H locs hP hD hS => ?_)
  have hP : va_P D vwCl [(q_tr, .inr (4, [.ref q_tk, .ref q_tf, .ref q_tz, .ref q_tw, .int tr_count])), (q_tk, .inr (3, [.ref q_tk_a])), (q_tk_a, .inl (cI, 20, .inl tk_a))] H := hP
  have hD : va_D A [(q_tr, .inr (4, [.ref q_tk, .ref q_tf, .ref q_tz, .ref q_tw, .int tr_count])), (q_tk, .inr (3, [.ref q_tk_a])), (q_tk_a, .inl (cI, 20, .inl tk_a))] := hD
  obtain rfl := Option.some.inj hf
  exact hret _ _ _ _ dX4_kindOf_8 (hP.sub [0, 1, 2] rfl) (hD.sub [0, 1, 2] (by decide) rfl) hS
set_option maxHeartbeats 4000000 in
set_option maxRecDepth 100000 in
theorem c_X4_bOf (l : Launch) (D : va_G) (cI : ClassId) (q_tr q_tk q_tf q_tz q_tz_a q_tw : Nat) (n : Nat) (x1 : Int32) (tr_count : Int32) (tz_a : (Nat → Int32)) (res : Int32) (hf : f_X4_bOf n x1 tz_a = some res) : fr_Ci l yX4_bOf wsX4_bOf ({ frames := 1, cells := 0, slots := 0, locals := 21 }) D [(cI, .int)] [.ref q_tr, .int x1] [(q_tr, .inr (4, [.ref q_tk, .ref q_tf, .ref q_tz, .ref q_tw, .int tr_count])), (q_tz, .inr (3, [.ref q_tz_a])), (q_tz_a, .inl (cI, 20, .inl tz_a))] res [(q_tr, .inr (4, [.ref q_tk, .ref q_tf, .ref q_tz, .ref q_tw, .int tr_count])), (q_tz, .inr (3, [.ref q_tz_a])), (q_tz_a, .inl (cI, 20, .inl tz_a))] := by
  refine fr_open_i (cc := cX4_bOf) (maxL := 2) (ret := some .int) (by decide +kernel) rfl (Nat.le_of_ble_eq_true rfl) ⟨.int, rfl, vp_nar_int _⟩ ?_
  intro p e s m below meth c A Q ls hx hb hml hown hts hA hK hP hD hS hl hret
  have hown : s.vm.findClass RX4 = some m.cls := hown
  have hl : lv_has ls 2 [(0, .ref q_tr), (1, .int x1)] := hl
  have hin4 : ∀ w ∈ u_ws RX4 TX4 5, w ∈ wsX4_bOf := fun _ h9 => List.mem_cons_of_mem _ (List.mem_append_left _ (List.mem_append_right _ h9))
  unfold f_X4_bOf at hf
  refine lv_aload_n hx hb dX4_bOf_0 rfl (lv_at hl 0 rfl) ?_
  refine va_get (D := D) (ci := 4) (v := .ref q_tz) (C := RX4) (T := TX4) (N := 5) hx hb hts hin4 hown hK hP 0 rfl rfl 2 (by decide) (hts (.fieldLink RX4 23 "ColumnChooser$Trace" "seconds" "LColumnChooser$Row;") (List.mem_of_getElem? (i := 1) rfl)) (fun _ h9 => h9) rfl dX4_bOf_1 ?_
  refine lv_iload_n hx hb dX4_bOf_4 rfl (lv_at hl 1 rfl) ?_
  obtain ⟨u2, hu2, hf⟩ := pr_bd hf
  refine fr_iV (As := [.int x1]) ⟨hx, hb, hml, hown, hts⟩ hK hP hD hS hA (c_X3_get l D cI q_tz q_tz_a 20 n x1 tz_a u2 hu2) (cwV 1 hts gX4_bOf_X3_get rfl rfl rfl (by decide +kernel) ⟨Nat.le_of_ble_eq_true rfl, Nat.le_of_ble_eq_true rfl⟩) [(q_tr, .inr (4, [.ref q_tk, .ref q_tf, .ref q_tz, .ref q_tw, .int tr_count]))] [1, 2] [0] rfl rfl (by decide) (by decide) (by decide) 0 rfl rfl rfl rfl hl.1 (Nat.le_of_ble_eq_true rfl) dX4_bOf_5 ⟨Nat.zero_le _, Nat.zero_le _⟩ rfl (fun H locs hP hD hS => ?_)
  have hP : va_P D vwCl [(q_tr, .inr (4, [.ref q_tk, .ref q_tf, .ref q_tz, .ref q_tw, .int tr_count])), (q_tz, .inr (3, [.ref q_tz_a])), (q_tz_a, .inl (cI, 20, .inl tz_a))] H := hP
  have hD : va_D A [(q_tr, .inr (4, [.ref q_tk, .ref q_tf, .ref q_tz, .ref q_tw, .int tr_count])), (q_tz, .inr (3, [.ref q_tz_a])), (q_tz_a, .inl (cI, 20, .inl tz_a))] := hD
  obtain rfl := Option.some.inj hf
  exact hret _ _ _ _ dX4_bOf_8 (hP.sub [0, 1, 2] rfl) (hD.sub [0, 1, 2] (by decide) rfl) hS
set_option maxHeartbeats 4000000 in
set_option maxRecDepth 100000 in
theorem c_X4_count (l : Launch) (D : va_G) (cI : ClassId) (q_tr q_tk q_tf q_tz q_tw : Nat) (n : Nat) (tr_count : Int32) (res : Int32) (hf : f_X4_count n tr_count = some res) : fr_Ci l yX4_count wsX4_count ({ frames := 0, cells := 0, slots := 0, locals := 0 }) D [(cI, .int)] [.ref q_tr] [(q_tr, .inr (4, [.ref q_tk, .ref q_tf, .ref q_tz, .ref q_tw, .int tr_count]))] res [(q_tr, .inr (4, [.ref q_tk, .ref q_tf, .ref q_tz, .ref q_tw, .int tr_count]))] := by
  refine fr_open_i (cc := cX4_count) (maxL := 1) (ret := some .int) (by decide +kernel) rfl (Nat.le_of_ble_eq_true rfl) ⟨.int, rfl, vp_nar_int _⟩ ?_
  intro p e s m below meth c A Q ls hx hb hml hown hts hA hK hP hD hS hl hret
  have hown : s.vm.findClass RX4 = some m.cls := hown
  have hl : lv_has ls 1 [(0, .ref q_tr)] := hl
  have hin4 : ∀ w ∈ u_ws RX4 TX4 5, w ∈ wsX4_count := fun _ h9 => List.mem_cons_of_mem _ (List.mem_append_right _ h9)
  unfold f_X4_count at hf
  refine lv_aload_n hx hb dX4_count_0 rfl (lv_at hl 0 rfl) ?_
  refine va_get (D := D) (ci := 4) (v := .int tr_count) (C := RX4) (T := TX4) (N := 5) hx hb hts hin4 hown hK hP 0 rfl rfl 4 (by decide) (hts (.fieldLink RX4 29 "ColumnChooser$Trace" "count" "I") (List.mem_of_getElem? (i := 1) rfl)) (fun _ h9 => h9) rfl dX4_count_1 ?_
  obtain rfl := Option.some.inj hf
  exact hret _ _ _ _ dX4_count_4 (hP.sub [0] rfl) (hD.sub [0] (by decide) rfl) hS
set_option maxHeartbeats 4000000 in
set_option maxRecDepth 100000 in
theorem c_X4_add (l : Launch) (D : va_G) (cI : ClassId) (q_tr q_tk q_tk_a q_tf q_tf_a q_tz q_tz_a q_tw q_tw_a : Nat) (n : Nat) (x1 : Int32) (x2 : Int32) (x3 : Int32) (x4 : Int32) (tr_count : Int32) (tk_a : (Nat → Int32)) (tf_a : (Nat → Int32)) (tz_a : (Nat → Int32)) (tw_a : (Nat → Int32)) (res : Int32 × Int32 × (Nat → Int32) × (Nat → Int32) × (Nat → Int32) × (Nat → Int32)) (hf : f_X4_add n x1 x2 x3 x4 tr_count tk_a tf_a tz_a tw_a = some res) : fr_Ci l yX4_add wsX4_add ({ frames := 1, cells := 0, slots := 0, locals := 22 }) D [(cI, .int)] [.ref q_tr, .int x1, .int x2, .int x3, .int x4] [(q_tr, .inr (4, [.ref q_tk, .ref q_tf, .ref q_tz, .ref q_tw, .int tr_count])), (q_tk, .inr (3, [.ref q_tk_a])), (q_tk_a, .inl (cI, 20, .inl tk_a)), (q_tf, .inr (3, [.ref q_tf_a])), (q_tf_a, .inl (cI, 20, .inl tf_a)), (q_tz, .inr (3, [.ref q_tz_a])), (q_tz_a, .inl (cI, 20, .inl tz_a)), (q_tw, .inr (3, [.ref q_tw_a])), (q_tw_a, .inl (cI, 20, .inl tw_a))] res.1 [(q_tr, .inr (4, [.ref q_tk, .ref q_tf, .ref q_tz, .ref q_tw, .int res.2.1])), (q_tk, .inr (3, [.ref q_tk_a])), (q_tk_a, .inl (cI, 20, .inl res.2.2.1)), (q_tf, .inr (3, [.ref q_tf_a])), (q_tf_a, .inl (cI, 20, .inl res.2.2.2.1)), (q_tz, .inr (3, [.ref q_tz_a])), (q_tz_a, .inl (cI, 20, .inl res.2.2.2.2.1)), (q_tw, .inr (3, [.ref q_tw_a])), (q_tw_a, .inl (cI, 20, .inl res.2.2.2.2.2))] := by
  refine fr_open_i (cc := cX4_add) (maxL := 6) (ret := some .int) (by decide +kernel) rfl (Nat.le_of_ble_eq_true rfl) ⟨.int, rfl, vp_nar_int _⟩ ?_
  intro p e s m below meth c A Q ls hx hb hml hown hts hA hK hP hD hS hl hret
  have hown : s.vm.findClass RX4 = some m.cls := hown
  have hl : lv_has ls 6 [(0, .ref q_tr), (1, .int x1), (2, .int x2), (3, .int x3), (4, .int x4)] := hl
  have hin4 : ∀ w ∈ u_ws RX4 TX4 5, w ∈ wsX4_add := fun _ h9 => List.mem_cons_of_mem _ (List.mem_append_left _ (List.mem_append_right _ h9))
  unfold f_X4_add at hf
  refine lv_aload_n hx hb dX4_add_0 rfl (lv_at hl 0 rfl) ?_
  refine va_get (D := D) (ci := 4) (v := .int tr_count) (C := RX4) (T := TX4) (N := 5) hx hb hts hin4 hown hK hP 0 rfl rfl 4 (by decide) (hts (.fieldLink RX4 29 "ColumnChooser$Trace" "count" "I") (List.mem_of_getElem? (i := 1) rfl)) (fun _ h9 => h9) rfl dX4_add_1 ?_
  refine lv_istore (lv' := [(5, .int tr_count), (0, .ref q_tr), (1, .int x1), (2, .int x2), (3, .int x3), (4, .int x4)]) hx hb dX4_add_4 hl (by decide) rfl (fun ls hl => ?_)
  refine lv_aload_n hx hb dX4_add_6 rfl (lv_at hl 1 rfl) ?_
  refine va_get (D := D) (ci := 4) (v := .ref q_tk) (C := RX4) (T := TX4) (N := 5) hx hb hts hin4 hown hK hP 0 rfl rfl 0 (by decide) (hts (.fieldLink RX4 14 "ColumnChooser$Trace" "kinds" "LColumnChooser$Row;") (List.mem_of_getElem? (i := 2) rfl)) (fun _ h9 => h9) rfl dX4_add_7 ?_
  refine lv_iload hx hb dX4_add_10 (lv_at hl 0 rfl) ?_
  refine lv_iload_n hx hb dX4_add_12 rfl (lv_at hl 2 rfl) ?_
  obtain ⟨u5, hu5, hf⟩ := pr_bd hf
  refine fr_vV (As := [.int tr_count, .int x1]) ⟨hx, hb, hml, hown, hts⟩ hK hP hD hS hA (c_X3_put l D cI q_tk q_tk_a 20 n tr_count x1 tk_a u5 hu5) (cwV 2 hts gX4_add_X3_put rfl rfl rfl (by decide +kernel) ⟨Nat.le_of_ble_eq_true rfl, Nat.le_of_ble_eq_true rfl⟩) [(q_tr, .inr (4, [.ref q_tk, .ref q_tf, .ref q_tz, .ref q_tw, .int tr_count])), (q_tf, .inr (3, [.ref q_tf_a])), (q_tf_a, .inl (cI, 20, .inl tf_a)), (q_tz, .inr (3, [.ref q_tz_a])), (q_tz_a, .inl (cI, 20, .inl tz_a)), (q_tw, .inr (3, [.ref q_tw_a])), (q_tw_a, .inl (cI, 20, .inl tw_a))] [1, 2] [0, 3, 4, 5, 6, 7, 8] rfl rfl (by decide) (by decide) (by decide) 0 rfl rfl rfl rfl hl.1 (Nat.le_of_ble_eq_true rfl) dX4_add_13 ⟨Nat.zero_le _, Nat.zero_le _⟩ rfl (fun H locs hP hD hS => ?_)
  have hP : va_P D vwCl [(q_tr, .inr (4, [.ref q_tk, .ref q_tf, .ref q_tz, .ref q_tw, .int tr_count])), (q_tf, .inr (3, [.ref q_tf_a])), (q_tf_a, .inl (cI, 20, .inl tf_a)), (q_tz, .inr (3, [.ref q_tz_a])), (q_tz_a, .inl (cI, 20, .inl tz_a)), (q_tw, .inr (3, [.ref q_tw_a])), (q_tw_a, .inl (cI, 20, .inl tw_a)), (q_tk, .inr (3, [.ref q_tk_a])), (q_tk_a, .inl (cI, 20, .inl u5))] H := hP
  have hD : va_D A [(q_tr, .inr (4, [.ref q_tk, .ref q_tf, .ref q_tz, .ref q_tw, .int tr_count])), (q_tf, .inr (3, [.ref q_tf_a])), (q_tf_a, .inl (cI, 20, .inl tf_a)), (q_tz, .inr (3, [.ref q_tz_a])), (q_tz_a, .inl (cI, 20, .inl tz_a)), (q_tw, .inr (3, [.ref q_tw_a])), (q_tw_a, .inl (cI, 20, .inl tw_a)), (q_tk, .inr (3, [.ref q_tk_a])), (q_tk_a, .inl (cI, 20, .inl u5))] := hD
  refine lv_aload_n hx hb dX4_add_16 rfl (lv_at hl 1 rfl) ?_
  refine va_get (D := D) (ci := 4) (v := .ref q_tf) (C := RX4) (T := TX4) (N := 5) hx hb hts hin4 hown hK hP 0 rfl rfl 1 (by decide) (hts (.fieldLink RX4 20 "ColumnChooser$Trace" "firsts" "LColumnChooser$Row;") (List.mem_of_getElem? (i := 3) rfl)) (fun _ h9 => h9) rfl dX4_add_17 ?_
  refine lv_iload hx hb dX4_add_20 (lv_at hl 0 rfl) ?_
  refine lv_iload_n hx hb dX4_add_22 rfl (lv_at hl 3 rfl) ?_
  obtain ⟨u6, hu6, hf⟩ := pr_bd hf
  refine fr_vV (As := [.int tr_count, .int x2]) ⟨hx, hb, hml, hown, hts⟩ hK hP hD hS hA (c_X3_put l D cI q_tf q_tf_a 20 n tr_count x2 tf_a u6 hu6) (cwV 2 hts gX4_add_X3_put rfl rfl rfl (by decide +kernel) ⟨Nat.le_of_ble_eq_true rfl, Nat.le_of_ble_eq_true rfl⟩) [(q_tr, .inr (4, [.ref q_tk, .ref q_tf, .ref q_tz, .ref q_tw, .int tr_count])), (q_tz, .inr (3, [.ref q_tz_a])), (q_tz_a, .inl (cI, 20, .inl tz_a)), (q_tw, .inr (3, [.ref q_tw_a])), (q_tw_a, .inl (cI, 20, .inl tw_a)), (q_tk, .inr (3, [.ref q_tk_a])), (q_tk_a, .inl (cI, 20, .inl u5))] [1, 2] [0, 3, 4, 5, 6, 7, 8] rfl rfl (by decide) (by decide) (by decide) 0 rfl rfl rfl rfl hl.1 (Nat.le_of_ble_eq_true rfl) dX4_add_23 ⟨Nat.zero_le _, Nat.zero_le _⟩ rfl (fun H locs hP hD hS => ?_)
  have hP : va_P D vwCl [(q_tr, .inr (4, [.ref q_tk, .ref q_tf, .ref q_tz, .ref q_tw, .int tr_count])), (q_tz, .inr (3, [.ref q_tz_a])), (q_tz_a, .inl (cI, 20, .inl tz_a)), (q_tw, .inr (3, [.ref q_tw_a])), (q_tw_a, .inl (cI, 20, .inl tw_a)), (q_tk, .inr (3, [.ref q_tk_a])), (q_tk_a, .inl (cI, 20, .inl u5)), (q_tf, .inr (3, [.ref q_tf_a])), (q_tf_a, .inl (cI, 20, .inl u6))] H := hP
  have hD : va_D A [(q_tr, .inr (4, [.ref q_tk, .ref q_tf, .ref q_tz, .ref q_tw, .int tr_count])), (q_tz, .inr (3, [.ref q_tz_a])), (q_tz_a, .inl (cI, 20, .inl tz_a)), (q_tw, .inr (3, [.ref q_tw_a])), (q_tw_a, .inl (cI, 20, .inl tw_a)), (q_tk, .inr (3, [.ref q_tk_a])), (q_tk_a, .inl (cI, 20, .inl u5)), (q_tf, .inr (3, [.ref q_tf_a])), (q_tf_a, .inl (cI, 20, .inl u6))] := hD
  refine lv_aload_n hx hb dX4_add_26 rfl (lv_at hl 1 rfl) ?_
  refine va_get (D := D) (ci := 4) (v := .ref q_tz) (C := RX4) (T := TX4) (N := 5) hx hb hts hin4 hown hK hP 0 rfl rfl 2 (by decide) (hts (.fieldLink RX4 23 "ColumnChooser$Trace" "seconds" "LColumnChooser$Row;") (List.mem_of_getElem? (i := 4) rfl)) (fun _ h9 => h9) rfl dX4_add_27 ?_
  refine lv_iload hx hb dX4_add_30 (lv_at hl 0 rfl) ?_
  refine lv_iload_n hx hb dX4_add_32 rfl (lv_at hl 4 rfl) ?_
  obtain ⟨u7, hu7, hf⟩ := pr_bd hf
  refine fr_vV (As := [.int tr_count, .int x3]) ⟨hx, hb, hml, hown, hts⟩ hK hP hD hS hA (c_X3_put l D cI q_tz q_tz_a 20 n tr_count x3 tz_a u7 hu7) (cwV 2 hts gX4_add_X3_put rfl rfl rfl (by decide +kernel) ⟨Nat.le_of_ble_eq_true rfl, Nat.le_of_ble_eq_true rfl⟩) [(q_tr, .inr (4, [.ref q_tk, .ref q_tf, .ref q_tz, .ref q_tw, .int tr_count])), (q_tw, .inr (3, [.ref q_tw_a])), (q_tw_a, .inl (cI, 20, .inl tw_a)), (q_tk, .inr (3, [.ref q_tk_a])), (q_tk_a, .inl (cI, 20, .inl u5)), (q_tf, .inr (3, [.ref q_tf_a])), (q_tf_a, .inl (cI, 20, .inl u6))] [1, 2] [0, 3, 4, 5, 6, 7, 8] rfl rfl (by decide) (by decide) (by decide) 0 rfl rfl rfl rfl hl.1 (Nat.le_of_ble_eq_true rfl) dX4_add_33 ⟨Nat.zero_le _, Nat.zero_le _⟩ rfl (fun H locs hP hD hS => ?_)
  have hP : va_P D vwCl [(q_tr, .inr (4, [.ref q_tk, .ref q_tf, .ref q_tz, .ref q_tw, .int tr_count])), (q_tw, .inr (3, [.ref q_tw_a])), (q_tw_a, .inl (cI, 20, .inl tw_a)), (q_tk, .inr (3, [.ref q_tk_a])), (q_tk_a, .inl (cI, 20, .inl u5)), (q_tf, .inr (3, [.ref q_tf_a])), (q_tf_a, .inl (cI, 20, .inl u6)), (q_tz, .inr (3, [.ref q_tz_a])), (q_tz_a, .inl (cI, 20, .inl u7))] H := hP
  have hD : va_D A [(q_tr, .inr (4, [.ref q_tk, .ref q_tf, .ref q_tz, .ref q_tw, .int tr_count])), (q_tw, .inr (3, [.ref q_tw_a])), (q_tw_a, .inl (cI, 20, .inl tw_a)), (q_tk, .inr (3, [.ref q_tk_a])), (q_tk_a, .inl (cI, 20, .inl u5)), (q_tf, .inr (3, [.ref q_tf_a])), (q_tf_a, .inl (cI, 20, .inl u6)), (q_tz, .inr (3, [.ref q_tz_a])), (q_tz_a, .inl (cI, 20, .inl u7))] := hD
  refine lv_aload_n hx hb dX4_add_36 rfl (lv_at hl 1 rfl) ?_
  refine va_get (D := D) (ci := 4) (v := .ref q_tw) (C := RX4) (T := TX4) (N := 5) hx hb hts hin4 hown hK hP 0 rfl rfl 3 (by decide) (hts (.fieldLink RX4 26 "ColumnChooser$Trace" "weights" "LColumnChooser$Row;") (List.mem_of_getElem? (i := 5) rfl)) (fun _ h9 => h9) rfl dX4_add_37 ?_
  refine lv_iload hx hb dX4_add_40 (lv_at hl 0 rfl) ?_
  refine lv_iload hx hb dX4_add_42 (lv_at hl 5 rfl) ?_
  obtain ⟨u8, hu8, hf⟩ := pr_bd hf
  refine fr_vV (As := [.int tr_count, .int x4]) ⟨hx, hb, hml, hown, hts⟩ hK hP hD hS hA (c_X3_put l D cI q_tw q_tw_a 20 n tr_count x4 tw_a u8 hu8) (cwV 2 hts gX4_add_X3_put rfl rfl rfl (by decide +kernel) ⟨Nat.le_of_ble_eq_true rfl, Nat.le_of_ble_eq_true rfl⟩) [(q_tr, .inr (4, [.ref q_tk, .ref q_tf, .ref q_tz, .ref q_tw, .int tr_count])), (q_tk, .inr (3, [.ref q_tk_a])), (q_tk_a, .inl (cI, 20, .inl u5)), (q_tf, .inr (3, [.ref q_tf_a])), (q_tf_a, .inl (cI, 20, .inl u6)), (q_tz, .inr (3, [.ref q_tz_a])), (q_tz_a, .inl (cI, 20, .inl u7))] [1, 2] [0, 3, 4, 5, 6, 7, 8] rfl rfl (by decide) (by decide) (by decide) 0 rfl rfl rfl rfl hl.1 (Nat.le_of_ble_eq_true rfl) dX4_add_44 ⟨Nat.zero_le _, Nat.zero_le _⟩ rfl (fun H locs hP hD hS => ?_)
  have hP : va_P D vwCl [(q_tr, .inr (4, [.ref q_tk, .ref q_tf, .ref q_tz, .ref q_tw, .int tr_count])), (q_tk, .inr (3, [.ref q_tk_a])), (q_tk_a, .inl (cI, 20, .inl u5)), (q_tf, .inr (3, [.ref q_tf_a])), (q_tf_a, .inl (cI, 20, .inl u6)), (q_tz, .inr (3, [.ref q_tz_a])), (q_tz_a, .inl (cI, 20, .inl u7)), (q_tw, .inr (3, [.ref q_tw_a])), (q_tw_a, .inl (cI, 20, .inl u8))] H := hP
  have hD : va_D A [(q_tr, .inr (4, [.ref q_tk, .ref q_tf, .ref q_tz, .ref q_tw, .int tr_count])), (q_tk, .inr (3, [.ref q_tk_a])), (q_tk_a, .inl (cI, 20, .inl u5)), (q_tf, .inr (3, [.ref q_tf_a])), (q_tf_a, .inl (cI, 20, .inl u6)), (q_tz, .inr (3, [.ref q_tz_a])), (q_tz_a, .inl (cI, 20, .inl u7)), (q_tw, .inr (3, [.ref q_tw_a])), (q_tw_a, .inl (cI, 20, .inl u8))] := hD
  refine lv_aload_n hx hb dX4_add_47 rfl (lv_at hl 1 rfl) ?_
  refine lv_dup hx hb dX4_add_48 rfl ?_
  refine va_get (D := D) (ci := 4) (v := .int tr_count) (C := RX4) (T := TX4) (N := 5) hx hb hts hin4 hown hK hP 0 rfl rfl 4 (by decide) (hts (.fieldLink RX4 29 "ColumnChooser$Trace" "count" "I") (List.mem_of_getElem? (i := 1) rfl)) (fun _ h9 => h9) rfl dX4_add_49 ?_
  refine lv_iconst (v := 1) hx hb dX4_add_52 (by decide) ?_
  refine lv_iadd hx hb dX4_add_53 ?_
  refine va_put (D := D) (ci := 4) (v := .int (tr_count + 1)) (ty := .int) (C := RX4) (T := TX4) (N := 5) hx hb hts hin4 tyX4 tyX4_ok nmX4 hown hK hP hD hS 0 rfl rfl 4 (by decide) (hts (.fieldLink RX4 29 "ColumnChooser$Trace" "count" "I") (List.mem_of_getElem? (i := 1) rfl)) (fun _ h9 => h9) rfl (by decide +kernel) rfl rfl (Nat.le_of_ble_eq_true rfl) dX4_add_54 (fun H locs hP hD hS => ?_)
  have hP : va_P D vwCl [(q_tr, .inr (4, [.ref q_tk, .ref q_tf, .ref q_tz, .ref q_tw, .int (tr_count + 1)])), (q_tk, .inr (3, [.ref q_tk_a])), (q_tk_a, .inl (cI, 20, .inl u5)), (q_tf, .inr (3, [.ref q_tf_a])), (q_tf_a, .inl (cI, 20, .inl u6)), (q_tz, .inr (3, [.ref q_tz_a])), (q_tz_a, .inl (cI, 20, .inl u7)), (q_tw, .inr (3, [.ref q_tw_a])), (q_tw_a, .inl (cI, 20, .inl u8))] H := hP
  have hD : va_D A [(q_tr, .inr (4, [.ref q_tk, .ref q_tf, .ref q_tz, .ref q_tw, .int (tr_count + 1)])), (q_tk, .inr (3, [.ref q_tk_a])), (q_tk_a, .inl (cI, 20, .inl u5)), (q_tf, .inr (3, [.ref q_tf_a])), (q_tf_a, .inl (cI, 20, .inl u6)), (q_tz, .inr (3, [.ref q_tz_a])), (q_tz_a, .inl (cI, 20, .inl u7)), (q_tw, .inr (3, [.ref q_tw_a])), (q_tw_a, .inl (cI, 20, .inl u8))] := hD
  refine lv_iload hx hb dX4_add_57 (lv_at hl 0 rfl) ?_
  obtain rfl := Option.some.inj hf
  exact hret _ _ _ _ dX4_add_59 (hP.sub [0, 1, 2, 3, 4, 5, 6, 7, 8] rfl) (hD.sub [0, 1, 2, 3, 4, 5, 6, 7, 8] (by decide) rfl) hS
set_option maxHeartbeats 4000000 in
set_option maxRecDepth 100000 in
theorem c_X4_clear (l : Launch) (D : va_G) (cI : ClassId) (q_tr q_tk q_tf q_tz q_tw : Nat) (n : Nat) (tr_count : Int32) (res : Int32 × Int32) (hf : f_X4_clear n tr_count = some res) : fr_Ci l yX4_clear wsX4_clear ({ frames := 0, cells := 0, slots := 0, locals := 0 }) D [(cI, .int)] [.ref q_tr] [(q_tr, .inr (4, [.ref q_tk, .ref q_tf, .ref q_tz, .ref q_tw, .int tr_count]))] res.1 [(q_tr, .inr (4, [.ref q_tk, .ref q_tf, .ref q_tz, .ref q_tw, .int res.2]))] := by
  refine fr_open_i (cc := cX4_clear) (maxL := 2) (ret := some .int) (by decide +kernel) rfl (Nat.le_of_ble_eq_true rfl) ⟨.int, rfl, vp_nar_int _⟩ ?_
  intro p e s m below meth c A Q ls hx hb hml hown hts hA hK hP hD hS hl hret
  have hown : s.vm.findClass RX4 = some m.cls := hown
  have hl : lv_has ls 2 [(0, .ref q_tr)] := hl
  have hin4 : ∀ w ∈ u_ws RX4 TX4 5, w ∈ wsX4_clear := fun _ h9 => List.mem_cons_of_mem _ (List.mem_append_right _ h9)
  unfold f_X4_clear at hf
  refine lv_aload_n hx hb dX4_clear_0 rfl (lv_at hl 0 rfl) ?_
  refine va_get (D := D) (ci := 4) (v := .int tr_count) (C := RX4) (T := TX4) (N := 5) hx hb hts hin4 hown hK hP 0 rfl rfl 4 (by decide) (hts (.fieldLink RX4 29 "ColumnChooser$Trace" "count" "I") (List.mem_of_getElem? (i := 1) rfl)) (fun _ h9 => h9) rfl dX4_clear_1 ?_
  refine lv_istore_n (lv' := [(1, .int tr_count), (0, .ref q_tr)]) hx hb dX4_clear_4 rfl hl (by decide) rfl (fun ls hl => ?_)
  refine lv_aload_n hx hb dX4_clear_5 rfl (lv_at hl 1 rfl) ?_
  refine lv_iconst (v := 0) hx hb dX4_clear_6 (by decide) ?_
  refine va_put (D := D) (ci := 4) (v := .int 0) (ty := .int) (C := RX4) (T := TX4) (N := 5) hx hb hts hin4 tyX4 tyX4_ok nmX4 hown hK hP hD hS 0 rfl rfl 4 (by decide) (hts (.fieldLink RX4 29 "ColumnChooser$Trace" "count" "I") (List.mem_of_getElem? (i := 1) rfl)) (fun _ h9 => h9) rfl (by decide +kernel) rfl rfl (Nat.le_of_ble_eq_true rfl) dX4_clear_7 (fun H locs hP hD hS => ?_)
  have hP : va_P D vwCl [(q_tr, .inr (4, [.ref q_tk, .ref q_tf, .ref q_tz, .ref q_tw, .int 0]))] H := hP
  have hD : va_D A [(q_tr, .inr (4, [.ref q_tk, .ref q_tf, .ref q_tz, .ref q_tw, .int 0]))] := hD
  refine lv_iload_n hx hb dX4_clear_10 rfl (lv_at hl 0 rfl) ?_
  obtain rfl := Option.some.inj hf
  exact hret _ _ _ _ dX4_clear_11 (hP.sub [0] rfl) (hD.sub [0] (by decide) rfl) hS
set_option maxHeartbeats 4000000 in
set_option maxRecDepth 100000 in
theorem c_X4_weightOf (l : Launch) (D : va_G) (cI : ClassId) (q_tr q_tk q_tf q_tz q_tw q_tw_a : Nat) (n : Nat) (x1 : Int32) (tr_count : Int32) (tw_a : (Nat → Int32)) (res : Int32) (hf : f_X4_weightOf n x1 tw_a = some res) : fr_Ci l yX4_weightOf wsX4_weightOf ({ frames := 1, cells := 0, slots := 0, locals := 21 }) D [(cI, .int)] [.ref q_tr, .int x1] [(q_tr, .inr (4, [.ref q_tk, .ref q_tf, .ref q_tz, .ref q_tw, .int tr_count])), (q_tw, .inr (3, [.ref q_tw_a])), (q_tw_a, .inl (cI, 20, .inl tw_a))] res [(q_tr, .inr (4, [.ref q_tk, .ref q_tf, .ref q_tz, .ref q_tw, .int tr_count])), (q_tw, .inr (3, [.ref q_tw_a])), (q_tw_a, .inl (cI, 20, .inl tw_a))] := by
  refine fr_open_i (cc := cX4_weightOf) (maxL := 2) (ret := some .int) (by decide +kernel) rfl (Nat.le_of_ble_eq_true rfl) ⟨.int, rfl, vp_nar_int _⟩ ?_
  intro p e s m below meth c A Q ls hx hb hml hown hts hA hK hP hD hS hl hret
  have hown : s.vm.findClass RX4 = some m.cls := hown
  have hl : lv_has ls 2 [(0, .ref q_tr), (1, .int x1)] := hl
  have hin4 : ∀ w ∈ u_ws RX4 TX4 5, w ∈ wsX4_weightOf := fun _ h9 => List.mem_cons_of_mem _ (List.mem_append_left _ (List.mem_append_right _ h9))
  unfold f_X4_weightOf at hf
  refine lv_aload_n hx hb dX4_weightOf_0 rfl (lv_at hl 0 rfl) ?_
  refine va_get (D := D) (ci := 4) (v := .ref q_tw) (C := RX4) (T := TX4) (N := 5) hx hb hts hin4 hown hK hP 0 rfl rfl 3 (by decide) (hts (.fieldLink RX4 26 "ColumnChooser$Trace" "weights" "LColumnChooser$Row;") (List.mem_of_getElem? (i := 1) rfl)) (fun _ h9 => h9) rfl dX4_weightOf_1 ?_
  refine lv_iload_n hx hb dX4_weightOf_4 rfl (lv_at hl 1 rfl) ?_
  obtain ⟨u2, hu2, hf⟩ := pr_bd hf
  refine fr_iV (As := [.int x1]) ⟨hx, hb, hml, hown, hts⟩ hK hP hD hS hA (c_X3_get l D cI q_tw q_tw_a 20 n x1 tw_a u2 hu2) (cwV 1 hts gX4_weightOf_X3_get rfl rfl rfl (by decide +kernel) ⟨Nat.le_of_ble_eq_true rfl, Nat.le_of_ble_eq_true rfl⟩) [(q_tr, .inr (4, [.ref q_tk, .ref q_tf, .ref q_tz, .ref q_tw, .int tr_count]))] [1, 2] [0] rfl rfl (by decide) (by decide) (by decide) 0 rfl rfl rfl rfl hl.1 (Nat.le_of_ble_eq_true rfl) dX4_weightOf_5 ⟨Nat.zero_le _, Nat.zero_le _⟩ rfl (fun H locs hP hD hS => ?_)
  have hP : va_P D vwCl [(q_tr, .inr (4, [.ref q_tk, .ref q_tf, .ref q_tz, .ref q_tw, .int tr_count])), (q_tw, .inr (3, [.ref q_tw_a])), (q_tw_a, .inl (cI, 20, .inl tw_a))] H := hP
  have hD : va_D A [(q_tr, .inr (4, [.ref q_tk, .ref q_tf, .ref q_tz, .ref q_tw, .int tr_count])), (q_tw, .inr (3, [.ref q_tw_a])), (q_tw_a, .inl (cI, 20, .inl tw_a))] := hD
  obtain rfl := Option.some.inj hf
  exact hret _ _ _ _ dX4_weightOf_8 (hP.sub [0, 1, 2] rfl) (hD.sub [0, 1, 2] (by decide) rfl) hS
