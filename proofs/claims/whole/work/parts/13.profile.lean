/-! the walks of these methods, printed by my own program (wip/whole/gen.py) -/
set_option maxHeartbeats 4000000 in
set_option maxRecDepth 100000 in
theorem c_X2_deltaWidth (l : Launch) (D : va_G) (cI : ClassId) (q_co q_pr q_ru q_di : Nat) (n : Nat) (pr_firstRow : Int32) (pr_many : Int32) (pr_runCount : Int32) (pr_differentCount : Int32) (pr_least : Int32) (pr_indexWidth : Int32) (pr_frameWidth : Int32) (pr_deltaWidth : Int32) (res : Int32) (hf : f_X2_deltaWidth n pr_deltaWidth = some res) : fr_Ci l yX2_deltaWidth wsX2_deltaWidth ({ frames := 0, cells := 0, slots := 0, locals := 0 }) D [(cI, .int)] [.ref q_pr] [(q_pr, .inr (2, [.ref q_co, .ref q_ru, .ref q_di, .int pr_firstRow, .int pr_many, .int pr_runCount, .int pr_differentCount, .int pr_least, .int pr_indexWidth, .int pr_frameWidth, .int pr_deltaWidth]))] res [(q_pr, .inr (2, [.ref q_co, .ref q_ru, .ref q_di, .int pr_firstRow, .int pr_many, .int pr_runCount, .int pr_differentCount, .int pr_least, .int pr_indexWidth, .int pr_frameWidth, .int pr_deltaWidth]))] := by
  refine fr_open_i (cc := cX2_deltaWidth) (maxL := 1) (ret := some .int) (by decide +kernel) rfl (Nat.le_of_ble_eq_true rfl) ⟨.int, rfl, vp_nar_int _⟩ ?_
  intro p e s m below meth c A Q ls hx hb hml hown hts hA hK hP hD hS hl hret
  have hown : s.vm.findClass RX2 = some m.cls := hown
  have hl : lv_has ls 1 [(0, .ref q_pr)] := hl
  have hin2 : ∀ w ∈ u_ws RX2 TX2 11, w ∈ wsX2_deltaWidth := fun _ h9 => List.mem_cons_of_mem _ (List.mem_append_right _ h9)
  unfold f_X2_deltaWidth at hf
  refine lv_aload_n hx hb dX2_deltaWidth_0 rfl (lv_at hl 0 rfl) ?_
  refine va_get (D := D) (ci := 2) (v := .int pr_deltaWidth) (C := RX2) (T := TX2) (N := 11) hx hb hts hin2 hown hK hP 0 rfl rfl 10 (by decide) (hts (.fieldLink RX2 71 "ColumnChooser$Profile" "deltaWidth" "I") (List.mem_of_getElem? (i := 1) rfl)) (fun _ h9 => h9) rfl dX2_deltaWidth_1 ?_
  obtain rfl := Option.some.inj hf
  exact hret _ _ _ _ dX2_deltaWidth_4 (hP.sub [0] rfl) (hD.sub [0] (by decide) rfl) hS
set_option maxHeartbeats 4000000 in
set_option maxRecDepth 100000 in
theorem c_X2_fold (l : Launch) (D : va_G) (cI : ClassId) (n : Nat) (x0 : Int32) (res : Int32) (hf : f_X2_fold n x0 = some res) : fr_Ci l yX2_fold wsX2_fold ({ frames := 0, cells := 0, slots := 0, locals := 0 }) D [(cI, .int)] [.int x0] [] res [] := by
  refine fr_open_i (cc := cX2_fold) (maxL := 1) (ret := some .int) (by decide +kernel) rfl (Nat.le_of_ble_eq_true rfl) ⟨.int, rfl, vp_nar_int _⟩ ?_
  intro p e s m below meth c A Q ls hx hb hml hown hts hA hK hP hD hS hl hret
  have hown : s.vm.findClass RX2 = some m.cls := hown
  have hl : lv_has ls 1 [(0, .int x0)] := hl
  unfold f_X2_fold at hf
  refine lv_iload_n hx hb dX2_fold_0 rfl (lv_at hl 0 rfl) ?_
  refine lv_if_lt (tgt := 10) hx hb dX2_fold_1 (by decide) (fun c2 => ?_) (fun c2 => ?_)
  · have hf := pr_pos hf c2
    refine lv_bipush (v := -2) hx hb dX2_fold_10 (by decide) ?_
    refine lv_iload_n hx hb dX2_fold_12 rfl (lv_at hl 0 rfl) ?_
    refine lv_imul hx hb dX2_fold_13 ?_
    refine lv_iconst (v := 1) hx hb dX2_fold_14 (by decide) ?_
    refine lv_isub hx hb dX2_fold_15 ?_
    obtain rfl := Option.some.inj hf
    exact hret _ _ _ _ dX2_fold_16 (hP.sub [] rfl) (hD.sub [] (by decide) rfl) hS
  · have hf := pr_neg hf c2
    refine lv_iconst (v := 2) hx hb dX2_fold_4 (by decide) ?_
    refine lv_iload_n hx hb dX2_fold_5 rfl (lv_at hl 0 rfl) ?_
    refine lv_imul hx hb dX2_fold_6 ?_
    refine lv_goto (tgt := 16) hx hb dX2_fold_7 (by decide) ?_
    obtain rfl := Option.some.inj hf
    exact hret _ _ _ _ dX2_fold_16 (hP.sub [] rfl) (hD.sub [] (by decide) rfl) hS
set_option maxHeartbeats 4000000 in
set_option maxRecDepth 100000 in
theorem c_X2_least (l : Launch) (D : va_G) (cI : ClassId) (q_co q_pr q_ru q_di : Nat) (n : Nat) (pr_firstRow : Int32) (pr_many : Int32) (pr_runCount : Int32) (pr_differentCount : Int32) (pr_least : Int32) (pr_indexWidth : Int32) (pr_frameWidth : Int32) (pr_deltaWidth : Int32) (res : Int32) (hf : f_X2_least n pr_least = some res) : fr_Ci l yX2_least wsX2_least ({ frames := 0, cells := 0, slots := 0, locals := 0 }) D [(cI, .int)] [.ref q_pr] [(q_pr, .inr (2, [.ref q_co, .ref q_ru, .ref q_di, .int pr_firstRow, .int pr_many, .int pr_runCount, .int pr_differentCount, .int pr_least, .int pr_indexWidth, .int pr_frameWidth, .int pr_deltaWidth]))] res [(q_pr, .inr (2, [.ref q_co, .ref q_ru, .ref q_di, .int pr_firstRow, .int pr_many, .int pr_runCount, .int pr_differentCount, .int pr_least, .int pr_indexWidth, .int pr_frameWidth, .int pr_deltaWidth]))] := by
  refine fr_open_i (cc := cX2_least) (maxL := 1) (ret := some .int) (by decide +kernel) rfl (Nat.le_of_ble_eq_true rfl) ⟨.int, rfl, vp_nar_int _⟩ ?_
  intro p e s m below meth c A Q ls hx hb hml hown hts hA hK hP hD hS hl hret
  have hown : s.vm.findClass RX2 = some m.cls := hown
  have hl : lv_has ls 1 [(0, .ref q_pr)] := hl
  have hin2 : ∀ w ∈ u_ws RX2 TX2 11, w ∈ wsX2_least := fun _ h9 => List.mem_cons_of_mem _ (List.mem_append_right _ h9)
  unfold f_X2_least at hf
  refine lv_aload_n hx hb dX2_least_0 rfl (lv_at hl 0 rfl) ?_
  refine va_get (D := D) (ci := 2) (v := .int pr_least) (C := RX2) (T := TX2) (N := 11) hx hb hts hin2 hown hK hP 0 rfl rfl 7 (by decide) (hts (.fieldLink RX2 59 "ColumnChooser$Profile" "least" "I") (List.mem_of_getElem? (i := 1) rfl)) (fun _ h9 => h9) rfl dX2_least_1 ?_
  obtain rfl := Option.some.inj hf
  exact hret _ _ _ _ dX2_least_4 (hP.sub [0] rfl) (hD.sub [0] (by decide) rfl) hS
set_option maxHeartbeats 4000000 in
set_option maxRecDepth 100000 in
theorem c_X2_frameWidth (l : Launch) (D : va_G) (cI : ClassId) (q_co q_pr q_ru q_di : Nat) (n : Nat) (pr_firstRow : Int32) (pr_many : Int32) (pr_runCount : Int32) (pr_differentCount : Int32) (pr_least : Int32) (pr_indexWidth : Int32) (pr_frameWidth : Int32) (pr_deltaWidth : Int32) (res : Int32) (hf : f_X2_frameWidth n pr_frameWidth = some res) : fr_Ci l yX2_frameWidth wsX2_frameWidth ({ frames := 0, cells := 0, slots := 0, locals := 0 }) D [(cI, .int)] [.ref q_pr] [(q_pr, .inr (2, [.ref q_co, .ref q_ru, .ref q_di, .int pr_firstRow, .int pr_many, .int pr_runCount, .int pr_differentCount, .int pr_least, .int pr_indexWidth, .int pr_frameWidth, .int pr_deltaWidth]))] res [(q_pr, .inr (2, [.ref q_co, .ref q_ru, .ref q_di, .int pr_firstRow, .int pr_many, .int pr_runCount, .int pr_differentCount, .int pr_least, .int pr_indexWidth, .int pr_frameWidth, .int pr_deltaWidth]))] := by
  refine fr_open_i (cc := cX2_frameWidth) (maxL := 1) (ret := some .int) (by decide +kernel) rfl (Nat.le_of_ble_eq_true rfl) ⟨.int, rfl, vp_nar_int _⟩ ?_
  intro p e s m below meth c A Q ls hx hb hml hown hts hA hK hP hD hS hl hret
  have hown : s.vm.findClass RX2 = some m.cls := hown
  have hl : lv_has ls 1 [(0, .ref q_pr)] := hl
  have hin2 : ∀ w ∈ u_ws RX2 TX2 11, w ∈ wsX2_frameWidth := fun _ h9 => List.mem_cons_of_mem _ (List.mem_append_right _ h9)
  unfold f_X2_frameWidth at hf
  refine lv_aload_n hx hb dX2_frameWidth_0 rfl (lv_at hl 0 rfl) ?_
  refine va_get (D := D) (ci := 2) (v := .int pr_frameWidth) (C := RX2) (T := TX2) (N := 11) hx hb hts hin2 hown hK hP 0 rfl rfl 9 (by decide) (hts (.fieldLink RX2 68 "ColumnChooser$Profile" "frameWidth" "I") (List.mem_of_getElem? (i := 1) rfl)) (fun _ h9 => h9) rfl dX2_frameWidth_1 ?_
  obtain rfl := Option.some.inj hf
  exact hret _ _ _ _ dX2_frameWidth_4 (hP.sub [0] rfl) (hD.sub [0] (by decide) rfl) hS
set_option maxHeartbeats 4000000 in
set_option maxRecDepth 100000 in
theorem c_X2_differentCount (l : Launch) (D : va_G) (cI : ClassId) (q_co q_pr q_ru q_di : Nat) (n : Nat) (pr_firstRow : Int32) (pr_many : Int32) (pr_runCount : Int32) (pr_differentCount : Int32) (pr_least : Int32) (pr_indexWidth : Int32) (pr_frameWidth : Int32) (pr_deltaWidth : Int32) (res : Int32) (hf : f_X2_differentCount n pr_differentCount = some res) : fr_Ci l yX2_differentCount wsX2_differentCount ({ frames := 0, cells := 0, slots := 0, locals := 0 }) D [(cI, .int)] [.ref q_pr] [(q_pr, .inr (2, [.ref q_co, .ref q_ru, .ref q_di, .int pr_firstRow, .int pr_many, .int pr_runCount, .int pr_differentCount, .int pr_least, .int pr_indexWidth, .int pr_frameWidth, .int pr_deltaWidth]))] res [(q_pr, .inr (2, [.ref q_co, .ref q_ru, .ref q_di, .int pr_firstRow, .int pr_many, .int pr_runCount, .int pr_differentCount, .int pr_least, .int pr_indexWidth, .int pr_frameWidth, .int pr_deltaWidth]))] := by
  refine fr_open_i (cc := cX2_differentCount) (maxL := 1) (ret := some .int) (by decide +kernel) rfl (Nat.le_of_ble_eq_true rfl) ⟨.int, rfl, vp_nar_int _⟩ ?_
  intro p e s m below meth c A Q ls hx hb hml hown hts hA hK hP hD hS hl hret
  have hown : s.vm.findClass RX2 = some m.cls := hown
  have hl : lv_has ls 1 [(0, .ref q_pr)] := hl
  have hin2 : ∀ w ∈ u_ws RX2 TX2 11, w ∈ wsX2_differentCount := fun _ h9 => List.mem_cons_of_mem _ (List.mem_append_right _ h9)
  unfold f_X2_differentCount at hf
  refine lv_aload_n hx hb dX2_differentCount_0 rfl (lv_at hl 0 rfl) ?_
  refine va_get (D := D) (ci := 2) (v := .int pr_differentCount) (C := RX2) (T := TX2) (N := 11) hx hb hts hin2 hown hK hP 0 rfl rfl 6 (by decide) (hts (.fieldLink RX2 36 "ColumnChooser$Profile" "differentCount" "I") (List.mem_of_getElem? (i := 1) rfl)) (fun _ h9 => h9) rfl dX2_differentCount_1 ?_
  obtain rfl := Option.some.inj hf
  exact hret _ _ _ _ dX2_differentCount_4 (hP.sub [0] rfl) (hD.sub [0] (by decide) rfl) hS
set_option maxHeartbeats 4000000 in
set_option maxRecDepth 100000 in
theorem c_X2_differentAt (l : Launch) (D : va_G) (cI : ClassId) (q_co q_pr q_ru q_di q_di_a : Nat) (n : Nat) (x1 : Int32) (pr_firstRow : Int32) (pr_many : Int32) (pr_runCount : Int32) (pr_differentCount : Int32) (pr_least : Int32) (pr_indexWidth : Int32) (pr_frameWidth : Int32) (pr_deltaWidth : Int32) (di_a : (Nat → Int32)) (res : Int32) (hf : f_X2_differentAt n x1 di_a = some res) : fr_Ci l yX2_differentAt wsX2_differentAt ({ frames := 1, cells := 0, slots := 0, locals := 21 }) D [(cI, .int)] [.ref q_pr, .int x1] [(q_pr, .inr (2, [.ref q_co, .ref q_ru, .ref q_di, .int pr_firstRow, .int pr_many, .int pr_runCount, .int pr_differentCount, .int pr_least, .int pr_indexWidth, .int pr_frameWidth, .int pr_deltaWidth])), (q_di, .inr (3, [.ref q_di_a])), (q_di_a, .inl (cI, 32, .inl di_a))] res [(q_pr, .inr (2, [.ref q_co, .ref q_ru, .ref q_di, .int pr_firstRow, .int pr_many, .int pr_runCount, .int pr_differentCount, .int pr_least, .int pr_indexWidth, .int pr_frameWidth, .int pr_deltaWidth])), (q_di, .inr (3, [.ref q_di_a])), (q_di_a, .inl (cI, 32, .inl di_a))] := by
  refine fr_open_i (cc := cX2_differentAt) (maxL := 2) (ret := some .int) (by decide +kernel) rfl (Nat.le_of_ble_eq_true rfl) ⟨.int, rfl, vp_nar_int _⟩ ?_
  intro p e s m below meth c A Q ls hx hb hml hown hts hA hK hP hD hS hl hret
  have hown : s.vm.findClass RX2 = some m.cls := hown
  have hl : lv_has ls 2 [(0, .ref q_pr), (1, .int x1)] := hl
  have hin2 : ∀ w ∈ u_ws RX2 TX2 11, w ∈ wsX2_differentAt := fun _ h9 => List.mem_cons_of_mem _ (List.mem_append_left _ (List.mem_append_right _ h9))
  unfold f_X2_differentAt at hf
  refine lv_aload_n hx hb dX2_differentAt_0 rfl (lv_at hl 0 rfl) ?_
  refine va_get (D := D) (ci := 2) (v := .ref q_di) (C := RX2) (T := TX2) (N := 11) hx hb hts hin2 hown hK hP 0 rfl rfl 2 (by decide) (hts (.fieldLink RX2 23 "ColumnChooser$Profile" "different" "LColumnChooser$Row;") (List.mem_of_getElem? (i := 1) rfl)) (fun _ h9 => h9) rfl dX2_differentAt_1 ?_
  refine lv_iload_n hx hb dX2_differentAt_4 rfl (lv_at hl 1 rfl) ?_
  obtain ⟨u2, hu2, hf⟩ := pr_bd hf
  refine fr_iV (As := [.int x1]) ⟨hx, hb, hml, hown, hts⟩ hK hP hD hS hA (c_X3_get l D cI q_di q_di_a 32 n x1 di_a u2 hu2) (cwV 1 hts gX2_differentAt_X3_get rfl rfl rfl (by decide +kernel) ⟨Nat.le_of_ble_eq_true rfl, Nat.le_of_ble_eq_true rfl⟩) [(q_pr, .inr (2, [.ref q_co, .ref q_ru, .ref q_di, .int pr_firstRow, .int pr_many, .int pr_runCount, .int pr_differentCount, .int pr_least, .int pr_indexWidth, .int pr_frameWidth, .int pr_deltaWidth]))] [1, 2] [0] rfl rfl (by decide) (by decide) (by decide) 0 rfl rfl rfl rfl hl.1 (Nat.le_of_ble_eq_true rfl) dX2_differentAt_5 ⟨Nat.zero_le _, Nat.zero_le _⟩ rfl (fun H locs hP hD hS => ?_)
  have hP : va_P D vwCl [(q_pr, .inr (2, [.ref q_co, .ref q_ru, .ref q_di, .int pr_firstRow, .int pr_many, .int pr_runCount, .int pr_differentCount, .int pr_least, .int pr_indexWidth, .int pr_frameWidth, .int pr_deltaWidth])), (q_di, .inr (3, [.ref q_di_a])), (q_di_a, .inl (cI, 32, .inl di_a))] H := hP
  have hD : va_D A [(q_pr, .inr (2, [.ref q_co, .ref q_ru, .ref q_di, .int pr_firstRow, .int pr_many, .int pr_runCount, .int pr_differentCount, .int pr_least, .int pr_indexWidth, .int pr_frameWidth, .int pr_deltaWidth])), (q_di, .inr (3, [.ref q_di_a])), (q_di_a, .inl (cI, 32, .inl di_a))] := hD
  obtain rfl := Option.some.inj hf
  exact hret _ _ _ _ dX2_differentAt_8 (hP.sub [0, 1, 2] rfl) (hD.sub [0, 1, 2] (by decide) rfl) hS
set_option maxHeartbeats 4000000 in
set_option maxRecDepth 100000 in
theorem c_X2_indexOf (l : Launch) (D : va_G) (cI : ClassId) (q_co q_pr q_ru q_di q_di_a : Nat) (n : Nat) (x1 : Int32) (pr_firstRow : Int32) (pr_many : Int32) (pr_runCount : Int32) (pr_differentCount : Int32) (pr_least : Int32) (pr_indexWidth : Int32) (pr_frameWidth : Int32) (pr_deltaWidth : Int32) (di_a : (Nat → Int32)) (res : Int32) (hf : f_X2_indexOf n x1 pr_differentCount di_a = some res) : fr_Ci l yX2_indexOf wsX2_indexOf ({ frames := 1, cells := 0, slots := 0, locals := 23 }) D [(cI, .int)] [.ref q_pr, .int x1] [(q_pr, .inr (2, [.ref q_co, .ref q_ru, .ref q_di, .int pr_firstRow, .int pr_many, .int pr_runCount, .int pr_differentCount, .int pr_least, .int pr_indexWidth, .int pr_frameWidth, .int pr_deltaWidth])), (q_di, .inr (3, [.ref q_di_a])), (q_di_a, .inl (cI, 32, .inl di_a))] res [(q_pr, .inr (2, [.ref q_co, .ref q_ru, .ref q_di, .int pr_firstRow, .int pr_many, .int pr_runCount, .int pr_differentCount, .int pr_least, .int pr_indexWidth, .int pr_frameWidth, .int pr_deltaWidth])), (q_di, .inr (3, [.ref q_di_a])), (q_di_a, .inl (cI, 32, .inl di_a))] := by
  refine fr_open_i (cc := cX2_indexOf) (maxL := 2) (ret := some .int) (by decide +kernel) rfl (Nat.le_of_ble_eq_true rfl) ⟨.int, rfl, vp_nar_int _⟩ ?_
  intro p e s m below meth c A Q ls hx hb hml hown hts hA hK hP hD hS hl hret
  have hown : s.vm.findClass RX2 = some m.cls := hown
  have hl : lv_has ls 2 [(0, .ref q_pr), (1, .int x1)] := hl
  have hin2 : ∀ w ∈ u_ws RX2 TX2 11, w ∈ wsX2_indexOf := fun _ h9 => List.mem_cons_of_mem _ (List.mem_append_left _ (List.mem_append_right _ h9))
  unfold f_X2_indexOf at hf
  refine lv_aload_n hx hb dX2_indexOf_0 rfl (lv_at hl 0 rfl) ?_
  refine va_get (D := D) (ci := 2) (v := .ref q_di) (C := RX2) (T := TX2) (N := 11) hx hb hts hin2 hown hK hP 0 rfl rfl 2 (by decide) (hts (.fieldLink RX2 23 "ColumnChooser$Profile" "different" "LColumnChooser$Row;") (List.mem_of_getElem? (i := 1) rfl)) (fun _ h9 => h9) rfl dX2_indexOf_1 ?_
  refine lv_iload_n hx hb dX2_indexOf_4 rfl (lv_at hl 1 rfl) ?_
  refine lv_aload_n hx hb dX2_indexOf_5 rfl (lv_at hl 0 rfl) ?_
  refine va_get (D := D) (ci := 2) (v := .int pr_differentCount) (C := RX2) (T := TX2) (N := 11) hx hb hts hin2 hown hK hP 0 rfl rfl 6 (by decide) (hts (.fieldLink RX2 36 "ColumnChooser$Profile" "differentCount" "I") (List.mem_of_getElem? (i := 2) rfl)) (fun _ h9 => h9) rfl dX2_indexOf_6 ?_
  obtain ⟨u2, hu2, hf⟩ := pr_bd hf
  refine fr_iV (As := [.int x1, .int pr_differentCount]) ⟨hx, hb, hml, hown, hts⟩ hK hP hD hS hA (c_X3_find l D cI q_di q_di_a 32 n x1 pr_differentCount di_a u2 hu2) (cwV 2 hts gX2_indexOf_X3_find rfl rfl rfl (by decide +kernel) ⟨Nat.le_of_ble_eq_true rfl, Nat.le_of_ble_eq_true rfl⟩) [(q_pr, .inr (2, [.ref q_co, .ref q_ru, .ref q_di, .int pr_firstRow, .int pr_many, .int pr_runCount, .int pr_differentCount, .int pr_least, .int pr_indexWidth, .int pr_frameWidth, .int pr_deltaWidth]))] [1, 2] [0] rfl rfl (by decide) (by decide) (by decide) 0 rfl rfl rfl rfl hl.1 (Nat.le_of_ble_eq_true rfl) dX2_indexOf_9 ⟨Nat.zero_le _, Nat.zero_le _⟩ rfl (fun H locs hP hD hS => ?_)
  have hP : va_P D vwCl [(q_pr, .inr (2, [.ref q_co, .ref q_ru, .ref q_di, .int pr_firstRow, .int pr_many, .int pr_runCount, .int pr_differentCount, .int pr_least, .int pr_indexWidth, .int pr_frameWidth, .int pr_deltaWidth])), (q_di, .inr (3, [.ref q_di_a])), (q_di_a, .inl (cI, 32, .inl di_a))] H := hP
  have hD : va_D A [(q_pr, .inr (2, [.ref q_co, .ref q_ru, .ref q_di, .int pr_firstRow, .int pr_many, .int pr_runCount, .int pr_differentCount, .int pr_least, .int pr_indexWidth, .int pr_frameWidth, .int pr_deltaWidth])), (q_di, .inr (3, [.ref q_di_a])), (q_di_a, .inl (cI, 32, .inl di_a))] := hD
  obtain rfl := Option.some.inj hf
  exact hret _ _ _ _ dX2_indexOf_12 (hP.sub [0, 1, 2] rfl) (hD.sub [0, 1, 2] (by decide) rfl) hS
set_option maxHeartbeats 4000000 in
set_option maxRecDepth 100000 in
theorem c_X2_indexWidth (l : Launch) (D : va_G) (cI : ClassId) (q_co q_pr q_ru q_di : Nat) (n : Nat) (pr_firstRow : Int32) (pr_many : Int32) (pr_runCount : Int32) (pr_differentCount : Int32) (pr_least : Int32) (pr_indexWidth : Int32) (pr_frameWidth : Int32) (pr_deltaWidth : Int32) (res : Int32) (hf : f_X2_indexWidth n pr_indexWidth = some res) : fr_Ci l yX2_indexWidth wsX2_indexWidth ({ frames := 0, cells := 0, slots := 0, locals := 0 }) D [(cI, .int)] [.ref q_pr] [(q_pr, .inr (2, [.ref q_co, .ref q_ru, .ref q_di, .int pr_firstRow, .int pr_many, .int pr_runCount, .int pr_differentCount, .int pr_least, .int pr_indexWidth, .int pr_frameWidth, .int pr_deltaWidth]))] res [(q_pr, .inr (2, [.ref q_co, .ref q_ru, .ref q_di, .int pr_firstRow, .int pr_many, .int pr_runCount, .int pr_differentCount, .int pr_least, .int pr_indexWidth, .int pr_frameWidth, .int pr_deltaWidth]))] := by
  refine fr_open_i (cc := cX2_indexWidth) (maxL := 1) (ret := some .int) (by decide +kernel) rfl (Nat.le_of_ble_eq_true rfl) ⟨.int, rfl, vp_nar_int _⟩ ?_
  intro p e s m below meth c A Q ls hx hb hml hown hts hA hK hP hD hS hl hret
  have hown : s.vm.findClass RX2 = some m.cls := hown
  have hl : lv_has ls 1 [(0, .ref q_pr)] := hl
  have hin2 : ∀ w ∈ u_ws RX2 TX2 11, w ∈ wsX2_indexWidth := fun _ h9 => List.mem_cons_of_mem _ (List.mem_append_right _ h9)
  unfold f_X2_indexWidth at hf
  refine lv_aload_n hx hb dX2_indexWidth_0 rfl (lv_at hl 0 rfl) ?_
  refine va_get (D := D) (ci := 2) (v := .int pr_indexWidth) (C := RX2) (T := TX2) (N := 11) hx hb hts hin2 hown hK hP 0 rfl rfl 8 (by decide) (hts (.fieldLink RX2 65 "ColumnChooser$Profile" "indexWidth" "I") (List.mem_of_getElem? (i := 1) rfl)) (fun _ h9 => h9) rfl dX2_indexWidth_1 ?_
  obtain rfl := Option.some.inj hf
  exact hret _ _ _ _ dX2_indexWidth_4 (hP.sub [0] rfl) (hD.sub [0] (by decide) rfl) hS
set_option maxHeartbeats 4000000 in
set_option maxRecDepth 100000 in
theorem c_X2_widthOf (l : Launch) (D : va_G) (cI : ClassId) (n : Nat) (x0 : Int32) (res : Int32) (hf : f_X2_widthOf n x0 = some res) : fr_Ci l yX2_widthOf wsX2_widthOf ({ frames := 0, cells := 0, slots := 0, locals := 0 }) D [(cI, .int)] [.int x0] [] res [] := by
  refine fr_open_i (cc := cX2_widthOf) (maxL := 2) (ret := some .int) (by decide +kernel) rfl (Nat.le_of_ble_eq_true rfl) ⟨.int, rfl, vp_nar_int _⟩ ?_
  intro p e s m below meth c A Q ls hx hb hml hown hts hA hK hP hD hS hl hret
  have hown : s.vm.findClass RX2 = some m.cls := hown
  have hl : lv_has ls 2 [(0, .int x0)] := hl
  have k_2 : ∀ (n : Nat), (∀ (z0 : Int32) (z1 : Int32) (H : Heap) (locs : List Loc) (ls : Array Slot), f_X2_widthOf_2 n z0 z1 = some res → va_P D vwCl [] H → va_D A [] → va_S A s.heap H locs → lv_has ls 2 [(0, .int z0), (1, .int z1)] → W p l e ({ frames := 0, cells := 0, slots := 0, locals := 0 }) s m ([.int x0] : List Value).toArray below meth c H locs 0 0 Q (F0 m 2 ls [])) := by
    intro n
    induction n with
    | zero =>
      intro z0 z1 H locs ls hf hP hD hS hl
      exact absurd (show (none : Option (Int32)) = some res from hf) (by simp)
    | succ n ih =>
      intro z0 z1 H locs ls hf hP hD hS hl
      have hf : f_X2_widthOf_2_s (f_X2_widthOf_2 n) n z0 z1 = some res := hf
      unfold f_X2_widthOf_2_s at hf
      refine lv_iload_n hx hb dX2_widthOf_2 rfl (lv_at hl 1 rfl) ?_
      refine lv_bipush (v := 30) hx hb dX2_widthOf_3 (by decide) ?_
      refine lv_icmp_ge (tgt := 21) hx hb dX2_widthOf_5 (by decide) (fun c3 => ?_) (fun c3 => ?_)
      · have hf := pr_pos hf c3
        refine lv_iload_n hx hb dX2_widthOf_21 rfl (lv_at hl 1 rfl) ?_
        obtain rfl := Option.some.inj hf
        exact hret _ _ _ _ dX2_widthOf_22 (hP.sub [] rfl) (hD.sub [] (by decide) rfl) hS
      · have hf := pr_neg hf c3
        refine lv_iload_n hx hb dX2_widthOf_8 rfl (lv_at hl 0 rfl) ?_
        refine lv_iconst (v := 1) hx hb dX2_widthOf_9 (by decide) ?_
        refine lv_iload_n hx hb dX2_widthOf_10 rfl (lv_at hl 1 rfl) ?_
        refine lv_ishl hx hb dX2_widthOf_11 ?_
        refine lv_icmp_lt (tgt := 21) hx hb dX2_widthOf_12 (by decide) (fun c4 => ?_) (fun c4 => ?_)
        · have hf := pr_pos hf c4
          refine lv_iload_n hx hb dX2_widthOf_21 rfl (lv_at hl 1 rfl) ?_
          obtain rfl := Option.some.inj hf
          exact hret _ _ _ _ dX2_widthOf_22 (hP.sub [] rfl) (hD.sub [] (by decide) rfl) hS
        · have hf := pr_neg hf c4
          refine lv_iinc (v := (z1 + 1)) (lv' := [(1, .int (z1 + 1)), (0, .int z0)]) hx hb dX2_widthOf_15 hl (k := 1) rfl rfl (by decide) rfl (fun ls hl => ?_)
          refine lv_goto (tgt := 2) hx hb dX2_widthOf_18 (by decide) ?_
          exact ih _ _ _ _ ls hf (hP.sub [] rfl) (hD.sub [] (by decide) rfl) hS (lv_sub hl [1, 0] rfl)
  unfold f_X2_widthOf at hf
  refine lv_iconst (v := 0) hx hb dX2_widthOf_0 (by decide) ?_
  refine lv_istore_n (lv' := [(1, .int 0), (0, .int x0)]) hx hb dX2_widthOf_1 rfl hl (by decide) rfl (fun ls hl => ?_)
  exact k_2 n _ _ _ _ ls hf (hP.sub [] rfl) (hD.sub [] (by decide) rfl) hS (lv_sub hl [1, 0] rfl)
set_option maxHeartbeats 4000000 in
set_option maxRecDepth 100000 in
theorem c_X2_addDifferent (l : Launch) (D : va_G) (cI : ClassId) (q_co q_pr q_ru q_di q_di_a : Nat) (n : Nat) (x1 : Int32) (pr_firstRow : Int32) (pr_many : Int32) (pr_runCount : Int32) (pr_differentCount : Int32) (pr_least : Int32) (pr_indexWidth : Int32) (pr_frameWidth : Int32) (pr_deltaWidth : Int32) (di_a : (Nat → Int32)) (res : Int32 × (Nat → Int32)) (hf : f_X2_addDifferent n x1 pr_differentCount di_a = some res) : fr_Cv l yX2_addDifferent wsX2_addDifferent ({ frames := 1, cells := 0, slots := 0, locals := 22 }) D [(cI, .int)] [.ref q_pr, .int x1] [(q_pr, .inr (2, [.ref q_co, .ref q_ru, .ref q_di, .int pr_firstRow, .int pr_many, .int pr_runCount, .int pr_differentCount, .int pr_least, .int pr_indexWidth, .int pr_frameWidth, .int pr_deltaWidth])), (q_di, .inr (3, [.ref q_di_a])), (q_di_a, .inl (cI, 32, .inl di_a))] [(q_pr, .inr (2, [.ref q_co, .ref q_ru, .ref q_di, .int pr_firstRow, .int pr_many, .int pr_runCount, .int res.1, .int pr_least, .int pr_indexWidth, .int pr_frameWidth, .int pr_deltaWidth])), (q_di, .inr (3, [.ref q_di_a])), (q_di_a, .inl (cI, 32, .inl res.2))] := by
  refine fr_open_v (cc := cX2_addDifferent) (maxL := 4) (by decide +kernel) rfl (Nat.le_of_ble_eq_true rfl) ?_
  intro p e s m below meth c A Q ls hx hb hml hown hts hA hK hP hD hS hl hret
  have hown : s.vm.findClass RX2 = some m.cls := hown
  have hl : lv_has ls 4 [(0, .ref q_pr), (1, .int x1)] := hl
  have hin2 : ∀ w ∈ u_ws RX2 TX2 11, w ∈ wsX2_addDifferent := fun _ h9 => List.mem_cons_of_mem _ (List.mem_append_left _ (List.mem_append_right _ h9))
  have k_59 : ∀ (n : Nat), (∀ (z1 : Int32) (z2 : Int32) (z3 : Int32) (pr_differentCount : Int32) (di_a : (Nat → Int32)) (H : Heap) (locs : List Loc) (ls : Array Slot), f_X2_addDifferent_59 n z1 z2 z3 pr_differentCount di_a = some res → va_P D vwCl [(q_pr, .inr (2, [.ref q_co, .ref q_ru, .ref q_di, .int pr_firstRow, .int pr_many, .int pr_runCount, .int pr_differentCount, .int pr_least, .int pr_indexWidth, .int pr_frameWidth, .int pr_deltaWidth])), (q_di, .inr (3, [.ref q_di_a])), (q_di_a, .inl (cI, 32, .inl di_a))] H → va_D A [(q_pr, .inr (2, [.ref q_co, .ref q_ru, .ref q_di, .int pr_firstRow, .int pr_many, .int pr_runCount, .int pr_differentCount, .int pr_least, .int pr_indexWidth, .int pr_frameWidth, .int pr_deltaWidth])), (q_di, .inr (3, [.ref q_di_a])), (q_di_a, .inl (cI, 32, .inl di_a))] → va_S A s.heap H locs → lv_has ls 4 [(0, .ref q_pr), (1, .int z1), (2, .int z2), (3, .int z3)] → W p l e ({ frames := 1, cells := 0, slots := 0, locals := 22 }) s m ([.ref q_pr, .int x1] : List Value).toArray below meth c H locs 0 0 Q (F0 m 59 ls [])) := by
    intro n
    induction n with
    | zero =>
      intro z1 z2 z3 pr_differentCount di_a H locs ls hf hP hD hS hl
      exact absurd (show (none : Option (Int32 × (Nat → Int32))) = some res from hf) (by simp)
    | succ n ih =>
      intro z1 z2 z3 pr_differentCount di_a H locs ls hf hP hD hS hl
      have hf : f_X2_addDifferent_59_s (f_X2_addDifferent_59 n) n z1 z2 z3 pr_differentCount di_a = some res := hf
      unfold f_X2_addDifferent_59_s at hf
      refine lv_iload_n hx hb dX2_addDifferent_59 rfl (lv_at hl 3 rfl) ?_
      refine lv_iload_n hx hb dX2_addDifferent_60 rfl (lv_at hl 2 rfl) ?_
      refine lv_icmp_le (tgt := 88) hx hb dX2_addDifferent_61 (by decide) (fun c11 => ?_) (fun c11 => ?_)
      · have hf := pr_pos hf c11
        refine lv_aload_n hx hb dX2_addDifferent_88 rfl (lv_at hl 0 rfl) ?_
        refine va_get (D := D) (ci := 2) (v := .ref q_di) (C := RX2) (T := TX2) (N := 11) hx hb hts hin2 hown hK hP 0 rfl rfl 2 (by decide) (hts (.fieldLink RX2 23 "ColumnChooser$Profile" "different" "LColumnChooser$Row;") (List.mem_of_getElem? (i := 2) rfl)) (fun _ h9 => h9) rfl dX2_addDifferent_89 ?_
        refine lv_iload_n hx hb dX2_addDifferent_92 rfl (lv_at hl 2 rfl) ?_
        refine lv_iload_n hx hb dX2_addDifferent_93 rfl (lv_at hl 1 rfl) ?_
        obtain ⟨u12, hu12, hf⟩ := pr_bd hf
        refine fr_vV (As := [.int z2, .int z1]) ⟨hx, hb, hml, hown, hts⟩ hK hP hD hS hA (c_X3_put l D cI q_di q_di_a 32 n z2 z1 di_a u12 hu12) (cwV 2 hts gX2_addDifferent_X3_put rfl rfl rfl (by decide +kernel) ⟨Nat.le_of_ble_eq_true rfl, Nat.le_of_ble_eq_true rfl⟩) [(q_pr, .inr (2, [.ref q_co, .ref q_ru, .ref q_di, .int pr_firstRow, .int pr_many, .int pr_runCount, .int pr_differentCount, .int pr_least, .int pr_indexWidth, .int pr_frameWidth, .int pr_deltaWidth]))] [1, 2] [0] rfl rfl (by decide) (by decide) (by decide) 0 rfl rfl rfl rfl hl.1 (Nat.le_of_ble_eq_true rfl) dX2_addDifferent_94 ⟨Nat.zero_le _, Nat.zero_le _⟩ rfl (fun H locs hP hD hS => ?_)
        have hP : va_P D vwCl [(q_pr, .inr (2, [.ref q_co, .ref q_ru, .ref q_di, .int pr_firstRow, .int pr_many, .int pr_runCount, .int pr_differentCount, .int pr_least, .int pr_indexWidth, .int pr_frameWidth, .int pr_deltaWidth])), (q_di, .inr (3, [.ref q_di_a])), (q_di_a, .inl (cI, 32, .inl u12))] H := hP
        have hD : va_D A [(q_pr, .inr (2, [.ref q_co, .ref q_ru, .ref q_di, .int pr_firstRow, .int pr_many, .int pr_runCount, .int pr_differentCount, .int pr_least, .int pr_indexWidth, .int pr_frameWidth, .int pr_deltaWidth])), (q_di, .inr (3, [.ref q_di_a])), (q_di_a, .inl (cI, 32, .inl u12))] := hD
        refine lv_aload_n hx hb dX2_addDifferent_97 rfl (lv_at hl 0 rfl) ?_
        refine lv_dup hx hb dX2_addDifferent_98 rfl ?_
        refine va_get (D := D) (ci := 2) (v := .int pr_differentCount) (C := RX2) (T := TX2) (N := 11) hx hb hts hin2 hown hK hP 0 rfl rfl 6 (by decide) (hts (.fieldLink RX2 36 "ColumnChooser$Profile" "differentCount" "I") (List.mem_of_getElem? (i := 1) rfl)) (fun _ h9 => h9) rfl dX2_addDifferent_99 ?_
        refine lv_iconst (v := 1) hx hb dX2_addDifferent_102 (by decide) ?_
        refine lv_iadd hx hb dX2_addDifferent_103 ?_
        refine va_put (D := D) (ci := 2) (v := .int (pr_differentCount + 1)) (ty := .int) (C := RX2) (T := TX2) (N := 11) hx hb hts hin2 tyX2 tyX2_ok nmX2 hown hK hP hD hS 0 rfl rfl 6 (by decide) (hts (.fieldLink RX2 36 "ColumnChooser$Profile" "differentCount" "I") (List.mem_of_getElem? (i := 1) rfl)) (fun _ h9 => h9) rfl (by decide +kernel) rfl rfl (Nat.le_of_ble_eq_true rfl) dX2_addDifferent_104 (fun H locs hP hD hS => ?_)
        have hP : va_P D vwCl [(q_pr, .inr (2, [.ref q_co, .ref q_ru, .ref q_di, .int pr_firstRow, .int pr_many, .int pr_runCount, .int (pr_differentCount + 1), .int pr_least, .int pr_indexWidth, .int pr_frameWidth, .int pr_deltaWidth])), (q_di, .inr (3, [.ref q_di_a])), (q_di_a, .inl (cI, 32, .inl u12))] H := hP
        have hD : va_D A [(q_pr, .inr (2, [.ref q_co, .ref q_ru, .ref q_di, .int pr_firstRow, .int pr_many, .int pr_runCount, .int (pr_differentCount + 1), .int pr_least, .int pr_indexWidth, .int pr_frameWidth, .int pr_deltaWidth])), (q_di, .inr (3, [.ref q_di_a])), (q_di_a, .inl (cI, 32, .inl u12))] := hD
        obtain rfl := Option.some.inj hf
        exact hret _ _ _ _ dX2_addDifferent_107 (hP.sub [0, 1, 2] rfl) (hD.sub [0, 1, 2] (by decide) rfl) hS
      · have hf := pr_neg hf c11
        refine lv_aload_n hx hb dX2_addDifferent_64 rfl (lv_at hl 0 rfl) ?_
        refine va_get (D := D) (ci := 2) (v := .ref q_di) (C := RX2) (T := TX2) (N := 11) hx hb hts hin2 hown hK hP 0 rfl rfl 2 (by decide) (hts (.fieldLink RX2 23 "ColumnChooser$Profile" "different" "LColumnChooser$Row;") (List.mem_of_getElem? (i := 2) rfl)) (fun _ h9 => h9) rfl dX2_addDifferent_65 ?_
        refine lv_iload_n hx hb dX2_addDifferent_68 rfl (lv_at hl 3 rfl) ?_
        refine lv_aload_n hx hb dX2_addDifferent_69 rfl (lv_at hl 0 rfl) ?_
        refine va_get (D := D) (ci := 2) (v := .ref q_di) (C := RX2) (T := TX2) (N := 11) hx hb hts hin2 hown hK hP 0 rfl rfl 2 (by decide) (hts (.fieldLink RX2 23 "ColumnChooser$Profile" "different" "LColumnChooser$Row;") (List.mem_of_getElem? (i := 2) rfl)) (fun _ h9 => h9) rfl dX2_addDifferent_70 ?_
        refine lv_iload_n hx hb dX2_addDifferent_73 rfl (lv_at hl 3 rfl) ?_
        refine lv_iconst (v := 1) hx hb dX2_addDifferent_74 (by decide) ?_
        refine lv_isub hx hb dX2_addDifferent_75 ?_
        obtain ⟨u13, hu13, hf⟩ := pr_bd hf
        refine fr_iV (As := [.int (z3 - 1)]) ⟨hx, hb, hml, hown, hts⟩ hK hP hD hS hA (c_X3_get l D cI q_di q_di_a 32 n (z3 - 1) di_a u13 hu13) (cwV 1 hts gX2_addDifferent_X3_get rfl rfl rfl (by decide +kernel) ⟨Nat.le_of_ble_eq_true rfl, Nat.le_of_ble_eq_true rfl⟩) [(q_pr, .inr (2, [.ref q_co, .ref q_ru, .ref q_di, .int pr_firstRow, .int pr_many, .int pr_runCount, .int pr_differentCount, .int pr_least, .int pr_indexWidth, .int pr_frameWidth, .int pr_deltaWidth]))] [1, 2] [0] rfl rfl (by decide) (by decide) (by decide) 0 rfl rfl rfl rfl hl.1 (Nat.le_of_ble_eq_true rfl) dX2_addDifferent_76 ⟨Nat.zero_le _, Nat.zero_le _⟩ rfl (fun H locs hP hD hS => ?_)
        have hP : va_P D vwCl [(q_pr, .inr (2, [.ref q_co, .ref q_ru, .ref q_di, .int pr_firstRow, .int pr_many, .int pr_runCount, .int pr_differentCount, .int pr_least, .int pr_indexWidth, .int pr_frameWidth, .int pr_deltaWidth])), (q_di, .inr (3, [.ref q_di_a])), (q_di_a, .inl (cI, 32, .inl di_a))] H := hP
        have hD : va_D A [(q_pr, .inr (2, [.ref q_co, .ref q_ru, .ref q_di, .int pr_firstRow, .int pr_many, .int pr_runCount, .int pr_differentCount, .int pr_least, .int pr_indexWidth, .int pr_frameWidth, .int pr_deltaWidth])), (q_di, .inr (3, [.ref q_di_a])), (q_di_a, .inl (cI, 32, .inl di_a))] := hD
        obtain ⟨u14, hu14, hf⟩ := pr_bd hf
        refine fr_vV (As := [.int z3, .int u13]) ⟨hx, hb, hml, hown, hts⟩ hK hP hD hS hA (c_X3_put l D cI q_di q_di_a 32 n z3 u13 di_a u14 hu14) (cwV 2 hts gX2_addDifferent_X3_put rfl rfl rfl (by decide +kernel) ⟨Nat.le_of_ble_eq_true rfl, Nat.le_of_ble_eq_true rfl⟩) [(q_pr, .inr (2, [.ref q_co, .ref q_ru, .ref q_di, .int pr_firstRow, .int pr_many, .int pr_runCount, .int pr_differentCount, .int pr_least, .int pr_indexWidth, .int pr_frameWidth, .int pr_deltaWidth]))] [1, 2] [0] rfl rfl (by decide) (by decide) (by decide) 0 rfl rfl rfl rfl hl.1 (Nat.le_of_ble_eq_true rfl) dX2_addDifferent_79 ⟨Nat.zero_le _, Nat.zero_le _⟩ rfl (fun H locs hP hD hS => ?_)
        have hP : va_P D vwCl [(q_pr, .inr (2, [.ref q_co, .ref q_ru, .ref q_di, .int pr_firstRow, .int pr_many, .int pr_runCount, .int pr_differentCount, .int pr_least, .int pr_indexWidth, .int pr_frameWidth, .int pr_deltaWidth])), (q_di, .inr (3, [.ref q_di_a])), (q_di_a, .inl (cI, 32, .inl u14))] H := hP
        have hD : va_D A [(q_pr, .inr (2, [.ref q_co, .ref q_ru, .ref q_di, .int pr_firstRow, .int pr_many, .int pr_runCount, .int pr_differentCount, .int pr_least, .int pr_indexWidth, .int pr_frameWidth, .int pr_deltaWidth])), (q_di, .inr (3, [.ref q_di_a])), (q_di_a, .inl (cI, 32, .inl u14))] := hD
        refine lv_iinc (v := (z3 + (-1))) (lv' := [(3, .int (z3 + (-1))), (0, .ref q_pr), (1, .int z1), (2, .int z2)]) hx hb dX2_addDifferent_82 hl (k := 3) rfl rfl (by decide) rfl (fun ls hl => ?_)
        refine lv_goto (tgt := 59) hx hb dX2_addDifferent_85 (by decide) ?_
        exact ih _ _ _ _ _ _ _ ls hf (hP.sub [0, 1, 2] rfl) (hD.sub [0, 1, 2] (by decide) rfl) hS (lv_sub hl [1, 2, 3, 0] rfl)
  have k_4 : ∀ (n : Nat), (∀ (z1 : Int32) (z2 : Int32) (z3 : Int32) (pr_differentCount : Int32) (di_a : (Nat → Int32)) (H : Heap) (locs : List Loc) (ls : Array Slot), f_X2_addDifferent_4 n z1 z2 z3 pr_differentCount di_a = some res → va_P D vwCl [(q_pr, .inr (2, [.ref q_co, .ref q_ru, .ref q_di, .int pr_firstRow, .int pr_many, .int pr_runCount, .int pr_differentCount, .int pr_least, .int pr_indexWidth, .int pr_frameWidth, .int pr_deltaWidth])), (q_di, .inr (3, [.ref q_di_a])), (q_di_a, .inl (cI, 32, .inl di_a))] H → va_D A [(q_pr, .inr (2, [.ref q_co, .ref q_ru, .ref q_di, .int pr_firstRow, .int pr_many, .int pr_runCount, .int pr_differentCount, .int pr_least, .int pr_indexWidth, .int pr_frameWidth, .int pr_deltaWidth])), (q_di, .inr (3, [.ref q_di_a])), (q_di_a, .inl (cI, 32, .inl di_a))] → va_S A s.heap H locs → lv_has ls 4 [(0, .ref q_pr), (1, .int z1), (2, .int z2), (3, .int z3)] → W p l e ({ frames := 1, cells := 0, slots := 0, locals := 22 }) s m ([.ref q_pr, .int x1] : List Value).toArray below meth c H locs 0 0 Q (F0 m 4 ls [])) := by
    intro n
    induction n with
    | zero =>
      intro z1 z2 z3 pr_differentCount di_a H locs ls hf hP hD hS hl
      exact absurd (show (none : Option (Int32 × (Nat → Int32))) = some res from hf) (by simp)
    | succ n ih =>
      intro z1 z2 z3 pr_differentCount di_a H locs ls hf hP hD hS hl
      have hf : f_X2_addDifferent_4_s (f_X2_addDifferent_4 n) n z1 z2 z3 pr_differentCount di_a = some res := hf
      unfold f_X2_addDifferent_4_s at hf
      refine lv_iload_n hx hb dX2_addDifferent_4 rfl (lv_at hl 3 rfl) ?_
      refine lv_aload_n hx hb dX2_addDifferent_5 rfl (lv_at hl 0 rfl) ?_
      refine va_get (D := D) (ci := 2) (v := .int pr_differentCount) (C := RX2) (T := TX2) (N := 11) hx hb hts hin2 hown hK hP 0 rfl rfl 6 (by decide) (hts (.fieldLink RX2 36 "ColumnChooser$Profile" "differentCount" "I") (List.mem_of_getElem? (i := 1) rfl)) (fun _ h9 => h9) rfl dX2_addDifferent_6 ?_
      refine lv_icmp_ge (tgt := 33) hx hb dX2_addDifferent_9 (by decide) (fun c15 => ?_) (fun c15 => ?_)
      · have hf := pr_pos hf c15
        refine lv_iload_n hx hb dX2_addDifferent_33 rfl (lv_at hl 2 rfl) ?_
        refine lv_aload_n hx hb dX2_addDifferent_34 rfl (lv_at hl 0 rfl) ?_
        refine va_get (D := D) (ci := 2) (v := .int pr_differentCount) (C := RX2) (T := TX2) (N := 11) hx hb hts hin2 hown hK hP 0 rfl rfl 6 (by decide) (hts (.fieldLink RX2 36 "ColumnChooser$Profile" "differentCount" "I") (List.mem_of_getElem? (i := 1) rfl)) (fun _ h9 => h9) rfl dX2_addDifferent_35 ?_
        refine lv_icmp_ge (tgt := 54) hx hb dX2_addDifferent_38 (by decide) (fun c16 => ?_) (fun c16 => ?_)
        · have hf := pr_pos hf c16
          refine lv_aload_n hx hb dX2_addDifferent_54 rfl (lv_at hl 0 rfl) ?_
          refine va_get (D := D) (ci := 2) (v := .int pr_differentCount) (C := RX2) (T := TX2) (N := 11) hx hb hts hin2 hown hK hP 0 rfl rfl 6 (by decide) (hts (.fieldLink RX2 36 "ColumnChooser$Profile" "differentCount" "I") (List.mem_of_getElem? (i := 1) rfl)) (fun _ h9 => h9) rfl dX2_addDifferent_55 ?_
          refine lv_istore_n (lv' := [(3, .int pr_differentCount), (0, .ref q_pr), (1, .int z1), (2, .int z2)]) hx hb dX2_addDifferent_58 rfl hl (by decide) rfl (fun ls hl => ?_)
          exact k_59 n _ _ _ _ _ _ _ ls hf (hP.sub [0, 1, 2] rfl) (hD.sub [0, 1, 2] (by decide) rfl) hS (lv_sub hl [1, 2, 3, 0] rfl)
        · have hf := pr_neg hf c16
          refine lv_aload_n hx hb dX2_addDifferent_41 rfl (lv_at hl 0 rfl) ?_
          refine va_get (D := D) (ci := 2) (v := .ref q_di) (C := RX2) (T := TX2) (N := 11) hx hb hts hin2 hown hK hP 0 rfl rfl 2 (by decide) (hts (.fieldLink RX2 23 "ColumnChooser$Profile" "different" "LColumnChooser$Row;") (List.mem_of_getElem? (i := 2) rfl)) (fun _ h9 => h9) rfl dX2_addDifferent_42 ?_
          refine lv_iload_n hx hb dX2_addDifferent_45 rfl (lv_at hl 2 rfl) ?_
          obtain ⟨u17, hu17, hf⟩ := pr_bd hf
          refine fr_iV (As := [.int z2]) ⟨hx, hb, hml, hown, hts⟩ hK hP hD hS hA (c_X3_get l D cI q_di q_di_a 32 n z2 di_a u17 hu17) (cwV 1 hts gX2_addDifferent_X3_get rfl rfl rfl (by decide +kernel) ⟨Nat.le_of_ble_eq_true rfl, Nat.le_of_ble_eq_true rfl⟩) [(q_pr, .inr (2, [.ref q_co, .ref q_ru, .ref q_di, .int pr_firstRow, .int pr_many, .int pr_runCount, .int pr_differentCount, .int pr_least, .int pr_indexWidth, .int pr_frameWidth, .int pr_deltaWidth]))] [1, 2] [0] rfl rfl (by decide) (by decide) (by decide) 0 rfl rfl rfl rfl hl.1 (Nat.le_of_ble_eq_true rfl) dX2_addDifferent_46 ⟨Nat.zero_le _, Nat.zero_le _⟩ rfl (fun H locs hP hD hS => ?_)
          have hP : va_P D vwCl [(q_pr, .inr (2, [.ref q_co, .ref q_ru, .ref q_di, .int pr_firstRow, .int pr_many, .int pr_runCount, .int pr_differentCount, .int pr_least, .int pr_indexWidth, .int pr_frameWidth, .int pr_deltaWidth])), (q_di, .inr (3, [.ref q_di_a])), (q_di_a, .inl (cI, 32, .inl di_a))] H := hP
          have hD : va_D A [(q_pr, .inr (2, [.ref q_co, .ref q_ru, .ref q_di, .int pr_firstRow, .int pr_many, .int pr_runCount, .int pr_differentCount, .int pr_least, .int pr_indexWidth, .int pr_frameWidth, .int pr_deltaWidth])), (q_di, .inr (3, [.ref q_di_a])), (q_di_a, .inl (cI, 32, .inl di_a))] := hD
          refine lv_iload_n hx hb dX2_addDifferent_49 rfl (lv_at hl 1 rfl) ?_
          refine lv_icmp_ne (tgt := 54) hx hb dX2_addDifferent_50 (by decide) (fun c18 => ?_) (fun c18 => ?_)
          · have hf := pr_neg hf c18
            refine lv_aload_n hx hb dX2_addDifferent_54 rfl (lv_at hl 0 rfl) ?_
            refine va_get (D := D) (ci := 2) (v := .int pr_differentCount) (C := RX2) (T := TX2) (N := 11) hx hb hts hin2 hown hK hP 0 rfl rfl 6 (by decide) (hts (.fieldLink RX2 36 "ColumnChooser$Profile" "differentCount" "I") (List.mem_of_getElem? (i := 1) rfl)) (fun _ h9 => h9) rfl dX2_addDifferent_55 ?_
            refine lv_istore_n (lv' := [(3, .int pr_differentCount), (0, .ref q_pr), (1, .int z1), (2, .int z2)]) hx hb dX2_addDifferent_58 rfl hl (by decide) rfl (fun ls hl => ?_)
            exact k_59 n _ _ _ _ _ _ _ ls hf (hP.sub [0, 1, 2] rfl) (hD.sub [0, 1, 2] (by decide) rfl) hS (lv_sub hl [1, 2, 3, 0] rfl)
          · have hf := pr_pos hf c18
            obtain rfl := Option.some.inj hf
            exact hret _ _ _ _ dX2_addDifferent_53 (hP.sub [0, 1, 2] rfl) (hD.sub [0, 1, 2] (by decide) rfl) hS
      · have hf := pr_neg hf c15
        refine lv_aload_n hx hb dX2_addDifferent_12 rfl (lv_at hl 0 rfl) ?_
        refine va_get (D := D) (ci := 2) (v := .ref q_di) (C := RX2) (T := TX2) (N := 11) hx hb hts hin2 hown hK hP 0 rfl rfl 2 (by decide) (hts (.fieldLink RX2 23 "ColumnChooser$Profile" "different" "LColumnChooser$Row;") (List.mem_of_getElem? (i := 2) rfl)) (fun _ h9 => h9) rfl dX2_addDifferent_13 ?_
        refine lv_iload_n hx hb dX2_addDifferent_16 rfl (lv_at hl 3 rfl) ?_
        obtain ⟨u19, hu19, hf⟩ := pr_bd hf
        refine fr_iV (As := [.int z3]) ⟨hx, hb, hml, hown, hts⟩ hK hP hD hS hA (c_X3_get l D cI q_di q_di_a 32 n z3 di_a u19 hu19) (cwV 1 hts gX2_addDifferent_X3_get rfl rfl rfl (by decide +kernel) ⟨Nat.le_of_ble_eq_true rfl, Nat.le_of_ble_eq_true rfl⟩) [(q_pr, .inr (2, [.ref q_co, .ref q_ru, .ref q_di, .int pr_firstRow, .int pr_many, .int pr_runCount, .int pr_differentCount, .int pr_least, .int pr_indexWidth, .int pr_frameWidth, .int pr_deltaWidth]))] [1, 2] [0] rfl rfl (by decide) (by decide) (by decide) 0 rfl rfl rfl rfl hl.1 (Nat.le_of_ble_eq_true rfl) dX2_addDifferent_17 ⟨Nat.zero_le _, Nat.zero_le _⟩ rfl (fun H locs hP hD hS => ?_)
        have hP : va_P D vwCl [(q_pr, .inr (2, [.ref q_co, .ref q_ru, .ref q_di, .int pr_firstRow, .int pr_many, .int pr_runCount, .int pr_differentCount, .int pr_least, .int pr_indexWidth, .int pr_frameWidth, .int pr_deltaWidth])), (q_di, .inr (3, [.ref q_di_a])), (q_di_a, .inl (cI, 32, .inl di_a))] H := hP
        have hD : va_D A [(q_pr, .inr (2, [.ref q_co, .ref q_ru, .ref q_di, .int pr_firstRow, .int pr_many, .int pr_runCount, .int pr_differentCount, .int pr_least, .int pr_indexWidth, .int pr_frameWidth, .int pr_deltaWidth])), (q_di, .inr (3, [.ref q_di_a])), (q_di_a, .inl (cI, 32, .inl di_a))] := hD
        refine lv_iload_n hx hb dX2_addDifferent_20 rfl (lv_at hl 1 rfl) ?_
        refine lv_icmp_ge (tgt := 27) hx hb dX2_addDifferent_21 (by decide) (fun c20 => ?_) (fun c20 => ?_)
        · have hf := pr_pos hf c20
          refine lv_iinc (v := (z3 + 1)) (lv' := [(3, .int (z3 + 1)), (0, .ref q_pr), (1, .int z1), (2, .int z2)]) hx hb dX2_addDifferent_27 hl (k := 3) rfl rfl (by decide) rfl (fun ls hl => ?_)
          refine lv_goto (tgt := 4) hx hb dX2_addDifferent_30 (by decide) ?_
          exact ih _ _ _ _ _ _ _ ls hf (hP.sub [0, 1, 2] rfl) (hD.sub [0, 1, 2] (by decide) rfl) hS (lv_sub hl [1, 2, 3, 0] rfl)
        · have hf := pr_neg hf c20
          refine lv_iinc (v := (z2 + 1)) (lv' := [(2, .int (z2 + 1)), (0, .ref q_pr), (1, .int z1), (3, .int z3)]) hx hb dX2_addDifferent_24 hl (k := 2) rfl rfl (by decide) rfl (fun ls hl => ?_)
          refine lv_iinc (v := (z3 + 1)) (lv' := [(3, .int (z3 + 1)), (2, .int (z2 + 1)), (0, .ref q_pr), (1, .int z1)]) hx hb dX2_addDifferent_27 hl (k := 3) rfl rfl (by decide) rfl (fun ls hl => ?_)
          refine lv_goto (tgt := 4) hx hb dX2_addDifferent_30 (by decide) ?_
          exact ih _ _ _ _ _ _ _ ls hf (hP.sub [0, 1, 2] rfl) (hD.sub [0, 1, 2] (by decide) rfl) hS (lv_sub hl [2, 3, 1, 0] rfl)
  unfold f_X2_addDifferent at hf
  refine lv_iconst (v := 0) hx hb dX2_addDifferent_0 (by decide) ?_
  refine lv_istore_n (lv' := [(2, .int 0), (0, .ref q_pr), (1, .int x1)]) hx hb dX2_addDifferent_1 rfl hl (by decide) rfl (fun ls hl => ?_)
  refine lv_iconst (v := 0) hx hb dX2_addDifferent_2 (by decide) ?_
  refine lv_istore_n (lv' := [(3, .int 0), (2, .int 0), (0, .ref q_pr), (1, .int x1)]) hx hb dX2_addDifferent_3 rfl hl (by decide) rfl (fun ls hl => ?_)
  exact k_4 n _ _ _ _ _ _ _ ls hf (hP.sub [0, 1, 2] rfl) (hD.sub [0, 1, 2] (by decide) rfl) hS (lv_sub hl [2, 3, 1, 0] rfl)
set_option maxHeartbeats 4000000 in
set_option maxRecDepth 100000 in
theorem c_X2_study (l : Launch) (D : va_G) (cI : ClassId) (q_co q_co_a q_pr q_ru q_ru_a q_di q_di_a : Nat) (n : Nat) (x1 : Int32) (x2 : Int32) (co_a : (Nat → Int32)) (pr_firstRow : Int32) (pr_many : Int32) (pr_runCount : Int32) (pr_differentCount : Int32) (pr_least : Int32) (pr_indexWidth : Int32) (pr_frameWidth : Int32) (pr_deltaWidth : Int32) (ru_a : (Nat → Int32)) (di_a : (Nat → Int32)) (res : Int32 × Int32 × Int32 × Int32 × Int32 × Int32 × Int32 × Int32 × (Nat → Int32) × (Nat → Int32)) (hf : f_X2_study n x1 x2 co_a pr_firstRow pr_many pr_runCount pr_differentCount pr_least pr_indexWidth pr_frameWidth pr_deltaWidth ru_a di_a = some res) : fr_Cv l yX2_study wsX2_study ({ frames := 2, cells := 0, slots := 0, locals := 45 }) D [(cI, .int)] [.ref q_pr, .int x1, .int x2] [(q_co, .inr (3, [.ref q_co_a])), (q_co_a, .inl (cI, 96, .inl co_a)), (q_pr, .inr (2, [.ref q_co, .ref q_ru, .ref q_di, .int pr_firstRow, .int pr_many, .int pr_runCount, .int pr_differentCount, .int pr_least, .int pr_indexWidth, .int pr_frameWidth, .int pr_deltaWidth])), (q_ru, .inr (3, [.ref q_ru_a])), (q_ru_a, .inl (cI, 32, .inl ru_a)), (q_di, .inr (3, [.ref q_di_a])), (q_di_a, .inl (cI, 32, .inl di_a))] [(q_co, .inr (3, [.ref q_co_a])), (q_co_a, .inl (cI, 96, .inl co_a)), (q_pr, .inr (2, [.ref q_co, .ref q_ru, .ref q_di, .int res.1, .int res.2.1, .int res.2.2.1, .int res.2.2.2.1, .int res.2.2.2.2.1, .int res.2.2.2.2.2.1, .int res.2.2.2.2.2.2.1, .int res.2.2.2.2.2.2.2.1])), (q_ru, .inr (3, [.ref q_ru_a])), (q_ru_a, .inl (cI, 32, .inl res.2.2.2.2.2.2.2.2.1)), (q_di, .inr (3, [.ref q_di_a])), (q_di_a, .inl (cI, 32, .inl res.2.2.2.2.2.2.2.2.2))] := by
  refine fr_open_v (cc := cX2_study) (maxL := 7) (by decide +kernel) rfl (Nat.le_of_ble_eq_true rfl) ?_
  intro p e s m below meth c A Q ls hx hb hml hown hts hA hK hP hD hS hl hret
  have hown : s.vm.findClass RX2 = some m.cls := hown
  have hl : lv_has ls 7 [(0, .ref q_pr), (1, .int x1), (2, .int x2)] := hl
  have hin2 : ∀ w ∈ u_ws RX2 TX2 11, w ∈ wsX2_study := fun _ h9 => List.mem_cons_of_mem _ (List.mem_append_left _ (List.mem_append_right _ h9))
  have k_28 : ∀ (n : Nat), (∀ (z1 : Int32) (z2 : Int32) (z3 : Int32) (z4 : Int32) (z5 : Int32) (pr_firstRow : Int32) (pr_many : Int32) (pr_runCount : Int32) (pr_differentCount : Int32) (pr_least : Int32) (pr_indexWidth : Int32) (pr_frameWidth : Int32) (pr_deltaWidth : Int32) (ru_a : (Nat → Int32)) (di_a : (Nat → Int32)) (H : Heap) (locs : List Loc) (ls : Array Slot), f_X2_study_28 n z1 z2 z3 z4 z5 co_a pr_firstRow pr_many pr_runCount pr_differentCount pr_least pr_indexWidth pr_frameWidth pr_deltaWidth ru_a di_a = some res → va_P D vwCl [(q_co, .inr (3, [.ref q_co_a])), (q_co_a, .inl (cI, 96, .inl co_a)), (q_pr, .inr (2, [.ref q_co, .ref q_ru, .ref q_di, .int pr_firstRow, .int pr_many, .int pr_runCount, .int pr_differentCount, .int pr_least, .int pr_indexWidth, .int pr_frameWidth, .int pr_deltaWidth])), (q_ru, .inr (3, [.ref q_ru_a])), (q_ru_a, .inl (cI, 32, .inl ru_a)), (q_di, .inr (3, [.ref q_di_a])), (q_di_a, .inl (cI, 32, .inl di_a))] H → va_D A [(q_co, .inr (3, [.ref q_co_a])), (q_co_a, .inl (cI, 96, .inl co_a)), (q_pr, .inr (2, [.ref q_co, .ref q_ru, .ref q_di, .int pr_firstRow, .int pr_many, .int pr_runCount, .int pr_differentCount, .int pr_least, .int pr_indexWidth, .int pr_frameWidth, .int pr_deltaWidth])), (q_ru, .inr (3, [.ref q_ru_a])), (q_ru_a, .inl (cI, 32, .inl ru_a)), (q_di, .inr (3, [.ref q_di_a])), (q_di_a, .inl (cI, 32, .inl di_a))] → va_S A s.heap H locs → lv_has ls 7 [(0, .ref q_pr), (1, .int z1), (2, .int z2), (3, .int z3), (4, .int z4), (5, .int z5)] → W p l e ({ frames := 2, cells := 0, slots := 0, locals := 45 }) s m ([.ref q_pr, .int x1, .int x2] : List Value).toArray below meth c H locs 0 0 Q (F0 m 28 ls [])) := by
    intro n
    induction n with
    | zero =>
      intro z1 z2 z3 z4 z5 pr_firstRow pr_many pr_runCount pr_differentCount pr_least pr_indexWidth pr_frameWidth pr_deltaWidth ru_a di_a H locs ls hf hP hD hS hl
      exact absurd (show (none : Option (Int32 × Int32 × Int32 × Int32 × Int32 × Int32 × Int32 × Int32 × (Nat → Int32) × (Nat → Int32))) = some res from hf) (by simp)
    | succ n ih =>
      intro z1 z2 z3 z4 z5 pr_firstRow pr_many pr_runCount pr_differentCount pr_least pr_indexWidth pr_frameWidth pr_deltaWidth ru_a di_a H locs ls hf hP hD hS hl
      have hf : f_X2_study_28_s (f_X2_study_28 n) n z1 z2 z3 z4 z5 co_a pr_firstRow pr_many pr_runCount pr_differentCount pr_least pr_indexWidth pr_frameWidth pr_deltaWidth ru_a di_a = some res := hf
      unfold f_X2_study_28_s at hf
      refine lv_iload hx hb dX2_study_28 (lv_at hl 5 rfl) ?_
      refine lv_iload_n hx hb dX2_study_30 rfl (lv_at hl 2 rfl) ?_
      refine lv_icmp_ge (tgt := 116) hx hb dX2_study_31 (by decide) (fun c24 => ?_) (fun c24 => ?_)
      · have hf := pr_pos hf c24
        refine lv_aload_n hx hb dX2_study_116 rfl (lv_at hl 0 rfl) ?_
        refine lv_aload_n hx hb dX2_study_117 rfl (lv_at hl 0 rfl) ?_
        refine va_get (D := D) (ci := 2) (v := .ref q_di) (C := RX2) (T := TX2) (N := 11) hx hb hts hin2 hown hK hP 2 rfl rfl 2 (by decide) (hts (.fieldLink RX2 23 "ColumnChooser$Profile" "different" "LColumnChooser$Row;") (List.mem_of_getElem? (i := 11) rfl)) (fun _ h9 => h9) rfl dX2_study_118 ?_
        refine lv_iconst (v := 0) hx hb dX2_study_121 (by decide) ?_
        obtain ⟨u25, hu25, hf⟩ := pr_bd hf
        refine fr_iV (As := [.int 0]) ⟨hx, hb, hml, hown, hts⟩ hK hP hD hS hA (c_X3_get l D cI q_di q_di_a 32 n 0 di_a u25 hu25) (cwV 1 hts gX2_study_X3_get rfl rfl rfl (by decide +kernel) ⟨Nat.le_of_ble_eq_true rfl, Nat.le_of_ble_eq_true rfl⟩) [(q_co, .inr (3, [.ref q_co_a])), (q_co_a, .inl (cI, 96, .inl co_a)), (q_pr, .inr (2, [.ref q_co, .ref q_ru, .ref q_di, .int pr_firstRow, .int pr_many, .int pr_runCount, .int pr_differentCount, .int pr_least, .int pr_indexWidth, .int pr_frameWidth, .int pr_deltaWidth])), (q_ru, .inr (3, [.ref q_ru_a])), (q_ru_a, .inl (cI, 32, .inl ru_a))] [5, 6] [0, 1, 2, 3, 4] rfl rfl (by decide) (by decide) (by decide) 0 rfl rfl rfl rfl hl.1 (Nat.le_of_ble_eq_true rfl) dX2_study_122 ⟨Nat.zero_le _, Nat.zero_le _⟩ rfl (fun H locs hP hD hS => ?_)
        have hP : va_P D vwCl [(q_co, .inr (3, [.ref q_co_a])), (q_co_a, .inl (cI, 96, .inl co_a)), (q_pr, .inr (2, [.ref q_co, .ref q_ru, .ref q_di, .int pr_firstRow, .int pr_many, .int pr_runCount, .int pr_differentCount, .int pr_least, .int pr_indexWidth, .int pr_frameWidth, .int pr_deltaWidth])), (q_ru, .inr (3, [.ref q_ru_a])), (q_ru_a, .inl (cI, 32, .inl ru_a)), (q_di, .inr (3, [.ref q_di_a])), (q_di_a, .inl (cI, 32, .inl di_a))] H := hP
        have hD : va_D A [(q_co, .inr (3, [.ref q_co_a])), (q_co_a, .inl (cI, 96, .inl co_a)), (q_pr, .inr (2, [.ref q_co, .ref q_ru, .ref q_di, .int pr_firstRow, .int pr_many, .int pr_runCount, .int pr_differentCount, .int pr_least, .int pr_indexWidth, .int pr_frameWidth, .int pr_deltaWidth])), (q_ru, .inr (3, [.ref q_ru_a])), (q_ru_a, .inl (cI, 32, .inl ru_a)), (q_di, .inr (3, [.ref q_di_a])), (q_di_a, .inl (cI, 32, .inl di_a))] := hD
        refine va_put (D := D) (ci := 2) (v := .int u25) (ty := .int) (C := RX2) (T := TX2) (N := 11) hx hb hts hin2 tyX2 tyX2_ok nmX2 hown hK hP hD hS 2 rfl rfl 7 (by decide) (hts (.fieldLink RX2 59 "ColumnChooser$Profile" "least" "I") (List.mem_of_getElem? (i := 12) rfl)) (fun _ h9 => h9) rfl (by decide +kernel) rfl rfl (Nat.le_of_ble_eq_true rfl) dX2_study_125 (fun H locs hP hD hS => ?_)
        have hP : va_P D vwCl [(q_co, .inr (3, [.ref q_co_a])), (q_co_a, .inl (cI, 96, .inl co_a)), (q_pr, .inr (2, [.ref q_co, .ref q_ru, .ref q_di, .int pr_firstRow, .int pr_many, .int pr_runCount, .int pr_differentCount, .int u25, .int pr_indexWidth, .int pr_frameWidth, .int pr_deltaWidth])), (q_ru, .inr (3, [.ref q_ru_a])), (q_ru_a, .inl (cI, 32, .inl ru_a)), (q_di, .inr (3, [.ref q_di_a])), (q_di_a, .inl (cI, 32, .inl di_a))] H := hP
        have hD : va_D A [(q_co, .inr (3, [.ref q_co_a])), (q_co_a, .inl (cI, 96, .inl co_a)), (q_pr, .inr (2, [.ref q_co, .ref q_ru, .ref q_di, .int pr_firstRow, .int pr_many, .int pr_runCount, .int pr_differentCount, .int u25, .int pr_indexWidth, .int pr_frameWidth, .int pr_deltaWidth])), (q_ru, .inr (3, [.ref q_ru_a])), (q_ru_a, .inl (cI, 32, .inl ru_a)), (q_di, .inr (3, [.ref q_di_a])), (q_di_a, .inl (cI, 32, .inl di_a))] := hD
        refine lv_aload_n hx hb dX2_study_128 rfl (lv_at hl 0 rfl) ?_
        refine lv_aload_n hx hb dX2_study_129 rfl (lv_at hl 0 rfl) ?_
        refine va_get (D := D) (ci := 2) (v := .int pr_differentCount) (C := RX2) (T := TX2) (N := 11) hx hb hts hin2 hown hK hP 2 rfl rfl 6 (by decide) (hts (.fieldLink RX2 36 "ColumnChooser$Profile" "differentCount" "I") (List.mem_of_getElem? (i := 4) rfl)) (fun _ h9 => h9) rfl dX2_study_130 ?_
        refine lv_iconst (v := 1) hx hb dX2_study_133 (by decide) ?_
        refine lv_isub hx hb dX2_study_134 ?_
        obtain ⟨u26, hu26, hf⟩ := pr_bd hf
        refine fr_iS (As := [.int (pr_differentCount - 1)]) ⟨hx, hb, hml, hown, hts⟩ hK hP hD hS hA (c_X2_widthOf l D cI n (pr_differentCount - 1) u26 hu26) (va_cwS 1 hts gX2_study_X2_widthOf rfl rfl rfl (by decide +kernel) ⟨Nat.le_of_ble_eq_true rfl, Nat.le_of_ble_eq_true rfl⟩) [(q_co, .inr (3, [.ref q_co_a])), (q_co_a, .inl (cI, 96, .inl co_a)), (q_pr, .inr (2, [.ref q_co, .ref q_ru, .ref q_di, .int pr_firstRow, .int pr_many, .int pr_runCount, .int pr_differentCount, .int u25, .int pr_indexWidth, .int pr_frameWidth, .int pr_deltaWidth])), (q_ru, .inr (3, [.ref q_ru_a])), (q_ru_a, .inl (cI, 32, .inl ru_a)), (q_di, .inr (3, [.ref q_di_a])), (q_di_a, .inl (cI, 32, .inl di_a))] [] [0, 1, 2, 3, 4, 5, 6] rfl rfl (by decide) (by decide) (by decide) rfl hl.1 (Nat.le_of_ble_eq_true rfl) dX2_study_135 ⟨Nat.zero_le _, Nat.zero_le _⟩ rfl (fun H locs hP hD hS => ?_)
        have hP : va_P D vwCl [(q_co, .inr (3, [.ref q_co_a])), (q_co_a, .inl (cI, 96, .inl co_a)), (q_pr, .inr (2, [.ref q_co, .ref q_ru, .ref q_di, .int pr_firstRow, .int pr_many, .int pr_runCount, .int pr_differentCount, .int u25, .int pr_indexWidth, .int pr_frameWidth, .int pr_deltaWidth])), (q_ru, .inr (3, [.ref q_ru_a])), (q_ru_a, .inl (cI, 32, .inl ru_a)), (q_di, .inr (3, [.ref q_di_a])), (q_di_a, .inl (cI, 32, .inl di_a))] H := hP
        have hD : va_D A [(q_co, .inr (3, [.ref q_co_a])), (q_co_a, .inl (cI, 96, .inl co_a)), (q_pr, .inr (2, [.ref q_co, .ref q_ru, .ref q_di, .int pr_firstRow, .int pr_many, .int pr_runCount, .int pr_differentCount, .int u25, .int pr_indexWidth, .int pr_frameWidth, .int pr_deltaWidth])), (q_ru, .inr (3, [.ref q_ru_a])), (q_ru_a, .inl (cI, 32, .inl ru_a)), (q_di, .inr (3, [.ref q_di_a])), (q_di_a, .inl (cI, 32, .inl di_a))] := hD
        refine va_put (D := D) (ci := 2) (v := .int u26) (ty := .int) (C := RX2) (T := TX2) (N := 11) hx hb hts hin2 tyX2 tyX2_ok nmX2 hown hK hP hD hS 2 rfl rfl 8 (by decide) (hts (.fieldLink RX2 65 "ColumnChooser$Profile" "indexWidth" "I") (List.mem_of_getElem? (i := 13) rfl)) (fun _ h9 => h9) rfl (by decide +kernel) rfl rfl (Nat.le_of_ble_eq_true rfl) dX2_study_138 (fun H locs hP hD hS => ?_)
        have hP : va_P D vwCl [(q_co, .inr (3, [.ref q_co_a])), (q_co_a, .inl (cI, 96, .inl co_a)), (q_pr, .inr (2, [.ref q_co, .ref q_ru, .ref q_di, .int pr_firstRow, .int pr_many, .int pr_runCount, .int pr_differentCount, .int u25, .int u26, .int pr_frameWidth, .int pr_deltaWidth])), (q_ru, .inr (3, [.ref q_ru_a])), (q_ru_a, .inl (cI, 32, .inl ru_a)), (q_di, .inr (3, [.ref q_di_a])), (q_di_a, .inl (cI, 32, .inl di_a))] H := hP
        have hD : va_D A [(q_co, .inr (3, [.ref q_co_a])), (q_co_a, .inl (cI, 96, .inl co_a)), (q_pr, .inr (2, [.ref q_co, .ref q_ru, .ref q_di, .int pr_firstRow, .int pr_many, .int pr_runCount, .int pr_differentCount, .int u25, .int u26, .int pr_frameWidth, .int pr_deltaWidth])), (q_ru, .inr (3, [.ref q_ru_a])), (q_ru_a, .inl (cI, 32, .inl ru_a)), (q_di, .inr (3, [.ref q_di_a])), (q_di_a, .inl (cI, 32, .inl di_a))] := hD
        refine lv_aload_n hx hb dX2_study_141 rfl (lv_at hl 0 rfl) ?_
        refine lv_aload_n hx hb dX2_study_142 rfl (lv_at hl 0 rfl) ?_
        refine va_get (D := D) (ci := 2) (v := .ref q_di) (C := RX2) (T := TX2) (N := 11) hx hb hts hin2 hown hK hP 2 rfl rfl 2 (by decide) (hts (.fieldLink RX2 23 "ColumnChooser$Profile" "different" "LColumnChooser$Row;") (List.mem_of_getElem? (i := 11) rfl)) (fun _ h9 => h9) rfl dX2_study_143 ?_
        refine lv_aload_n hx hb dX2_study_146 rfl (lv_at hl 0 rfl) ?_
        refine va_get (D := D) (ci := 2) (v := .int pr_differentCount) (C := RX2) (T := TX2) (N := 11) hx hb hts hin2 hown hK hP 2 rfl rfl 6 (by decide) (hts (.fieldLink RX2 36 "ColumnChooser$Profile" "differentCount" "I") (List.mem_of_getElem? (i := 4) rfl)) (fun _ h9 => h9) rfl dX2_study_147 ?_
        refine lv_iconst (v := 1) hx hb dX2_study_150 (by decide) ?_
        refine lv_isub hx hb dX2_study_151 ?_
        obtain ⟨u27, hu27, hf⟩ := pr_bd hf
        refine fr_iV (As := [.int (pr_differentCount - 1)]) ⟨hx, hb, hml, hown, hts⟩ hK hP hD hS hA (c_X3_get l D cI q_di q_di_a 32 n (pr_differentCount - 1) di_a u27 hu27) (cwV 1 hts gX2_study_X3_get rfl rfl rfl (by decide +kernel) ⟨Nat.le_of_ble_eq_true rfl, Nat.le_of_ble_eq_true rfl⟩) [(q_co, .inr (3, [.ref q_co_a])), (q_co_a, .inl (cI, 96, .inl co_a)), (q_pr, .inr (2, [.ref q_co, .ref q_ru, .ref q_di, .int pr_firstRow, .int pr_many, .int pr_runCount, .int pr_differentCount, .int u25, .int u26, .int pr_frameWidth, .int pr_deltaWidth])), (q_ru, .inr (3, [.ref q_ru_a])), (q_ru_a, .inl (cI, 32, .inl ru_a))] [5, 6] [0, 1, 2, 3, 4] rfl rfl (by decide) (by decide) (by decide) 0 rfl rfl rfl rfl hl.1 (Nat.le_of_ble_eq_true rfl) dX2_study_152 ⟨Nat.zero_le _, Nat.zero_le _⟩ rfl (fun H locs hP hD hS => ?_)
        have hP : va_P D vwCl [(q_co, .inr (3, [.ref q_co_a])), (q_co_a, .inl (cI, 96, .inl co_a)), (q_pr, .inr (2, [.ref q_co, .ref q_ru, .ref q_di, .int pr_firstRow, .int pr_many, .int pr_runCount, .int pr_differentCount, .int u25, .int u26, .int pr_frameWidth, .int pr_deltaWidth])), (q_ru, .inr (3, [.ref q_ru_a])), (q_ru_a, .inl (cI, 32, .inl ru_a)), (q_di, .inr (3, [.ref q_di_a])), (q_di_a, .inl (cI, 32, .inl di_a))] H := hP
        have hD : va_D A [(q_co, .inr (3, [.ref q_co_a])), (q_co_a, .inl (cI, 96, .inl co_a)), (q_pr, .inr (2, [.ref q_co, .ref q_ru, .ref q_di, .int pr_firstRow, .int pr_many, .int pr_runCount, .int pr_differentCount, .int u25, .int u26, .int pr_frameWidth, .int pr_deltaWidth])), (q_ru, .inr (3, [.ref q_ru_a])), (q_ru_a, .inl (cI, 32, .inl ru_a)), (q_di, .inr (3, [.ref q_di_a])), (q_di_a, .inl (cI, 32, .inl di_a))] := hD
        refine lv_aload_n hx hb dX2_study_155 rfl (lv_at hl 0 rfl) ?_
        refine va_get (D := D) (ci := 2) (v := .int u25) (C := RX2) (T := TX2) (N := 11) hx hb hts hin2 hown hK hP 2 rfl rfl 7 (by decide) (hts (.fieldLink RX2 59 "ColumnChooser$Profile" "least" "I") (List.mem_of_getElem? (i := 12) rfl)) (fun _ h9 => h9) rfl dX2_study_156 ?_
        refine lv_isub hx hb dX2_study_159 ?_
        obtain ⟨u28, hu28, hf⟩ := pr_bd hf
        refine fr_iS (As := [.int (u27 - u25)]) ⟨hx, hb, hml, hown, hts⟩ hK hP hD hS hA (c_X2_widthOf l D cI n (u27 - u25) u28 hu28) (va_cwS 1 hts gX2_study_X2_widthOf rfl rfl rfl (by decide +kernel) ⟨Nat.le_of_ble_eq_true rfl, Nat.le_of_ble_eq_true rfl⟩) [(q_co, .inr (3, [.ref q_co_a])), (q_co_a, .inl (cI, 96, .inl co_a)), (q_pr, .inr (2, [.ref q_co, .ref q_ru, .ref q_di, .int pr_firstRow, .int pr_many, .int pr_runCount, .int pr_differentCount, .int u25, .int u26, .int pr_frameWidth, .int pr_deltaWidth])), (q_ru, .inr (3, [.ref q_ru_a])), (q_ru_a, .inl (cI, 32, .inl ru_a)), (q_di, .inr (3, [.ref q_di_a])), (q_di_a, .inl (cI, 32, .inl di_a))] [] [0, 1, 2, 3, 4, 5, 6] rfl rfl (by decide) (by decide) (by decide) rfl hl.1 (Nat.le_of_ble_eq_true rfl) dX2_study_160 ⟨Nat.zero_le _, Nat.zero_le _⟩ rfl (fun H locs hP hD hS => ?_)
        have hP : va_P D vwCl [(q_co, .inr (3, [.ref q_co_a])), (q_co_a, .inl (cI, 96, .inl co_a)), (q_pr, .inr (2, [.ref q_co, .ref q_ru, .ref q_di, .int pr_firstRow, .int pr_many, .int pr_runCount, .int pr_differentCount, .int u25, .int u26, .int pr_frameWidth, .int pr_deltaWidth])), (q_ru, .inr (3, [.ref q_ru_a])), (q_ru_a, .inl (cI, 32, .inl ru_a)), (q_di, .inr (3, [.ref q_di_a])), (q_di_a, .inl (cI, 32, .inl di_a))] H := hP
        have hD : va_D A [(q_co, .inr (3, [.ref q_co_a])), (q_co_a, .inl (cI, 96, .inl co_a)), (q_pr, .inr (2, [.ref q_co, .ref q_ru, .ref q_di, .int pr_firstRow, .int pr_many, .int pr_runCount, .int pr_differentCount, .int u25, .int u26, .int pr_frameWidth, .int pr_deltaWidth])), (q_ru, .inr (3, [.ref q_ru_a])), (q_ru_a, .inl (cI, 32, .inl ru_a)), (q_di, .inr (3, [.ref q_di_a])), (q_di_a, .inl (cI, 32, .inl di_a))] := hD
        refine va_put (D := D) (ci := 2) (v := .int u28) (ty := .int) (C := RX2) (T := TX2) (N := 11) hx hb hts hin2 tyX2 tyX2_ok nmX2 hown hK hP hD hS 2 rfl rfl 9 (by decide) (hts (.fieldLink RX2 68 "ColumnChooser$Profile" "frameWidth" "I") (List.mem_of_getElem? (i := 14) rfl)) (fun _ h9 => h9) rfl (by decide +kernel) rfl rfl (Nat.le_of_ble_eq_true rfl) dX2_study_163 (fun H locs hP hD hS => ?_)
        have hP : va_P D vwCl [(q_co, .inr (3, [.ref q_co_a])), (q_co_a, .inl (cI, 96, .inl co_a)), (q_pr, .inr (2, [.ref q_co, .ref q_ru, .ref q_di, .int pr_firstRow, .int pr_many, .int pr_runCount, .int pr_differentCount, .int u25, .int u26, .int u28, .int pr_deltaWidth])), (q_ru, .inr (3, [.ref q_ru_a])), (q_ru_a, .inl (cI, 32, .inl ru_a)), (q_di, .inr (3, [.ref q_di_a])), (q_di_a, .inl (cI, 32, .inl di_a))] H := hP
        have hD : va_D A [(q_co, .inr (3, [.ref q_co_a])), (q_co_a, .inl (cI, 96, .inl co_a)), (q_pr, .inr (2, [.ref q_co, .ref q_ru, .ref q_di, .int pr_firstRow, .int pr_many, .int pr_runCount, .int pr_differentCount, .int u25, .int u26, .int u28, .int pr_deltaWidth])), (q_ru, .inr (3, [.ref q_ru_a])), (q_ru_a, .inl (cI, 32, .inl ru_a)), (q_di, .inr (3, [.ref q_di_a])), (q_di_a, .inl (cI, 32, .inl di_a))] := hD
        refine lv_aload_n hx hb dX2_study_166 rfl (lv_at hl 0 rfl) ?_
        refine lv_iload_n hx hb dX2_study_167 rfl (lv_at hl 3 rfl) ?_
        obtain ⟨u29, hu29, hf⟩ := pr_bd hf
        refine fr_iS (As := [.int z3]) ⟨hx, hb, hml, hown, hts⟩ hK hP hD hS hA (c_X2_widthOf l D cI n z3 u29 hu29) (va_cwS 1 hts gX2_study_X2_widthOf rfl rfl rfl (by decide +kernel) ⟨Nat.le_of_ble_eq_true rfl, Nat.le_of_ble_eq_true rfl⟩) [(q_co, .inr (3, [.ref q_co_a])), (q_co_a, .inl (cI, 96, .inl co_a)), (q_pr, .inr (2, [.ref q_co, .ref q_ru, .ref q_di, .int pr_firstRow, .int pr_many, .int pr_runCount, .int pr_differentCount, .int u25, .int u26, .int u28, .int pr_deltaWidth])), (q_ru, .inr (3, [.ref q_ru_a])), (q_ru_a, .inl (cI, 32, .inl ru_a)), (q_di, .inr (3, [.ref q_di_a])), (q_di_a, .inl (cI, 32, .inl di_a))] [] [0, 1, 2, 3, 4, 5, 6] rfl rfl (by decide) (by decide) (by decide) rfl hl.1 (Nat.le_of_ble_eq_true rfl) dX2_study_168 ⟨Nat.zero_le _, Nat.zero_le _⟩ rfl (fun H locs hP hD hS => ?_)
        have hP : va_P D vwCl [(q_co, .inr (3, [.ref q_co_a])), (q_co_a, .inl (cI, 96, .inl co_a)), (q_pr, .inr (2, [.ref q_co, .ref q_ru, .ref q_di, .int pr_firstRow, .int pr_many, .int pr_runCount, .int pr_differentCount, .int u25, .int u26, .int u28, .int pr_deltaWidth])), (q_ru, .inr (3, [.ref q_ru_a])), (q_ru_a, .inl (cI, 32, .inl ru_a)), (q_di, .inr (3, [.ref q_di_a])), (q_di_a, .inl (cI, 32, .inl di_a))] H := hP
        have hD : va_D A [(q_co, .inr (3, [.ref q_co_a])), (q_co_a, .inl (cI, 96, .inl co_a)), (q_pr, .inr (2, [.ref q_co, .ref q_ru, .ref q_di, .int pr_firstRow, .int pr_many, .int pr_runCount, .int pr_differentCount, .int u25, .int u26, .int u28, .int pr_deltaWidth])), (q_ru, .inr (3, [.ref q_ru_a])), (q_ru_a, .inl (cI, 32, .inl ru_a)), (q_di, .inr (3, [.ref q_di_a])), (q_di_a, .inl (cI, 32, .inl di_a))] := hD
        refine va_put (D := D) (ci := 2) (v := .int u29) (ty := .int) (C := RX2) (T := TX2) (N := 11) hx hb hts hin2 tyX2 tyX2_ok nmX2 hown hK hP hD hS 2 rfl rfl 10 (by decide) (hts (.fieldLink RX2 71 "ColumnChooser$Profile" "deltaWidth" "I") (List.mem_of_getElem? (i := 15) rfl)) (fun _ h9 => h9) rfl (by decide +kernel) rfl rfl (Nat.le_of_ble_eq_true rfl) dX2_study_171 (fun H locs hP hD hS => ?_)
        have hP : va_P D vwCl [(q_co, .inr (3, [.ref q_co_a])), (q_co_a, .inl (cI, 96, .inl co_a)), (q_pr, .inr (2, [.ref q_co, .ref q_ru, .ref q_di, .int pr_firstRow, .int pr_many, .int pr_runCount, .int pr_differentCount, .int u25, .int u26, .int u28, .int u29])), (q_ru, .inr (3, [.ref q_ru_a])), (q_ru_a, .inl (cI, 32, .inl ru_a)), (q_di, .inr (3, [.ref q_di_a])), (q_di_a, .inl (cI, 32, .inl di_a))] H := hP
        have hD : va_D A [(q_co, .inr (3, [.ref q_co_a])), (q_co_a, .inl (cI, 96, .inl co_a)), (q_pr, .inr (2, [.ref q_co, .ref q_ru, .ref q_di, .int pr_firstRow, .int pr_many, .int pr_runCount, .int pr_differentCount, .int u25, .int u26, .int u28, .int u29])), (q_ru, .inr (3, [.ref q_ru_a])), (q_ru_a, .inl (cI, 32, .inl ru_a)), (q_di, .inr (3, [.ref q_di_a])), (q_di_a, .inl (cI, 32, .inl di_a))] := hD
        obtain rfl := Option.some.inj hf
        exact hret _ _ _ _ dX2_study_174 (hP.sub [0, 1, 2, 3, 4, 5, 6] rfl) (hD.sub [0, 1, 2, 3, 4, 5, 6] (by decide) rfl) hS
      · have hf := pr_neg hf c24
        refine lv_aload_n hx hb dX2_study_34 rfl (lv_at hl 0 rfl) ?_
        refine va_get (D := D) (ci := 2) (v := .ref q_co) (C := RX2) (T := TX2) (N := 11) hx hb hts hin2 hown hK hP 2 rfl rfl 0 (by decide) (hts (.fieldLink RX2 9 "ColumnChooser$Profile" "column" "LColumnChooser$Row;") (List.mem_of_getElem? (i := 5) rfl)) (fun _ h9 => h9) rfl dX2_study_35 ?_
        refine lv_iload_n hx hb dX2_study_38 rfl (lv_at hl 1 rfl) ?_
        refine lv_iload hx hb dX2_study_39 (lv_at hl 5 rfl) ?_
        refine lv_iadd hx hb dX2_study_41 ?_
        obtain ⟨u30, hu30, hf⟩ := pr_bd hf
        refine fr_iV (As := [.int (z1 + z5)]) ⟨hx, hb, hml, hown, hts⟩ hK hP hD hS hA (c_X3_get l D cI q_co q_co_a 96 n (z1 + z5) co_a u30 hu30) (cwV 1 hts gX2_study_X3_get rfl rfl rfl (by decide +kernel) ⟨Nat.le_of_ble_eq_true rfl, Nat.le_of_ble_eq_true rfl⟩) [(q_pr, .inr (2, [.ref q_co, .ref q_ru, .ref q_di, .int pr_firstRow, .int pr_many, .int pr_runCount, .int pr_differentCount, .int pr_least, .int pr_indexWidth, .int pr_frameWidth, .int pr_deltaWidth])), (q_ru, .inr (3, [.ref q_ru_a])), (q_ru_a, .inl (cI, 32, .inl ru_a)), (q_di, .inr (3, [.ref q_di_a])), (q_di_a, .inl (cI, 32, .inl di_a))] [0, 1] [2, 3, 4, 5, 6] rfl rfl (by decide) (by decide) (by decide) 0 rfl rfl rfl rfl hl.1 (Nat.le_of_ble_eq_true rfl) dX2_study_42 ⟨Nat.zero_le _, Nat.zero_le _⟩ rfl (fun H locs hP hD hS => ?_)
        have hP : va_P D vwCl [(q_pr, .inr (2, [.ref q_co, .ref q_ru, .ref q_di, .int pr_firstRow, .int pr_many, .int pr_runCount, .int pr_differentCount, .int pr_least, .int pr_indexWidth, .int pr_frameWidth, .int pr_deltaWidth])), (q_ru, .inr (3, [.ref q_ru_a])), (q_ru_a, .inl (cI, 32, .inl ru_a)), (q_di, .inr (3, [.ref q_di_a])), (q_di_a, .inl (cI, 32, .inl di_a)), (q_co, .inr (3, [.ref q_co_a])), (q_co_a, .inl (cI, 96, .inl co_a))] H := hP
        have hD : va_D A [(q_pr, .inr (2, [.ref q_co, .ref q_ru, .ref q_di, .int pr_firstRow, .int pr_many, .int pr_runCount, .int pr_differentCount, .int pr_least, .int pr_indexWidth, .int pr_frameWidth, .int pr_deltaWidth])), (q_ru, .inr (3, [.ref q_ru_a])), (q_ru_a, .inl (cI, 32, .inl ru_a)), (q_di, .inr (3, [.ref q_di_a])), (q_di_a, .inl (cI, 32, .inl di_a)), (q_co, .inr (3, [.ref q_co_a])), (q_co_a, .inl (cI, 96, .inl co_a))] := hD
        refine lv_istore (lv' := [(6, .int u30), (0, .ref q_pr), (1, .int z1), (2, .int z2), (3, .int z3), (4, .int z4), (5, .int z5)]) hx hb dX2_study_45 hl (by decide) rfl (fun ls hl => ?_)
        refine lv_iload hx hb dX2_study_47 (lv_at hl 6 rfl) ?_
        refine lv_if_eq (tgt := 59) hx hb dX2_study_49 (by decide) (fun c31 => ?_) (fun c31 => ?_)
        · have hf := pr_pos hf c31
          refine lv_aload_n hx hb dX2_study_59 rfl (lv_at hl 1 rfl) ?_
          refine lv_dup hx hb dX2_study_60 rfl ?_
          refine va_get (D := D) (ci := 2) (v := .int pr_runCount) (C := RX2) (T := TX2) (N := 11) hx hb hts hin2 hown hK hP 0 rfl rfl 5 (by decide) (hts (.fieldLink RX2 33 "ColumnChooser$Profile" "runCount" "I") (List.mem_of_getElem? (i := 3) rfl)) (fun _ h9 => h9) rfl dX2_study_61 ?_
          refine lv_iconst (v := 1) hx hb dX2_study_64 (by decide) ?_
          refine lv_iadd hx hb dX2_study_65 ?_
          refine va_put (D := D) (ci := 2) (v := .int (pr_runCount + 1)) (ty := .int) (C := RX2) (T := TX2) (N := 11) hx hb hts hin2 tyX2 tyX2_ok nmX2 hown hK hP hD hS 0 rfl rfl 5 (by decide) (hts (.fieldLink RX2 33 "ColumnChooser$Profile" "runCount" "I") (List.mem_of_getElem? (i := 3) rfl)) (fun _ h9 => h9) rfl (by decide +kernel) rfl rfl (Nat.le_of_ble_eq_true rfl) dX2_study_66 (fun H locs hP hD hS => ?_)
          have hP : va_P D vwCl [(q_pr, .inr (2, [.ref q_co, .ref q_ru, .ref q_di, .int pr_firstRow, .int pr_many, .int (pr_runCount + 1), .int pr_differentCount, .int pr_least, .int pr_indexWidth, .int pr_frameWidth, .int pr_deltaWidth])), (q_ru, .inr (3, [.ref q_ru_a])), (q_ru_a, .inl (cI, 32, .inl ru_a)), (q_di, .inr (3, [.ref q_di_a])), (q_di_a, .inl (cI, 32, .inl di_a)), (q_co, .inr (3, [.ref q_co_a])), (q_co_a, .inl (cI, 96, .inl co_a))] H := hP
          have hD : va_D A [(q_pr, .inr (2, [.ref q_co, .ref q_ru, .ref q_di, .int pr_firstRow, .int pr_many, .int (pr_runCount + 1), .int pr_differentCount, .int pr_least, .int pr_indexWidth, .int pr_frameWidth, .int pr_deltaWidth])), (q_ru, .inr (3, [.ref q_ru_a])), (q_ru_a, .inl (cI, 32, .inl ru_a)), (q_di, .inr (3, [.ref q_di_a])), (q_di_a, .inl (cI, 32, .inl di_a)), (q_co, .inr (3, [.ref q_co_a])), (q_co_a, .inl (cI, 96, .inl co_a))] := hD
          refine lv_aload_n hx hb dX2_study_69 rfl (lv_at hl 1 rfl) ?_
          refine lv_iload hx hb dX2_study_70 (lv_at hl 0 rfl) ?_
          obtain ⟨u32, hu32, hf⟩ := pr_bd hf
          refine fr_vV (As := [.int u30]) ⟨hx, hb, hml, hown, hts⟩ hK hP hD hS hA (c_X2_addDifferent l D cI q_co q_pr q_ru q_di q_di_a n u30 pr_firstRow pr_many (pr_runCount + 1) pr_differentCount pr_least pr_indexWidth pr_frameWidth pr_deltaWidth di_a u32 hu32) (cwV 1 hts gX2_study_X2_addDifferent rfl rfl rfl (by decide +kernel) ⟨Nat.le_of_ble_eq_true rfl, Nat.le_of_ble_eq_true rfl⟩) [(q_ru, .inr (3, [.ref q_ru_a])), (q_ru_a, .inl (cI, 32, .inl ru_a)), (q_co, .inr (3, [.ref q_co_a])), (q_co_a, .inl (cI, 96, .inl co_a))] [0, 3, 4] [1, 2, 5, 6] rfl rfl (by decide) (by decide) (by decide) 0 rfl rfl rfl rfl hl.1 (Nat.le_of_ble_eq_true rfl) dX2_study_72 ⟨Nat.zero_le _, Nat.zero_le _⟩ rfl (fun H locs hP hD hS => ?_)
          have hP : va_P D vwCl [(q_ru, .inr (3, [.ref q_ru_a])), (q_ru_a, .inl (cI, 32, .inl ru_a)), (q_co, .inr (3, [.ref q_co_a])), (q_co_a, .inl (cI, 96, .inl co_a)), (q_pr, .inr (2, [.ref q_co, .ref q_ru, .ref q_di, .int pr_firstRow, .int pr_many, .int (pr_runCount + 1), .int u32.1, .int pr_least, .int pr_indexWidth, .int pr_frameWidth, .int pr_deltaWidth])), (q_di, .inr (3, [.ref q_di_a])), (q_di_a, .inl (cI, 32, .inl u32.2))] H := hP
          have hD : va_D A [(q_ru, .inr (3, [.ref q_ru_a])), (q_ru_a, .inl (cI, 32, .inl ru_a)), (q_co, .inr (3, [.ref q_co_a])), (q_co_a, .inl (cI, 96, .inl co_a)), (q_pr, .inr (2, [.ref q_co, .ref q_ru, .ref q_di, .int pr_firstRow, .int pr_many, .int (pr_runCount + 1), .int u32.1, .int pr_least, .int pr_indexWidth, .int pr_frameWidth, .int pr_deltaWidth])), (q_di, .inr (3, [.ref q_di_a])), (q_di_a, .inl (cI, 32, .inl u32.2))] := hD
          refine lv_iload hx hb dX2_study_75 (lv_at hl 6 rfl) ?_
          refine lv_if_le (tgt := 93) hx hb dX2_study_77 (by decide) (fun c33 => ?_) (fun c33 => ?_)
          · have hf := pr_pos hf c33
            refine lv_aload_n hx hb dX2_study_93 rfl (lv_at hl 1 rfl) ?_
            refine va_get (D := D) (ci := 2) (v := .ref q_ru) (C := RX2) (T := TX2) (N := 11) hx hb hts hin2 hown hK hP 4 rfl rfl 1 (by decide) (hts (.fieldLink RX2 20 "ColumnChooser$Profile" "runsUpTo" "LColumnChooser$Row;") (List.mem_of_getElem? (i := 10) rfl)) (fun _ h9 => h9) rfl dX2_study_94 ?_
            refine lv_iload hx hb dX2_study_97 (lv_at hl 6 rfl) ?_
            refine lv_aload_n hx hb dX2_study_99 rfl (lv_at hl 1 rfl) ?_
            refine va_get (D := D) (ci := 2) (v := .int (pr_runCount + 1)) (C := RX2) (T := TX2) (N := 11) hx hb hts hin2 hown hK hP 4 rfl rfl 5 (by decide) (hts (.fieldLink RX2 33 "ColumnChooser$Profile" "runCount" "I") (List.mem_of_getElem? (i := 3) rfl)) (fun _ h9 => h9) rfl dX2_study_100 ?_
            obtain ⟨u34, hu34, hf⟩ := pr_bd hf
            refine fr_vV (As := [.int z5, .int (pr_runCount + 1)]) ⟨hx, hb, hml, hown, hts⟩ hK hP hD hS hA (c_X3_put l D cI q_ru q_ru_a 32 n z5 (pr_runCount + 1) ru_a u34 hu34) (cwV 2 hts gX2_study_X3_put rfl rfl rfl (by decide +kernel) ⟨Nat.le_of_ble_eq_true rfl, Nat.le_of_ble_eq_true rfl⟩) [(q_co, .inr (3, [.ref q_co_a])), (q_co_a, .inl (cI, 96, .inl co_a)), (q_pr, .inr (2, [.ref q_co, .ref q_ru, .ref q_di, .int pr_firstRow, .int pr_many, .int (pr_runCount + 1), .int u32.1, .int pr_least, .int pr_indexWidth, .int pr_frameWidth, .int pr_deltaWidth])), (q_di, .inr (3, [.ref q_di_a])), (q_di_a, .inl (cI, 32, .inl u32.2))] [0, 1] [2, 3, 4, 5, 6] rfl rfl (by decide) (by decide) (by decide) 0 rfl rfl rfl rfl hl.1 (Nat.le_of_ble_eq_true rfl) dX2_study_103 ⟨Nat.zero_le _, Nat.zero_le _⟩ rfl (fun H locs hP hD hS => ?_)
            have hP : va_P D vwCl [(q_co, .inr (3, [.ref q_co_a])), (q_co_a, .inl (cI, 96, .inl co_a)), (q_pr, .inr (2, [.ref q_co, .ref q_ru, .ref q_di, .int pr_firstRow, .int pr_many, .int (pr_runCount + 1), .int u32.1, .int pr_least, .int pr_indexWidth, .int pr_frameWidth, .int pr_deltaWidth])), (q_di, .inr (3, [.ref q_di_a])), (q_di_a, .inl (cI, 32, .inl u32.2)), (q_ru, .inr (3, [.ref q_ru_a])), (q_ru_a, .inl (cI, 32, .inl u34))] H := hP
            have hD : va_D A [(q_co, .inr (3, [.ref q_co_a])), (q_co_a, .inl (cI, 96, .inl co_a)), (q_pr, .inr (2, [.ref q_co, .ref q_ru, .ref q_di, .int pr_firstRow, .int pr_many, .int (pr_runCount + 1), .int u32.1, .int pr_least, .int pr_indexWidth, .int pr_frameWidth, .int pr_deltaWidth])), (q_di, .inr (3, [.ref q_di_a])), (q_di_a, .inl (cI, 32, .inl u32.2)), (q_ru, .inr (3, [.ref q_ru_a])), (q_ru_a, .inl (cI, 32, .inl u34))] := hD
            refine lv_iload hx hb dX2_study_106 (lv_at hl 0 rfl) ?_
            refine lv_istore (lv' := [(4, .int u30), (6, .int u30), (0, .ref q_pr), (1, .int z1), (2, .int z2), (3, .int z3), (5, .int z5)]) hx hb dX2_study_108 hl (by decide) rfl (fun ls hl => ?_)
            refine lv_iinc (v := (z5 + 1)) (lv' := [(5, .int (z5 + 1)), (4, .int u30), (6, .int u30), (0, .ref q_pr), (1, .int z1), (2, .int z2), (3, .int z3)]) hx hb dX2_study_110 hl (k := 6) rfl rfl (by decide) rfl (fun ls hl => ?_)
            refine lv_goto (tgt := 28) hx hb dX2_study_113 (by decide) ?_
            exact ih _ _ _ _ _ _ _ _ _ _ _ _ _ _ _ _ _ ls hf (hP.sub [0, 1, 2, 5, 6, 3, 4] rfl) (hD.sub [0, 1, 2, 5, 6, 3, 4] (by decide) rfl) hS (lv_sub hl [3, 4, 5, 6, 1, 0] rfl)
          · have hf := pr_neg hf c33
            refine lv_iload_n hx hb dX2_study_80 rfl (lv_at hl 4 rfl) ?_
            refine lv_iload hx hb dX2_study_81 (lv_at hl 0 rfl) ?_
            refine lv_iload hx hb dX2_study_83 (lv_at hl 5 rfl) ?_
            refine lv_isub hx hb dX2_study_85 ?_
            obtain ⟨u35, hu35, hf⟩ := pr_bd hf
            refine fr_iS (As := [.int (u30 - z4)]) ⟨hx, hb, hml, hown, hts⟩ hK hP hD hS hA (c_X2_fold l D cI n (u30 - z4) u35 hu35) (va_cwS 1 hts gX2_study_X2_fold rfl rfl rfl (by decide +kernel) ⟨Nat.le_of_ble_eq_true rfl, Nat.le_of_ble_eq_true rfl⟩) [(q_ru, .inr (3, [.ref q_ru_a])), (q_ru_a, .inl (cI, 32, .inl ru_a)), (q_co, .inr (3, [.ref q_co_a])), (q_co_a, .inl (cI, 96, .inl co_a)), (q_pr, .inr (2, [.ref q_co, .ref q_ru, .ref q_di, .int pr_firstRow, .int pr_many, .int (pr_runCount + 1), .int u32.1, .int pr_least, .int pr_indexWidth, .int pr_frameWidth, .int pr_deltaWidth])), (q_di, .inr (3, [.ref q_di_a])), (q_di_a, .inl (cI, 32, .inl u32.2))] [] [0, 1, 2, 3, 4, 5, 6] rfl rfl (by decide) (by decide) (by decide) rfl hl.1 (Nat.le_of_ble_eq_true rfl) dX2_study_86 ⟨Nat.zero_le _, Nat.zero_le _⟩ rfl (fun H locs hP hD hS => ?_)
            have hP : va_P D vwCl [(q_ru, .inr (3, [.ref q_ru_a])), (q_ru_a, .inl (cI, 32, .inl ru_a)), (q_co, .inr (3, [.ref q_co_a])), (q_co_a, .inl (cI, 96, .inl co_a)), (q_pr, .inr (2, [.ref q_co, .ref q_ru, .ref q_di, .int pr_firstRow, .int pr_many, .int (pr_runCount + 1), .int u32.1, .int pr_least, .int pr_indexWidth, .int pr_frameWidth, .int pr_deltaWidth])), (q_di, .inr (3, [.ref q_di_a])), (q_di_a, .inl (cI, 32, .inl u32.2))] H := hP
            have hD : va_D A [(q_ru, .inr (3, [.ref q_ru_a])), (q_ru_a, .inl (cI, 32, .inl ru_a)), (q_co, .inr (3, [.ref q_co_a])), (q_co_a, .inl (cI, 96, .inl co_a)), (q_pr, .inr (2, [.ref q_co, .ref q_ru, .ref q_di, .int pr_firstRow, .int pr_many, .int (pr_runCount + 1), .int u32.1, .int pr_least, .int pr_indexWidth, .int pr_frameWidth, .int pr_deltaWidth])), (q_di, .inr (3, [.ref q_di_a])), (q_di_a, .inl (cI, 32, .inl u32.2))] := hD
            refine va_mmax hx hb (hml.trans hl.1.symm) hown (hts (.methodLink RX2 49 Lib.Math.max.name) (List.mem_of_getElem? (i := 6) rfl)) (hts (.static Lib.Math.max.name) (List.mem_of_getElem? (i := 7) rfl)) (hts (.initialized "java/lang/Math") (List.mem_of_getElem? (i := 8) rfl)) (hts (.code Lib.Math.max.name Lib.Math.max.code 2 (some .int)) (List.mem_of_getElem? (i := 9) rfl)) (Nat.le_of_ble_eq_true rfl) (Nat.le_of_ble_eq_true rfl) (Nat.zero_le _) (Nat.zero_le _) dX2_study_89 ?_
            refine lv_istore_n (lv' := [(3, .int (if z3 < u35 then u35 else z3)), (6, .int u30), (0, .ref q_pr), (1, .int z1), (2, .int z2), (4, .int z4), (5, .int z5)]) hx hb dX2_study_92 rfl hl (by decide) rfl (fun ls hl => ?_)
            refine lv_aload_n hx hb dX2_study_93 rfl (lv_at hl 2 rfl) ?_
            refine va_get (D := D) (ci := 2) (v := .ref q_ru) (C := RX2) (T := TX2) (N := 11) hx hb hts hin2 hown hK hP 4 rfl rfl 1 (by decide) (hts (.fieldLink RX2 20 "ColumnChooser$Profile" "runsUpTo" "LColumnChooser$Row;") (List.mem_of_getElem? (i := 10) rfl)) (fun _ h9 => h9) rfl dX2_study_94 ?_
            refine lv_iload hx hb dX2_study_97 (lv_at hl 6 rfl) ?_
            refine lv_aload_n hx hb dX2_study_99 rfl (lv_at hl 2 rfl) ?_
            refine va_get (D := D) (ci := 2) (v := .int (pr_runCount + 1)) (C := RX2) (T := TX2) (N := 11) hx hb hts hin2 hown hK hP 4 rfl rfl 5 (by decide) (hts (.fieldLink RX2 33 "ColumnChooser$Profile" "runCount" "I") (List.mem_of_getElem? (i := 3) rfl)) (fun _ h9 => h9) rfl dX2_study_100 ?_
            obtain ⟨u36, hu36, hf⟩ := pr_bd hf
            refine fr_vV (As := [.int z5, .int (pr_runCount + 1)]) ⟨hx, hb, hml, hown, hts⟩ hK hP hD hS hA (c_X3_put l D cI q_ru q_ru_a 32 n z5 (pr_runCount + 1) ru_a u36 hu36) (cwV 2 hts gX2_study_X3_put rfl rfl rfl (by decide +kernel) ⟨Nat.le_of_ble_eq_true rfl, Nat.le_of_ble_eq_true rfl⟩) [(q_co, .inr (3, [.ref q_co_a])), (q_co_a, .inl (cI, 96, .inl co_a)), (q_pr, .inr (2, [.ref q_co, .ref q_ru, .ref q_di, .int pr_firstRow, .int pr_many, .int (pr_runCount + 1), .int u32.1, .int pr_least, .int pr_indexWidth, .int pr_frameWidth, .int pr_deltaWidth])), (q_di, .inr (3, [.ref q_di_a])), (q_di_a, .inl (cI, 32, .inl u32.2))] [0, 1] [2, 3, 4, 5, 6] rfl rfl (by decide) (by decide) (by decide) 0 rfl rfl rfl rfl hl.1 (Nat.le_of_ble_eq_true rfl) dX2_study_103 ⟨Nat.zero_le _, Nat.zero_le _⟩ rfl (fun H locs hP hD hS => ?_)
            have hP : va_P D vwCl [(q_co, .inr (3, [.ref q_co_a])), (q_co_a, .inl (cI, 96, .inl co_a)), (q_pr, .inr (2, [.ref q_co, .ref q_ru, .ref q_di, .int pr_firstRow, .int pr_many, .int (pr_runCount + 1), .int u32.1, .int pr_least, .int pr_indexWidth, .int pr_frameWidth, .int pr_deltaWidth])), (q_di, .inr (3, [.ref q_di_a])), (q_di_a, .inl (cI, 32, .inl u32.2)), (q_ru, .inr (3, [.ref q_ru_a])), (q_ru_a, .inl (cI, 32, .inl u36))] H := hP
            have hD : va_D A [(q_co, .inr (3, [.ref q_co_a])), (q_co_a, .inl (cI, 96, .inl co_a)), (q_pr, .inr (2, [.ref q_co, .ref q_ru, .ref q_di, .int pr_firstRow, .int pr_many, .int (pr_runCount + 1), .int u32.1, .int pr_least, .int pr_indexWidth, .int pr_frameWidth, .int pr_deltaWidth])), (q_di, .inr (3, [.ref q_di_a])), (q_di_a, .inl (cI, 32, .inl u32.2)), (q_ru, .inr (3, [.ref q_ru_a])), (q_ru_a, .inl (cI, 32, .inl u36))] := hD
            refine lv_iload hx hb dX2_study_106 (lv_at hl 1 rfl) ?_
            refine lv_istore (lv' := [(4, .int u30), (3, .int (if z3 < u35 then u35 else z3)), (6, .int u30), (0, .ref q_pr), (1, .int z1), (2, .int z2), (5, .int z5)]) hx hb dX2_study_108 hl (by decide) rfl (fun ls hl => ?_)
            refine lv_iinc (v := (z5 + 1)) (lv' := [(5, .int (z5 + 1)), (4, .int u30), (3, .int (if z3 < u35 then u35 else z3)), (6, .int u30), (0, .ref q_pr), (1, .int z1), (2, .int z2)]) hx hb dX2_study_110 hl (k := 6) rfl rfl (by decide) rfl (fun ls hl => ?_)
            refine lv_goto (tgt := 28) hx hb dX2_study_113 (by decide) ?_
            exact ih _ _ _ _ _ _ _ _ _ _ _ _ _ _ _ _ _ ls hf (hP.sub [0, 1, 2, 5, 6, 3, 4] rfl) (hD.sub [0, 1, 2, 5, 6, 3, 4] (by decide) rfl) hS (lv_sub hl [4, 5, 6, 2, 1, 0] rfl)
        · have hf := pr_neg hf c31
          refine lv_iload hx hb dX2_study_52 (lv_at hl 0 rfl) ?_
          refine lv_iload hx hb dX2_study_54 (lv_at hl 5 rfl) ?_
          refine lv_icmp_eq (tgt := 75) hx hb dX2_study_56 (by decide) (fun c37 => ?_) (fun c37 => ?_)
          · have hf := pr_pos hf c37
            refine lv_iload hx hb dX2_study_75 (lv_at hl 6 rfl) ?_
            refine lv_if_le (tgt := 93) hx hb dX2_study_77 (by decide) (fun c38 => ?_) (fun c38 => ?_)
            · have hf := pr_pos hf c38
              refine lv_aload_n hx hb dX2_study_93 rfl (lv_at hl 1 rfl) ?_
              refine va_get (D := D) (ci := 2) (v := .ref q_ru) (C := RX2) (T := TX2) (N := 11) hx hb hts hin2 hown hK hP 0 rfl rfl 1 (by decide) (hts (.fieldLink RX2 20 "ColumnChooser$Profile" "runsUpTo" "LColumnChooser$Row;") (List.mem_of_getElem? (i := 10) rfl)) (fun _ h9 => h9) rfl dX2_study_94 ?_
              refine lv_iload hx hb dX2_study_97 (lv_at hl 6 rfl) ?_
              refine lv_aload_n hx hb dX2_study_99 rfl (lv_at hl 1 rfl) ?_
              refine va_get (D := D) (ci := 2) (v := .int pr_runCount) (C := RX2) (T := TX2) (N := 11) hx hb hts hin2 hown hK hP 0 rfl rfl 5 (by decide) (hts (.fieldLink RX2 33 "ColumnChooser$Profile" "runCount" "I") (List.mem_of_getElem? (i := 3) rfl)) (fun _ h9 => h9) rfl dX2_study_100 ?_
              obtain ⟨u39, hu39, hf⟩ := pr_bd hf
              refine fr_vV (As := [.int z5, .int pr_runCount]) ⟨hx, hb, hml, hown, hts⟩ hK hP hD hS hA (c_X3_put l D cI q_ru q_ru_a 32 n z5 pr_runCount ru_a u39 hu39) (cwV 2 hts gX2_study_X3_put rfl rfl rfl (by decide +kernel) ⟨Nat.le_of_ble_eq_true rfl, Nat.le_of_ble_eq_true rfl⟩) [(q_pr, .inr (2, [.ref q_co, .ref q_ru, .ref q_di, .int pr_firstRow, .int pr_many, .int pr_runCount, .int pr_differentCount, .int pr_least, .int pr_indexWidth, .int pr_frameWidth, .int pr_deltaWidth])), (q_di, .inr (3, [.ref q_di_a])), (q_di_a, .inl (cI, 32, .inl di_a)), (q_co, .inr (3, [.ref q_co_a])), (q_co_a, .inl (cI, 96, .inl co_a))] [1, 2] [0, 3, 4, 5, 6] rfl rfl (by decide) (by decide) (by decide) 0 rfl rfl rfl rfl hl.1 (Nat.le_of_ble_eq_true rfl) dX2_study_103 ⟨Nat.zero_le _, Nat.zero_le _⟩ rfl (fun H locs hP hD hS => ?_)
              have hP : va_P D vwCl [(q_pr, .inr (2, [.ref q_co, .ref q_ru, .ref q_di, .int pr_firstRow, .int pr_many, .int pr_runCount, .int pr_differentCount, .int pr_least, .int pr_indexWidth, .int pr_frameWidth, .int pr_deltaWidth])), (q_di, .inr (3, [.ref q_di_a])), (q_di_a, .inl (cI, 32, .inl di_a)), (q_co, .inr (3, [.ref q_co_a])), (q_co_a, .inl (cI, 96, .inl co_a)), (q_ru, .inr (3, [.ref q_ru_a])), (q_ru_a, .inl (cI, 32, .inl u39))] H := hP
              have hD : va_D A [(q_pr, .inr (2, [.ref q_co, .ref q_ru, .ref q_di, .int pr_firstRow, .int pr_many, .int pr_runCount, .int pr_differentCount, .int pr_least, .int pr_indexWidth, .int pr_frameWidth, .int pr_deltaWidth])), (q_di, .inr (3, [.ref q_di_a])), (q_di_a, .inl (cI, 32, .inl di_a)), (q_co, .inr (3, [.ref q_co_a])), (q_co_a, .inl (cI, 96, .inl co_a)), (q_ru, .inr (3, [.ref q_ru_a])), (q_ru_a, .inl (cI, 32, .inl u39))] := hD
              refine lv_iload hx hb dX2_study_106 (lv_at hl 0 rfl) ?_
              refine lv_istore (lv' := [(4, .int u30), (6, .int u30), (0, .ref q_pr), (1, .int z1), (2, .int z2), (3, .int z3), (5, .int z5)]) hx hb dX2_study_108 hl (by decide) rfl (fun ls hl => ?_)
              refine lv_iinc (v := (z5 + 1)) (lv' := [(5, .int (z5 + 1)), (4, .int u30), (6, .int u30), (0, .ref q_pr), (1, .int z1), (2, .int z2), (3, .int z3)]) hx hb dX2_study_110 hl (k := 6) rfl rfl (by decide) rfl (fun ls hl => ?_)
              refine lv_goto (tgt := 28) hx hb dX2_study_113 (by decide) ?_
              exact ih _ _ _ _ _ _ _ _ _ _ _ _ _ _ _ _ _ ls hf (hP.sub [3, 4, 0, 5, 6, 1, 2] rfl) (hD.sub [3, 4, 0, 5, 6, 1, 2] (by decide) rfl) hS (lv_sub hl [3, 4, 5, 6, 1, 0] rfl)
            · have hf := pr_neg hf c38
              refine lv_iload_n hx hb dX2_study_80 rfl (lv_at hl 4 rfl) ?_
              refine lv_iload hx hb dX2_study_81 (lv_at hl 0 rfl) ?_
              refine lv_iload hx hb dX2_study_83 (lv_at hl 5 rfl) ?_
              refine lv_isub hx hb dX2_study_85 ?_
              obtain ⟨u40, hu40, hf⟩ := pr_bd hf
              refine fr_iS (As := [.int (u30 - z4)]) ⟨hx, hb, hml, hown, hts⟩ hK hP hD hS hA (c_X2_fold l D cI n (u30 - z4) u40 hu40) (va_cwS 1 hts gX2_study_X2_fold rfl rfl rfl (by decide +kernel) ⟨Nat.le_of_ble_eq_true rfl, Nat.le_of_ble_eq_true rfl⟩) [(q_pr, .inr (2, [.ref q_co, .ref q_ru, .ref q_di, .int pr_firstRow, .int pr_many, .int pr_runCount, .int pr_differentCount, .int pr_least, .int pr_indexWidth, .int pr_frameWidth, .int pr_deltaWidth])), (q_ru, .inr (3, [.ref q_ru_a])), (q_ru_a, .inl (cI, 32, .inl ru_a)), (q_di, .inr (3, [.ref q_di_a])), (q_di_a, .inl (cI, 32, .inl di_a)), (q_co, .inr (3, [.ref q_co_a])), (q_co_a, .inl (cI, 96, .inl co_a))] [] [0, 1, 2, 3, 4, 5, 6] rfl rfl (by decide) (by decide) (by decide) rfl hl.1 (Nat.le_of_ble_eq_true rfl) dX2_study_86 ⟨Nat.zero_le _, Nat.zero_le _⟩ rfl (fun H locs hP hD hS => ?_)
              have hP : va_P D vwCl [(q_pr, .inr (2, [.ref q_co, .ref q_ru, .ref q_di, .int pr_firstRow, .int pr_many, .int pr_runCount, .int pr_differentCount, .int pr_least, .int pr_indexWidth, .int pr_frameWidth, .int pr_deltaWidth])), (q_ru, .inr (3, [.ref q_ru_a])), (q_ru_a, .inl (cI, 32, .inl ru_a)), (q_di, .inr (3, [.ref q_di_a])), (q_di_a, .inl (cI, 32, .inl di_a)), (q_co, .inr (3, [.ref q_co_a])), (q_co_a, .inl (cI, 96, .inl co_a))] H := hP
              have hD : va_D A [(q_pr, .inr (2, [.ref q_co, .ref q_ru, .ref q_di, .int pr_firstRow, .int pr_many, .int pr_runCount, .int pr_differentCount, .int pr_least, .int pr_indexWidth, .int pr_frameWidth, .int pr_deltaWidth])), (q_ru, .inr (3, [.ref q_ru_a])), (q_ru_a, .inl (cI, 32, .inl ru_a)), (q_di, .inr (3, [.ref q_di_a])), (q_di_a, .inl (cI, 32, .inl di_a)), (q_co, .inr (3, [.ref q_co_a])), (q_co_a, .inl (cI, 96, .inl co_a))] := hD
              refine va_mmax hx hb (hml.trans hl.1.symm) hown (hts (.methodLink RX2 49 Lib.Math.max.name) (List.mem_of_getElem? (i := 6) rfl)) (hts (.static Lib.Math.max.name) (List.mem_of_getElem? (i := 7) rfl)) (hts (.initialized "java/lang/Math") (List.mem_of_getElem? (i := 8) rfl)) (hts (.code Lib.Math.max.name Lib.Math.max.code 2 (some .int)) (List.mem_of_getElem? (i := 9) rfl)) (Nat.le_of_ble_eq_true rfl) (Nat.le_of_ble_eq_true rfl) (Nat.zero_le _) (Nat.zero_le _) dX2_study_89 ?_
              refine lv_istore_n (lv' := [(3, .int (if z3 < u40 then u40 else z3)), (6, .int u30), (0, .ref q_pr), (1, .int z1), (2, .int z2), (4, .int z4), (5, .int z5)]) hx hb dX2_study_92 rfl hl (by decide) rfl (fun ls hl => ?_)
              refine lv_aload_n hx hb dX2_study_93 rfl (lv_at hl 2 rfl) ?_
              refine va_get (D := D) (ci := 2) (v := .ref q_ru) (C := RX2) (T := TX2) (N := 11) hx hb hts hin2 hown hK hP 0 rfl rfl 1 (by decide) (hts (.fieldLink RX2 20 "ColumnChooser$Profile" "runsUpTo" "LColumnChooser$Row;") (List.mem_of_getElem? (i := 10) rfl)) (fun _ h9 => h9) rfl dX2_study_94 ?_
              refine lv_iload hx hb dX2_study_97 (lv_at hl 6 rfl) ?_
              refine lv_aload_n hx hb dX2_study_99 rfl (lv_at hl 2 rfl) ?_
              refine va_get (D := D) (ci := 2) (v := .int pr_runCount) (C := RX2) (T := TX2) (N := 11) hx hb hts hin2 hown hK hP 0 rfl rfl 5 (by decide) (hts (.fieldLink RX2 33 "ColumnChooser$Profile" "runCount" "I") (List.mem_of_getElem? (i := 3) rfl)) (fun _ h9 => h9) rfl dX2_study_100 ?_
              obtain ⟨u41, hu41, hf⟩ := pr_bd hf
              refine fr_vV (As := [.int z5, .int pr_runCount]) ⟨hx, hb, hml, hown, hts⟩ hK hP hD hS hA (c_X3_put l D cI q_ru q_ru_a 32 n z5 pr_runCount ru_a u41 hu41) (cwV 2 hts gX2_study_X3_put rfl rfl rfl (by decide +kernel) ⟨Nat.le_of_ble_eq_true rfl, Nat.le_of_ble_eq_true rfl⟩) [(q_pr, .inr (2, [.ref q_co, .ref q_ru, .ref q_di, .int pr_firstRow, .int pr_many, .int pr_runCount, .int pr_differentCount, .int pr_least, .int pr_indexWidth, .int pr_frameWidth, .int pr_deltaWidth])), (q_di, .inr (3, [.ref q_di_a])), (q_di_a, .inl (cI, 32, .inl di_a)), (q_co, .inr (3, [.ref q_co_a])), (q_co_a, .inl (cI, 96, .inl co_a))] [1, 2] [0, 3, 4, 5, 6] rfl rfl (by decide) (by decide) (by decide) 0 rfl rfl rfl rfl hl.1 (Nat.le_of_ble_eq_true rfl) dX2_study_103 ⟨Nat.zero_le _, Nat.zero_le _⟩ rfl (fun H locs hP hD hS => ?_)
              have hP : va_P D vwCl [(q_pr, .inr (2, [.ref q_co, .ref q_ru, .ref q_di, .int pr_firstRow, .int pr_many, .int pr_runCount, .int pr_differentCount, .int pr_least, .int pr_indexWidth, .int pr_frameWidth, .int pr_deltaWidth])), (q_di, .inr (3, [.ref q_di_a])), (q_di_a, .inl (cI, 32, .inl di_a)), (q_co, .inr (3, [.ref q_co_a])), (q_co_a, .inl (cI, 96, .inl co_a)), (q_ru, .inr (3, [.ref q_ru_a])), (q_ru_a, .inl (cI, 32, .inl u41))] H := hP
              have hD : va_D A [(q_pr, .inr (2, [.ref q_co, .ref q_ru, .ref q_di, .int pr_firstRow, .int pr_many, .int pr_runCount, .int pr_differentCount, .int pr_least, .int pr_indexWidth, .int pr_frameWidth, .int pr_deltaWidth])), (q_di, .inr (3, [.ref q_di_a])), (q_di_a, .inl (cI, 32, .inl di_a)), (q_co, .inr (3, [.ref q_co_a])), (q_co_a, .inl (cI, 96, .inl co_a)), (q_ru, .inr (3, [.ref q_ru_a])), (q_ru_a, .inl (cI, 32, .inl u41))] := hD
              refine lv_iload hx hb dX2_study_106 (lv_at hl 1 rfl) ?_
              refine lv_istore (lv' := [(4, .int u30), (3, .int (if z3 < u40 then u40 else z3)), (6, .int u30), (0, .ref q_pr), (1, .int z1), (2, .int z2), (5, .int z5)]) hx hb dX2_study_108 hl (by decide) rfl (fun ls hl => ?_)
              refine lv_iinc (v := (z5 + 1)) (lv' := [(5, .int (z5 + 1)), (4, .int u30), (3, .int (if z3 < u40 then u40 else z3)), (6, .int u30), (0, .ref q_pr), (1, .int z1), (2, .int z2)]) hx hb dX2_study_110 hl (k := 6) rfl rfl (by decide) rfl (fun ls hl => ?_)
              refine lv_goto (tgt := 28) hx hb dX2_study_113 (by decide) ?_
              exact ih _ _ _ _ _ _ _ _ _ _ _ _ _ _ _ _ _ ls hf (hP.sub [3, 4, 0, 5, 6, 1, 2] rfl) (hD.sub [3, 4, 0, 5, 6, 1, 2] (by decide) rfl) hS (lv_sub hl [4, 5, 6, 2, 1, 0] rfl)
          · have hf := pr_neg hf c37
            refine lv_aload_n hx hb dX2_study_59 rfl (lv_at hl 1 rfl) ?_
            refine lv_dup hx hb dX2_study_60 rfl ?_
            refine va_get (D := D) (ci := 2) (v := .int pr_runCount) (C := RX2) (T := TX2) (N := 11) hx hb hts hin2 hown hK hP 0 rfl rfl 5 (by decide) (hts (.fieldLink RX2 33 "ColumnChooser$Profile" "runCount" "I") (List.mem_of_getElem? (i := 3) rfl)) (fun _ h9 => h9) rfl dX2_study_61 ?_
            refine lv_iconst (v := 1) hx hb dX2_study_64 (by decide) ?_
            refine lv_iadd hx hb dX2_study_65 ?_
            refine va_put (D := D) (ci := 2) (v := .int (pr_runCount + 1)) (ty := .int) (C := RX2) (T := TX2) (N := 11) hx hb hts hin2 tyX2 tyX2_ok nmX2 hown hK hP hD hS 0 rfl rfl 5 (by decide) (hts (.fieldLink RX2 33 "ColumnChooser$Profile" "runCount" "I") (List.mem_of_getElem? (i := 3) rfl)) (fun _ h9 => h9) rfl (by decide +kernel) rfl rfl (Nat.le_of_ble_eq_true rfl) dX2_study_66 (fun H locs hP hD hS => ?_)
            have hP : va_P D vwCl [(q_pr, .inr (2, [.ref q_co, .ref q_ru, .ref q_di, .int pr_firstRow, .int pr_many, .int (pr_runCount + 1), .int pr_differentCount, .int pr_least, .int pr_indexWidth, .int pr_frameWidth, .int pr_deltaWidth])), (q_ru, .inr (3, [.ref q_ru_a])), (q_ru_a, .inl (cI, 32, .inl ru_a)), (q_di, .inr (3, [.ref q_di_a])), (q_di_a, .inl (cI, 32, .inl di_a)), (q_co, .inr (3, [.ref q_co_a])), (q_co_a, .inl (cI, 96, .inl co_a))] H := hP
            have hD : va_D A [(q_pr, .inr (2, [.ref q_co, .ref q_ru, .ref q_di, .int pr_firstRow, .int pr_many, .int (pr_runCount + 1), .int pr_differentCount, .int pr_least, .int pr_indexWidth, .int pr_frameWidth, .int pr_deltaWidth])), (q_ru, .inr (3, [.ref q_ru_a])), (q_ru_a, .inl (cI, 32, .inl ru_a)), (q_di, .inr (3, [.ref q_di_a])), (q_di_a, .inl (cI, 32, .inl di_a)), (q_co, .inr (3, [.ref q_co_a])), (q_co_a, .inl (cI, 96, .inl co_a))] := hD
            refine lv_aload_n hx hb dX2_study_69 rfl (lv_at hl 1 rfl) ?_
            refine lv_iload hx hb dX2_study_70 (lv_at hl 0 rfl) ?_
            obtain ⟨u42, hu42, hf⟩ := pr_bd hf
            refine fr_vV (As := [.int u30]) ⟨hx, hb, hml, hown, hts⟩ hK hP hD hS hA (c_X2_addDifferent l D cI q_co q_pr q_ru q_di q_di_a n u30 pr_firstRow pr_many (pr_runCount + 1) pr_differentCount pr_least pr_indexWidth pr_frameWidth pr_deltaWidth di_a u42 hu42) (cwV 1 hts gX2_study_X2_addDifferent rfl rfl rfl (by decide +kernel) ⟨Nat.le_of_ble_eq_true rfl, Nat.le_of_ble_eq_true rfl⟩) [(q_ru, .inr (3, [.ref q_ru_a])), (q_ru_a, .inl (cI, 32, .inl ru_a)), (q_co, .inr (3, [.ref q_co_a])), (q_co_a, .inl (cI, 96, .inl co_a))] [0, 3, 4] [1, 2, 5, 6] rfl rfl (by decide) (by decide) (by decide) 0 rfl rfl rfl rfl hl.1 (Nat.le_of_ble_eq_true rfl) dX2_study_72 ⟨Nat.zero_le _, Nat.zero_le _⟩ rfl (fun H locs hP hD hS => ?_)
            have hP : va_P D vwCl [(q_ru, .inr (3, [.ref q_ru_a])), (q_ru_a, .inl (cI, 32, .inl ru_a)), (q_co, .inr (3, [.ref q_co_a])), (q_co_a, .inl (cI, 96, .inl co_a)), (q_pr, .inr (2, [.ref q_co, .ref q_ru, .ref q_di, .int pr_firstRow, .int pr_many, .int (pr_runCount + 1), .int u42.1, .int pr_least, .int pr_indexWidth, .int pr_frameWidth, .int pr_deltaWidth])), (q_di, .inr (3, [.ref q_di_a])), (q_di_a, .inl (cI, 32, .inl u42.2))] H := hP
            have hD : va_D A [(q_ru, .inr (3, [.ref q_ru_a])), (q_ru_a, .inl (cI, 32, .inl ru_a)), (q_co, .inr (3, [.ref q_co_a])), (q_co_a, .inl (cI, 96, .inl co_a)), (q_pr, .inr (2, [.ref q_co, .ref q_ru, .ref q_di, .int pr_firstRow, .int pr_many, .int (pr_runCount + 1), .int u42.1, .int pr_least, .int pr_indexWidth, .int pr_frameWidth, .int pr_deltaWidth])), (q_di, .inr (3, [.ref q_di_a])), (q_di_a, .inl (cI, 32, .inl u42.2))] := hD
            refine lv_iload hx hb dX2_study_75 (lv_at hl 6 rfl) ?_
            refine lv_if_le (tgt := 93) hx hb dX2_study_77 (by decide) (fun c43 => ?_) (fun c43 => ?_)
            · have hf := pr_pos hf c43
              refine lv_aload_n hx hb dX2_study_93 rfl (lv_at hl 1 rfl) ?_
              refine va_get (D := D) (ci := 2) (v := .ref q_ru) (C := RX2) (T := TX2) (N := 11) hx hb hts hin2 hown hK hP 4 rfl rfl 1 (by decide) (hts (.fieldLink RX2 20 "ColumnChooser$Profile" "runsUpTo" "LColumnChooser$Row;") (List.mem_of_getElem? (i := 10) rfl)) (fun _ h9 => h9) rfl dX2_study_94 ?_
              refine lv_iload hx hb dX2_study_97 (lv_at hl 6 rfl) ?_
              refine lv_aload_n hx hb dX2_study_99 rfl (lv_at hl 1 rfl) ?_
              refine va_get (D := D) (ci := 2) (v := .int (pr_runCount + 1)) (C := RX2) (T := TX2) (N := 11) hx hb hts hin2 hown hK hP 4 rfl rfl 5 (by decide) (hts (.fieldLink RX2 33 "ColumnChooser$Profile" "runCount" "I") (List.mem_of_getElem? (i := 3) rfl)) (fun _ h9 => h9) rfl dX2_study_100 ?_
              obtain ⟨u44, hu44, hf⟩ := pr_bd hf
              refine fr_vV (As := [.int z5, .int (pr_runCount + 1)]) ⟨hx, hb, hml, hown, hts⟩ hK hP hD hS hA (c_X3_put l D cI q_ru q_ru_a 32 n z5 (pr_runCount + 1) ru_a u44 hu44) (cwV 2 hts gX2_study_X3_put rfl rfl rfl (by decide +kernel) ⟨Nat.le_of_ble_eq_true rfl, Nat.le_of_ble_eq_true rfl⟩) [(q_co, .inr (3, [.ref q_co_a])), (q_co_a, .inl (cI, 96, .inl co_a)), (q_pr, .inr (2, [.ref q_co, .ref q_ru, .ref q_di, .int pr_firstRow, .int pr_many, .int (pr_runCount + 1), .int u42.1, .int pr_least, .int pr_indexWidth, .int pr_frameWidth, .int pr_deltaWidth])), (q_di, .inr (3, [.ref q_di_a])), (q_di_a, .inl (cI, 32, .inl u42.2))] [0, 1] [2, 3, 4, 5, 6] rfl rfl (by decide) (by decide) (by decide) 0 rfl rfl rfl rfl hl.1 (Nat.le_of_ble_eq_true rfl) dX2_study_103 ⟨Nat.zero_le _, Nat.zero_le _⟩ rfl (fun H locs hP hD hS => ?_)
              have hP : va_P D vwCl [(q_co, .inr (3, [.ref q_co_a])), (q_co_a, .inl (cI, 96, .inl co_a)), (q_pr, .inr (2, [.ref q_co, .ref q_ru, .ref q_di, .int pr_firstRow, .int pr_many, .int (pr_runCount + 1), .int u42.1, .int pr_least, .int pr_indexWidth, .int pr_frameWidth, .int pr_deltaWidth])), (q_di, .inr (3, [.ref q_di_a])), (q_di_a, .inl (cI, 32, .inl u42.2)), (q_ru, .inr (3, [.ref q_ru_a])), (q_ru_a, .inl (cI, 32, .inl u44))] H := hP
              have hD : va_D A [(q_co, .inr (3, [.ref q_co_a])), (q_co_a, .inl (cI, 96, .inl co_a)), (q_pr, .inr (2, [.ref q_co, .ref q_ru, .ref q_di, .int pr_firstRow, .int pr_many, .int (pr_runCount + 1), .int u42.1, .int pr_least, .int pr_indexWidth, .int pr_frameWidth, .int pr_deltaWidth])), (q_di, .inr (3, [.ref q_di_a])), (q_di_a, .inl (cI, 32, .inl u42.2)), (q_ru, .inr (3, [.ref q_ru_a])), (q_ru_a, .inl (cI, 32, .inl u44))] := hD
              refine lv_iload hx hb dX2_study_106 (lv_at hl 0 rfl) ?_
              refine lv_istore (lv' := [(4, .int u30), (6, .int u30), (0, .ref q_pr), (1, .int z1), (2, .int z2), (3, .int z3), (5, .int z5)]) hx hb dX2_study_108 hl (by decide) rfl (fun ls hl => ?_)
              refine lv_iinc (v := (z5 + 1)) (lv' := [(5, .int (z5 + 1)), (4, .int u30), (6, .int u30), (0, .ref q_pr), (1, .int z1), (2, .int z2), (3, .int z3)]) hx hb dX2_study_110 hl (k := 6) rfl rfl (by decide) rfl (fun ls hl => ?_)
              refine lv_goto (tgt := 28) hx hb dX2_study_113 (by decide) ?_
              exact ih _ _ _ _ _ _ _ _ _ _ _ _ _ _ _ _ _ ls hf (hP.sub [0, 1, 2, 5, 6, 3, 4] rfl) (hD.sub [0, 1, 2, 5, 6, 3, 4] (by decide) rfl) hS (lv_sub hl [3, 4, 5, 6, 1, 0] rfl)
            · have hf := pr_neg hf c43
              refine lv_iload_n hx hb dX2_study_80 rfl (lv_at hl 4 rfl) ?_
              refine lv_iload hx hb dX2_study_81 (lv_at hl 0 rfl) ?_
              refine lv_iload hx hb dX2_study_83 (lv_at hl 5 rfl) ?_
              refine lv_isub hx hb dX2_study_85 ?_
              obtain ⟨u45, hu45, hf⟩ := pr_bd hf
              refine fr_iS (As := [.int (u30 - z4)]) ⟨hx, hb, hml, hown, hts⟩ hK hP hD hS hA (c_X2_fold l D cI n (u30 - z4) u45 hu45) (va_cwS 1 hts gX2_study_X2_fold rfl rfl rfl (by decide +kernel) ⟨Nat.le_of_ble_eq_true rfl, Nat.le_of_ble_eq_true rfl⟩) [(q_ru, .inr (3, [.ref q_ru_a])), (q_ru_a, .inl (cI, 32, .inl ru_a)), (q_co, .inr (3, [.ref q_co_a])), (q_co_a, .inl (cI, 96, .inl co_a)), (q_pr, .inr (2, [.ref q_co, .ref q_ru, .ref q_di, .int pr_firstRow, .int pr_many, .int (pr_runCount + 1), .int u42.1, .int pr_least, .int pr_indexWidth, .int pr_frameWidth, .int pr_deltaWidth])), (q_di, .inr (3, [.ref q_di_a])), (q_di_a, .inl (cI, 32, .inl u42.2))] [] [0, 1, 2, 3, 4, 5, 6] rfl rfl (by decide) (by decide) (by decide) rfl hl.1 (Nat.le_of_ble_eq_true rfl) dX2_study_86 ⟨Nat.zero_le _, Nat.zero_le _⟩ rfl (fun H locs hP hD hS => ?_)
              have hP : va_P D vwCl [(q_ru, .inr (3, [.ref q_ru_a])), (q_ru_a, .inl (cI, 32, .inl ru_a)), (q_co, .inr (3, [.ref q_co_a])), (q_co_a, .inl (cI, 96, .inl co_a)), (q_pr, .inr (2, [.ref q_co, .ref q_ru, .ref q_di, .int pr_firstRow, .int pr_many, .int (pr_runCount + 1), .int u42.1, .int pr_least, .int pr_indexWidth, .int pr_frameWidth, .int pr_deltaWidth])), (q_di, .inr (3, [.ref q_di_a])), (q_di_a, .inl (cI, 32, .inl u42.2))] H := hP
              have hD : va_D A [(q_ru, .inr (3, [.ref q_ru_a])), (q_ru_a, .inl (cI, 32, .inl ru_a)), (q_co, .inr (3, [.ref q_co_a])), (q_co_a, .inl (cI, 96, .inl co_a)), (q_pr, .inr (2, [.ref q_co, .ref q_ru, .ref q_di, .int pr_firstRow, .int pr_many, .int (pr_runCount + 1), .int u42.1, .int pr_least, .int pr_indexWidth, .int pr_frameWidth, .int pr_deltaWidth])), (q_di, .inr (3, [.ref q_di_a])), (q_di_a, .inl (cI, 32, .inl u42.2))] := hD
              refine va_mmax hx hb (hml.trans hl.1.symm) hown (hts (.methodLink RX2 49 Lib.Math.max.name) (List.mem_of_getElem? (i := 6) rfl)) (hts (.static Lib.Math.max.name) (List.mem_of_getElem? (i := 7) rfl)) (hts (.initialized "java/lang/Math") (List.mem_of_getElem? (i := 8) rfl)) (hts (.code Lib.Math.max.name Lib.Math.max.code 2 (some .int)) (List.mem_of_getElem? (i := 9) rfl)) (Nat.le_of_ble_eq_true rfl) (Nat.le_of_ble_eq_true rfl) (Nat.zero_le _) (Nat.zero_le _) dX2_study_89 ?_
              refine lv_istore_n (lv' := [(3, .int (if z3 < u45 then u45 else z3)), (6, .int u30), (0, .ref q_pr), (1, .int z1), (2, .int z2), (4, .int z4), (5, .int z5)]) hx hb dX2_study_92 rfl hl (by decide) rfl (fun ls hl => ?_)
              refine lv_aload_n hx hb dX2_study_93 rfl (lv_at hl 2 rfl) ?_
              refine va_get (D := D) (ci := 2) (v := .ref q_ru) (C := RX2) (T := TX2) (N := 11) hx hb hts hin2 hown hK hP 4 rfl rfl 1 (by decide) (hts (.fieldLink RX2 20 "ColumnChooser$Profile" "runsUpTo" "LColumnChooser$Row;") (List.mem_of_getElem? (i := 10) rfl)) (fun _ h9 => h9) rfl dX2_study_94 ?_
              refine lv_iload hx hb dX2_study_97 (lv_at hl 6 rfl) ?_
              refine lv_aload_n hx hb dX2_study_99 rfl (lv_at hl 2 rfl) ?_
              refine va_get (D := D) (ci := 2) (v := .int (pr_runCount + 1)) (C := RX2) (T := TX2) (N := 11) hx hb hts hin2 hown hK hP 4 rfl rfl 5 (by decide) (hts (.fieldLink RX2 33 "ColumnChooser$Profile" "runCount" "I") (List.mem_of_getElem? (i := 3) rfl)) (fun _ h9 => h9) rfl dX2_study_100 ?_
              obtain ⟨u46, hu46, hf⟩ := pr_bd hf
              refine fr_vV (As := [.int z5, .int (pr_runCount + 1)]) ⟨hx, hb, hml, hown, hts⟩ hK hP hD hS hA (c_X3_put l D cI q_ru q_ru_a 32 n z5 (pr_runCount + 1) ru_a u46 hu46) (cwV 2 hts gX2_study_X3_put rfl rfl rfl (by decide +kernel) ⟨Nat.le_of_ble_eq_true rfl, Nat.le_of_ble_eq_true rfl⟩) [(q_co, .inr (3, [.ref q_co_a])), (q_co_a, .inl (cI, 96, .inl co_a)), (q_pr, .inr (2, [.ref q_co, .ref q_ru, .ref q_di, .int pr_firstRow, .int pr_many, .int (pr_runCount + 1), .int u42.1, .int pr_least, .int pr_indexWidth, .int pr_frameWidth, .int pr_deltaWidth])), (q_di, .inr (3, [.ref q_di_a])), (q_di_a, .inl (cI, 32, .inl u42.2))] [0, 1] [2, 3, 4, 5, 6] rfl rfl (by decide) (by decide) (by decide) 0 rfl rfl rfl rfl hl.1 (Nat.le_of_ble_eq_true rfl) dX2_study_103 ⟨Nat.zero_le _, Nat.zero_le _⟩ rfl (fun H locs hP hD hS => ?_)
              have hP : va_P D vwCl [(q_co, .inr (3, [.ref q_co_a])), (q_co_a, .inl (cI, 96, .inl co_a)), (q_pr, .inr (2, [.ref q_co, .ref q_ru, .ref q_di, .int pr_firstRow, .int pr_many, .int (pr_runCount + 1), .int u42.1, .int pr_least, .int pr_indexWidth, .int pr_frameWidth, .int pr_deltaWidth])), (q_di, .inr (3, [.ref q_di_a])), (q_di_a, .inl (cI, 32, .inl u42.2)), (q_ru, .inr (3, [.ref q_ru_a])), (q_ru_a, .inl (cI, 32, .inl u46))] H := hP
              have hD : va_D A [(q_co, .inr (3, [.ref q_co_a])), (q_co_a, .inl (cI, 96, .inl co_a)), (q_pr, .inr (2, [.ref q_co, .ref q_ru, .ref q_di, .int pr_firstRow, .int pr_many, .int (pr_runCount + 1), .int u42.1, .int pr_least, .int pr_indexWidth, .int pr_frameWidth, .int pr_deltaWidth])), (q_di, .inr (3, [.ref q_di_a])), (q_di_a, .inl (cI, 32, .inl u42.2)), (q_ru, .inr (3, [.ref q_ru_a])), (q_ru_a, .inl (cI, 32, .inl u46))] := hD
              refine lv_iload hx hb dX2_study_106 (lv_at hl 1 rfl) ?_
              refine lv_istore (lv' := [(4, .int u30), (3, .int (if z3 < u45 then u45 else z3)), (6, .int u30), (0, .ref q_pr), (1, .int z1), (2, .int z2), (5, .int z5)]) hx hb dX2_study_108 hl (by decide) rfl (fun ls hl => ?_)
              refine lv_iinc (v := (z5 + 1)) (lv' := [(5, .int (z5 + 1)), (4, .int u30), (3, .int (if z3 < u45 then u45 else z3)), (6, .int u30), (0, .ref q_pr), (1, .int z1), (2, .int z2)]) hx hb dX2_study_110 hl (k := 6) rfl rfl (by decide) rfl (fun ls hl => ?_)
              refine lv_goto (tgt := 28) hx hb dX2_study_113 (by decide) ?_
              exact ih _ _ _ _ _ _ _ _ _ _ _ _ _ _ _ _ _ ls hf (hP.sub [0, 1, 2, 5, 6, 3, 4] rfl) (hD.sub [0, 1, 2, 5, 6, 3, 4] (by decide) rfl) hS (lv_sub hl [4, 5, 6, 2, 1, 0] rfl)
  unfold f_X2_study at hf
  refine lv_aload_n hx hb dX2_study_0 rfl (lv_at hl 0 rfl) ?_
  refine lv_iload_n hx hb dX2_study_1 rfl (lv_at hl 1 rfl) ?_
  refine va_put (D := D) (ci := 2) (v := .int x1) (ty := .int) (C := RX2) (T := TX2) (N := 11) hx hb hts hin2 tyX2 tyX2_ok nmX2 hown hK hP hD hS 2 rfl rfl 3 (by decide) (hts (.fieldLink RX2 26 "ColumnChooser$Profile" "firstRow" "I") (List.mem_of_getElem? (i := 1) rfl)) (fun _ h9 => h9) rfl (by decide +kernel) rfl rfl (Nat.le_of_ble_eq_true rfl) dX2_study_2 (fun H locs hP hD hS => ?_)
  have hP : va_P D vwCl [(q_co, .inr (3, [.ref q_co_a])), (q_co_a, .inl (cI, 96, .inl co_a)), (q_pr, .inr (2, [.ref q_co, .ref q_ru, .ref q_di, .int x1, .int pr_many, .int pr_runCount, .int pr_differentCount, .int pr_least, .int pr_indexWidth, .int pr_frameWidth, .int pr_deltaWidth])), (q_ru, .inr (3, [.ref q_ru_a])), (q_ru_a, .inl (cI, 32, .inl ru_a)), (q_di, .inr (3, [.ref q_di_a])), (q_di_a, .inl (cI, 32, .inl di_a))] H := hP
  have hD : va_D A [(q_co, .inr (3, [.ref q_co_a])), (q_co_a, .inl (cI, 96, .inl co_a)), (q_pr, .inr (2, [.ref q_co, .ref q_ru, .ref q_di, .int x1, .int pr_many, .int pr_runCount, .int pr_differentCount, .int pr_least, .int pr_indexWidth, .int pr_frameWidth, .int pr_deltaWidth])), (q_ru, .inr (3, [.ref q_ru_a])), (q_ru_a, .inl (cI, 32, .inl ru_a)), (q_di, .inr (3, [.ref q_di_a])), (q_di_a, .inl (cI, 32, .inl di_a))] := hD
  refine lv_aload_n hx hb dX2_study_5 rfl (lv_at hl 0 rfl) ?_
  refine lv_iload_n hx hb dX2_study_6 rfl (lv_at hl 2 rfl) ?_
  refine va_put (D := D) (ci := 2) (v := .int x2) (ty := .int) (C := RX2) (T := TX2) (N := 11) hx hb hts hin2 tyX2 tyX2_ok nmX2 hown hK hP hD hS 2 rfl rfl 4 (by decide) (hts (.fieldLink RX2 30 "ColumnChooser$Profile" "many" "I") (List.mem_of_getElem? (i := 2) rfl)) (fun _ h9 => h9) rfl (by decide +kernel) rfl rfl (Nat.le_of_ble_eq_true rfl) dX2_study_7 (fun H locs hP hD hS => ?_)
  have hP : va_P D vwCl [(q_co, .inr (3, [.ref q_co_a])), (q_co_a, .inl (cI, 96, .inl co_a)), (q_pr, .inr (2, [.ref q_co, .ref q_ru, .ref q_di, .int x1, .int x2, .int pr_runCount, .int pr_differentCount, .int pr_least, .int pr_indexWidth, .int pr_frameWidth, .int pr_deltaWidth])), (q_ru, .inr (3, [.ref q_ru_a])), (q_ru_a, .inl (cI, 32, .inl ru_a)), (q_di, .inr (3, [.ref q_di_a])), (q_di_a, .inl (cI, 32, .inl di_a))] H := hP
  have hD : va_D A [(q_co, .inr (3, [.ref q_co_a])), (q_co_a, .inl (cI, 96, .inl co_a)), (q_pr, .inr (2, [.ref q_co, .ref q_ru, .ref q_di, .int x1, .int x2, .int pr_runCount, .int pr_differentCount, .int pr_least, .int pr_indexWidth, .int pr_frameWidth, .int pr_deltaWidth])), (q_ru, .inr (3, [.ref q_ru_a])), (q_ru_a, .inl (cI, 32, .inl ru_a)), (q_di, .inr (3, [.ref q_di_a])), (q_di_a, .inl (cI, 32, .inl di_a))] := hD
  refine lv_aload_n hx hb dX2_study_10 rfl (lv_at hl 0 rfl) ?_
  refine lv_iconst (v := 0) hx hb dX2_study_11 (by decide) ?_
  refine va_put (D := D) (ci := 2) (v := .int 0) (ty := .int) (C := RX2) (T := TX2) (N := 11) hx hb hts hin2 tyX2 tyX2_ok nmX2 hown hK hP hD hS 2 rfl rfl 5 (by decide) (hts (.fieldLink RX2 33 "ColumnChooser$Profile" "runCount" "I") (List.mem_of_getElem? (i := 3) rfl)) (fun _ h9 => h9) rfl (by decide +kernel) rfl rfl (Nat.le_of_ble_eq_true rfl) dX2_study_12 (fun H locs hP hD hS => ?_)
  have hP : va_P D vwCl [(q_co, .inr (3, [.ref q_co_a])), (q_co_a, .inl (cI, 96, .inl co_a)), (q_pr, .inr (2, [.ref q_co, .ref q_ru, .ref q_di, .int x1, .int x2, .int 0, .int pr_differentCount, .int pr_least, .int pr_indexWidth, .int pr_frameWidth, .int pr_deltaWidth])), (q_ru, .inr (3, [.ref q_ru_a])), (q_ru_a, .inl (cI, 32, .inl ru_a)), (q_di, .inr (3, [.ref q_di_a])), (q_di_a, .inl (cI, 32, .inl di_a))] H := hP
  have hD : va_D A [(q_co, .inr (3, [.ref q_co_a])), (q_co_a, .inl (cI, 96, .inl co_a)), (q_pr, .inr (2, [.ref q_co, .ref q_ru, .ref q_di, .int x1, .int x2, .int 0, .int pr_differentCount, .int pr_least, .int pr_indexWidth, .int pr_frameWidth, .int pr_deltaWidth])), (q_ru, .inr (3, [.ref q_ru_a])), (q_ru_a, .inl (cI, 32, .inl ru_a)), (q_di, .inr (3, [.ref q_di_a])), (q_di_a, .inl (cI, 32, .inl di_a))] := hD
  refine lv_aload_n hx hb dX2_study_15 rfl (lv_at hl 0 rfl) ?_
  refine lv_iconst (v := 0) hx hb dX2_study_16 (by decide) ?_
  refine va_put (D := D) (ci := 2) (v := .int 0) (ty := .int) (C := RX2) (T := TX2) (N := 11) hx hb hts hin2 tyX2 tyX2_ok nmX2 hown hK hP hD hS 2 rfl rfl 6 (by decide) (hts (.fieldLink RX2 36 "ColumnChooser$Profile" "differentCount" "I") (List.mem_of_getElem? (i := 4) rfl)) (fun _ h9 => h9) rfl (by decide +kernel) rfl rfl (Nat.le_of_ble_eq_true rfl) dX2_study_17 (fun H locs hP hD hS => ?_)
  have hP : va_P D vwCl [(q_co, .inr (3, [.ref q_co_a])), (q_co_a, .inl (cI, 96, .inl co_a)), (q_pr, .inr (2, [.ref q_co, .ref q_ru, .ref q_di, .int x1, .int x2, .int 0, .int 0, .int pr_least, .int pr_indexWidth, .int pr_frameWidth, .int pr_deltaWidth])), (q_ru, .inr (3, [.ref q_ru_a])), (q_ru_a, .inl (cI, 32, .inl ru_a)), (q_di, .inr (3, [.ref q_di_a])), (q_di_a, .inl (cI, 32, .inl di_a))] H := hP
  have hD : va_D A [(q_co, .inr (3, [.ref q_co_a])), (q_co_a, .inl (cI, 96, .inl co_a)), (q_pr, .inr (2, [.ref q_co, .ref q_ru, .ref q_di, .int x1, .int x2, .int 0, .int 0, .int pr_least, .int pr_indexWidth, .int pr_frameWidth, .int pr_deltaWidth])), (q_ru, .inr (3, [.ref q_ru_a])), (q_ru_a, .inl (cI, 32, .inl ru_a)), (q_di, .inr (3, [.ref q_di_a])), (q_di_a, .inl (cI, 32, .inl di_a))] := hD
  refine lv_iconst (v := 0) hx hb dX2_study_20 (by decide) ?_
  refine lv_istore_n (lv' := [(3, .int 0), (0, .ref q_pr), (1, .int x1), (2, .int x2)]) hx hb dX2_study_21 rfl hl (by decide) rfl (fun ls hl => ?_)
  refine lv_iconst (v := 0) hx hb dX2_study_22 (by decide) ?_
  refine lv_istore (lv' := [(4, .int 0), (3, .int 0), (0, .ref q_pr), (1, .int x1), (2, .int x2)]) hx hb dX2_study_23 hl (by decide) rfl (fun ls hl => ?_)
  refine lv_iconst (v := 0) hx hb dX2_study_25 (by decide) ?_
  refine lv_istore (lv' := [(5, .int 0), (4, .int 0), (3, .int 0), (0, .ref q_pr), (1, .int x1), (2, .int x2)]) hx hb dX2_study_26 hl (by decide) rfl (fun ls hl => ?_)
  exact k_28 n _ _ _ _ _ _ _ _ _ _ _ _ _ _ _ _ _ ls hf (hP.sub [0, 1, 2, 3, 4, 5, 6] rfl) (hD.sub [0, 1, 2, 3, 4, 5, 6] (by decide) rfl) hS (lv_sub hl [3, 4, 5, 2, 1, 0] rfl)
set_option maxHeartbeats 4000000 in
set_option maxRecDepth 100000 in
theorem c_X2_isPossible (l : Launch) (D : va_G) (cI : ClassId) (q_co q_pr q_ru q_di : Nat) (n : Nat) (x1 : Int32) (pr_firstRow : Int32) (pr_many : Int32) (pr_runCount : Int32) (pr_differentCount : Int32) (pr_least : Int32) (pr_indexWidth : Int32) (pr_frameWidth : Int32) (pr_deltaWidth : Int32) (res : Bool) (hf : f_X2_isPossible n x1 pr_runCount = some res) : fr_Ci l yX2_isPossible wsX2_isPossible ({ frames := 0, cells := 0, slots := 0, locals := 0 }) D [(cI, .int)] [.ref q_pr, .int x1] [(q_pr, .inr (2, [.ref q_co, .ref q_ru, .ref q_di, .int pr_firstRow, .int pr_many, .int pr_runCount, .int pr_differentCount, .int pr_least, .int pr_indexWidth, .int pr_frameWidth, .int pr_deltaWidth]))] (pr_b res) [(q_pr, .inr (2, [.ref q_co, .ref q_ru, .ref q_di, .int pr_firstRow, .int pr_many, .int pr_runCount, .int pr_differentCount, .int pr_least, .int pr_indexWidth, .int pr_frameWidth, .int pr_deltaWidth]))] := by
  refine fr_open_i (cc := cX2_isPossible) (maxL := 2) (ret := some .boolean) (by decide +kernel) rfl (Nat.le_of_ble_eq_true rfl) ⟨.boolean, rfl, pr_b_n _⟩ ?_
  intro p e s m below meth c A Q ls hx hb hml hown hts hA hK hP hD hS hl hret
  have hown : s.vm.findClass RX2 = some m.cls := hown
  have hl : lv_has ls 2 [(0, .ref q_pr), (1, .int x1)] := hl
  have hin2 : ∀ w ∈ u_ws RX2 TX2 11, w ∈ wsX2_isPossible := fun _ h9 => List.mem_cons_of_mem _ (List.mem_append_right _ h9)
  unfold f_X2_isPossible at hf
  refine lv_iload_n hx hb dX2_isPossible_0 rfl (lv_at hl 1 rfl) ?_
  refine lv_iconst (v := 1) hx hb dX2_isPossible_1 (by decide) ?_
  refine lv_icmp_ne (tgt := 13) hx hb dX2_isPossible_2 (by decide) (fun c3 => ?_) (fun c3 => ?_)
  · have hf := pr_neg hf c3
    refine lv_iconst (v := 1) hx hb dX2_isPossible_13 (by decide) ?_
    refine lv_goto (tgt := 18) hx hb dX2_isPossible_14 (by decide) ?_
    obtain rfl := Option.some.inj hf
    exact hret _ _ _ _ dX2_isPossible_18 (hP.sub [0] rfl) (hD.sub [0] (by decide) rfl) hS
  · have hf := pr_pos hf c3
    refine lv_aload_n hx hb dX2_isPossible_5 rfl (lv_at hl 0 rfl) ?_
    refine va_get (D := D) (ci := 2) (v := .int pr_runCount) (C := RX2) (T := TX2) (N := 11) hx hb hts hin2 hown hK hP 0 rfl rfl 5 (by decide) (hts (.fieldLink RX2 33 "ColumnChooser$Profile" "runCount" "I") (List.mem_of_getElem? (i := 1) rfl)) (fun _ h9 => h9) rfl dX2_isPossible_6 ?_
    refine lv_iconst (v := 1) hx hb dX2_isPossible_9 (by decide) ?_
    refine lv_icmp_ne (tgt := 17) hx hb dX2_isPossible_10 (by decide) (fun c4 => ?_) (fun c4 => ?_)
    · have hf := pr_neg hf c4
      refine lv_iconst (v := 0) hx hb dX2_isPossible_17 (by decide) ?_
      obtain rfl := Option.some.inj hf
      exact hret _ _ _ _ dX2_isPossible_18 (hP.sub [0] rfl) (hD.sub [0] (by decide) rfl) hS
    · have hf := pr_pos hf c4
      refine lv_iconst (v := 1) hx hb dX2_isPossible_13 (by decide) ?_
      refine lv_goto (tgt := 18) hx hb dX2_isPossible_14 (by decide) ?_
      obtain rfl := Option.some.inj hf
      exact hret _ _ _ _ dX2_isPossible_18 (hP.sub [0] rfl) (hD.sub [0] (by decide) rfl) hS
set_option maxHeartbeats 4000000 in
set_option maxRecDepth 100000 in
theorem c_X2_sizeOf (l : Launch) (D : va_G) (cI : ClassId) (q_co q_pr q_ru q_di : Nat) (n : Nat) (x1 : Int32) (pr_firstRow : Int32) (pr_many : Int32) (pr_runCount : Int32) (pr_differentCount : Int32) (pr_least : Int32) (pr_indexWidth : Int32) (pr_frameWidth : Int32) (pr_deltaWidth : Int32) (res : Int32) (hf : f_X2_sizeOf n x1 pr_many pr_runCount pr_differentCount pr_indexWidth pr_frameWidth pr_deltaWidth = some res) : fr_Ci l yX2_sizeOf wsX2_sizeOf ({ frames := 1, cells := 0, slots := 0, locals := 21 }) D [(cI, .int)] [.ref q_pr, .int x1] [(q_pr, .inr (2, [.ref q_co, .ref q_ru, .ref q_di, .int pr_firstRow, .int pr_many, .int pr_runCount, .int pr_differentCount, .int pr_least, .int pr_indexWidth, .int pr_frameWidth, .int pr_deltaWidth]))] res [(q_pr, .inr (2, [.ref q_co, .ref q_ru, .ref q_di, .int pr_firstRow, .int pr_many, .int pr_runCount, .int pr_differentCount, .int pr_least, .int pr_indexWidth, .int pr_frameWidth, .int pr_deltaWidth]))] := by
  refine fr_open_i (cc := cX2_sizeOf) (maxL := 2) (ret := some .int) (by decide +kernel) rfl (Nat.le_of_ble_eq_true rfl) ⟨.int, rfl, vp_nar_int _⟩ ?_
  intro p e s m below meth c A Q ls hx hb hml hown hts hA hK hP hD hS hl hret
  have hown : s.vm.findClass RX2 = some m.cls := hown
  have hl : lv_has ls 2 [(0, .ref q_pr), (1, .int x1)] := hl
  have hin2 : ∀ w ∈ u_ws RX2 TX2 11, w ∈ wsX2_sizeOf := fun _ h9 => List.mem_cons_of_mem _ (List.mem_append_right _ h9)
  unfold f_X2_sizeOf at hf
  refine lv_iload_n hx hb dX2_sizeOf_0 rfl (lv_at hl 1 rfl) ?_
  by_cases c8 : x1 = 0
  · have hf := pr_pos hf c8
    refine lv_tableIn (off := 35) (tgt := 36) hx hb dX2_sizeOf_1 (by rw [c8]; decide) (by rw [c8]; decide) (by rw [c8]; rfl) (by decide) ?_
    refine lv_aload_n hx hb dX2_sizeOf_36 rfl (lv_at hl 0 rfl) ?_
    refine va_get (D := D) (ci := 2) (v := .int pr_many) (C := RX2) (T := TX2) (N := 11) hx hb hts hin2 hown hK hP 0 rfl rfl 4 (by decide) (hts (.fieldLink RX2 30 "ColumnChooser$Profile" "many" "I") (List.mem_of_getElem? (i := 1) rfl)) (fun _ h9 => h9) rfl dX2_sizeOf_37 ?_
    refine lv_bipush (v := 18) hx hb dX2_sizeOf_40 (by decide) ?_
    refine lv_imul hx hb dX2_sizeOf_42 ?_
    obtain rfl := Option.some.inj hf
    exact hret _ _ _ _ dX2_sizeOf_43 (hP.sub [0] rfl) (hD.sub [0] (by decide) rfl) hS
  · have hf := pr_neg hf c8
    by_cases c9 : x1 = 1
    · have hf := pr_pos hf c9
      refine lv_tableIn (off := 43) (tgt := 44) hx hb dX2_sizeOf_1 (by rw [c9]; decide) (by rw [c9]; decide) (by rw [c9]; rfl) (by decide) ?_
      refine lv_aload_n hx hb dX2_sizeOf_44 rfl (lv_at hl 0 rfl) ?_
      refine lv_iconst (v := 1) hx hb dX2_sizeOf_45 (by decide) ?_
      obtain ⟨u10, hu10, hf⟩ := pr_bd hf
      refine fr_iV (As := [.int 1]) ⟨hx, hb, hml, hown, hts⟩ hK hP hD hS hA (c_X2_isPossible l D cI q_co q_pr q_ru q_di n 1 pr_firstRow pr_many pr_runCount pr_differentCount pr_least pr_indexWidth pr_frameWidth pr_deltaWidth u10 hu10) (cwV 1 hts gX2_sizeOf_X2_isPossible rfl rfl rfl (by decide +kernel) ⟨Nat.le_of_ble_eq_true rfl, Nat.le_of_ble_eq_true rfl⟩) [] [0] [] rfl rfl (by decide) (by decide) (by decide) 0 rfl rfl rfl rfl hl.1 (Nat.le_of_ble_eq_true rfl) dX2_sizeOf_46 ⟨Nat.zero_le _, Nat.zero_le _⟩ rfl (fun H locs hP hD hS => ?_)
      have hP : va_P D vwCl [(q_pr, .inr (2, [.ref q_co, .ref q_ru, .ref q_di, .int pr_firstRow, .int pr_many, .int pr_runCount, .int pr_differentCount, .int pr_least, .int pr_indexWidth, .int pr_frameWidth, .int pr_deltaWidth]))] H := hP
      have hD : va_D A [(q_pr, .inr (2, [.ref q_co, .ref q_ru, .ref q_di, .int pr_firstRow, .int pr_many, .int pr_runCount, .int pr_differentCount, .int pr_least, .int pr_indexWidth, .int pr_frameWidth, .int pr_deltaWidth]))] := hD
      refine lv_if_eq (tgt := 57) hx hb dX2_sizeOf_49 (by decide) (fun c11 => ?_) (fun c11 => ?_)
      · have hf := pr_pos hf c11
        refine lv_iconst (v := -1) hx hb dX2_sizeOf_57 (by decide) ?_
        obtain rfl := Option.some.inj hf
        exact hret _ _ _ _ dX2_sizeOf_58 (hP.sub [0] rfl) (hD.sub [0] (by decide) rfl) hS
      · have hf := pr_neg hf c11
        refine lv_bipush (v := 18) hx hb dX2_sizeOf_52 (by decide) ?_
        refine lv_goto (tgt := 58) hx hb dX2_sizeOf_54 (by decide) ?_
        obtain rfl := Option.some.inj hf
        exact hret _ _ _ _ dX2_sizeOf_58 (hP.sub [0] rfl) (hD.sub [0] (by decide) rfl) hS
    · have hf := pr_neg hf c9
      by_cases c12 : x1 = 2
      · have hf := pr_pos hf c12
        refine lv_tableIn (off := 58) (tgt := 59) hx hb dX2_sizeOf_1 (by rw [c12]; decide) (by rw [c12]; decide) (by rw [c12]; rfl) (by decide) ?_
        refine lv_aload_n hx hb dX2_sizeOf_59 rfl (lv_at hl 0 rfl) ?_
        refine va_get (D := D) (ci := 2) (v := .int pr_runCount) (C := RX2) (T := TX2) (N := 11) hx hb hts hin2 hown hK hP 0 rfl rfl 5 (by decide) (hts (.fieldLink RX2 33 "ColumnChooser$Profile" "runCount" "I") (List.mem_of_getElem? (i := 2) rfl)) (fun _ h9 => h9) rfl dX2_sizeOf_60 ?_
        refine lv_bipush (v := 24) hx hb dX2_sizeOf_63 (by decide) ?_
        refine lv_imul hx hb dX2_sizeOf_65 ?_
        obtain rfl := Option.some.inj hf
        exact hret _ _ _ _ dX2_sizeOf_66 (hP.sub [0] rfl) (hD.sub [0] (by decide) rfl) hS
      · have hf := pr_neg hf c12
        by_cases c13 : x1 = 3
        · have hf := pr_pos hf c13
          refine lv_tableIn (off := 66) (tgt := 67) hx hb dX2_sizeOf_1 (by rw [c13]; decide) (by rw [c13]; decide) (by rw [c13]; rfl) (by decide) ?_
          refine lv_bipush (v := 6) hx hb dX2_sizeOf_67 (by decide) ?_
          refine lv_aload_n hx hb dX2_sizeOf_69 rfl (lv_at hl 0 rfl) ?_
          refine va_get (D := D) (ci := 2) (v := .int pr_differentCount) (C := RX2) (T := TX2) (N := 11) hx hb hts hin2 hown hK hP 0 rfl rfl 6 (by decide) (hts (.fieldLink RX2 36 "ColumnChooser$Profile" "differentCount" "I") (List.mem_of_getElem? (i := 3) rfl)) (fun _ h9 => h9) rfl dX2_sizeOf_70 ?_
          refine lv_bipush (v := 18) hx hb dX2_sizeOf_73 (by decide) ?_
          refine lv_imul hx hb dX2_sizeOf_75 ?_
          refine lv_iadd hx hb dX2_sizeOf_76 ?_
          refine lv_aload_n hx hb dX2_sizeOf_77 rfl (lv_at hl 0 rfl) ?_
          refine va_get (D := D) (ci := 2) (v := .int pr_many) (C := RX2) (T := TX2) (N := 11) hx hb hts hin2 hown hK hP 0 rfl rfl 4 (by decide) (hts (.fieldLink RX2 30 "ColumnChooser$Profile" "many" "I") (List.mem_of_getElem? (i := 1) rfl)) (fun _ h9 => h9) rfl dX2_sizeOf_78 ?_
          refine lv_aload_n hx hb dX2_sizeOf_81 rfl (lv_at hl 0 rfl) ?_
          refine va_get (D := D) (ci := 2) (v := .int pr_indexWidth) (C := RX2) (T := TX2) (N := 11) hx hb hts hin2 hown hK hP 0 rfl rfl 8 (by decide) (hts (.fieldLink RX2 65 "ColumnChooser$Profile" "indexWidth" "I") (List.mem_of_getElem? (i := 4) rfl)) (fun _ h9 => h9) rfl dX2_sizeOf_82 ?_
          refine lv_imul hx hb dX2_sizeOf_85 ?_
          refine lv_iadd hx hb dX2_sizeOf_86 ?_
          obtain rfl := Option.some.inj hf
          exact hret _ _ _ _ dX2_sizeOf_87 (hP.sub [0] rfl) (hD.sub [0] (by decide) rfl) hS
        · have hf := pr_neg hf c13
          by_cases c14 : x1 = 4
          · have hf := pr_pos hf c14
            refine lv_tableIn (off := 87) (tgt := 88) hx hb dX2_sizeOf_1 (by rw [c14]; decide) (by rw [c14]; decide) (by rw [c14]; rfl) (by decide) ?_
            refine lv_bipush (v := 23) hx hb dX2_sizeOf_88 (by decide) ?_
            refine lv_aload_n hx hb dX2_sizeOf_90 rfl (lv_at hl 0 rfl) ?_
            refine va_get (D := D) (ci := 2) (v := .int pr_many) (C := RX2) (T := TX2) (N := 11) hx hb hts hin2 hown hK hP 0 rfl rfl 4 (by decide) (hts (.fieldLink RX2 30 "ColumnChooser$Profile" "many" "I") (List.mem_of_getElem? (i := 1) rfl)) (fun _ h9 => h9) rfl dX2_sizeOf_91 ?_
            refine lv_aload_n hx hb dX2_sizeOf_94 rfl (lv_at hl 0 rfl) ?_
            refine va_get (D := D) (ci := 2) (v := .int pr_frameWidth) (C := RX2) (T := TX2) (N := 11) hx hb hts hin2 hown hK hP 0 rfl rfl 9 (by decide) (hts (.fieldLink RX2 68 "ColumnChooser$Profile" "frameWidth" "I") (List.mem_of_getElem? (i := 5) rfl)) (fun _ h9 => h9) rfl dX2_sizeOf_95 ?_
            refine lv_imul hx hb dX2_sizeOf_98 ?_
            refine lv_iadd hx hb dX2_sizeOf_99 ?_
            obtain rfl := Option.some.inj hf
            exact hret _ _ _ _ dX2_sizeOf_100 (hP.sub [0] rfl) (hD.sub [0] (by decide) rfl) hS
          · have hf := pr_neg hf c14
            refine lv_tableOut (tgt := 101) hx hb dX2_sizeOf_1 (by have n0 := lv_neT (a := 0) c8 (by decide); have n1 := lv_neT (a := 1) c9 (by decide); have n2 := lv_neT (a := 2) c12 (by decide); have n3 := lv_neT (a := 3) c13 (by decide); have n4 := lv_neT (a := 4) c14 (by decide); omega) (by decide) ?_
            refine lv_bipush (v := 23) hx hb dX2_sizeOf_101 (by decide) ?_
            refine lv_aload_n hx hb dX2_sizeOf_103 rfl (lv_at hl 0 rfl) ?_
            refine va_get (D := D) (ci := 2) (v := .int pr_many) (C := RX2) (T := TX2) (N := 11) hx hb hts hin2 hown hK hP 0 rfl rfl 4 (by decide) (hts (.fieldLink RX2 30 "ColumnChooser$Profile" "many" "I") (List.mem_of_getElem? (i := 1) rfl)) (fun _ h9 => h9) rfl dX2_sizeOf_104 ?_
            refine lv_iconst (v := 1) hx hb dX2_sizeOf_107 (by decide) ?_
            refine lv_isub hx hb dX2_sizeOf_108 ?_
            refine lv_aload_n hx hb dX2_sizeOf_109 rfl (lv_at hl 0 rfl) ?_
            refine va_get (D := D) (ci := 2) (v := .int pr_deltaWidth) (C := RX2) (T := TX2) (N := 11) hx hb hts hin2 hown hK hP 0 rfl rfl 10 (by decide) (hts (.fieldLink RX2 71 "ColumnChooser$Profile" "deltaWidth" "I") (List.mem_of_getElem? (i := 6) rfl)) (fun _ h9 => h9) rfl dX2_sizeOf_110 ?_
            refine lv_imul hx hb dX2_sizeOf_113 ?_
            refine lv_iadd hx hb dX2_sizeOf_114 ?_
            obtain rfl := Option.some.inj hf
            exact hret _ _ _ _ dX2_sizeOf_115 (hP.sub [0] rfl) (hD.sub [0] (by decide) rfl) hS
set_option maxHeartbeats 4000000 in
set_option maxRecDepth 100000 in
theorem c_X2_isInFrame (l : Launch) (D : va_G) (cI : ClassId) (q_co q_pr q_ru q_di : Nat) (n : Nat) (x1 : Int32) (pr_firstRow : Int32) (pr_many : Int32) (pr_runCount : Int32) (pr_differentCount : Int32) (pr_least : Int32) (pr_indexWidth : Int32) (pr_frameWidth : Int32) (pr_deltaWidth : Int32) (res : Bool) (hf : f_X2_isInFrame n x1 pr_least pr_frameWidth = some res) : fr_Ci l yX2_isInFrame wsX2_isInFrame ({ frames := 0, cells := 0, slots := 0, locals := 0 }) D [(cI, .int)] [.ref q_pr, .int x1] [(q_pr, .inr (2, [.ref q_co, .ref q_ru, .ref q_di, .int pr_firstRow, .int pr_many, .int pr_runCount, .int pr_differentCount, .int pr_least, .int pr_indexWidth, .int pr_frameWidth, .int pr_deltaWidth]))] (pr_b res) [(q_pr, .inr (2, [.ref q_co, .ref q_ru, .ref q_di, .int pr_firstRow, .int pr_many, .int pr_runCount, .int pr_differentCount, .int pr_least, .int pr_indexWidth, .int pr_frameWidth, .int pr_deltaWidth]))] := by
  refine fr_open_i (cc := cX2_isInFrame) (maxL := 2) (ret := some .boolean) (by decide +kernel) rfl (Nat.le_of_ble_eq_true rfl) ⟨.boolean, rfl, pr_b_n _⟩ ?_
  intro p e s m below meth c A Q ls hx hb hml hown hts hA hK hP hD hS hl hret
  have hown : s.vm.findClass RX2 = some m.cls := hown
  have hl : lv_has ls 2 [(0, .ref q_pr), (1, .int x1)] := hl
  have hin2 : ∀ w ∈ u_ws RX2 TX2 11, w ∈ wsX2_isInFrame := fun _ h9 => List.mem_cons_of_mem _ (List.mem_append_right _ h9)
  unfold f_X2_isInFrame at hf
  refine lv_iload_n hx hb dX2_isInFrame_0 rfl (lv_at hl 1 rfl) ?_
  refine lv_aload_n hx hb dX2_isInFrame_1 rfl (lv_at hl 0 rfl) ?_
  refine va_get (D := D) (ci := 2) (v := .int pr_least) (C := RX2) (T := TX2) (N := 11) hx hb hts hin2 hown hK hP 0 rfl rfl 7 (by decide) (hts (.fieldLink RX2 59 "ColumnChooser$Profile" "least" "I") (List.mem_of_getElem? (i := 1) rfl)) (fun _ h9 => h9) rfl dX2_isInFrame_2 ?_
  refine lv_icmp_lt (tgt := 27) hx hb dX2_isInFrame_5 (by decide) (fun c3 => ?_) (fun c3 => ?_)
  · have hf := pr_pos hf c3
    refine lv_iconst (v := 0) hx hb dX2_isInFrame_27 (by decide) ?_
    obtain rfl := Option.some.inj hf
    exact hret _ _ _ _ dX2_isInFrame_28 (hP.sub [0] rfl) (hD.sub [0] (by decide) rfl) hS
  · have hf := pr_neg hf c3
    refine lv_iload_n hx hb dX2_isInFrame_8 rfl (lv_at hl 1 rfl) ?_
    refine lv_aload_n hx hb dX2_isInFrame_9 rfl (lv_at hl 0 rfl) ?_
    refine va_get (D := D) (ci := 2) (v := .int pr_least) (C := RX2) (T := TX2) (N := 11) hx hb hts hin2 hown hK hP 0 rfl rfl 7 (by decide) (hts (.fieldLink RX2 59 "ColumnChooser$Profile" "least" "I") (List.mem_of_getElem? (i := 1) rfl)) (fun _ h9 => h9) rfl dX2_isInFrame_10 ?_
    refine lv_iconst (v := 1) hx hb dX2_isInFrame_13 (by decide) ?_
    refine lv_aload_n hx hb dX2_isInFrame_14 rfl (lv_at hl 0 rfl) ?_
    refine va_get (D := D) (ci := 2) (v := .int pr_frameWidth) (C := RX2) (T := TX2) (N := 11) hx hb hts hin2 hown hK hP 0 rfl rfl 9 (by decide) (hts (.fieldLink RX2 68 "ColumnChooser$Profile" "frameWidth" "I") (List.mem_of_getElem? (i := 2) rfl)) (fun _ h9 => h9) rfl dX2_isInFrame_15 ?_
    refine lv_ishl hx hb dX2_isInFrame_18 ?_
    refine lv_iadd hx hb dX2_isInFrame_19 ?_
    refine lv_icmp_ge (tgt := 27) hx hb dX2_isInFrame_20 (by decide) (fun c4 => ?_) (fun c4 => ?_)
    · have hf := pr_pos hf c4
      refine lv_iconst (v := 0) hx hb dX2_isInFrame_27 (by decide) ?_
      obtain rfl := Option.some.inj hf
      exact hret _ _ _ _ dX2_isInFrame_28 (hP.sub [0] rfl) (hD.sub [0] (by decide) rfl) hS
    · have hf := pr_neg hf c4
      refine lv_iconst (v := 1) hx hb dX2_isInFrame_23 (by decide) ?_
      refine lv_goto (tgt := 28) hx hb dX2_isInFrame_24 (by decide) ?_
      obtain rfl := Option.some.inj hf
      exact hret _ _ _ _ dX2_isInFrame_28 (hP.sub [0] rfl) (hD.sub [0] (by decide) rfl) hS
set_option maxHeartbeats 4000000 in
set_option maxRecDepth 100000 in
theorem c_X2_costOfCount (l : Launch) (D : va_G) (cI : ClassId) (q_co q_pr q_ru q_di q_di_a : Nat) (n : Nat) (x1 : Int32) (x2 : Int32) (pr_firstRow : Int32) (pr_many : Int32) (pr_runCount : Int32) (pr_differentCount : Int32) (pr_least : Int32) (pr_indexWidth : Int32) (pr_frameWidth : Int32) (pr_deltaWidth : Int32) (di_a : (Nat → Int32)) (res : Int32) (hf : f_X2_costOfCount n x1 x2 pr_many pr_runCount pr_differentCount pr_least pr_frameWidth di_a = some res) : fr_Ci l yX2_costOfCount wsX2_costOfCount ({ frames := 1, cells := 0, slots := 0, locals := 23 }) D [(cI, .int)] [.ref q_pr, .int x1, .int x2] [(q_pr, .inr (2, [.ref q_co, .ref q_ru, .ref q_di, .int pr_firstRow, .int pr_many, .int pr_runCount, .int pr_differentCount, .int pr_least, .int pr_indexWidth, .int pr_frameWidth, .int pr_deltaWidth])), (q_di, .inr (3, [.ref q_di_a])), (q_di_a, .inl (cI, 32, .inl di_a))] res [(q_pr, .inr (2, [.ref q_co, .ref q_ru, .ref q_di, .int pr_firstRow, .int pr_many, .int pr_runCount, .int pr_differentCount, .int pr_least, .int pr_indexWidth, .int pr_frameWidth, .int pr_deltaWidth])), (q_di, .inr (3, [.ref q_di_a])), (q_di_a, .inl (cI, 32, .inl di_a))] := by
  refine fr_open_i (cc := cX2_costOfCount) (maxL := 3) (ret := some .int) (by decide +kernel) rfl (Nat.le_of_ble_eq_true rfl) ⟨.int, rfl, vp_nar_int _⟩ ?_
  intro p e s m below meth c A Q ls hx hb hml hown hts hA hK hP hD hS hl hret
  have hown : s.vm.findClass RX2 = some m.cls := hown
  have hl : lv_has ls 3 [(0, .ref q_pr), (1, .int x1), (2, .int x2)] := hl
  have hin2 : ∀ w ∈ u_ws RX2 TX2 11, w ∈ wsX2_costOfCount := fun _ h9 => List.mem_cons_of_mem _ (List.mem_append_left _ (List.mem_append_right _ h9))
  unfold f_X2_costOfCount at hf
  refine lv_iload_n hx hb dX2_costOfCount_0 rfl (lv_at hl 2 rfl) ?_
  by_cases c9 : x2 = 1
  · have hf := pr_pos hf c9
    refine lv_tableIn (off := 31) (tgt := 32) hx hb dX2_costOfCount_1 (by rw [c9]; decide) (by rw [c9]; decide) (by rw [c9]; rfl) (by decide) ?_
    refine lv_iconst (v := 1) hx hb dX2_costOfCount_32 (by decide) ?_
    obtain rfl := Option.some.inj hf
    exact hret _ _ _ _ dX2_costOfCount_33 (hP.sub [0, 1, 2] rfl) (hD.sub [0, 1, 2] (by decide) rfl) hS
  · have hf := pr_neg hf c9
    by_cases c10 : x2 = 2
    · have hf := pr_pos hf c10
      refine lv_tableIn (off := 33) (tgt := 34) hx hb dX2_costOfCount_1 (by rw [c10]; decide) (by rw [c10]; decide) (by rw [c10]; rfl) (by decide) ?_
      refine lv_aload_n hx hb dX2_costOfCount_34 rfl (lv_at hl 0 rfl) ?_
      refine va_get (D := D) (ci := 2) (v := .int pr_runCount) (C := RX2) (T := TX2) (N := 11) hx hb hts hin2 hown hK hP 0 rfl rfl 5 (by decide) (hts (.fieldLink RX2 33 "ColumnChooser$Profile" "runCount" "I") (List.mem_of_getElem? (i := 1) rfl)) (fun _ h9 => h9) rfl dX2_costOfCount_35 ?_
      refine lv_iconst (v := 1) hx hb dX2_costOfCount_38 (by decide) ?_
      refine lv_iadd hx hb dX2_costOfCount_39 ?_
      obtain rfl := Option.some.inj hf
      exact hret _ _ _ _ dX2_costOfCount_40 (hP.sub [0, 1, 2] rfl) (hD.sub [0, 1, 2] (by decide) rfl) hS
    · have hf := pr_neg hf c10
      by_cases c11 : x2 = 3
      · have hf := pr_pos hf c11
        refine lv_tableIn (off := 40) (tgt := 41) hx hb dX2_costOfCount_1 (by rw [c11]; decide) (by rw [c11]; decide) (by rw [c11]; rfl) (by decide) ?_
        refine lv_aload_n hx hb dX2_costOfCount_41 rfl (lv_at hl 0 rfl) ?_
        refine va_get (D := D) (ci := 2) (v := .int pr_differentCount) (C := RX2) (T := TX2) (N := 11) hx hb hts hin2 hown hK hP 0 rfl rfl 6 (by decide) (hts (.fieldLink RX2 36 "ColumnChooser$Profile" "differentCount" "I") (List.mem_of_getElem? (i := 2) rfl)) (fun _ h9 => h9) rfl dX2_costOfCount_42 ?_
        refine lv_aload_n hx hb dX2_costOfCount_45 rfl (lv_at hl 0 rfl) ?_
        refine va_get (D := D) (ci := 2) (v := .ref q_di) (C := RX2) (T := TX2) (N := 11) hx hb hts hin2 hown hK hP 0 rfl rfl 2 (by decide) (hts (.fieldLink RX2 23 "ColumnChooser$Profile" "different" "LColumnChooser$Row;") (List.mem_of_getElem? (i := 3) rfl)) (fun _ h9 => h9) rfl dX2_costOfCount_46 ?_
        refine lv_iload_n hx hb dX2_costOfCount_49 rfl (lv_at hl 1 rfl) ?_
        refine lv_aload_n hx hb dX2_costOfCount_50 rfl (lv_at hl 0 rfl) ?_
        refine va_get (D := D) (ci := 2) (v := .int pr_differentCount) (C := RX2) (T := TX2) (N := 11) hx hb hts hin2 hown hK hP 0 rfl rfl 6 (by decide) (hts (.fieldLink RX2 36 "ColumnChooser$Profile" "differentCount" "I") (List.mem_of_getElem? (i := 2) rfl)) (fun _ h9 => h9) rfl dX2_costOfCount_51 ?_
        obtain ⟨u12, hu12, hf⟩ := pr_bd hf
        refine fr_iV (As := [.int x1, .int pr_differentCount]) ⟨hx, hb, hml, hown, hts⟩ hK hP hD hS hA (c_X3_find l D cI q_di q_di_a 32 n x1 pr_differentCount di_a u12 hu12) (cwV 2 hts gX2_costOfCount_X3_find rfl rfl rfl (by decide +kernel) ⟨Nat.le_of_ble_eq_true rfl, Nat.le_of_ble_eq_true rfl⟩) [(q_pr, .inr (2, [.ref q_co, .ref q_ru, .ref q_di, .int pr_firstRow, .int pr_many, .int pr_runCount, .int pr_differentCount, .int pr_least, .int pr_indexWidth, .int pr_frameWidth, .int pr_deltaWidth]))] [1, 2] [0] rfl rfl (by decide) (by decide) (by decide) 0 rfl rfl rfl rfl hl.1 (Nat.le_of_ble_eq_true rfl) dX2_costOfCount_54 ⟨Nat.zero_le _, Nat.zero_le _⟩ rfl (fun H locs hP hD hS => ?_)
        have hP : va_P D vwCl [(q_pr, .inr (2, [.ref q_co, .ref q_ru, .ref q_di, .int pr_firstRow, .int pr_many, .int pr_runCount, .int pr_differentCount, .int pr_least, .int pr_indexWidth, .int pr_frameWidth, .int pr_deltaWidth])), (q_di, .inr (3, [.ref q_di_a])), (q_di_a, .inl (cI, 32, .inl di_a))] H := hP
        have hD : va_D A [(q_pr, .inr (2, [.ref q_co, .ref q_ru, .ref q_di, .int pr_firstRow, .int pr_many, .int pr_runCount, .int pr_differentCount, .int pr_least, .int pr_indexWidth, .int pr_frameWidth, .int pr_deltaWidth])), (q_di, .inr (3, [.ref q_di_a])), (q_di_a, .inl (cI, 32, .inl di_a))] := hD
        refine lv_if_lt (tgt := 67) hx hb dX2_costOfCount_57 (by decide) (fun c13 => ?_) (fun c13 => ?_)
        · have hf := pr_pos hf c13
          refine lv_iconst (v := 0) hx hb dX2_costOfCount_67 (by decide) ?_
          refine lv_iadd hx hb dX2_costOfCount_68 ?_
          obtain rfl := Option.some.inj hf
          exact hret _ _ _ _ dX2_costOfCount_69 (hP.sub [0, 1, 2] rfl) (hD.sub [0, 1, 2] (by decide) rfl) hS
        · have hf := pr_neg hf c13
          refine lv_aload_n hx hb dX2_costOfCount_60 rfl (lv_at hl 0 rfl) ?_
          refine va_get (D := D) (ci := 2) (v := .int pr_many) (C := RX2) (T := TX2) (N := 11) hx hb hts hin2 hown hK hP 0 rfl rfl 4 (by decide) (hts (.fieldLink RX2 30 "ColumnChooser$Profile" "many" "I") (List.mem_of_getElem? (i := 4) rfl)) (fun _ h9 => h9) rfl dX2_costOfCount_61 ?_
          refine lv_goto (tgt := 68) hx hb dX2_costOfCount_64 (by decide) ?_
          refine lv_iadd hx hb dX2_costOfCount_68 ?_
          obtain rfl := Option.some.inj hf
          exact hret _ _ _ _ dX2_costOfCount_69 (hP.sub [0, 1, 2] rfl) (hD.sub [0, 1, 2] (by decide) rfl) hS
      · have hf := pr_neg hf c11
        by_cases c14 : x2 = 4
        · have hf := pr_pos hf c14
          refine lv_tableIn (off := 69) (tgt := 70) hx hb dX2_costOfCount_1 (by rw [c14]; decide) (by rw [c14]; decide) (by rw [c14]; rfl) (by decide) ?_
          refine lv_iconst (v := 1) hx hb dX2_costOfCount_70 (by decide) ?_
          refine lv_aload_n hx hb dX2_costOfCount_71 rfl (lv_at hl 0 rfl) ?_
          refine lv_iload_n hx hb dX2_costOfCount_72 rfl (lv_at hl 1 rfl) ?_
          obtain ⟨u15, hu15, hf⟩ := pr_bd hf
          refine fr_iV (As := [.int x1]) ⟨hx, hb, hml, hown, hts⟩ hK hP hD hS hA (c_X2_isInFrame l D cI q_co q_pr q_ru q_di n x1 pr_firstRow pr_many pr_runCount pr_differentCount pr_least pr_indexWidth pr_frameWidth pr_deltaWidth u15 hu15) (cwV 1 hts gX2_costOfCount_X2_isInFrame rfl rfl rfl (by decide +kernel) ⟨Nat.le_of_ble_eq_true rfl, Nat.le_of_ble_eq_true rfl⟩) [(q_di, .inr (3, [.ref q_di_a])), (q_di_a, .inl (cI, 32, .inl di_a))] [0] [1, 2] rfl rfl (by decide) (by decide) (by decide) 0 rfl rfl rfl rfl hl.1 (Nat.le_of_ble_eq_true rfl) dX2_costOfCount_73 ⟨Nat.zero_le _, Nat.zero_le _⟩ rfl (fun H locs hP hD hS => ?_)
          have hP : va_P D vwCl [(q_di, .inr (3, [.ref q_di_a])), (q_di_a, .inl (cI, 32, .inl di_a)), (q_pr, .inr (2, [.ref q_co, .ref q_ru, .ref q_di, .int pr_firstRow, .int pr_many, .int pr_runCount, .int pr_differentCount, .int pr_least, .int pr_indexWidth, .int pr_frameWidth, .int pr_deltaWidth]))] H := hP
          have hD : va_D A [(q_di, .inr (3, [.ref q_di_a])), (q_di_a, .inl (cI, 32, .inl di_a)), (q_pr, .inr (2, [.ref q_co, .ref q_ru, .ref q_di, .int pr_firstRow, .int pr_many, .int pr_runCount, .int pr_differentCount, .int pr_least, .int pr_indexWidth, .int pr_frameWidth, .int pr_deltaWidth]))] := hD
          refine lv_if_eq (tgt := 86) hx hb dX2_costOfCount_76 (by decide) (fun c16 => ?_) (fun c16 => ?_)
          · have hf := pr_pos hf c16
            refine lv_iconst (v := 0) hx hb dX2_costOfCount_86 (by decide) ?_
            refine lv_iadd hx hb dX2_costOfCount_87 ?_
            obtain rfl := Option.some.inj hf
            exact hret _ _ _ _ dX2_costOfCount_88 (hP.sub [2, 0, 1] rfl) (hD.sub [2, 0, 1] (by decide) rfl) hS
          · have hf := pr_neg hf c16
            refine lv_aload_n hx hb dX2_costOfCount_79 rfl (lv_at hl 0 rfl) ?_
            refine va_get (D := D) (ci := 2) (v := .int pr_many) (C := RX2) (T := TX2) (N := 11) hx hb hts hin2 hown hK hP 2 rfl rfl 4 (by decide) (hts (.fieldLink RX2 30 "ColumnChooser$Profile" "many" "I") (List.mem_of_getElem? (i := 4) rfl)) (fun _ h9 => h9) rfl dX2_costOfCount_80 ?_
            refine lv_goto (tgt := 87) hx hb dX2_costOfCount_83 (by decide) ?_
            refine lv_iadd hx hb dX2_costOfCount_87 ?_
            obtain rfl := Option.some.inj hf
            exact hret _ _ _ _ dX2_costOfCount_88 (hP.sub [2, 0, 1] rfl) (hD.sub [2, 0, 1] (by decide) rfl) hS
        · have hf := pr_neg hf c14
          refine lv_tableOut (tgt := 89) hx hb dX2_costOfCount_1 (by have n0 := lv_neT (a := 1) c9 (by decide); have n1 := lv_neT (a := 2) c10 (by decide); have n2 := lv_neT (a := 3) c11 (by decide); have n3 := lv_neT (a := 4) c14 (by decide); omega) (by decide) ?_
          refine lv_aload_n hx hb dX2_costOfCount_89 rfl (lv_at hl 0 rfl) ?_
          refine va_get (D := D) (ci := 2) (v := .int pr_many) (C := RX2) (T := TX2) (N := 11) hx hb hts hin2 hown hK hP 0 rfl rfl 4 (by decide) (hts (.fieldLink RX2 30 "ColumnChooser$Profile" "many" "I") (List.mem_of_getElem? (i := 4) rfl)) (fun _ h9 => h9) rfl dX2_costOfCount_90 ?_
          obtain rfl := Option.some.inj hf
          exact hret _ _ _ _ dX2_costOfCount_93 (hP.sub [0, 1, 2] rfl) (hD.sub [0, 1, 2] (by decide) rfl) hS
set_option maxHeartbeats 4000000 in
set_option maxRecDepth 100000 in
theorem c_X2_costOfSum (l : Launch) (D : va_G) (cI : ClassId) (q_co q_pr q_ru q_ru_a q_di : Nat) (n : Nat) (x1 : Int32) (x2 : Int32) (x3 : Int32) (pr_firstRow : Int32) (pr_many : Int32) (pr_runCount : Int32) (pr_differentCount : Int32) (pr_least : Int32) (pr_indexWidth : Int32) (pr_frameWidth : Int32) (pr_deltaWidth : Int32) (ru_a : (Nat → Int32)) (res : Int32) (hf : f_X2_costOfSum n x1 x2 x3 pr_differentCount ru_a = some res) : fr_Ci l yX2_costOfSum wsX2_costOfSum ({ frames := 1, cells := 0, slots := 0, locals := 21 }) D [(cI, .int)] [.ref q_pr, .int x1, .int x2, .int x3] [(q_pr, .inr (2, [.ref q_co, .ref q_ru, .ref q_di, .int pr_firstRow, .int pr_many, .int pr_runCount, .int pr_differentCount, .int pr_least, .int pr_indexWidth, .int pr_frameWidth, .int pr_deltaWidth])), (q_ru, .inr (3, [.ref q_ru_a])), (q_ru_a, .inl (cI, 32, .inl ru_a))] res [(q_pr, .inr (2, [.ref q_co, .ref q_ru, .ref q_di, .int pr_firstRow, .int pr_many, .int pr_runCount, .int pr_differentCount, .int pr_least, .int pr_indexWidth, .int pr_frameWidth, .int pr_deltaWidth])), (q_ru, .inr (3, [.ref q_ru_a])), (q_ru_a, .inl (cI, 32, .inl ru_a))] := by
  refine fr_open_i (cc := cX2_costOfSum) (maxL := 5) (ret := some .int) (by decide +kernel) rfl (Nat.le_of_ble_eq_true rfl) ⟨.int, rfl, vp_nar_int _⟩ ?_
  intro p e s m below meth c A Q ls hx hb hml hown hts hA hK hP hD hS hl hret
  have hown : s.vm.findClass RX2 = some m.cls := hown
  have hl : lv_has ls 5 [(0, .ref q_pr), (1, .int x1), (2, .int x2), (3, .int x3)] := hl
  have hin2 : ∀ w ∈ u_ws RX2 TX2 11, w ∈ wsX2_costOfSum := fun _ h9 => List.mem_cons_of_mem _ (List.mem_append_left _ (List.mem_append_right _ h9))
  unfold f_X2_costOfSum at hf
  refine lv_iload_n hx hb dX2_costOfSum_0 rfl (lv_at hl 2 rfl) ?_
  refine lv_iload_n hx hb dX2_costOfSum_1 rfl (lv_at hl 1 rfl) ?_
  refine lv_isub hx hb dX2_costOfSum_2 ?_
  refine lv_iconst (v := 1) hx hb dX2_costOfSum_3 (by decide) ?_
  refine lv_iadd hx hb dX2_costOfSum_4 ?_
  refine lv_istore (lv' := [(4, .int ((x2 - x1) + 1)), (0, .ref q_pr), (1, .int x1), (2, .int x2), (3, .int x3)]) hx hb dX2_costOfSum_5 hl (by decide) rfl (fun ls hl => ?_)
  refine lv_iload_n hx hb dX2_costOfSum_7 rfl (lv_at hl 4 rfl) ?_
  by_cases c7 : x3 = 0
  · have hf := pr_pos hf c7
    refine lv_tableIn (off := 36) (tgt := 44) hx hb dX2_costOfSum_8 (by rw [c7]; decide) (by rw [c7]; decide) (by rw [c7]; rfl) (by decide) ?_
    refine lv_iload hx hb dX2_costOfSum_44 (lv_at hl 0 rfl) ?_
    obtain rfl := Option.some.inj hf
    exact hret _ _ _ _ dX2_costOfSum_46 (hP.sub [0, 1, 2] rfl) (hD.sub [0, 1, 2] (by decide) rfl) hS
  · have hf := pr_neg hf c7
    by_cases c8 : x3 = 1
    · have hf := pr_pos hf c8
      refine lv_tableIn (off := 39) (tgt := 47) hx hb dX2_costOfSum_8 (by rw [c8]; decide) (by rw [c8]; decide) (by rw [c8]; rfl) (by decide) ?_
      refine lv_iconst (v := 1) hx hb dX2_costOfSum_47 (by decide) ?_
      obtain rfl := Option.some.inj hf
      exact hret _ _ _ _ dX2_costOfSum_48 (hP.sub [0, 1, 2] rfl) (hD.sub [0, 1, 2] (by decide) rfl) hS
    · have hf := pr_neg hf c8
      by_cases c9 : x3 = 2
      · have hf := pr_pos hf c9
        refine lv_tableIn (off := 41) (tgt := 49) hx hb dX2_costOfSum_8 (by rw [c9]; decide) (by rw [c9]; decide) (by rw [c9]; rfl) (by decide) ?_
        refine lv_iconst (v := 1) hx hb dX2_costOfSum_49 (by decide) ?_
        refine lv_aload_n hx hb dX2_costOfSum_50 rfl (lv_at hl 1 rfl) ?_
        refine va_get (D := D) (ci := 2) (v := .ref q_ru) (C := RX2) (T := TX2) (N := 11) hx hb hts hin2 hown hK hP 0 rfl rfl 1 (by decide) (hts (.fieldLink RX2 20 "ColumnChooser$Profile" "runsUpTo" "LColumnChooser$Row;") (List.mem_of_getElem? (i := 1) rfl)) (fun _ h9 => h9) rfl dX2_costOfSum_51 ?_
        refine lv_iload_n hx hb dX2_costOfSum_54 rfl (lv_at hl 3 rfl) ?_
        obtain ⟨u10, hu10, hf⟩ := pr_bd hf
        refine fr_iV (As := [.int x2]) ⟨hx, hb, hml, hown, hts⟩ hK hP hD hS hA (c_X3_get l D cI q_ru q_ru_a 32 n x2 ru_a u10 hu10) (cwV 1 hts gX2_costOfSum_X3_get rfl rfl rfl (by decide +kernel) ⟨Nat.le_of_ble_eq_true rfl, Nat.le_of_ble_eq_true rfl⟩) [(q_pr, .inr (2, [.ref q_co, .ref q_ru, .ref q_di, .int pr_firstRow, .int pr_many, .int pr_runCount, .int pr_differentCount, .int pr_least, .int pr_indexWidth, .int pr_frameWidth, .int pr_deltaWidth]))] [1, 2] [0] rfl rfl (by decide) (by decide) (by decide) 0 rfl rfl rfl rfl hl.1 (Nat.le_of_ble_eq_true rfl) dX2_costOfSum_55 ⟨Nat.zero_le _, Nat.zero_le _⟩ rfl (fun H locs hP hD hS => ?_)
        have hP : va_P D vwCl [(q_pr, .inr (2, [.ref q_co, .ref q_ru, .ref q_di, .int pr_firstRow, .int pr_many, .int pr_runCount, .int pr_differentCount, .int pr_least, .int pr_indexWidth, .int pr_frameWidth, .int pr_deltaWidth])), (q_ru, .inr (3, [.ref q_ru_a])), (q_ru_a, .inl (cI, 32, .inl ru_a))] H := hP
        have hD : va_D A [(q_pr, .inr (2, [.ref q_co, .ref q_ru, .ref q_di, .int pr_firstRow, .int pr_many, .int pr_runCount, .int pr_differentCount, .int pr_least, .int pr_indexWidth, .int pr_frameWidth, .int pr_deltaWidth])), (q_ru, .inr (3, [.ref q_ru_a])), (q_ru_a, .inl (cI, 32, .inl ru_a))] := hD
        refine lv_iadd hx hb dX2_costOfSum_58 ?_
        obtain rfl := Option.some.inj hf
        exact hret _ _ _ _ dX2_costOfSum_59 (hP.sub [0, 1, 2] rfl) (hD.sub [0, 1, 2] (by decide) rfl) hS
      · have hf := pr_neg hf c9
        by_cases c11 : x3 = 3
        · have hf := pr_pos hf c11
          refine lv_tableIn (off := 52) (tgt := 60) hx hb dX2_costOfSum_8 (by rw [c11]; decide) (by rw [c11]; decide) (by rw [c11]; rfl) (by decide) ?_
          refine lv_iload hx hb dX2_costOfSum_60 (lv_at hl 0 rfl) ?_
          refine lv_aload_n hx hb dX2_costOfSum_62 rfl (lv_at hl 1 rfl) ?_
          refine va_get (D := D) (ci := 2) (v := .int pr_differentCount) (C := RX2) (T := TX2) (N := 11) hx hb hts hin2 hown hK hP 0 rfl rfl 6 (by decide) (hts (.fieldLink RX2 36 "ColumnChooser$Profile" "differentCount" "I") (List.mem_of_getElem? (i := 2) rfl)) (fun _ h9 => h9) rfl dX2_costOfSum_63 ?_
          refine lv_iadd hx hb dX2_costOfSum_66 ?_
          obtain rfl := Option.some.inj hf
          exact hret _ _ _ _ dX2_costOfSum_67 (hP.sub [0, 1, 2] rfl) (hD.sub [0, 1, 2] (by decide) rfl) hS
        · have hf := pr_neg hf c11
          by_cases c12 : x3 = 4
          · have hf := pr_pos hf c12
            refine lv_tableIn (off := 60) (tgt := 68) hx hb dX2_costOfSum_8 (by rw [c12]; decide) (by rw [c12]; decide) (by rw [c12]; rfl) (by decide) ?_
            refine lv_iload hx hb dX2_costOfSum_68 (lv_at hl 0 rfl) ?_
            refine lv_iconst (v := 1) hx hb dX2_costOfSum_70 (by decide) ?_
            refine lv_iadd hx hb dX2_costOfSum_71 ?_
            obtain rfl := Option.some.inj hf
            exact hret _ _ _ _ dX2_costOfSum_72 (hP.sub [0, 1, 2] rfl) (hD.sub [0, 1, 2] (by decide) rfl) hS
          · have hf := pr_neg hf c12
            refine lv_tableOut (tgt := 73) hx hb dX2_costOfSum_8 (by have n0 := lv_neT (a := 0) c7 (by decide); have n1 := lv_neT (a := 1) c8 (by decide); have n2 := lv_neT (a := 2) c9 (by decide); have n3 := lv_neT (a := 3) c11 (by decide); have n4 := lv_neT (a := 4) c12 (by decide); omega) (by decide) ?_
            refine lv_iload_n hx hb dX2_costOfSum_73 rfl (lv_at hl 3 rfl) ?_
            refine lv_iconst (v := 1) hx hb dX2_costOfSum_74 (by decide) ?_
            refine lv_iadd hx hb dX2_costOfSum_75 ?_
            obtain rfl := Option.some.inj hf
            exact hret _ _ _ _ dX2_costOfSum_76 (hP.sub [0, 1, 2] rfl) (hD.sub [0, 1, 2] (by decide) rfl) hS
set_option maxHeartbeats 4000000 in
set_option maxRecDepth 100000 in
theorem c_X2_costOfPoint (l : Launch) (D : va_G) (cI : ClassId) (q_co q_pr q_ru q_ru_a q_di : Nat) (n : Nat) (x1 : Int32) (x2 : Int32) (pr_firstRow : Int32) (pr_many : Int32) (pr_runCount : Int32) (pr_differentCount : Int32) (pr_least : Int32) (pr_indexWidth : Int32) (pr_frameWidth : Int32) (pr_deltaWidth : Int32) (ru_a : (Nat → Int32)) (res : Int32) (hf : f_X2_costOfPoint n x1 x2 ru_a = some res) : fr_Ci l yX2_costOfPoint wsX2_costOfPoint ({ frames := 1, cells := 0, slots := 0, locals := 21 }) D [(cI, .int)] [.ref q_pr, .int x1, .int x2] [(q_pr, .inr (2, [.ref q_co, .ref q_ru, .ref q_di, .int pr_firstRow, .int pr_many, .int pr_runCount, .int pr_differentCount, .int pr_least, .int pr_indexWidth, .int pr_frameWidth, .int pr_deltaWidth])), (q_ru, .inr (3, [.ref q_ru_a])), (q_ru_a, .inl (cI, 32, .inl ru_a))] res [(q_pr, .inr (2, [.ref q_co, .ref q_ru, .ref q_di, .int pr_firstRow, .int pr_many, .int pr_runCount, .int pr_differentCount, .int pr_least, .int pr_indexWidth, .int pr_frameWidth, .int pr_deltaWidth])), (q_ru, .inr (3, [.ref q_ru_a])), (q_ru_a, .inl (cI, 32, .inl ru_a))] := by
  refine fr_open_i (cc := cX2_costOfPoint) (maxL := 3) (ret := some .int) (by decide +kernel) rfl (Nat.le_of_ble_eq_true rfl) ⟨.int, rfl, vp_nar_int _⟩ ?_
  intro p e s m below meth c A Q ls hx hb hml hown hts hA hK hP hD hS hl hret
  have hown : s.vm.findClass RX2 = some m.cls := hown
  have hl : lv_has ls 3 [(0, .ref q_pr), (1, .int x1), (2, .int x2)] := hl
  have hin2 : ∀ w ∈ u_ws RX2 TX2 11, w ∈ wsX2_costOfPoint := fun _ h9 => List.mem_cons_of_mem _ (List.mem_append_left _ (List.mem_append_right _ h9))
  unfold f_X2_costOfPoint at hf
  refine lv_iload_n hx hb dX2_costOfPoint_0 rfl (lv_at hl 2 rfl) ?_
  by_cases c7 : x2 = 0
  · have hf := pr_pos hf c7
    refine lv_tableIn (off := 35) (tgt := 36) hx hb dX2_costOfPoint_1 (by rw [c7]; decide) (by rw [c7]; decide) (by rw [c7]; rfl) (by decide) ?_
    refine lv_iconst (v := 1) hx hb dX2_costOfPoint_36 (by decide) ?_
    obtain rfl := Option.some.inj hf
    exact hret _ _ _ _ dX2_costOfPoint_37 (hP.sub [0, 1, 2] rfl) (hD.sub [0, 1, 2] (by decide) rfl) hS
  · have hf := pr_neg hf c7
    by_cases c8 : x2 = 1
    · have hf := pr_pos hf c8
      refine lv_tableIn (off := 35) (tgt := 36) hx hb dX2_costOfPoint_1 (by rw [c8]; decide) (by rw [c8]; decide) (by rw [c8]; rfl) (by decide) ?_
      refine lv_iconst (v := 1) hx hb dX2_costOfPoint_36 (by decide) ?_
      obtain rfl := Option.some.inj hf
      exact hret _ _ _ _ dX2_costOfPoint_37 (hP.sub [0, 1, 2] rfl) (hD.sub [0, 1, 2] (by decide) rfl) hS
    · have hf := pr_neg hf c8
      by_cases c9 : x2 = 2
      · have hf := pr_pos hf c9
        refine lv_tableIn (off := 37) (tgt := 38) hx hb dX2_costOfPoint_1 (by rw [c9]; decide) (by rw [c9]; decide) (by rw [c9]; rfl) (by decide) ?_
        refine lv_iconst (v := 1) hx hb dX2_costOfPoint_38 (by decide) ?_
        refine lv_aload_n hx hb dX2_costOfPoint_39 rfl (lv_at hl 0 rfl) ?_
        refine va_get (D := D) (ci := 2) (v := .ref q_ru) (C := RX2) (T := TX2) (N := 11) hx hb hts hin2 hown hK hP 0 rfl rfl 1 (by decide) (hts (.fieldLink RX2 20 "ColumnChooser$Profile" "runsUpTo" "LColumnChooser$Row;") (List.mem_of_getElem? (i := 1) rfl)) (fun _ h9 => h9) rfl dX2_costOfPoint_40 ?_
        refine lv_iload_n hx hb dX2_costOfPoint_43 rfl (lv_at hl 1 rfl) ?_
        obtain ⟨u10, hu10, hf⟩ := pr_bd hf
        refine fr_iV (As := [.int x1]) ⟨hx, hb, hml, hown, hts⟩ hK hP hD hS hA (c_X3_get l D cI q_ru q_ru_a 32 n x1 ru_a u10 hu10) (cwV 1 hts gX2_costOfPoint_X3_get rfl rfl rfl (by decide +kernel) ⟨Nat.le_of_ble_eq_true rfl, Nat.le_of_ble_eq_true rfl⟩) [(q_pr, .inr (2, [.ref q_co, .ref q_ru, .ref q_di, .int pr_firstRow, .int pr_many, .int pr_runCount, .int pr_differentCount, .int pr_least, .int pr_indexWidth, .int pr_frameWidth, .int pr_deltaWidth]))] [1, 2] [0] rfl rfl (by decide) (by decide) (by decide) 0 rfl rfl rfl rfl hl.1 (Nat.le_of_ble_eq_true rfl) dX2_costOfPoint_44 ⟨Nat.zero_le _, Nat.zero_le _⟩ rfl (fun H locs hP hD hS => ?_)
        have hP : va_P D vwCl [(q_pr, .inr (2, [.ref q_co, .ref q_ru, .ref q_di, .int pr_firstRow, .int pr_many, .int pr_runCount, .int pr_differentCount, .int pr_least, .int pr_indexWidth, .int pr_frameWidth, .int pr_deltaWidth])), (q_ru, .inr (3, [.ref q_ru_a])), (q_ru_a, .inl (cI, 32, .inl ru_a))] H := hP
        have hD : va_D A [(q_pr, .inr (2, [.ref q_co, .ref q_ru, .ref q_di, .int pr_firstRow, .int pr_many, .int pr_runCount, .int pr_differentCount, .int pr_least, .int pr_indexWidth, .int pr_frameWidth, .int pr_deltaWidth])), (q_ru, .inr (3, [.ref q_ru_a])), (q_ru_a, .inl (cI, 32, .inl ru_a))] := hD
        refine lv_iadd hx hb dX2_costOfPoint_47 ?_
        obtain rfl := Option.some.inj hf
        exact hret _ _ _ _ dX2_costOfPoint_48 (hP.sub [0, 1, 2] rfl) (hD.sub [0, 1, 2] (by decide) rfl) hS
      · have hf := pr_neg hf c9
        by_cases c11 : x2 = 3
        · have hf := pr_pos hf c11
          refine lv_tableIn (off := 48) (tgt := 49) hx hb dX2_costOfPoint_1 (by rw [c11]; decide) (by rw [c11]; decide) (by rw [c11]; rfl) (by decide) ?_
          refine lv_iconst (v := 2) hx hb dX2_costOfPoint_49 (by decide) ?_
          obtain rfl := Option.some.inj hf
          exact hret _ _ _ _ dX2_costOfPoint_50 (hP.sub [0, 1, 2] rfl) (hD.sub [0, 1, 2] (by decide) rfl) hS
        · have hf := pr_neg hf c11
          by_cases c12 : x2 = 4
          · have hf := pr_pos hf c12
            refine lv_tableIn (off := 48) (tgt := 49) hx hb dX2_costOfPoint_1 (by rw [c12]; decide) (by rw [c12]; decide) (by rw [c12]; rfl) (by decide) ?_
            refine lv_iconst (v := 2) hx hb dX2_costOfPoint_49 (by decide) ?_
            obtain rfl := Option.some.inj hf
            exact hret _ _ _ _ dX2_costOfPoint_50 (hP.sub [0, 1, 2] rfl) (hD.sub [0, 1, 2] (by decide) rfl) hS
          · have hf := pr_neg hf c12
            refine lv_tableOut (tgt := 51) hx hb dX2_costOfPoint_1 (by have n0 := lv_neT (a := 0) c7 (by decide); have n1 := lv_neT (a := 1) c8 (by decide); have n2 := lv_neT (a := 2) c9 (by decide); have n3 := lv_neT (a := 3) c11 (by decide); have n4 := lv_neT (a := 4) c12 (by decide); omega) (by decide) ?_
            refine lv_iload_n hx hb dX2_costOfPoint_51 rfl (lv_at hl 1 rfl) ?_
            refine lv_iconst (v := 1) hx hb dX2_costOfPoint_52 (by decide) ?_
            refine lv_iadd hx hb dX2_costOfPoint_53 ?_
            obtain rfl := Option.some.inj hf
            exact hret _ _ _ _ dX2_costOfPoint_54 (hP.sub [0, 1, 2] rfl) (hD.sub [0, 1, 2] (by decide) rfl) hS
set_option maxHeartbeats 4000000 in
set_option maxRecDepth 100000 in
theorem c_X2_costOf (l : Launch) (D : va_G) (cI : ClassId) (q_tr q_tk q_tk_a q_tf q_tf_a q_tz q_tz_a q_tw q_co q_pr q_ru q_ru_a q_di q_di_a : Nat) (n : Nat) (x2 : Int32) (x3 : Int32) (tr_count : Int32) (tk_a : (Nat → Int32)) (tf_a : (Nat → Int32)) (tz_a : (Nat → Int32)) (pr_firstRow : Int32) (pr_many : Int32) (pr_runCount : Int32) (pr_differentCount : Int32) (pr_least : Int32) (pr_indexWidth : Int32) (pr_frameWidth : Int32) (pr_deltaWidth : Int32) (ru_a : (Nat → Int32)) (di_a : (Nat → Int32)) (res : Int32) (hf : f_X2_costOf n x2 x3 tk_a tf_a tz_a pr_firstRow pr_many pr_runCount pr_differentCount pr_least pr_frameWidth ru_a di_a = some res) : fr_Ci l yX2_costOf wsX2_costOf ({ frames := 2, cells := 0, slots := 0, locals := 45 }) D [(cI, .int)] [.ref q_pr, .ref q_tr, .int x2, .int x3] [(q_tr, .inr (4, [.ref q_tk, .ref q_tf, .ref q_tz, .ref q_tw, .int tr_count])), (q_tk, .inr (3, [.ref q_tk_a])), (q_tk_a, .inl (cI, 20, .inl tk_a)), (q_tf, .inr (3, [.ref q_tf_a])), (q_tf_a, .inl (cI, 20, .inl tf_a)), (q_tz, .inr (3, [.ref q_tz_a])), (q_tz_a, .inl (cI, 20, .inl tz_a)), (q_pr, .inr (2, [.ref q_co, .ref q_ru, .ref q_di, .int pr_firstRow, .int pr_many, .int pr_runCount, .int pr_differentCount, .int pr_least, .int pr_indexWidth, .int pr_frameWidth, .int pr_deltaWidth])), (q_ru, .inr (3, [.ref q_ru_a])), (q_ru_a, .inl (cI, 32, .inl ru_a)), (q_di, .inr (3, [.ref q_di_a])), (q_di_a, .inl (cI, 32, .inl di_a))] res [(q_tr, .inr (4, [.ref q_tk, .ref q_tf, .ref q_tz, .ref q_tw, .int tr_count])), (q_tk, .inr (3, [.ref q_tk_a])), (q_tk_a, .inl (cI, 20, .inl tk_a)), (q_tf, .inr (3, [.ref q_tf_a])), (q_tf_a, .inl (cI, 20, .inl tf_a)), (q_tz, .inr (3, [.ref q_tz_a])), (q_tz_a, .inl (cI, 20, .inl tz_a)), (q_pr, .inr (2, [.ref q_co, .ref q_ru, .ref q_di, .int pr_firstRow, .int pr_many, .int pr_runCount, .int pr_differentCount, .int pr_least, .int pr_indexWidth, .int pr_frameWidth, .int pr_deltaWidth])), (q_ru, .inr (3, [.ref q_ru_a])), (q_ru_a, .inl (cI, 32, .inl ru_a)), (q_di, .inr (3, [.ref q_di_a])), (q_di_a, .inl (cI, 32, .inl di_a))] := by
  refine fr_open_i (cc := cX2_costOf) (maxL := 7) (ret := some .int) (by decide +kernel) rfl (Nat.le_of_ble_eq_true rfl) ⟨.int, rfl, vp_nar_int _⟩ ?_
  intro p e s m below meth c A Q ls hx hb hml hown hts hA hK hP hD hS hl hret
  have hown : s.vm.findClass RX2 = some m.cls := hown
  have hl : lv_has ls 7 [(0, .ref q_pr), (1, .ref q_tr), (2, .int x2), (3, .int x3)] := hl
  have hin2 : ∀ w ∈ u_ws RX2 TX2 11, w ∈ wsX2_costOf := fun _ h9 => List.mem_cons_of_mem _ (List.mem_append_left _ (List.mem_append_left _ (List.mem_append_right _ h9)))
  unfold f_X2_costOf at hf
  refine lv_aload_n hx hb dX2_costOf_0 rfl (lv_at hl 1 rfl) ?_
  refine lv_iload_n hx hb dX2_costOf_1 rfl (lv_at hl 2 rfl) ?_
  obtain ⟨u12, hu12, hf⟩ := pr_bd hf
  refine fr_iV (As := [.int x2]) ⟨hx, hb, hml, hown, hts⟩ hK hP hD hS hA (c_X4_aOf l D cI q_tr q_tk q_tf q_tf_a q_tz q_tw n x2 tr_count tf_a u12 hu12) (cwV 1 hts gX2_costOf_X4_aOf rfl rfl rfl (by decide +kernel) ⟨Nat.le_of_ble_eq_true rfl, Nat.le_of_ble_eq_true rfl⟩) [(q_tk, .inr (3, [.ref q_tk_a])), (q_tk_a, .inl (cI, 20, .inl tk_a)), (q_tz, .inr (3, [.ref q_tz_a])), (q_tz_a, .inl (cI, 20, .inl tz_a)), (q_pr, .inr (2, [.ref q_co, .ref q_ru, .ref q_di, .int pr_firstRow, .int pr_many, .int pr_runCount, .int pr_differentCount, .int pr_least, .int pr_indexWidth, .int pr_frameWidth, .int pr_deltaWidth])), (q_ru, .inr (3, [.ref q_ru_a])), (q_ru_a, .inl (cI, 32, .inl ru_a)), (q_di, .inr (3, [.ref q_di_a])), (q_di_a, .inl (cI, 32, .inl di_a))] [0, 3, 4] [1, 2, 5, 6, 7, 8, 9, 10, 11] rfl rfl (by decide) (by decide) (by decide) 0 rfl rfl rfl rfl hl.1 (Nat.le_of_ble_eq_true rfl) dX2_costOf_2 ⟨Nat.zero_le _, Nat.zero_le _⟩ rfl (fun H locs hP hD hS => ?_)
  have hP : va_P D vwCl [(q_tk, .inr (3, [.ref q_tk_a])), (q_tk_a, .inl (cI, 20, .inl tk_a)), (q_tz, .inr (3, [.ref q_tz_a])), (q_tz_a, .inl (cI, 20, .inl tz_a)), (q_pr, .inr (2, [.ref q_co, .ref q_ru, .ref q_di, .int pr_firstRow, .int pr_many, .int pr_runCount, .int pr_differentCount, .int pr_least, .int pr_indexWidth, .int pr_frameWidth, .int pr_deltaWidth])), (q_ru, .inr (3, [.ref q_ru_a])), (q_ru_a, .inl (cI, 32, .inl ru_a)), (q_di, .inr (3, [.ref q_di_a])), (q_di_a, .inl (cI, 32, .inl di_a)), (q_tr, .inr (4, [.ref q_tk, .ref q_tf, .ref q_tz, .ref q_tw, .int tr_count])), (q_tf, .inr (3, [.ref q_tf_a])), (q_tf_a, .inl (cI, 20, .inl tf_a))] H := hP
  have hD : va_D A [(q_tk, .inr (3, [.ref q_tk_a])), (q_tk_a, .inl (cI, 20, .inl tk_a)), (q_tz, .inr (3, [.ref q_tz_a])), (q_tz_a, .inl (cI, 20, .inl tz_a)), (q_pr, .inr (2, [.ref q_co, .ref q_ru, .ref q_di, .int pr_firstRow, .int pr_many, .int pr_runCount, .int pr_differentCount, .int pr_least, .int pr_indexWidth, .int pr_frameWidth, .int pr_deltaWidth])), (q_ru, .inr (3, [.ref q_ru_a])), (q_ru_a, .inl (cI, 32, .inl ru_a)), (q_di, .inr (3, [.ref q_di_a])), (q_di_a, .inl (cI, 32, .inl di_a)), (q_tr, .inr (4, [.ref q_tk, .ref q_tf, .ref q_tz, .ref q_tw, .int tr_count])), (q_tf, .inr (3, [.ref q_tf_a])), (q_tf_a, .inl (cI, 20, .inl tf_a))] := hD
  refine lv_istore (lv' := [(4, .int u12), (0, .ref q_pr), (1, .ref q_tr), (2, .int x2), (3, .int x3)]) hx hb dX2_costOf_5 hl (by decide) rfl (fun ls hl => ?_)
  refine lv_iload hx hb dX2_costOf_7 (lv_at hl 0 rfl) ?_
  refine lv_aload_n hx hb dX2_costOf_9 rfl (lv_at hl 1 rfl) ?_
  refine va_get (D := D) (ci := 2) (v := .int pr_firstRow) (C := RX2) (T := TX2) (N := 11) hx hb hts hin2 hown hK hP 4 rfl rfl 3 (by decide) (hts (.fieldLink RX2 26 "ColumnChooser$Profile" "firstRow" "I") (List.mem_of_getElem? (i := 1) rfl)) (fun _ h9 => h9) rfl dX2_costOf_10 ?_
  refine lv_isub hx hb dX2_costOf_13 ?_
  refine lv_iconst (v := 0) hx hb dX2_costOf_14 (by decide) ?_
  refine va_mmax hx hb (hml.trans hl.1.symm) hown (hts (.methodLink RX2 49 Lib.Math.max.name) (List.mem_of_getElem? (i := 2) rfl)) (hts (.static Lib.Math.max.name) (List.mem_of_getElem? (i := 3) rfl)) (hts (.initialized "java/lang/Math") (List.mem_of_getElem? (i := 4) rfl)) (hts (.code Lib.Math.max.name Lib.Math.max.code 2 (some .int)) (List.mem_of_getElem? (i := 5) rfl)) (Nat.le_of_ble_eq_true rfl) (Nat.le_of_ble_eq_true rfl) (Nat.zero_le _) (Nat.zero_le _) dX2_costOf_15 ?_
  refine lv_istore (lv' := [(5, .int (if (u12 - pr_firstRow) < 0 then 0 else (u12 - pr_firstRow))), (4, .int u12), (0, .ref q_pr), (1, .ref q_tr), (2, .int x2), (3, .int x3)]) hx hb dX2_costOf_18 hl (by decide) rfl (fun ls hl => ?_)
  refine lv_aload_n hx hb dX2_costOf_20 rfl (lv_at hl 3 rfl) ?_
  refine lv_iload_n hx hb dX2_costOf_21 rfl (lv_at hl 4 rfl) ?_
  obtain ⟨u13, hu13, hf⟩ := pr_bd hf
  refine fr_iV (As := [.int x2]) ⟨hx, hb, hml, hown, hts⟩ hK hP hD hS hA (c_X4_kindOf l D cI q_tr q_tk q_tk_a q_tf q_tz q_tw n x2 tr_count tk_a u13 hu13) (cwV 1 hts gX2_costOf_X4_kindOf rfl rfl rfl (by decide +kernel) ⟨Nat.le_of_ble_eq_true rfl, Nat.le_of_ble_eq_true rfl⟩) [(q_tz, .inr (3, [.ref q_tz_a])), (q_tz_a, .inl (cI, 20, .inl tz_a)), (q_pr, .inr (2, [.ref q_co, .ref q_ru, .ref q_di, .int pr_firstRow, .int pr_many, .int pr_runCount, .int pr_differentCount, .int pr_least, .int pr_indexWidth, .int pr_frameWidth, .int pr_deltaWidth])), (q_ru, .inr (3, [.ref q_ru_a])), (q_ru_a, .inl (cI, 32, .inl ru_a)), (q_di, .inr (3, [.ref q_di_a])), (q_di_a, .inl (cI, 32, .inl di_a)), (q_tf, .inr (3, [.ref q_tf_a])), (q_tf_a, .inl (cI, 20, .inl tf_a))] [9, 0, 1] [2, 3, 4, 5, 6, 7, 8, 10, 11] rfl rfl (by decide) (by decide) (by decide) 0 rfl rfl rfl rfl hl.1 (Nat.le_of_ble_eq_true rfl) dX2_costOf_22 ⟨Nat.zero_le _, Nat.zero_le _⟩ rfl (fun H locs hP hD hS => ?_)
  have hP : va_P D vwCl [(q_tz, .inr (3, [.ref q_tz_a])), (q_tz_a, .inl (cI, 20, .inl tz_a)), (q_pr, .inr (2, [.ref q_co, .ref q_ru, .ref q_di, .int pr_firstRow, .int pr_many, .int pr_runCount, .int pr_differentCount, .int pr_least, .int pr_indexWidth, .int pr_frameWidth, .int pr_deltaWidth])), (q_ru, .inr (3, [.ref q_ru_a])), (q_ru_a, .inl (cI, 32, .inl ru_a)), (q_di, .inr (3, [.ref q_di_a])), (q_di_a, .inl (cI, 32, .inl di_a)), (q_tf, .inr (3, [.ref q_tf_a])), (q_tf_a, .inl (cI, 20, .inl tf_a)), (q_tr, .inr (4, [.ref q_tk, .ref q_tf, .ref q_tz, .ref q_tw, .int tr_count])), (q_tk, .inr (3, [.ref q_tk_a])), (q_tk_a, .inl (cI, 20, .inl tk_a))] H := hP
  have hD : va_D A [(q_tz, .inr (3, [.ref q_tz_a])), (q_tz_a, .inl (cI, 20, .inl tz_a)), (q_pr, .inr (2, [.ref q_co, .ref q_ru, .ref q_di, .int pr_firstRow, .int pr_many, .int pr_runCount, .int pr_differentCount, .int pr_least, .int pr_indexWidth, .int pr_frameWidth, .int pr_deltaWidth])), (q_ru, .inr (3, [.ref q_ru_a])), (q_ru_a, .inl (cI, 32, .inl ru_a)), (q_di, .inr (3, [.ref q_di_a])), (q_di_a, .inl (cI, 32, .inl di_a)), (q_tf, .inr (3, [.ref q_tf_a])), (q_tf_a, .inl (cI, 20, .inl tf_a)), (q_tr, .inr (4, [.ref q_tk, .ref q_tf, .ref q_tz, .ref q_tw, .int tr_count])), (q_tk, .inr (3, [.ref q_tk_a])), (q_tk_a, .inl (cI, 20, .inl tk_a))] := hD
  by_cases c14 : u13 = 0
  · have hf := pr_pos hf c14
    refine lv_lookup (off := 27) (tgt := 52) hx hb dX2_costOf_25 (by decide) (by rw [c14]; rfl) (by decide) ?_
    refine lv_iload hx hb dX2_costOf_52 (lv_at hl 1 rfl) ?_
    refine lv_aload_n hx hb dX2_costOf_54 rfl (lv_at hl 2 rfl) ?_
    refine va_get (D := D) (ci := 2) (v := .int pr_firstRow) (C := RX2) (T := TX2) (N := 11) hx hb hts hin2 hown hK hP 2 rfl rfl 3 (by decide) (hts (.fieldLink RX2 26 "ColumnChooser$Profile" "firstRow" "I") (List.mem_of_getElem? (i := 1) rfl)) (fun _ h9 => h9) rfl dX2_costOf_55 ?_
    refine lv_icmp_lt (tgt := 70) hx hb dX2_costOf_58 (by decide) (fun c15 => ?_) (fun c15 => ?_)
    · have hf := pr_pos hf c15
      refine lv_iconst (v := 0) hx hb dX2_costOf_70 (by decide) ?_
      refine lv_goto (tgt := 81) hx hb dX2_costOf_71 (by decide) ?_
      obtain rfl := Option.some.inj hf
      exact hret _ _ _ _ dX2_costOf_81 (hP.sub [9, 10, 11, 7, 8, 0, 1, 2, 3, 4, 5, 6] rfl) (hD.sub [9, 10, 11, 7, 8, 0, 1, 2, 3, 4, 5, 6] (by decide) rfl) hS
    · have hf := pr_neg hf c15
      refine lv_iload hx hb dX2_costOf_61 (lv_at hl 0 rfl) ?_
      refine lv_aload_n hx hb dX2_costOf_63 rfl (lv_at hl 2 rfl) ?_
      refine va_get (D := D) (ci := 2) (v := .int pr_many) (C := RX2) (T := TX2) (N := 11) hx hb hts hin2 hown hK hP 2 rfl rfl 4 (by decide) (hts (.fieldLink RX2 30 "ColumnChooser$Profile" "many" "I") (List.mem_of_getElem? (i := 6) rfl)) (fun _ h9 => h9) rfl dX2_costOf_64 ?_
      refine lv_icmp_lt (tgt := 74) hx hb dX2_costOf_67 (by decide) (fun c16 => ?_) (fun c16 => ?_)
      · have hf := pr_pos hf c16
        refine lv_aload_n hx hb dX2_costOf_74 rfl (lv_at hl 2 rfl) ?_
        refine lv_iload hx hb dX2_costOf_75 (lv_at hl 0 rfl) ?_
        refine lv_iload_n hx hb dX2_costOf_77 rfl (lv_at hl 5 rfl) ?_
        obtain ⟨u17, hu17, hf⟩ := pr_bd hf
        refine fr_iV (As := [.int (if (u12 - pr_firstRow) < 0 then 0 else (u12 - pr_firstRow)), .int x3]) ⟨hx, hb, hml, hown, hts⟩ hK hP hD hS hA (c_X2_costOfPoint l D cI q_co q_pr q_ru q_ru_a q_di n (if (u12 - pr_firstRow) < 0 then 0 else (u12 - pr_firstRow)) x3 pr_firstRow pr_many pr_runCount pr_differentCount pr_least pr_indexWidth pr_frameWidth pr_deltaWidth ru_a u17 hu17) (cwV 2 hts gX2_costOf_X2_costOfPoint rfl rfl rfl (by decide +kernel) ⟨Nat.le_of_ble_eq_true rfl, Nat.le_of_ble_eq_true rfl⟩) [(q_tz, .inr (3, [.ref q_tz_a])), (q_tz_a, .inl (cI, 20, .inl tz_a)), (q_di, .inr (3, [.ref q_di_a])), (q_di_a, .inl (cI, 32, .inl di_a)), (q_tf, .inr (3, [.ref q_tf_a])), (q_tf_a, .inl (cI, 20, .inl tf_a)), (q_tr, .inr (4, [.ref q_tk, .ref q_tf, .ref q_tz, .ref q_tw, .int tr_count])), (q_tk, .inr (3, [.ref q_tk_a])), (q_tk_a, .inl (cI, 20, .inl tk_a))] [2, 3, 4] [0, 1, 5, 6, 7, 8, 9, 10, 11] rfl rfl (by decide) (by decide) (by decide) 0 rfl rfl rfl rfl hl.1 (Nat.le_of_ble_eq_true rfl) dX2_costOf_78 ⟨Nat.zero_le _, Nat.zero_le _⟩ rfl (fun H locs hP hD hS => ?_)
        have hP : va_P D vwCl [(q_tz, .inr (3, [.ref q_tz_a])), (q_tz_a, .inl (cI, 20, .inl tz_a)), (q_di, .inr (3, [.ref q_di_a])), (q_di_a, .inl (cI, 32, .inl di_a)), (q_tf, .inr (3, [.ref q_tf_a])), (q_tf_a, .inl (cI, 20, .inl tf_a)), (q_tr, .inr (4, [.ref q_tk, .ref q_tf, .ref q_tz, .ref q_tw, .int tr_count])), (q_tk, .inr (3, [.ref q_tk_a])), (q_tk_a, .inl (cI, 20, .inl tk_a)), (q_pr, .inr (2, [.ref q_co, .ref q_ru, .ref q_di, .int pr_firstRow, .int pr_many, .int pr_runCount, .int pr_differentCount, .int pr_least, .int pr_indexWidth, .int pr_frameWidth, .int pr_deltaWidth])), (q_ru, .inr (3, [.ref q_ru_a])), (q_ru_a, .inl (cI, 32, .inl ru_a))] H := hP
        have hD : va_D A [(q_tz, .inr (3, [.ref q_tz_a])), (q_tz_a, .inl (cI, 20, .inl tz_a)), (q_di, .inr (3, [.ref q_di_a])), (q_di_a, .inl (cI, 32, .inl di_a)), (q_tf, .inr (3, [.ref q_tf_a])), (q_tf_a, .inl (cI, 20, .inl tf_a)), (q_tr, .inr (4, [.ref q_tk, .ref q_tf, .ref q_tz, .ref q_tw, .int tr_count])), (q_tk, .inr (3, [.ref q_tk_a])), (q_tk_a, .inl (cI, 20, .inl tk_a)), (q_pr, .inr (2, [.ref q_co, .ref q_ru, .ref q_di, .int pr_firstRow, .int pr_many, .int pr_runCount, .int pr_differentCount, .int pr_least, .int pr_indexWidth, .int pr_frameWidth, .int pr_deltaWidth])), (q_ru, .inr (3, [.ref q_ru_a])), (q_ru_a, .inl (cI, 32, .inl ru_a))] := hD
        obtain rfl := Option.some.inj hf
        exact hret _ _ _ _ dX2_costOf_81 (hP.sub [6, 7, 8, 4, 5, 0, 1, 9, 10, 11, 2, 3] rfl) (hD.sub [6, 7, 8, 4, 5, 0, 1, 9, 10, 11, 2, 3] (by decide) rfl) hS
      · have hf := pr_neg hf c16
        refine lv_iconst (v := 0) hx hb dX2_costOf_70 (by decide) ?_
        refine lv_goto (tgt := 81) hx hb dX2_costOf_71 (by decide) ?_
        obtain rfl := Option.some.inj hf
        exact hret _ _ _ _ dX2_costOf_81 (hP.sub [9, 10, 11, 7, 8, 0, 1, 2, 3, 4, 5, 6] rfl) (hD.sub [9, 10, 11, 7, 8, 0, 1, 2, 3, 4, 5, 6] (by decide) rfl) hS
  · have hf := pr_neg hf c14
    by_cases c18 : u13 = 1
    · have hf := pr_pos hf c18
      refine lv_lookup (off := 57) (tgt := 82) hx hb dX2_costOf_25 (by decide) (by rw [c18]; rfl) (by decide) ?_
      refine lv_aload_n hx hb dX2_costOf_82 rfl (lv_at hl 3 rfl) ?_
      refine lv_iload_n hx hb dX2_costOf_83 rfl (lv_at hl 4 rfl) ?_
      obtain ⟨u19, hu19, hf⟩ := pr_bd hf
      refine fr_iV (As := [.int x2]) ⟨hx, hb, hml, hown, hts⟩ hK hP hD hS hA (c_X4_bOf l D cI q_tr q_tk q_tf q_tz q_tz_a q_tw n x2 tr_count tz_a u19 hu19) (cwV 1 hts gX2_costOf_X4_bOf rfl rfl rfl (by decide +kernel) ⟨Nat.le_of_ble_eq_true rfl, Nat.le_of_ble_eq_true rfl⟩) [(q_pr, .inr (2, [.ref q_co, .ref q_ru, .ref q_di, .int pr_firstRow, .int pr_many, .int pr_runCount, .int pr_differentCount, .int pr_least, .int pr_indexWidth, .int pr_frameWidth, .int pr_deltaWidth])), (q_ru, .inr (3, [.ref q_ru_a])), (q_ru_a, .inl (cI, 32, .inl ru_a)), (q_di, .inr (3, [.ref q_di_a])), (q_di_a, .inl (cI, 32, .inl di_a)), (q_tf, .inr (3, [.ref q_tf_a])), (q_tf_a, .inl (cI, 20, .inl tf_a)), (q_tk, .inr (3, [.ref q_tk_a])), (q_tk_a, .inl (cI, 20, .inl tk_a))] [9, 0, 1] [2, 3, 4, 5, 6, 7, 8, 10, 11] rfl rfl (by decide) (by decide) (by decide) 0 rfl rfl rfl rfl hl.1 (Nat.le_of_ble_eq_true rfl) dX2_costOf_84 ⟨Nat.zero_le _, Nat.zero_le _⟩ rfl (fun H locs hP hD hS => ?_)
      have hP : va_P D vwCl [(q_pr, .inr (2, [.ref q_co, .ref q_ru, .ref q_di, .int pr_firstRow, .int pr_many, .int pr_runCount, .int pr_differentCount, .int pr_least, .int pr_indexWidth, .int pr_frameWidth, .int pr_deltaWidth])), (q_ru, .inr (3, [.ref q_ru_a])), (q_ru_a, .inl (cI, 32, .inl ru_a)), (q_di, .inr (3, [.ref q_di_a])), (q_di_a, .inl (cI, 32, .inl di_a)), (q_tf, .inr (3, [.ref q_tf_a])), (q_tf_a, .inl (cI, 20, .inl tf_a)), (q_tk, .inr (3, [.ref q_tk_a])), (q_tk_a, .inl (cI, 20, .inl tk_a)), (q_tr, .inr (4, [.ref q_tk, .ref q_tf, .ref q_tz, .ref q_tw, .int tr_count])), (q_tz, .inr (3, [.ref q_tz_a])), (q_tz_a, .inl (cI, 20, .inl tz_a))] H := hP
      have hD : va_D A [(q_pr, .inr (2, [.ref q_co, .ref q_ru, .ref q_di, .int pr_firstRow, .int pr_many, .int pr_runCount, .int pr_differentCount, .int pr_least, .int pr_indexWidth, .int pr_frameWidth, .int pr_deltaWidth])), (q_ru, .inr (3, [.ref q_ru_a])), (q_ru_a, .inl (cI, 32, .inl ru_a)), (q_di, .inr (3, [.ref q_di_a])), (q_di_a, .inl (cI, 32, .inl di_a)), (q_tf, .inr (3, [.ref q_tf_a])), (q_tf_a, .inl (cI, 20, .inl tf_a)), (q_tk, .inr (3, [.ref q_tk_a])), (q_tk_a, .inl (cI, 20, .inl tk_a)), (q_tr, .inr (4, [.ref q_tk, .ref q_tf, .ref q_tz, .ref q_tw, .int tr_count])), (q_tz, .inr (3, [.ref q_tz_a])), (q_tz_a, .inl (cI, 20, .inl tz_a))] := hD
      refine lv_aload_n hx hb dX2_costOf_87 rfl (lv_at hl 2 rfl) ?_
      refine va_get (D := D) (ci := 2) (v := .int pr_firstRow) (C := RX2) (T := TX2) (N := 11) hx hb hts hin2 hown hK hP 0 rfl rfl 3 (by decide) (hts (.fieldLink RX2 26 "ColumnChooser$Profile" "firstRow" "I") (List.mem_of_getElem? (i := 1) rfl)) (fun _ h9 => h9) rfl dX2_costOf_88 ?_
      refine lv_isub hx hb dX2_costOf_91 ?_
      refine lv_aload_n hx hb dX2_costOf_92 rfl (lv_at hl 2 rfl) ?_
      refine va_get (D := D) (ci := 2) (v := .int pr_many) (C := RX2) (T := TX2) (N := 11) hx hb hts hin2 hown hK hP 0 rfl rfl 4 (by decide) (hts (.fieldLink RX2 30 "ColumnChooser$Profile" "many" "I") (List.mem_of_getElem? (i := 6) rfl)) (fun _ h9 => h9) rfl dX2_costOf_93 ?_
      refine va_mmin hx hb (hml.trans hl.1.symm) hown (hts (.methodLink RX2 95 Lib.Math.min.name) (List.mem_of_getElem? (i := 7) rfl)) (hts (.static Lib.Math.min.name) (List.mem_of_getElem? (i := 8) rfl)) (hts (.initialized "java/lang/Math") (List.mem_of_getElem? (i := 4) rfl)) (hts (.code Lib.Math.min.name Lib.Math.min.code 2 (some .int)) (List.mem_of_getElem? (i := 9) rfl)) (Nat.le_of_ble_eq_true rfl) (Nat.le_of_ble_eq_true rfl) (Nat.zero_le _) (Nat.zero_le _) dX2_costOf_96 ?_
      refine lv_iconst (v := 1) hx hb dX2_costOf_99 (by decide) ?_
      refine lv_isub hx hb dX2_costOf_100 ?_
      refine lv_istore (lv' := [(6, .int ((if pr_many < (u19 - pr_firstRow) then pr_many else (u19 - pr_firstRow)) - 1)), (5, .int (if (u12 - pr_firstRow) < 0 then 0 else (u12 - pr_firstRow))), (4, .int u12), (0, .ref q_pr), (1, .ref q_tr), (2, .int x2), (3, .int x3)]) hx hb dX2_costOf_101 hl (by decide) rfl (fun ls hl => ?_)
      refine lv_iload hx hb dX2_costOf_103 (lv_at hl 1 rfl) ?_
      refine lv_iload hx hb dX2_costOf_105 (lv_at hl 0 rfl) ?_
      refine lv_icmp_le (tgt := 114) hx hb dX2_costOf_107 (by decide) (fun c20 => ?_) (fun c20 => ?_)
      · have hf := pr_pos hf c20
        refine lv_aload_n hx hb dX2_costOf_114 rfl (lv_at hl 3 rfl) ?_
        refine lv_iload hx hb dX2_costOf_115 (lv_at hl 1 rfl) ?_
        refine lv_iload hx hb dX2_costOf_117 (lv_at hl 0 rfl) ?_
        refine lv_iload_n hx hb dX2_costOf_119 rfl (lv_at hl 6 rfl) ?_
        obtain ⟨u21, hu21, hf⟩ := pr_bd hf
        refine fr_iV (As := [.int (if (u12 - pr_firstRow) < 0 then 0 else (u12 - pr_firstRow)), .int ((if pr_many < (u19 - pr_firstRow) then pr_many else (u19 - pr_firstRow)) - 1), .int x3]) ⟨hx, hb, hml, hown, hts⟩ hK hP hD hS hA (c_X2_costOfSum l D cI q_co q_pr q_ru q_ru_a q_di n (if (u12 - pr_firstRow) < 0 then 0 else (u12 - pr_firstRow)) ((if pr_many < (u19 - pr_firstRow) then pr_many else (u19 - pr_firstRow)) - 1) x3 pr_firstRow pr_many pr_runCount pr_differentCount pr_least pr_indexWidth pr_frameWidth pr_deltaWidth ru_a u21 hu21) (cwV 3 hts gX2_costOf_X2_costOfSum rfl rfl rfl (by decide +kernel) ⟨Nat.le_of_ble_eq_true rfl, Nat.le_of_ble_eq_true rfl⟩) [(q_di, .inr (3, [.ref q_di_a])), (q_di_a, .inl (cI, 32, .inl di_a)), (q_tf, .inr (3, [.ref q_tf_a])), (q_tf_a, .inl (cI, 20, .inl tf_a)), (q_tk, .inr (3, [.ref q_tk_a])), (q_tk_a, .inl (cI, 20, .inl tk_a)), (q_tr, .inr (4, [.ref q_tk, .ref q_tf, .ref q_tz, .ref q_tw, .int tr_count])), (q_tz, .inr (3, [.ref q_tz_a])), (q_tz_a, .inl (cI, 20, .inl tz_a))] [0, 1, 2] [3, 4, 5, 6, 7, 8, 9, 10, 11] rfl rfl (by decide) (by decide) (by decide) 0 rfl rfl rfl rfl hl.1 (Nat.le_of_ble_eq_true rfl) dX2_costOf_120 ⟨Nat.zero_le _, Nat.zero_le _⟩ rfl (fun H locs hP hD hS => ?_)
        have hP : va_P D vwCl [(q_di, .inr (3, [.ref q_di_a])), (q_di_a, .inl (cI, 32, .inl di_a)), (q_tf, .inr (3, [.ref q_tf_a])), (q_tf_a, .inl (cI, 20, .inl tf_a)), (q_tk, .inr (3, [.ref q_tk_a])), (q_tk_a, .inl (cI, 20, .inl tk_a)), (q_tr, .inr (4, [.ref q_tk, .ref q_tf, .ref q_tz, .ref q_tw, .int tr_count])), (q_tz, .inr (3, [.ref q_tz_a])), (q_tz_a, .inl (cI, 20, .inl tz_a)), (q_pr, .inr (2, [.ref q_co, .ref q_ru, .ref q_di, .int pr_firstRow, .int pr_many, .int pr_runCount, .int pr_differentCount, .int pr_least, .int pr_indexWidth, .int pr_frameWidth, .int pr_deltaWidth])), (q_ru, .inr (3, [.ref q_ru_a])), (q_ru_a, .inl (cI, 32, .inl ru_a))] H := hP
        have hD : va_D A [(q_di, .inr (3, [.ref q_di_a])), (q_di_a, .inl (cI, 32, .inl di_a)), (q_tf, .inr (3, [.ref q_tf_a])), (q_tf_a, .inl (cI, 20, .inl tf_a)), (q_tk, .inr (3, [.ref q_tk_a])), (q_tk_a, .inl (cI, 20, .inl tk_a)), (q_tr, .inr (4, [.ref q_tk, .ref q_tf, .ref q_tz, .ref q_tw, .int tr_count])), (q_tz, .inr (3, [.ref q_tz_a])), (q_tz_a, .inl (cI, 20, .inl tz_a)), (q_pr, .inr (2, [.ref q_co, .ref q_ru, .ref q_di, .int pr_firstRow, .int pr_many, .int pr_runCount, .int pr_differentCount, .int pr_least, .int pr_indexWidth, .int pr_frameWidth, .int pr_deltaWidth])), (q_ru, .inr (3, [.ref q_ru_a])), (q_ru_a, .inl (cI, 32, .inl ru_a))] := hD
        obtain rfl := Option.some.inj hf
        exact hret _ _ _ _ dX2_costOf_123 (hP.sub [6, 4, 5, 2, 3, 7, 8, 9, 10, 11, 0, 1] rfl) (hD.sub [6, 4, 5, 2, 3, 7, 8, 9, 10, 11, 0, 1] (by decide) rfl) hS
      · have hf := pr_neg hf c20
        refine lv_iconst (v := 0) hx hb dX2_costOf_110 (by decide) ?_
        refine lv_goto (tgt := 123) hx hb dX2_costOf_111 (by decide) ?_
        obtain rfl := Option.some.inj hf
        exact hret _ _ _ _ dX2_costOf_123 (hP.sub [9, 7, 8, 5, 6, 10, 11, 0, 1, 2, 3, 4] rfl) (hD.sub [9, 7, 8, 5, 6, 10, 11, 0, 1, 2, 3, 4] (by decide) rfl) hS
    · have hf := pr_neg hf c18
      refine lv_lookup (off := 99) (tgt := 124) hx hb dX2_costOf_25 (by decide) (by show Op.lookupswitch.offset [(0, 27), (1, 57)] 99 _ = _; rw [lv_osw c14 (by decide), lv_osw c18 (by decide)]; rfl) (by decide) ?_
      refine lv_aload_n hx hb dX2_costOf_124 rfl (lv_at hl 2 rfl) ?_
      refine lv_iload hx hb dX2_costOf_125 (lv_at hl 1 rfl) ?_
      refine lv_iload_n hx hb dX2_costOf_127 rfl (lv_at hl 5 rfl) ?_
      obtain ⟨u22, hu22, hf⟩ := pr_bd hf
      refine fr_iV (As := [.int u12, .int x3]) ⟨hx, hb, hml, hown, hts⟩ hK hP hD hS hA (c_X2_costOfCount l D cI q_co q_pr q_ru q_di q_di_a n u12 x3 pr_firstRow pr_many pr_runCount pr_differentCount pr_least pr_indexWidth pr_frameWidth pr_deltaWidth di_a u22 hu22) (cwV 2 hts gX2_costOf_X2_costOfCount rfl rfl rfl (by decide +kernel) ⟨Nat.le_of_ble_eq_true rfl, Nat.le_of_ble_eq_true rfl⟩) [(q_tz, .inr (3, [.ref q_tz_a])), (q_tz_a, .inl (cI, 20, .inl tz_a)), (q_ru, .inr (3, [.ref q_ru_a])), (q_ru_a, .inl (cI, 32, .inl ru_a)), (q_tf, .inr (3, [.ref q_tf_a])), (q_tf_a, .inl (cI, 20, .inl tf_a)), (q_tr, .inr (4, [.ref q_tk, .ref q_tf, .ref q_tz, .ref q_tw, .int tr_count])), (q_tk, .inr (3, [.ref q_tk_a])), (q_tk_a, .inl (cI, 20, .inl tk_a))] [2, 5, 6] [0, 1, 3, 4, 7, 8, 9, 10, 11] rfl rfl (by decide) (by decide) (by decide) 0 rfl rfl rfl rfl hl.1 (Nat.le_of_ble_eq_true rfl) dX2_costOf_128 ⟨Nat.zero_le _, Nat.zero_le _⟩ rfl (fun H locs hP hD hS => ?_)
      have hP : va_P D vwCl [(q_tz, .inr (3, [.ref q_tz_a])), (q_tz_a, .inl (cI, 20, .inl tz_a)), (q_ru, .inr (3, [.ref q_ru_a])), (q_ru_a, .inl (cI, 32, .inl ru_a)), (q_tf, .inr (3, [.ref q_tf_a])), (q_tf_a, .inl (cI, 20, .inl tf_a)), (q_tr, .inr (4, [.ref q_tk, .ref q_tf, .ref q_tz, .ref q_tw, .int tr_count])), (q_tk, .inr (3, [.ref q_tk_a])), (q_tk_a, .inl (cI, 20, .inl tk_a)), (q_pr, .inr (2, [.ref q_co, .ref q_ru, .ref q_di, .int pr_firstRow, .int pr_many, .int pr_runCount, .int pr_differentCount, .int pr_least, .int pr_indexWidth, .int pr_frameWidth, .int pr_deltaWidth])), (q_di, .inr (3, [.ref q_di_a])), (q_di_a, .inl (cI, 32, .inl di_a))] H := hP
      have hD : va_D A [(q_tz, .inr (3, [.ref q_tz_a])), (q_tz_a, .inl (cI, 20, .inl tz_a)), (q_ru, .inr (3, [.ref q_ru_a])), (q_ru_a, .inl (cI, 32, .inl ru_a)), (q_tf, .inr (3, [.ref q_tf_a])), (q_tf_a, .inl (cI, 20, .inl tf_a)), (q_tr, .inr (4, [.ref q_tk, .ref q_tf, .ref q_tz, .ref q_tw, .int tr_count])), (q_tk, .inr (3, [.ref q_tk_a])), (q_tk_a, .inl (cI, 20, .inl tk_a)), (q_pr, .inr (2, [.ref q_co, .ref q_ru, .ref q_di, .int pr_firstRow, .int pr_many, .int pr_runCount, .int pr_differentCount, .int pr_least, .int pr_indexWidth, .int pr_frameWidth, .int pr_deltaWidth])), (q_di, .inr (3, [.ref q_di_a])), (q_di_a, .inl (cI, 32, .inl di_a))] := hD
      obtain rfl := Option.some.inj hf
      exact hret _ _ _ _ dX2_costOf_131 (hP.sub [6, 7, 8, 4, 5, 0, 1, 9, 2, 3, 10, 11] rfl) (hD.sub [6, 7, 8, 4, 5, 0, 1, 9, 2, 3, 10, 11] (by decide) rfl) hS
