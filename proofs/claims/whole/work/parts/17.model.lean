/-! the walks of these methods, printed by my own program (wip/whole/gen.py) -/
set_option maxHeartbeats 4000000 in
set_option maxRecDepth 100000 in
theorem c_X6_thrown (l : Launch) (D : va_G) (cI : ClassId) (q_mo q_mv q_me q_mk q_ma q_mb q_mw q_mx : Nat) (n : Nat) (mo_thrown : Int32) (mo_rows : Int32) (mo_size : Int32) (mo_price : Int32) (mo_queries : Int32) (mo_start : Int32) (mo_many : Int32) (mo_bits : Int32) (res : Int32) (hf : f_X6_thrown n mo_thrown = some res) : fr_Ci l yX6_thrown wsX6_thrown ({ frames := 0, cells := 0, slots := 0, locals := 0 }) D [(cI, .int)] [.ref q_mo] [(q_mo, .inr (6, [.int mo_thrown, .int mo_rows, .ref q_mv, .int mo_size, .ref q_me, .int mo_price, .int mo_queries, .ref q_mk, .ref q_ma, .ref q_mb, .ref q_mw, .int mo_start, .int mo_many, .int mo_bits, .ref q_mx]))] res [(q_mo, .inr (6, [.int mo_thrown, .int mo_rows, .ref q_mv, .int mo_size, .ref q_me, .int mo_price, .int mo_queries, .ref q_mk, .ref q_ma, .ref q_mb, .ref q_mw, .int mo_start, .int mo_many, .int mo_bits, .ref q_mx]))] := by
  refine fr_open_i (cc := cX6_thrown) (maxL := 1) (ret := some .int) (by decide +kernel) rfl (Nat.le_of_ble_eq_true rfl) ⟨.int, rfl, vp_nar_int _⟩ ?_
  intro p e s m below meth c A Q ls hx hb hml hown hts hA hK hP hD hS hl hret
  have hown : s.vm.findClass RX6 = some m.cls := hown
  have hl : lv_has ls 1 [(0, .ref q_mo)] := hl
  have hin6 : ∀ w ∈ u_ws RX6 TX6 15, w ∈ wsX6_thrown := fun _ h9 => List.mem_cons_of_mem _ (List.mem_append_right _ h9)
  unfold f_X6_thrown at hf
  refine lv_aload_n hx hb dX6_thrown_0 rfl (lv_at hl 0 rfl) ?_
  refine va_get (D := D) (ci := 6) (v := .int mo_thrown) (C := RX6) (T := TX6) (N := 15) hx hb hts hin6 hown hK hP 0 rfl rfl 0 (by decide) (hts (.fieldLink RX6 38 "ColumnChooserModel" "thrown" "I") (List.mem_of_getElem? (i := 1) rfl)) (fun _ h9 => h9) rfl dX6_thrown_1 ?_
  obtain rfl := Option.some.inj hf
  exact hret _ _ _ _ dX6_thrown_4 (hP.sub [0] rfl) (hD.sub [0] (by decide) rfl) hS
set_option maxHeartbeats 4000000 in
set_option maxRecDepth 100000 in
theorem c_X6_fail (l : Launch) (D : va_G) (cI : ClassId) (q_mo q_mv q_me q_mk q_ma q_mb q_mw q_mx : Nat) (n : Nat) (x1 : Int32) (mo_thrown : Int32) (mo_rows : Int32) (mo_size : Int32) (mo_price : Int32) (mo_queries : Int32) (mo_start : Int32) (mo_many : Int32) (mo_bits : Int32) (res : Int32 × Int32) (hf : f_X6_fail n x1 mo_thrown = some res) : fr_Ci l yX6_fail wsX6_fail ({ frames := 0, cells := 0, slots := 0, locals := 0 }) D [(cI, .int)] [.ref q_mo, .int x1] [(q_mo, .inr (6, [.int mo_thrown, .int mo_rows, .ref q_mv, .int mo_size, .ref q_me, .int mo_price, .int mo_queries, .ref q_mk, .ref q_ma, .ref q_mb, .ref q_mw, .int mo_start, .int mo_many, .int mo_bits, .ref q_mx]))] res.1 [(q_mo, .inr (6, [.int res.2, .int mo_rows, .ref q_mv, .int mo_size, .ref q_me, .int mo_price, .int mo_queries, .ref q_mk, .ref q_ma, .ref q_mb, .ref q_mw, .int mo_start, .int mo_many, .int mo_bits, .ref q_mx]))] := by
  refine fr_open_i (cc := cX6_fail) (maxL := 2) (ret := some .int) (by decide +kernel) rfl (Nat.le_of_ble_eq_true rfl) ⟨.int, rfl, vp_nar_int _⟩ ?_
  intro p e s m below meth c A Q ls hx hb hml hown hts hA hK hP hD hS hl hret
  have hown : s.vm.findClass RX6 = some m.cls := hown
  have hl : lv_has ls 2 [(0, .ref q_mo), (1, .int x1)] := hl
  have hin6 : ∀ w ∈ u_ws RX6 TX6 15, w ∈ wsX6_fail := fun _ h9 => List.mem_cons_of_mem _ (List.mem_append_right _ h9)
  unfold f_X6_fail at hf
  refine lv_aload_n hx hb dX6_fail_0 rfl (lv_at hl 0 rfl) ?_
  refine lv_iload_n hx hb dX6_fail_1 rfl (lv_at hl 1 rfl) ?_
  refine va_put (D := D) (ci := 6) (v := .int x1) (ty := .int) (C := RX6) (T := TX6) (N := 15) hx hb hts hin6 tyX6 tyX6_ok nmX6 hown hK hP hD hS 0 rfl rfl 0 (by decide) (hts (.fieldLink RX6 38 "ColumnChooserModel" "thrown" "I") (List.mem_of_getElem? (i := 1) rfl)) (fun _ h9 => h9) rfl (by decide +kernel) rfl rfl (Nat.le_of_ble_eq_true rfl) dX6_fail_2 (fun H locs hP hD hS => ?_)
  have hP : va_P D vwCl [(q_mo, .inr (6, [.int x1, .int mo_rows, .ref q_mv, .int mo_size, .ref q_me, .int mo_price, .int mo_queries, .ref q_mk, .ref q_ma, .ref q_mb, .ref q_mw, .int mo_start, .int mo_many, .int mo_bits, .ref q_mx]))] H := hP
  have hD : va_D A [(q_mo, .inr (6, [.int x1, .int mo_rows, .ref q_mv, .int mo_size, .ref q_me, .int mo_price, .int mo_queries, .ref q_mk, .ref q_ma, .ref q_mb, .ref q_mw, .int mo_start, .int mo_many, .int mo_bits, .ref q_mx]))] := hD
  refine lv_iconst (v := 0) hx hb dX6_fail_5 (by decide) ?_
  obtain rfl := Option.some.inj hf
  exact hret _ _ _ _ dX6_fail_6 (hP.sub [0] rfl) (hD.sub [0] (by decide) rfl) hS
set_option maxHeartbeats 4000000 in
set_option maxRecDepth 100000 in
theorem c_X6_isIn (l : Launch) (D : va_G) (cI : ClassId) (n : Nat) (x0 : Int64) (x2 : Int32) (x3 : Int32) (res : Bool) (hf : f_X6_isIn n x0 x2 x3 = some res) : fr_Ci l yX6_isIn wsX6_isIn ({ frames := 0, cells := 0, slots := 0, locals := 0 }) D [(cI, .int)] [.long x0, .int x2, .int x3] [] (pr_b res) [] := by
  refine fr_open_i (cc := cX6_isIn) (maxL := 4) (ret := some .boolean) (by decide +kernel) rfl (Nat.le_of_ble_eq_true rfl) ⟨.boolean, rfl, pr_b_n _⟩ ?_
  intro p e s m below meth c A Q ls hx hb hml hown hts hA hK hP hD hS hl hret
  have hown : s.vm.findClass RX6 = some m.cls := hown
  have hl : lv_has ls 4 [(0, .long x0), (2, .int x2), (3, .int x3)] := hl
  unfold f_X6_isIn at hf
  refine lv_lload_n hx hb dX6_isIn_0 rfl (lv_at hl 0 rfl) ?_
  refine lv_iload_n hx hb dX6_isIn_1 rfl (lv_at hl 1 rfl) ?_
  refine lv_i2l hx hb dX6_isIn_2 rfl ?_
  refine W.lcmp hx hb dX6_isIn_3 ?_
  refine lv_if_lt (tgt := 18) hx hb dX6_isIn_4 (by decide) (fun c3 => ?_) (fun c3 => ?_)
  · have hf := pr_pos hf c3
    refine lv_iconst (v := 0) hx hb dX6_isIn_18 (by decide) ?_
    obtain rfl := Option.some.inj hf
    exact hret _ _ _ _ dX6_isIn_19 (hP.sub [] rfl) (hD.sub [] (by decide) rfl) hS
  · have hf := pr_neg hf c3
    refine lv_lload_n hx hb dX6_isIn_7 rfl (lv_at hl 0 rfl) ?_
    refine lv_iload_n hx hb dX6_isIn_8 rfl (lv_at hl 2 rfl) ?_
    refine lv_i2l hx hb dX6_isIn_9 rfl ?_
    refine W.lcmp hx hb dX6_isIn_10 ?_
    refine lv_if_gt (tgt := 18) hx hb dX6_isIn_11 (by decide) (fun c4 => ?_) (fun c4 => ?_)
    · have hf := pr_pos hf c4
      refine lv_iconst (v := 0) hx hb dX6_isIn_18 (by decide) ?_
      obtain rfl := Option.some.inj hf
      exact hret _ _ _ _ dX6_isIn_19 (hP.sub [] rfl) (hD.sub [] (by decide) rfl) hS
    · have hf := pr_neg hf c4
      refine lv_iconst (v := 1) hx hb dX6_isIn_14 (by decide) ?_
      refine lv_goto (tgt := 19) hx hb dX6_isIn_15 (by decide) ?_
      obtain rfl := Option.some.inj hf
      exact hret _ _ _ _ dX6_isIn_19 (hP.sub [] rfl) (hD.sub [] (by decide) rfl) hS
set_option maxHeartbeats 4000000 in
set_option maxRecDepth 100000 in
theorem c_X6_isValue (l : Launch) (D : va_G) (cI : ClassId) (n : Nat) (x0 : Int64) (res : Bool) (hf : f_X6_isValue n x0 = some res) : fr_Ci l yX6_isValue wsX6_isValue ({ frames := 1, cells := 0, slots := 0, locals := 23 }) D [(cI, .int)] [.long x0] [] (pr_b res) [] := by
  refine fr_open_i (cc := cX6_isValue) (maxL := 2) (ret := some .boolean) (by decide +kernel) rfl (Nat.le_of_ble_eq_true rfl) ⟨.boolean, rfl, pr_b_n _⟩ ?_
  intro p e s m below meth c A Q ls hx hb hml hown hts hA hK hP hD hS hl hret
  have hown : s.vm.findClass RX6 = some m.cls := hown
  have hl : lv_has ls 2 [(0, .long x0)] := hl
  unfold f_X6_isValue at hf
  refine lv_lload_n hx hb dX6_isValue_0 rfl (lv_at hl 0 rfl) ?_
  refine lv_ldc (v := -100000) hx hb hown (hts (.constant RX6 41 (-100000)) (List.mem_of_getElem? (i := 1) rfl)) dX6_isValue_1 ?_
  refine lv_ldc (v := 100000) hx hb hown (hts (.constant RX6 42 (100000)) (List.mem_of_getElem? (i := 2) rfl)) dX6_isValue_3 ?_
  obtain ⟨u2, hu2, hf⟩ := pr_bd hf
  refine fr_iS (As := [.long x0, .int (-100000), .int 100000]) ⟨hx, hb, hml, hown, hts⟩ hK hP hD hS hA (c_X6_isIn l D cI n x0 (-100000) 100000 u2 hu2) (va_cwS 3 hts gX6_isValue_X6_isIn rfl rfl rfl (by decide +kernel) ⟨Nat.le_of_ble_eq_true rfl, Nat.le_of_ble_eq_true rfl⟩) [] [] [] rfl rfl (by decide) (by decide) (by decide) rfl hl.1 (Nat.le_of_ble_eq_true rfl) dX6_isValue_5 ⟨Nat.zero_le _, Nat.zero_le _⟩ rfl (fun H locs hP hD hS => ?_)
  have hP : va_P D vwCl [] H := hP
  have hD : va_D A [] := hD
  obtain rfl := Option.some.inj hf
  exact hret _ _ _ _ dX6_isValue_8 (hP.sub [] rfl) (hD.sub [] (by decide) rfl) hS
set_option maxHeartbeats 4000000 in
set_option maxRecDepth 100000 in
theorem c_X6_changed (l : Launch) (D : va_G) (cI : ClassId) (q_mo q_mv q_me q_mk q_ma q_mb q_mw q_mx : Nat) (n : Nat) (x1 : Int32) (x2 : Int32) (mo_thrown : Int32) (mo_rows : Int32) (mo_size : Int32) (mo_price : Int32) (mo_queries : Int32) (mo_start : Int32) (mo_many : Int32) (mo_bits : Int32) (me : (Nat → Int32)) (res : Int32 × (Nat → Int32)) (hf : f_X6_changed n x1 x2 mo_rows mo_size me = some res) : fr_Cv l yX6_changed wsX6_changed ({ frames := 0, cells := 0, slots := 0, locals := 0 }) D [(cI, .int)] [.ref q_mo, .int x1, .int x2] [(q_mo, .inr (6, [.int mo_thrown, .int mo_rows, .ref q_mv, .int mo_size, .ref q_me, .int mo_price, .int mo_queries, .ref q_mk, .ref q_ma, .ref q_mb, .ref q_mw, .int mo_start, .int mo_many, .int mo_bits, .ref q_mx])), (q_me, .inl (cI, 96, .inl me))] [(q_mo, .inr (6, [.int mo_thrown, .int res.1, .ref q_mv, .int mo_size, .ref q_me, .int mo_price, .int mo_queries, .ref q_mk, .ref q_ma, .ref q_mb, .ref q_mw, .int mo_start, .int mo_many, .int mo_bits, .ref q_mx])), (q_me, .inl (cI, 96, .inl res.2))] := by
  refine fr_open_v (cc := cX6_changed) (maxL := 4) (by decide +kernel) rfl (Nat.le_of_ble_eq_true rfl) ?_
  intro p e s m below meth c A Q ls hx hb hml hown hts hA hK hP hD hS hl hret
  have hown : s.vm.findClass RX6 = some m.cls := hown
  have hl : lv_has ls 4 [(0, .ref q_mo), (1, .int x1), (2, .int x2)] := hl
  have hin6 : ∀ w ∈ u_ws RX6 TX6 15, w ∈ wsX6_changed := fun _ h9 => List.mem_cons_of_mem _ (List.mem_append_right _ h9)
  have k_7 : ∀ (n : Nat), (∀ (z2 : Int32) (z3 : Int32) (mo_rows : Int32) (me : (Nat → Int32)) (H : Heap) (locs : List Loc) (ls : Array Slot), f_X6_changed_7 n z2 z3 mo_rows mo_size me = some res → va_P D vwCl [(q_mo, .inr (6, [.int mo_thrown, .int mo_rows, .ref q_mv, .int mo_size, .ref q_me, .int mo_price, .int mo_queries, .ref q_mk, .ref q_ma, .ref q_mb, .ref q_mw, .int mo_start, .int mo_many, .int mo_bits, .ref q_mx])), (q_me, .inl (cI, 96, .inl me))] H → va_D A [(q_mo, .inr (6, [.int mo_thrown, .int mo_rows, .ref q_mv, .int mo_size, .ref q_me, .int mo_price, .int mo_queries, .ref q_mk, .ref q_ma, .ref q_mb, .ref q_mw, .int mo_start, .int mo_many, .int mo_bits, .ref q_mx])), (q_me, .inl (cI, 96, .inl me))] → va_S A s.heap H locs → lv_has ls 4 [(0, .ref q_mo), (2, .int z2), (3, .int z3)] → W p l e ({ frames := 0, cells := 0, slots := 0, locals := 0 }) s m ([.ref q_mo, .int x1, .int x2] : List Value).toArray below meth c H locs 0 0 Q (F0 m 7 ls [])) := by
    intro n
    induction n with
    | zero =>
      intro z2 z3 mo_rows me H locs ls hf hP hD hS hl
      exact absurd (show (none : Option (Int32 × (Nat → Int32))) = some res from hf) (by simp)
    | succ n ih =>
      intro z2 z3 mo_rows me H locs ls hf hP hD hS hl
      have hf : f_X6_changed_7_s (f_X6_changed_7 n) n z2 z3 mo_rows mo_size me = some res := hf
      unfold f_X6_changed_7_s at hf
      refine lv_iload_n hx hb dX6_changed_7 rfl (lv_at hl 2 rfl) ?_
      refine lv_bipush (v := 96) hx hb dX6_changed_8 (by decide) ?_
      refine lv_icmp_ge (tgt := 26) hx hb dX6_changed_10 (by decide) (fun c4 => ?_) (fun c4 => ?_)
      · have hf := pr_pos hf c4
        refine lv_aload_n hx hb dX6_changed_26 rfl (lv_at hl 0 rfl) ?_
        refine lv_iload_n hx hb dX6_changed_27 rfl (lv_at hl 1 rfl) ?_
        refine va_put (D := D) (ci := 6) (v := .int z2) (ty := .int) (C := RX6) (T := TX6) (N := 15) hx hb hts hin6 tyX6 tyX6_ok nmX6 hown hK hP hD hS 0 rfl rfl 1 (by decide) (hts (.fieldLink RX6 47 "ColumnChooserModel" "rows" "I") (List.mem_of_getElem? (i := 3) rfl)) (fun _ h9 => h9) rfl (by decide +kernel) rfl rfl (Nat.le_of_ble_eq_true rfl) dX6_changed_28 (fun H locs hP hD hS => ?_)
        have hP : va_P D vwCl [(q_mo, .inr (6, [.int mo_thrown, .int z2, .ref q_mv, .int mo_size, .ref q_me, .int mo_price, .int mo_queries, .ref q_mk, .ref q_ma, .ref q_mb, .ref q_mw, .int mo_start, .int mo_many, .int mo_bits, .ref q_mx])), (q_me, .inl (cI, 96, .inl me))] H := hP
        have hD : va_D A [(q_mo, .inr (6, [.int mo_thrown, .int z2, .ref q_mv, .int mo_size, .ref q_me, .int mo_price, .int mo_queries, .ref q_mk, .ref q_ma, .ref q_mb, .ref q_mw, .int mo_start, .int mo_many, .int mo_bits, .ref q_mx])), (q_me, .inl (cI, 96, .inl me))] := hD
        obtain rfl := Option.some.inj hf
        exact hret _ _ _ _ dX6_changed_31 (hP.sub [0, 1] rfl) (hD.sub [0, 1] (by decide) rfl) hS
      · have hf := pr_neg hf c4
        refine lv_aload_n hx hb dX6_changed_13 rfl (lv_at hl 0 rfl) ?_
        refine va_get (D := D) (ci := 6) (v := .ref q_me) (C := RX6) (T := TX6) (N := 15) hx hb hts hin6 hown hK hP 0 rfl rfl 4 (by decide) (hts (.fieldLink RX6 17 "ColumnChooserModel" "encodings" "[I") (List.mem_of_getElem? (i := 2) rfl)) (fun _ h9 => h9) rfl dX6_changed_14 ?_
        refine lv_iload_n hx hb dX6_changed_17 rfl (lv_at hl 2 rfl) ?_
        refine lv_iconst (v := 0) hx hb dX6_changed_18 (by decide) ?_
        obtain ⟨v5, hv5, hf⟩ := pr_bd hf
        refine fr_wr hx hb hK hP hD hS 1 0 rfl rfl hv5 dX6_changed_19 (fun H locs hP hD hS => ?_)
        have hP : va_P D vwCl [(q_mo, .inr (6, [.int mo_thrown, .int mo_rows, .ref q_mv, .int mo_size, .ref q_me, .int mo_price, .int mo_queries, .ref q_mk, .ref q_ma, .ref q_mb, .ref q_mw, .int mo_start, .int mo_many, .int mo_bits, .ref q_mx])), (q_me, .inl (cI, 96, .inl v5))] H := hP
        have hD : va_D A [(q_mo, .inr (6, [.int mo_thrown, .int mo_rows, .ref q_mv, .int mo_size, .ref q_me, .int mo_price, .int mo_queries, .ref q_mk, .ref q_ma, .ref q_mb, .ref q_mw, .int mo_start, .int mo_many, .int mo_bits, .ref q_mx])), (q_me, .inl (cI, 96, .inl v5))] := hD
        refine lv_iinc (v := (z3 + 1)) (lv' := [(3, .int (z3 + 1)), (0, .ref q_mo), (2, .int z2)]) hx hb dX6_changed_20 hl (k := 2) rfl rfl (by decide) rfl (fun ls hl => ?_)
        refine lv_goto (tgt := 7) hx hb dX6_changed_23 (by decide) ?_
        exact ih _ _ _ _ _ _ ls hf (hP.sub [0, 1] rfl) (hD.sub [0, 1] (by decide) rfl) hS (lv_sub hl [1, 2, 0] rfl)
  unfold f_X6_changed at hf
  refine lv_iload_n hx hb dX6_changed_0 rfl (lv_at hl 1 rfl) ?_
  refine lv_aload_n hx hb dX6_changed_1 rfl (lv_at hl 0 rfl) ?_
  refine va_get (D := D) (ci := 6) (v := .int mo_size) (C := RX6) (T := TX6) (N := 15) hx hb hts hin6 hown hK hP 0 rfl rfl 3 (by decide) (hts (.fieldLink RX6 13 "ColumnChooserModel" "size" "I") (List.mem_of_getElem? (i := 1) rfl)) (fun _ h9 => h9) rfl dX6_changed_2 ?_
  obtain ⟨v6, hv6, hf⟩ := pr_bd hf
  refine fr_dv hx hb hv6 dX6_changed_5 ?_
  refine lv_istore_n (lv' := [(3, .int v6), (0, .ref q_mo), (1, .int x1), (2, .int x2)]) hx hb dX6_changed_6 rfl hl (by decide) rfl (fun ls hl => ?_)
  exact k_7 n _ _ _ _ _ _ ls hf (hP.sub [0, 1] rfl) (hD.sub [0, 1] (by decide) rfl) hS (lv_sub hl [1, 3, 0] rfl)
set_option maxHeartbeats 4000000 in
set_option maxRecDepth 100000 in
theorem c_X6_append (l : Launch) (D : va_G) (cI : ClassId) (q_mo q_mv q_me q_mk q_ma q_mb q_mw q_mx : Nat) (n : Nat) (x1 : Int32) (x2 : Int32) (mo_thrown : Int32) (mo_rows : Int32) (mo_size : Int32) (mo_price : Int32) (mo_queries : Int32) (mo_start : Int32) (mo_many : Int32) (mo_bits : Int32) (mv : (Nat → Int32)) (me : (Nat → Int32)) (res : Int32 × Int32 × Int32 × (Nat → Int32) × (Nat → Int32)) (hf : f_X6_append n x1 x2 mo_thrown mo_rows mo_size mv me = some res) : fr_Ci l yX6_append wsX6_append ({ frames := 2, cells := 0, slots := 0, locals := 44 }) D [(cI, .int)] [.ref q_mo, .int x1, .int x2] [(q_mo, .inr (6, [.int mo_thrown, .int mo_rows, .ref q_mv, .int mo_size, .ref q_me, .int mo_price, .int mo_queries, .ref q_mk, .ref q_ma, .ref q_mb, .ref q_mw, .int mo_start, .int mo_many, .int mo_bits, .ref q_mx])), (q_mv, .inl (cI, 96, .inl mv)), (q_me, .inl (cI, 96, .inl me))] res.1 [(q_mo, .inr (6, [.int res.2.1, .int res.2.2.1, .ref q_mv, .int mo_size, .ref q_me, .int mo_price, .int mo_queries, .ref q_mk, .ref q_ma, .ref q_mb, .ref q_mw, .int mo_start, .int mo_many, .int mo_bits, .ref q_mx])), (q_mv, .inl (cI, 96, .inl res.2.2.2.1)), (q_me, .inl (cI, 96, .inl res.2.2.2.2))] := by
  refine fr_open_i (cc := cX6_append) (maxL := 4) (ret := some .int) (by decide +kernel) rfl (Nat.le_of_ble_eq_true rfl) ⟨.int, rfl, vp_nar_int _⟩ ?_
  intro p e s m below meth c A Q ls hx hb hml hown hts hA hK hP hD hS hl hret
  have hown : s.vm.findClass RX6 = some m.cls := hown
  have hl : lv_has ls 4 [(0, .ref q_mo), (1, .int x1), (2, .int x2)] := hl
  have hin6 : ∀ w ∈ u_ws RX6 TX6 15, w ∈ wsX6_append := fun _ h9 => List.mem_cons_of_mem _ (List.mem_append_right _ h9)
  have k_49 : ∀ (n : Nat), (∀ (z1 : Int32) (z2 : Int32) (z3 : Int32) (mo_thrown : Int32) (mo_rows : Int32) (mv : (Nat → Int32)) (me : (Nat → Int32)) (H : Heap) (locs : List Loc) (ls : Array Slot), f_X6_append_49 n z1 z2 z3 mo_thrown mo_rows mo_size mv me = some res → va_P D vwCl [(q_mo, .inr (6, [.int mo_thrown, .int mo_rows, .ref q_mv, .int mo_size, .ref q_me, .int mo_price, .int mo_queries, .ref q_mk, .ref q_ma, .ref q_mb, .ref q_mw, .int mo_start, .int mo_many, .int mo_bits, .ref q_mx])), (q_mv, .inl (cI, 96, .inl mv)), (q_me, .inl (cI, 96, .inl me))] H → va_D A [(q_mo, .inr (6, [.int mo_thrown, .int mo_rows, .ref q_mv, .int mo_size, .ref q_me, .int mo_price, .int mo_queries, .ref q_mk, .ref q_ma, .ref q_mb, .ref q_mw, .int mo_start, .int mo_many, .int mo_bits, .ref q_mx])), (q_mv, .inl (cI, 96, .inl mv)), (q_me, .inl (cI, 96, .inl me))] → va_S A s.heap H locs → lv_has ls 4 [(0, .ref q_mo), (1, .int z1), (2, .int z2), (3, .int z3)] → W p l e ({ frames := 2, cells := 0, slots := 0, locals := 44 }) s m ([.ref q_mo, .int x1, .int x2] : List Value).toArray below meth c H locs 0 0 Q (F0 m 49 ls [])) := by
    intro n
    induction n with
    | zero =>
      intro z1 z2 z3 mo_thrown mo_rows mv me H locs ls hf hP hD hS hl
      exact absurd (show (none : Option (Int32 × Int32 × Int32 × (Nat → Int32) × (Nat → Int32))) = some res from hf) (by simp)
    | succ n ih =>
      intro z1 z2 z3 mo_thrown mo_rows mv me H locs ls hf hP hD hS hl
      have hf : f_X6_append_49_s (f_X6_append_49 n) n z1 z2 z3 mo_thrown mo_rows mo_size mv me = some res := hf
      unfold f_X6_append_49_s at hf
      refine lv_iload_n hx hb dX6_append_49 rfl (lv_at hl 3 rfl) ?_
      refine lv_iload_n hx hb dX6_append_50 rfl (lv_at hl 2 rfl) ?_
      refine lv_icmp_ge (tgt := 72) hx hb dX6_append_51 (by decide) (fun c12 => ?_) (fun c12 => ?_)
      · have hf := pr_pos hf c12
        refine lv_aload_n hx hb dX6_append_72 rfl (lv_at hl 0 rfl) ?_
        refine lv_aload_n hx hb dX6_append_73 rfl (lv_at hl 0 rfl) ?_
        refine va_get (D := D) (ci := 6) (v := .int mo_rows) (C := RX6) (T := TX6) (N := 15) hx hb hts hin6 hown hK hP 0 rfl rfl 1 (by decide) (hts (.fieldLink RX6 47 "ColumnChooserModel" "rows" "I") (List.mem_of_getElem? (i := 2) rfl)) (fun _ h9 => h9) rfl dX6_append_74 ?_
        refine lv_aload_n hx hb dX6_append_77 rfl (lv_at hl 0 rfl) ?_
        refine va_get (D := D) (ci := 6) (v := .int mo_rows) (C := RX6) (T := TX6) (N := 15) hx hb hts hin6 hown hK hP 0 rfl rfl 1 (by decide) (hts (.fieldLink RX6 47 "ColumnChooserModel" "rows" "I") (List.mem_of_getElem? (i := 2) rfl)) (fun _ h9 => h9) rfl dX6_append_78 ?_
        refine lv_iload_n hx hb dX6_append_81 rfl (lv_at hl 2 rfl) ?_
        refine lv_iadd hx hb dX6_append_82 ?_
        obtain ⟨u13, hu13, hf⟩ := pr_bd hf
        refine fr_vV (As := [.int mo_rows, .int (mo_rows + z2)]) ⟨hx, hb, hml, hown, hts⟩ hK hP hD hS hA (c_X6_changed l D cI q_mo q_mv q_me q_mk q_ma q_mb q_mw q_mx n mo_rows (mo_rows + z2) mo_thrown mo_rows mo_size mo_price mo_queries mo_start mo_many mo_bits me u13 hu13) (cwV 2 hts gX6_append_X6_changed rfl rfl rfl (by decide +kernel) ⟨Nat.le_of_ble_eq_true rfl, Nat.le_of_ble_eq_true rfl⟩) [(q_mv, .inl (cI, 96, .inl mv))] [0, 2] [1] rfl rfl (by decide) (by decide) (by decide) 0 rfl rfl rfl rfl hl.1 (Nat.le_of_ble_eq_true rfl) dX6_append_83 ⟨Nat.zero_le _, Nat.zero_le _⟩ rfl (fun H locs hP hD hS => ?_)
        have hP : va_P D vwCl [(q_mv, .inl (cI, 96, .inl mv)), (q_mo, .inr (6, [.int mo_thrown, .int u13.1, .ref q_mv, .int mo_size, .ref q_me, .int mo_price, .int mo_queries, .ref q_mk, .ref q_ma, .ref q_mb, .ref q_mw, .int mo_start, .int mo_many, .int mo_bits, .ref q_mx])), (q_me, .inl (cI, 96, .inl u13.2))] H := hP
        have hD : va_D A [(q_mv, .inl (cI, 96, .inl mv)), (q_mo, .inr (6, [.int mo_thrown, .int u13.1, .ref q_mv, .int mo_size, .ref q_me, .int mo_price, .int mo_queries, .ref q_mk, .ref q_ma, .ref q_mb, .ref q_mw, .int mo_start, .int mo_many, .int mo_bits, .ref q_mx])), (q_me, .inl (cI, 96, .inl u13.2))] := hD
        refine lv_aload_n hx hb dX6_append_86 rfl (lv_at hl 0 rfl) ?_
        refine va_get (D := D) (ci := 6) (v := .int u13.1) (C := RX6) (T := TX6) (N := 15) hx hb hts hin6 hown hK hP 1 rfl rfl 1 (by decide) (hts (.fieldLink RX6 47 "ColumnChooserModel" "rows" "I") (List.mem_of_getElem? (i := 2) rfl)) (fun _ h9 => h9) rfl dX6_append_87 ?_
        obtain rfl := Option.some.inj hf
        exact hret _ _ _ _ dX6_append_90 (hP.sub [1, 0, 2] rfl) (hD.sub [1, 0, 2] (by decide) rfl) hS
      · have hf := pr_neg hf c12
        refine lv_aload_n hx hb dX6_append_54 rfl (lv_at hl 0 rfl) ?_
        refine va_get (D := D) (ci := 6) (v := .ref q_mv) (C := RX6) (T := TX6) (N := 15) hx hb hts hin6 hown hK hP 0 rfl rfl 2 (by decide) (hts (.fieldLink RX6 9 "ColumnChooserModel" "values" "[I") (List.mem_of_getElem? (i := 3) rfl)) (fun _ h9 => h9) rfl dX6_append_55 ?_
        refine lv_aload_n hx hb dX6_append_58 rfl (lv_at hl 0 rfl) ?_
        refine va_get (D := D) (ci := 6) (v := .int mo_rows) (C := RX6) (T := TX6) (N := 15) hx hb hts hin6 hown hK hP 0 rfl rfl 1 (by decide) (hts (.fieldLink RX6 47 "ColumnChooserModel" "rows" "I") (List.mem_of_getElem? (i := 2) rfl)) (fun _ h9 => h9) rfl dX6_append_59 ?_
        refine lv_iload_n hx hb dX6_append_62 rfl (lv_at hl 3 rfl) ?_
        refine lv_iadd hx hb dX6_append_63 ?_
        refine lv_iload_n hx hb dX6_append_64 rfl (lv_at hl 1 rfl) ?_
        obtain ⟨v14, hv14, hf⟩ := pr_bd hf
        refine fr_wr hx hb hK hP hD hS 1 0 rfl rfl hv14 dX6_append_65 (fun H locs hP hD hS => ?_)
        have hP : va_P D vwCl [(q_mo, .inr (6, [.int mo_thrown, .int mo_rows, .ref q_mv, .int mo_size, .ref q_me, .int mo_price, .int mo_queries, .ref q_mk, .ref q_ma, .ref q_mb, .ref q_mw, .int mo_start, .int mo_many, .int mo_bits, .ref q_mx])), (q_mv, .inl (cI, 96, .inl v14)), (q_me, .inl (cI, 96, .inl me))] H := hP
        have hD : va_D A [(q_mo, .inr (6, [.int mo_thrown, .int mo_rows, .ref q_mv, .int mo_size, .ref q_me, .int mo_price, .int mo_queries, .ref q_mk, .ref q_ma, .ref q_mb, .ref q_mw, .int mo_start, .int mo_many, .int mo_bits, .ref q_mx])), (q_mv, .inl (cI, 96, .inl v14)), (q_me, .inl (cI, 96, .inl me))] := hD
        refine lv_iinc (v := (z3 + 1)) (lv' := [(3, .int (z3 + 1)), (0, .ref q_mo), (1, .int z1), (2, .int z2)]) hx hb dX6_append_66 hl (k := 3) rfl rfl (by decide) rfl (fun ls hl => ?_)
        refine lv_goto (tgt := 49) hx hb dX6_append_69 (by decide) ?_
        exact ih _ _ _ _ _ _ _ _ _ ls hf (hP.sub [0, 1, 2] rfl) (hD.sub [0, 1, 2] (by decide) rfl) hS (lv_sub hl [1, 2, 3, 0] rfl)
  unfold f_X6_append at hf
  refine lv_aload_n hx hb dX6_append_0 rfl (lv_at hl 0 rfl) ?_
  refine lv_iconst (v := 0) hx hb dX6_append_1 (by decide) ?_
  refine va_put (D := D) (ci := 6) (v := .int 0) (ty := .int) (C := RX6) (T := TX6) (N := 15) hx hb hts hin6 tyX6 tyX6_ok nmX6 hown hK hP hD hS 0 rfl rfl 0 (by decide) (hts (.fieldLink RX6 38 "ColumnChooserModel" "thrown" "I") (List.mem_of_getElem? (i := 1) rfl)) (fun _ h9 => h9) rfl (by decide +kernel) rfl rfl (Nat.le_of_ble_eq_true rfl) dX6_append_2 (fun H locs hP hD hS => ?_)
  have hP : va_P D vwCl [(q_mo, .inr (6, [.int 0, .int mo_rows, .ref q_mv, .int mo_size, .ref q_me, .int mo_price, .int mo_queries, .ref q_mk, .ref q_ma, .ref q_mb, .ref q_mw, .int mo_start, .int mo_many, .int mo_bits, .ref q_mx])), (q_mv, .inl (cI, 96, .inl mv)), (q_me, .inl (cI, 96, .inl me))] H := hP
  have hD : va_D A [(q_mo, .inr (6, [.int 0, .int mo_rows, .ref q_mv, .int mo_size, .ref q_me, .int mo_price, .int mo_queries, .ref q_mk, .ref q_ma, .ref q_mb, .ref q_mw, .int mo_start, .int mo_many, .int mo_bits, .ref q_mx])), (q_mv, .inl (cI, 96, .inl mv)), (q_me, .inl (cI, 96, .inl me))] := hD
  refine lv_iload_n hx hb dX6_append_5 rfl (lv_at hl 1 rfl) ?_
  refine lv_i2l hx hb dX6_append_6 rfl ?_
  obtain ⟨u15, hu15, hf⟩ := pr_bd hf
  refine fr_iS (As := [.long x1.toInt64]) ⟨hx, hb, hml, hown, hts⟩ hK hP hD hS hA (c_X6_isValue l D cI n x1.toInt64 u15 hu15) (va_cwS 1 hts gX6_append_X6_isValue rfl rfl rfl (by decide +kernel) ⟨Nat.le_of_ble_eq_true rfl, Nat.le_of_ble_eq_true rfl⟩) [(q_mo, .inr (6, [.int 0, .int mo_rows, .ref q_mv, .int mo_size, .ref q_me, .int mo_price, .int mo_queries, .ref q_mk, .ref q_ma, .ref q_mb, .ref q_mw, .int mo_start, .int mo_many, .int mo_bits, .ref q_mx])), (q_mv, .inl (cI, 96, .inl mv)), (q_me, .inl (cI, 96, .inl me))] [] [0, 1, 2] rfl rfl (by decide) (by decide) (by decide) rfl hl.1 (Nat.le_of_ble_eq_true rfl) dX6_append_7 ⟨Nat.zero_le _, Nat.zero_le _⟩ rfl (fun H locs hP hD hS => ?_)
  have hP : va_P D vwCl [(q_mo, .inr (6, [.int 0, .int mo_rows, .ref q_mv, .int mo_size, .ref q_me, .int mo_price, .int mo_queries, .ref q_mk, .ref q_ma, .ref q_mb, .ref q_mw, .int mo_start, .int mo_many, .int mo_bits, .ref q_mx])), (q_mv, .inl (cI, 96, .inl mv)), (q_me, .inl (cI, 96, .inl me))] H := hP
  have hD : va_D A [(q_mo, .inr (6, [.int 0, .int mo_rows, .ref q_mv, .int mo_size, .ref q_me, .int mo_price, .int mo_queries, .ref q_mk, .ref q_ma, .ref q_mb, .ref q_mw, .int mo_start, .int mo_many, .int mo_bits, .ref q_mx])), (q_mv, .inl (cI, 96, .inl mv)), (q_me, .inl (cI, 96, .inl me))] := hD
  refine lv_if_eq (tgt := 24) hx hb dX6_append_10 (by decide) (fun c16 => ?_) (fun c16 => ?_)
  · have hf := pr_pos hf c16
    refine lv_aload_n hx hb dX6_append_24 rfl (lv_at hl 0 rfl) ?_
    refine lv_iconst (v := 1) hx hb dX6_append_25 (by decide) ?_
    obtain ⟨u17, hu17, hf⟩ := pr_bd hf
    refine fr_iV (As := [.int 1]) ⟨hx, hb, hml, hown, hts⟩ hK hP hD hS hA (c_X6_fail l D cI q_mo q_mv q_me q_mk q_ma q_mb q_mw q_mx n 1 0 mo_rows mo_size mo_price mo_queries mo_start mo_many mo_bits u17 hu17) (cwV 1 hts gX6_append_X6_fail rfl rfl rfl (by decide +kernel) ⟨Nat.le_of_ble_eq_true rfl, Nat.le_of_ble_eq_true rfl⟩) [(q_mv, .inl (cI, 96, .inl mv)), (q_me, .inl (cI, 96, .inl me))] [0] [1, 2] rfl rfl (by decide) (by decide) (by decide) 0 rfl rfl rfl rfl hl.1 (Nat.le_of_ble_eq_true rfl) dX6_append_26 ⟨Nat.zero_le _, Nat.zero_le _⟩ rfl (fun H locs hP hD hS => ?_)
    have hP : va_P D vwCl [(q_mv, .inl (cI, 96, .inl mv)), (q_me, .inl (cI, 96, .inl me)), (q_mo, .inr (6, [.int u17.2, .int mo_rows, .ref q_mv, .int mo_size, .ref q_me, .int mo_price, .int mo_queries, .ref q_mk, .ref q_ma, .ref q_mb, .ref q_mw, .int mo_start, .int mo_many, .int mo_bits, .ref q_mx]))] H := hP
    have hD : va_D A [(q_mv, .inl (cI, 96, .inl mv)), (q_me, .inl (cI, 96, .inl me)), (q_mo, .inr (6, [.int u17.2, .int mo_rows, .ref q_mv, .int mo_size, .ref q_me, .int mo_price, .int mo_queries, .ref q_mk, .ref q_ma, .ref q_mb, .ref q_mw, .int mo_start, .int mo_many, .int mo_bits, .ref q_mx]))] := hD
    obtain rfl := Option.some.inj hf
    exact hret _ _ _ _ dX6_append_29 (hP.sub [2, 0, 1] rfl) (hD.sub [2, 0, 1] (by decide) rfl) hS
  · have hf := pr_neg hf c16
    refine lv_iload_n hx hb dX6_append_13 rfl (lv_at hl 2 rfl) ?_
    refine lv_i2l hx hb dX6_append_14 rfl ?_
    refine lv_iconst (v := 1) hx hb dX6_append_15 (by decide) ?_
    refine lv_bipush (v := 96) hx hb dX6_append_16 (by decide) ?_
    obtain ⟨u18, hu18, hf⟩ := pr_bd hf
    refine fr_iS (As := [.long x2.toInt64, .int 1, .int 96]) ⟨hx, hb, hml, hown, hts⟩ hK hP hD hS hA (c_X6_isIn l D cI n x2.toInt64 1 96 u18 hu18) (va_cwS 3 hts gX6_append_X6_isIn rfl rfl rfl (by decide +kernel) ⟨Nat.le_of_ble_eq_true rfl, Nat.le_of_ble_eq_true rfl⟩) [(q_mo, .inr (6, [.int 0, .int mo_rows, .ref q_mv, .int mo_size, .ref q_me, .int mo_price, .int mo_queries, .ref q_mk, .ref q_ma, .ref q_mb, .ref q_mw, .int mo_start, .int mo_many, .int mo_bits, .ref q_mx])), (q_mv, .inl (cI, 96, .inl mv)), (q_me, .inl (cI, 96, .inl me))] [] [0, 1, 2] rfl rfl (by decide) (by decide) (by decide) rfl hl.1 (Nat.le_of_ble_eq_true rfl) dX6_append_18 ⟨Nat.zero_le _, Nat.zero_le _⟩ rfl (fun H locs hP hD hS => ?_)
    have hP : va_P D vwCl [(q_mo, .inr (6, [.int 0, .int mo_rows, .ref q_mv, .int mo_size, .ref q_me, .int mo_price, .int mo_queries, .ref q_mk, .ref q_ma, .ref q_mb, .ref q_mw, .int mo_start, .int mo_many, .int mo_bits, .ref q_mx])), (q_mv, .inl (cI, 96, .inl mv)), (q_me, .inl (cI, 96, .inl me))] H := hP
    have hD : va_D A [(q_mo, .inr (6, [.int 0, .int mo_rows, .ref q_mv, .int mo_size, .ref q_me, .int mo_price, .int mo_queries, .ref q_mk, .ref q_ma, .ref q_mb, .ref q_mw, .int mo_start, .int mo_many, .int mo_bits, .ref q_mx])), (q_mv, .inl (cI, 96, .inl mv)), (q_me, .inl (cI, 96, .inl me))] := hD
    refine lv_if_ne (tgt := 30) hx hb dX6_append_21 (by decide) (fun c19 => ?_) (fun c19 => ?_)
    · have hf := pr_neg hf c19
      refine lv_aload_n hx hb dX6_append_30 rfl (lv_at hl 0 rfl) ?_
      refine va_get (D := D) (ci := 6) (v := .int mo_rows) (C := RX6) (T := TX6) (N := 15) hx hb hts hin6 hown hK hP 0 rfl rfl 1 (by decide) (hts (.fieldLink RX6 47 "ColumnChooserModel" "rows" "I") (List.mem_of_getElem? (i := 2) rfl)) (fun _ h9 => h9) rfl dX6_append_31 ?_
      refine lv_iload_n hx hb dX6_append_34 rfl (lv_at hl 2 rfl) ?_
      refine lv_iadd hx hb dX6_append_35 ?_
      refine lv_bipush (v := 96) hx hb dX6_append_36 (by decide) ?_
      refine lv_icmp_le (tgt := 47) hx hb dX6_append_38 (by decide) (fun c20 => ?_) (fun c20 => ?_)
      · have hf := pr_pos hf c20
        refine lv_iconst (v := 0) hx hb dX6_append_47 (by decide) ?_
        refine lv_istore_n (lv' := [(3, .int 0), (0, .ref q_mo), (1, .int x1), (2, .int x2)]) hx hb dX6_append_48 rfl hl (by decide) rfl (fun ls hl => ?_)
        exact k_49 n _ _ _ _ _ _ _ _ _ ls hf (hP.sub [0, 1, 2] rfl) (hD.sub [0, 1, 2] (by decide) rfl) hS (lv_sub hl [1, 2, 3, 0] rfl)
      · have hf := pr_neg hf c20
        refine lv_aload_n hx hb dX6_append_41 rfl (lv_at hl 0 rfl) ?_
        refine lv_iconst (v := 2) hx hb dX6_append_42 (by decide) ?_
        obtain ⟨u21, hu21, hf⟩ := pr_bd hf
        refine fr_iV (As := [.int 2]) ⟨hx, hb, hml, hown, hts⟩ hK hP hD hS hA (c_X6_fail l D cI q_mo q_mv q_me q_mk q_ma q_mb q_mw q_mx n 2 0 mo_rows mo_size mo_price mo_queries mo_start mo_many mo_bits u21 hu21) (cwV 1 hts gX6_append_X6_fail rfl rfl rfl (by decide +kernel) ⟨Nat.le_of_ble_eq_true rfl, Nat.le_of_ble_eq_true rfl⟩) [(q_mv, .inl (cI, 96, .inl mv)), (q_me, .inl (cI, 96, .inl me))] [0] [1, 2] rfl rfl (by decide) (by decide) (by decide) 0 rfl rfl rfl rfl hl.1 (Nat.le_of_ble_eq_true rfl) dX6_append_43 ⟨Nat.zero_le _, Nat.zero_le _⟩ rfl (fun H locs hP hD hS => ?_)
        have hP : va_P D vwCl [(q_mv, .inl (cI, 96, .inl mv)), (q_me, .inl (cI, 96, .inl me)), (q_mo, .inr (6, [.int u21.2, .int mo_rows, .ref q_mv, .int mo_size, .ref q_me, .int mo_price, .int mo_queries, .ref q_mk, .ref q_ma, .ref q_mb, .ref q_mw, .int mo_start, .int mo_many, .int mo_bits, .ref q_mx]))] H := hP
        have hD : va_D A [(q_mv, .inl (cI, 96, .inl mv)), (q_me, .inl (cI, 96, .inl me)), (q_mo, .inr (6, [.int u21.2, .int mo_rows, .ref q_mv, .int mo_size, .ref q_me, .int mo_price, .int mo_queries, .ref q_mk, .ref q_ma, .ref q_mb, .ref q_mw, .int mo_start, .int mo_many, .int mo_bits, .ref q_mx]))] := hD
        obtain rfl := Option.some.inj hf
        exact hret _ _ _ _ dX6_append_46 (hP.sub [2, 0, 1] rfl) (hD.sub [2, 0, 1] (by decide) rfl) hS
    · have hf := pr_pos hf c19
      refine lv_aload_n hx hb dX6_append_24 rfl (lv_at hl 0 rfl) ?_
      refine lv_iconst (v := 1) hx hb dX6_append_25 (by decide) ?_
      obtain ⟨u22, hu22, hf⟩ := pr_bd hf
      refine fr_iV (As := [.int 1]) ⟨hx, hb, hml, hown, hts⟩ hK hP hD hS hA (c_X6_fail l D cI q_mo q_mv q_me q_mk q_ma q_mb q_mw q_mx n 1 0 mo_rows mo_size mo_price mo_queries mo_start mo_many mo_bits u22 hu22) (cwV 1 hts gX6_append_X6_fail rfl rfl rfl (by decide +kernel) ⟨Nat.le_of_ble_eq_true rfl, Nat.le_of_ble_eq_true rfl⟩) [(q_mv, .inl (cI, 96, .inl mv)), (q_me, .inl (cI, 96, .inl me))] [0] [1, 2] rfl rfl (by decide) (by decide) (by decide) 0 rfl rfl rfl rfl hl.1 (Nat.le_of_ble_eq_true rfl) dX6_append_26 ⟨Nat.zero_le _, Nat.zero_le _⟩ rfl (fun H locs hP hD hS => ?_)
      have hP : va_P D vwCl [(q_mv, .inl (cI, 96, .inl mv)), (q_me, .inl (cI, 96, .inl me)), (q_mo, .inr (6, [.int u22.2, .int mo_rows, .ref q_mv, .int mo_size, .ref q_me, .int mo_price, .int mo_queries, .ref q_mk, .ref q_ma, .ref q_mb, .ref q_mw, .int mo_start, .int mo_many, .int mo_bits, .ref q_mx]))] H := hP
      have hD : va_D A [(q_mv, .inl (cI, 96, .inl mv)), (q_me, .inl (cI, 96, .inl me)), (q_mo, .inr (6, [.int u22.2, .int mo_rows, .ref q_mv, .int mo_size, .ref q_me, .int mo_price, .int mo_queries, .ref q_mk, .ref q_ma, .ref q_mb, .ref q_mw, .int mo_start, .int mo_many, .int mo_bits, .ref q_mx]))] := hD
      obtain rfl := Option.some.inj hf
      exact hret _ _ _ _ dX6_append_29 (hP.sub [2, 0, 1] rfl) (hD.sub [2, 0, 1] (by decide) rfl) hS
set_option maxHeartbeats 4000000 in
set_option maxRecDepth 100000 in
theorem c_X6_climb (l : Launch) (D : va_G) (cI : ClassId) (q_mo q_mv q_me q_mk q_ma q_mb q_mw q_mx : Nat) (n : Nat) (x1 : Int32) (x2 : Int32) (x3 : Int32) (mo_thrown : Int32) (mo_rows : Int32) (mo_size : Int32) (mo_price : Int32) (mo_queries : Int32) (mo_start : Int32) (mo_many : Int32) (mo_bits : Int32) (mv : (Nat → Int32)) (me : (Nat → Int32)) (res : Int32 × Int32 × Int32 × (Nat → Int32) × (Nat → Int32)) (hf : f_X6_climb n x1 x2 x3 mo_thrown mo_rows mo_size mv me = some res) : fr_Ci l yX6_climb wsX6_climb ({ frames := 2, cells := 0, slots := 0, locals := 44 }) D [(cI, .int)] [.ref q_mo, .int x1, .int x2, .int x3] [(q_mo, .inr (6, [.int mo_thrown, .int mo_rows, .ref q_mv, .int mo_size, .ref q_me, .int mo_price, .int mo_queries, .ref q_mk, .ref q_ma, .ref q_mb, .ref q_mw, .int mo_start, .int mo_many, .int mo_bits, .ref q_mx])), (q_mv, .inl (cI, 96, .inl mv)), (q_me, .inl (cI, 96, .inl me))] res.1 [(q_mo, .inr (6, [.int res.2.1, .int res.2.2.1, .ref q_mv, .int mo_size, .ref q_me, .int mo_price, .int mo_queries, .ref q_mk, .ref q_ma, .ref q_mb, .ref q_mw, .int mo_start, .int mo_many, .int mo_bits, .ref q_mx])), (q_mv, .inl (cI, 96, .inl res.2.2.2.1)), (q_me, .inl (cI, 96, .inl res.2.2.2.2))] := by
  refine fr_open_i (cc := cX6_climb) (maxL := 5) (ret := some .int) (by decide +kernel) rfl (Nat.le_of_ble_eq_true rfl) ⟨.int, rfl, vp_nar_int _⟩ ?_
  intro p e s m below meth c A Q ls hx hb hml hown hts hA hK hP hD hS hl hret
  have hown : s.vm.findClass RX6 = some m.cls := hown
  have hl : lv_has ls 5 [(0, .ref q_mo), (1, .int x1), (2, .int x2), (3, .int x3)] := hl
  have hin6 : ∀ w ∈ u_ws RX6 TX6 15, w ∈ wsX6_climb := fun _ h9 => List.mem_cons_of_mem _ (List.mem_append_right _ h9)
  have k_78 : ∀ (n : Nat), (∀ (z1 : Int32) (z2 : Int32) (z3 : Int32) (z4 : Int32) (mo_thrown : Int32) (mo_rows : Int32) (mv : (Nat → Int32)) (me : (Nat → Int32)) (H : Heap) (locs : List Loc) (ls : Array Slot), f_X6_climb_78 n z1 z2 z3 z4 mo_thrown mo_rows mo_size mv me = some res → va_P D vwCl [(q_mo, .inr (6, [.int mo_thrown, .int mo_rows, .ref q_mv, .int mo_size, .ref q_me, .int mo_price, .int mo_queries, .ref q_mk, .ref q_ma, .ref q_mb, .ref q_mw, .int mo_start, .int mo_many, .int mo_bits, .ref q_mx])), (q_mv, .inl (cI, 96, .inl mv)), (q_me, .inl (cI, 96, .inl me))] H → va_D A [(q_mo, .inr (6, [.int mo_thrown, .int mo_rows, .ref q_mv, .int mo_size, .ref q_me, .int mo_price, .int mo_queries, .ref q_mk, .ref q_ma, .ref q_mb, .ref q_mw, .int mo_start, .int mo_many, .int mo_bits, .ref q_mx])), (q_mv, .inl (cI, 96, .inl mv)), (q_me, .inl (cI, 96, .inl me))] → va_S A s.heap H locs → lv_has ls 5 [(0, .ref q_mo), (1, .int z1), (2, .int z2), (3, .int z3), (4, .int z4)] → W p l e ({ frames := 2, cells := 0, slots := 0, locals := 44 }) s m ([.ref q_mo, .int x1, .int x2, .int x3] : List Value).toArray below meth c H locs 0 0 Q (F0 m 78 ls [])) := by
    intro n
    induction n with
    | zero =>
      intro z1 z2 z3 z4 mo_thrown mo_rows mv me H locs ls hf hP hD hS hl
      exact absurd (show (none : Option (Int32 × Int32 × Int32 × (Nat → Int32) × (Nat → Int32))) = some res from hf) (by simp)
    | succ n ih =>
      intro z1 z2 z3 z4 mo_thrown mo_rows mv me H locs ls hf hP hD hS hl
      have hf : f_X6_climb_78_s (f_X6_climb_78 n) n z1 z2 z3 z4 mo_thrown mo_rows mo_size mv me = some res := hf
      unfold f_X6_climb_78_s at hf
      refine lv_iload hx hb dX6_climb_78 (lv_at hl 4 rfl) ?_
      refine lv_iload_n hx hb dX6_climb_80 rfl (lv_at hl 3 rfl) ?_
      refine lv_icmp_ge (tgt := 108) hx hb dX6_climb_81 (by decide) (fun c13 => ?_) (fun c13 => ?_)
      · have hf := pr_pos hf c13
        refine lv_aload_n hx hb dX6_climb_108 rfl (lv_at hl 0 rfl) ?_
        refine lv_aload_n hx hb dX6_climb_109 rfl (lv_at hl 0 rfl) ?_
        refine va_get (D := D) (ci := 6) (v := .int mo_rows) (C := RX6) (T := TX6) (N := 15) hx hb hts hin6 hown hK hP 0 rfl rfl 1 (by decide) (hts (.fieldLink RX6 47 "ColumnChooserModel" "rows" "I") (List.mem_of_getElem? (i := 2) rfl)) (fun _ h9 => h9) rfl dX6_climb_110 ?_
        refine lv_aload_n hx hb dX6_climb_113 rfl (lv_at hl 0 rfl) ?_
        refine va_get (D := D) (ci := 6) (v := .int mo_rows) (C := RX6) (T := TX6) (N := 15) hx hb hts hin6 hown hK hP 0 rfl rfl 1 (by decide) (hts (.fieldLink RX6 47 "ColumnChooserModel" "rows" "I") (List.mem_of_getElem? (i := 2) rfl)) (fun _ h9 => h9) rfl dX6_climb_114 ?_
        refine lv_iload_n hx hb dX6_climb_117 rfl (lv_at hl 3 rfl) ?_
        refine lv_iadd hx hb dX6_climb_118 ?_
        obtain ⟨u14, hu14, hf⟩ := pr_bd hf
        refine fr_vV (As := [.int mo_rows, .int (mo_rows + z3)]) ⟨hx, hb, hml, hown, hts⟩ hK hP hD hS hA (c_X6_changed l D cI q_mo q_mv q_me q_mk q_ma q_mb q_mw q_mx n mo_rows (mo_rows + z3) mo_thrown mo_rows mo_size mo_price mo_queries mo_start mo_many mo_bits me u14 hu14) (cwV 2 hts gX6_climb_X6_changed rfl rfl rfl (by decide +kernel) ⟨Nat.le_of_ble_eq_true rfl, Nat.le_of_ble_eq_true rfl⟩) [(q_mv, .inl (cI, 96, .inl mv))] [0, 2] [1] rfl rfl (by decide) (by decide) (by decide) 0 rfl rfl rfl rfl hl.1 (Nat.le_of_ble_eq_true rfl) dX6_climb_119 ⟨Nat.zero_le _, Nat.zero_le _⟩ rfl (fun H locs hP hD hS => ?_)
        have hP : va_P D vwCl [(q_mv, .inl (cI, 96, .inl mv)), (q_mo, .inr (6, [.int mo_thrown, .int u14.1, .ref q_mv, .int mo_size, .ref q_me, .int mo_price, .int mo_queries, .ref q_mk, .ref q_ma, .ref q_mb, .ref q_mw, .int mo_start, .int mo_many, .int mo_bits, .ref q_mx])), (q_me, .inl (cI, 96, .inl u14.2))] H := hP
        have hD : va_D A [(q_mv, .inl (cI, 96, .inl mv)), (q_mo, .inr (6, [.int mo_thrown, .int u14.1, .ref q_mv, .int mo_size, .ref q_me, .int mo_price, .int mo_queries, .ref q_mk, .ref q_ma, .ref q_mb, .ref q_mw, .int mo_start, .int mo_many, .int mo_bits, .ref q_mx])), (q_me, .inl (cI, 96, .inl u14.2))] := hD
        refine lv_aload_n hx hb dX6_climb_122 rfl (lv_at hl 0 rfl) ?_
        refine va_get (D := D) (ci := 6) (v := .int u14.1) (C := RX6) (T := TX6) (N := 15) hx hb hts hin6 hown hK hP 1 rfl rfl 1 (by decide) (hts (.fieldLink RX6 47 "ColumnChooserModel" "rows" "I") (List.mem_of_getElem? (i := 2) rfl)) (fun _ h9 => h9) rfl dX6_climb_123 ?_
        obtain rfl := Option.some.inj hf
        exact hret _ _ _ _ dX6_climb_126 (hP.sub [1, 0, 2] rfl) (hD.sub [1, 0, 2] (by decide) rfl) hS
      · have hf := pr_neg hf c13
        refine lv_aload_n hx hb dX6_climb_84 rfl (lv_at hl 0 rfl) ?_
        refine va_get (D := D) (ci := 6) (v := .ref q_mv) (C := RX6) (T := TX6) (N := 15) hx hb hts hin6 hown hK hP 0 rfl rfl 2 (by decide) (hts (.fieldLink RX6 9 "ColumnChooserModel" "values" "[I") (List.mem_of_getElem? (i := 3) rfl)) (fun _ h9 => h9) rfl dX6_climb_85 ?_
        refine lv_aload_n hx hb dX6_climb_88 rfl (lv_at hl 0 rfl) ?_
        refine va_get (D := D) (ci := 6) (v := .int mo_rows) (C := RX6) (T := TX6) (N := 15) hx hb hts hin6 hown hK hP 0 rfl rfl 1 (by decide) (hts (.fieldLink RX6 47 "ColumnChooserModel" "rows" "I") (List.mem_of_getElem? (i := 2) rfl)) (fun _ h9 => h9) rfl dX6_climb_89 ?_
        refine lv_iload hx hb dX6_climb_92 (lv_at hl 4 rfl) ?_
        refine lv_iadd hx hb dX6_climb_94 ?_
        refine lv_iload_n hx hb dX6_climb_95 rfl (lv_at hl 1 rfl) ?_
        refine lv_iload_n hx hb dX6_climb_96 rfl (lv_at hl 2 rfl) ?_
        refine lv_iload hx hb dX6_climb_97 (lv_at hl 4 rfl) ?_
        refine lv_imul hx hb dX6_climb_99 ?_
        refine lv_iadd hx hb dX6_climb_100 ?_
        obtain ⟨v15, hv15, hf⟩ := pr_bd hf
        refine fr_wr hx hb hK hP hD hS 1 0 rfl rfl hv15 dX6_climb_101 (fun H locs hP hD hS => ?_)
        have hP : va_P D vwCl [(q_mo, .inr (6, [.int mo_thrown, .int mo_rows, .ref q_mv, .int mo_size, .ref q_me, .int mo_price, .int mo_queries, .ref q_mk, .ref q_ma, .ref q_mb, .ref q_mw, .int mo_start, .int mo_many, .int mo_bits, .ref q_mx])), (q_mv, .inl (cI, 96, .inl v15)), (q_me, .inl (cI, 96, .inl me))] H := hP
        have hD : va_D A [(q_mo, .inr (6, [.int mo_thrown, .int mo_rows, .ref q_mv, .int mo_size, .ref q_me, .int mo_price, .int mo_queries, .ref q_mk, .ref q_ma, .ref q_mb, .ref q_mw, .int mo_start, .int mo_many, .int mo_bits, .ref q_mx])), (q_mv, .inl (cI, 96, .inl v15)), (q_me, .inl (cI, 96, .inl me))] := hD
        refine lv_iinc (v := (z4 + 1)) (lv' := [(4, .int (z4 + 1)), (0, .ref q_mo), (1, .int z1), (2, .int z2), (3, .int z3)]) hx hb dX6_climb_102 hl (k := 4) rfl rfl (by decide) rfl (fun ls hl => ?_)
        refine lv_goto (tgt := 78) hx hb dX6_climb_105 (by decide) ?_
        exact ih _ _ _ _ _ _ _ _ _ _ ls hf (hP.sub [0, 1, 2] rfl) (hD.sub [0, 1, 2] (by decide) rfl) hS (lv_sub hl [1, 2, 3, 4, 0] rfl)
  have k_25 : ∀ (n : Nat), (∀ (z1 : Int32) (z2 : Int32) (z3 : Int32) (z4 : Int32) (mo_thrown : Int32) (mo_rows : Int32) (mv : (Nat → Int32)) (me : (Nat → Int32)) (H : Heap) (locs : List Loc) (ls : Array Slot), f_X6_climb_25 n z1 z2 z3 z4 mo_thrown mo_rows mo_size mv me = some res → va_P D vwCl [(q_mo, .inr (6, [.int mo_thrown, .int mo_rows, .ref q_mv, .int mo_size, .ref q_me, .int mo_price, .int mo_queries, .ref q_mk, .ref q_ma, .ref q_mb, .ref q_mw, .int mo_start, .int mo_many, .int mo_bits, .ref q_mx])), (q_mv, .inl (cI, 96, .inl mv)), (q_me, .inl (cI, 96, .inl me))] H → va_D A [(q_mo, .inr (6, [.int mo_thrown, .int mo_rows, .ref q_mv, .int mo_size, .ref q_me, .int mo_price, .int mo_queries, .ref q_mk, .ref q_ma, .ref q_mb, .ref q_mw, .int mo_start, .int mo_many, .int mo_bits, .ref q_mx])), (q_mv, .inl (cI, 96, .inl mv)), (q_me, .inl (cI, 96, .inl me))] → va_S A s.heap H locs → lv_has ls 5 [(0, .ref q_mo), (1, .int z1), (2, .int z2), (3, .int z3), (4, .int z4)] → W p l e ({ frames := 2, cells := 0, slots := 0, locals := 44 }) s m ([.ref q_mo, .int x1, .int x2, .int x3] : List Value).toArray below meth c H locs 0 0 Q (F0 m 25 ls [])) := by
    intro n
    induction n with
    | zero =>
      intro z1 z2 z3 z4 mo_thrown mo_rows mv me H locs ls hf hP hD hS hl
      exact absurd (show (none : Option (Int32 × Int32 × Int32 × (Nat → Int32) × (Nat → Int32))) = some res from hf) (by simp)
    | succ n ih =>
      intro z1 z2 z3 z4 mo_thrown mo_rows mv me H locs ls hf hP hD hS hl
      have hf : f_X6_climb_25_s (f_X6_climb_25 n) n z1 z2 z3 z4 mo_thrown mo_rows mo_size mv me = some res := hf
      unfold f_X6_climb_25_s at hf
      refine lv_iload hx hb dX6_climb_25 (lv_at hl 4 rfl) ?_
      refine lv_iload_n hx hb dX6_climb_27 rfl (lv_at hl 3 rfl) ?_
      refine lv_icmp_ge (tgt := 58) hx hb dX6_climb_28 (by decide) (fun c16 => ?_) (fun c16 => ?_)
      · have hf := pr_pos hf c16
        refine lv_aload_n hx hb dX6_climb_58 rfl (lv_at hl 0 rfl) ?_
        refine va_get (D := D) (ci := 6) (v := .int mo_rows) (C := RX6) (T := TX6) (N := 15) hx hb hts hin6 hown hK hP 0 rfl rfl 1 (by decide) (hts (.fieldLink RX6 47 "ColumnChooserModel" "rows" "I") (List.mem_of_getElem? (i := 2) rfl)) (fun _ h9 => h9) rfl dX6_climb_59 ?_
        refine lv_iload_n hx hb dX6_climb_62 rfl (lv_at hl 3 rfl) ?_
        refine lv_iadd hx hb dX6_climb_63 ?_
        refine lv_bipush (v := 96) hx hb dX6_climb_64 (by decide) ?_
        refine lv_icmp_le (tgt := 75) hx hb dX6_climb_66 (by decide) (fun c17 => ?_) (fun c17 => ?_)
        · have hf := pr_pos hf c17
          refine lv_iconst (v := 0) hx hb dX6_climb_75 (by decide) ?_
          refine lv_istore (lv' := [(4, .int 0), (0, .ref q_mo), (1, .int z1), (2, .int z2), (3, .int z3)]) hx hb dX6_climb_76 hl (by decide) rfl (fun ls hl => ?_)
          exact k_78 n _ _ _ _ _ _ _ _ _ _ ls hf (hP.sub [0, 1, 2] rfl) (hD.sub [0, 1, 2] (by decide) rfl) hS (lv_sub hl [1, 2, 3, 4, 0] rfl)
        · have hf := pr_neg hf c17
          refine lv_aload_n hx hb dX6_climb_69 rfl (lv_at hl 0 rfl) ?_
          refine lv_iconst (v := 2) hx hb dX6_climb_70 (by decide) ?_
          obtain ⟨u18, hu18, hf⟩ := pr_bd hf
          refine fr_iV (As := [.int 2]) ⟨hx, hb, hml, hown, hts⟩ hK hP hD hS hA (c_X6_fail l D cI q_mo q_mv q_me q_mk q_ma q_mb q_mw q_mx n 2 mo_thrown mo_rows mo_size mo_price mo_queries mo_start mo_many mo_bits u18 hu18) (cwV 1 hts gX6_climb_X6_fail rfl rfl rfl (by decide +kernel) ⟨Nat.le_of_ble_eq_true rfl, Nat.le_of_ble_eq_true rfl⟩) [(q_mv, .inl (cI, 96, .inl mv)), (q_me, .inl (cI, 96, .inl me))] [0] [1, 2] rfl rfl (by decide) (by decide) (by decide) 0 rfl rfl rfl rfl hl.1 (Nat.le_of_ble_eq_true rfl) dX6_climb_71 ⟨Nat.zero_le _, Nat.zero_le _⟩ rfl (fun H locs hP hD hS => ?_)
          have hP : va_P D vwCl [(q_mv, .inl (cI, 96, .inl mv)), (q_me, .inl (cI, 96, .inl me)), (q_mo, .inr (6, [.int u18.2, .int mo_rows, .ref q_mv, .int mo_size, .ref q_me, .int mo_price, .int mo_queries, .ref q_mk, .ref q_ma, .ref q_mb, .ref q_mw, .int mo_start, .int mo_many, .int mo_bits, .ref q_mx]))] H := hP
          have hD : va_D A [(q_mv, .inl (cI, 96, .inl mv)), (q_me, .inl (cI, 96, .inl me)), (q_mo, .inr (6, [.int u18.2, .int mo_rows, .ref q_mv, .int mo_size, .ref q_me, .int mo_price, .int mo_queries, .ref q_mk, .ref q_ma, .ref q_mb, .ref q_mw, .int mo_start, .int mo_many, .int mo_bits, .ref q_mx]))] := hD
          obtain rfl := Option.some.inj hf
          exact hret _ _ _ _ dX6_climb_74 (hP.sub [2, 0, 1] rfl) (hD.sub [2, 0, 1] (by decide) rfl) hS
      · have hf := pr_neg hf c16
        refine lv_iload_n hx hb dX6_climb_31 rfl (lv_at hl 1 rfl) ?_
        refine lv_i2l hx hb dX6_climb_32 rfl ?_
        refine lv_iload_n hx hb dX6_climb_33 rfl (lv_at hl 2 rfl) ?_
        refine lv_i2l hx hb dX6_climb_34 rfl ?_
        refine lv_iload hx hb dX6_climb_35 (lv_at hl 4 rfl) ?_
        refine lv_i2l hx hb dX6_climb_37 rfl ?_
        refine lv_lmul hx hb dX6_climb_38 ?_
        refine lv_ladd hx hb dX6_climb_39 ?_
        obtain ⟨u19, hu19, hf⟩ := pr_bd hf
        refine fr_iS (As := [.long (z1.toInt64 + (z2.toInt64 * z4.toInt64))]) ⟨hx, hb, hml, hown, hts⟩ hK hP hD hS hA (c_X6_isValue l D cI n (z1.toInt64 + (z2.toInt64 * z4.toInt64)) u19 hu19) (va_cwS 1 hts gX6_climb_X6_isValue rfl rfl rfl (by decide +kernel) ⟨Nat.le_of_ble_eq_true rfl, Nat.le_of_ble_eq_true rfl⟩) [(q_mo, .inr (6, [.int mo_thrown, .int mo_rows, .ref q_mv, .int mo_size, .ref q_me, .int mo_price, .int mo_queries, .ref q_mk, .ref q_ma, .ref q_mb, .ref q_mw, .int mo_start, .int mo_many, .int mo_bits, .ref q_mx])), (q_mv, .inl (cI, 96, .inl mv)), (q_me, .inl (cI, 96, .inl me))] [] [0, 1, 2] rfl rfl (by decide) (by decide) (by decide) rfl hl.1 (Nat.le_of_ble_eq_true rfl) dX6_climb_40 ⟨Nat.zero_le _, Nat.zero_le _⟩ rfl (fun H locs hP hD hS => ?_)
        have hP : va_P D vwCl [(q_mo, .inr (6, [.int mo_thrown, .int mo_rows, .ref q_mv, .int mo_size, .ref q_me, .int mo_price, .int mo_queries, .ref q_mk, .ref q_ma, .ref q_mb, .ref q_mw, .int mo_start, .int mo_many, .int mo_bits, .ref q_mx])), (q_mv, .inl (cI, 96, .inl mv)), (q_me, .inl (cI, 96, .inl me))] H := hP
        have hD : va_D A [(q_mo, .inr (6, [.int mo_thrown, .int mo_rows, .ref q_mv, .int mo_size, .ref q_me, .int mo_price, .int mo_queries, .ref q_mk, .ref q_ma, .ref q_mb, .ref q_mw, .int mo_start, .int mo_many, .int mo_bits, .ref q_mx])), (q_mv, .inl (cI, 96, .inl mv)), (q_me, .inl (cI, 96, .inl me))] := hD
        refine lv_if_ne (tgt := 52) hx hb dX6_climb_43 (by decide) (fun c20 => ?_) (fun c20 => ?_)
        · have hf := pr_neg hf c20
          refine lv_iinc (v := (z4 + 1)) (lv' := [(4, .int (z4 + 1)), (0, .ref q_mo), (1, .int z1), (2, .int z2), (3, .int z3)]) hx hb dX6_climb_52 hl (k := 4) rfl rfl (by decide) rfl (fun ls hl => ?_)
          refine lv_goto (tgt := 25) hx hb dX6_climb_55 (by decide) ?_
          exact ih _ _ _ _ _ _ _ _ _ _ ls hf (hP.sub [0, 1, 2] rfl) (hD.sub [0, 1, 2] (by decide) rfl) hS (lv_sub hl [1, 2, 3, 4, 0] rfl)
        · have hf := pr_pos hf c20
          refine lv_aload_n hx hb dX6_climb_46 rfl (lv_at hl 0 rfl) ?_
          refine lv_iconst (v := 1) hx hb dX6_climb_47 (by decide) ?_
          obtain ⟨u21, hu21, hf⟩ := pr_bd hf
          refine fr_iV (As := [.int 1]) ⟨hx, hb, hml, hown, hts⟩ hK hP hD hS hA (c_X6_fail l D cI q_mo q_mv q_me q_mk q_ma q_mb q_mw q_mx n 1 mo_thrown mo_rows mo_size mo_price mo_queries mo_start mo_many mo_bits u21 hu21) (cwV 1 hts gX6_climb_X6_fail rfl rfl rfl (by decide +kernel) ⟨Nat.le_of_ble_eq_true rfl, Nat.le_of_ble_eq_true rfl⟩) [(q_mv, .inl (cI, 96, .inl mv)), (q_me, .inl (cI, 96, .inl me))] [0] [1, 2] rfl rfl (by decide) (by decide) (by decide) 0 rfl rfl rfl rfl hl.1 (Nat.le_of_ble_eq_true rfl) dX6_climb_48 ⟨Nat.zero_le _, Nat.zero_le _⟩ rfl (fun H locs hP hD hS => ?_)
          have hP : va_P D vwCl [(q_mv, .inl (cI, 96, .inl mv)), (q_me, .inl (cI, 96, .inl me)), (q_mo, .inr (6, [.int u21.2, .int mo_rows, .ref q_mv, .int mo_size, .ref q_me, .int mo_price, .int mo_queries, .ref q_mk, .ref q_ma, .ref q_mb, .ref q_mw, .int mo_start, .int mo_many, .int mo_bits, .ref q_mx]))] H := hP
          have hD : va_D A [(q_mv, .inl (cI, 96, .inl mv)), (q_me, .inl (cI, 96, .inl me)), (q_mo, .inr (6, [.int u21.2, .int mo_rows, .ref q_mv, .int mo_size, .ref q_me, .int mo_price, .int mo_queries, .ref q_mk, .ref q_ma, .ref q_mb, .ref q_mw, .int mo_start, .int mo_many, .int mo_bits, .ref q_mx]))] := hD
          obtain rfl := Option.some.inj hf
          exact hret _ _ _ _ dX6_climb_51 (hP.sub [2, 0, 1] rfl) (hD.sub [2, 0, 1] (by decide) rfl) hS
  unfold f_X6_climb at hf
  refine lv_aload_n hx hb dX6_climb_0 rfl (lv_at hl 0 rfl) ?_
  refine lv_iconst (v := 0) hx hb dX6_climb_1 (by decide) ?_
  refine va_put (D := D) (ci := 6) (v := .int 0) (ty := .int) (C := RX6) (T := TX6) (N := 15) hx hb hts hin6 tyX6 tyX6_ok nmX6 hown hK hP hD hS 0 rfl rfl 0 (by decide) (hts (.fieldLink RX6 38 "ColumnChooserModel" "thrown" "I") (List.mem_of_getElem? (i := 1) rfl)) (fun _ h9 => h9) rfl (by decide +kernel) rfl rfl (Nat.le_of_ble_eq_true rfl) dX6_climb_2 (fun H locs hP hD hS => ?_)
  have hP : va_P D vwCl [(q_mo, .inr (6, [.int 0, .int mo_rows, .ref q_mv, .int mo_size, .ref q_me, .int mo_price, .int mo_queries, .ref q_mk, .ref q_ma, .ref q_mb, .ref q_mw, .int mo_start, .int mo_many, .int mo_bits, .ref q_mx])), (q_mv, .inl (cI, 96, .inl mv)), (q_me, .inl (cI, 96, .inl me))] H := hP
  have hD : va_D A [(q_mo, .inr (6, [.int 0, .int mo_rows, .ref q_mv, .int mo_size, .ref q_me, .int mo_price, .int mo_queries, .ref q_mk, .ref q_ma, .ref q_mb, .ref q_mw, .int mo_start, .int mo_many, .int mo_bits, .ref q_mx])), (q_mv, .inl (cI, 96, .inl mv)), (q_me, .inl (cI, 96, .inl me))] := hD
  refine lv_iload_n hx hb dX6_climb_5 rfl (lv_at hl 3 rfl) ?_
  refine lv_i2l hx hb dX6_climb_6 rfl ?_
  refine lv_iconst (v := 1) hx hb dX6_climb_7 (by decide) ?_
  refine lv_bipush (v := 96) hx hb dX6_climb_8 (by decide) ?_
  obtain ⟨u22, hu22, hf⟩ := pr_bd hf
  refine fr_iS (As := [.long x3.toInt64, .int 1, .int 96]) ⟨hx, hb, hml, hown, hts⟩ hK hP hD hS hA (c_X6_isIn l D cI n x3.toInt64 1 96 u22 hu22) (va_cwS 3 hts gX6_climb_X6_isIn rfl rfl rfl (by decide +kernel) ⟨Nat.le_of_ble_eq_true rfl, Nat.le_of_ble_eq_true rfl⟩) [(q_mo, .inr (6, [.int 0, .int mo_rows, .ref q_mv, .int mo_size, .ref q_me, .int mo_price, .int mo_queries, .ref q_mk, .ref q_ma, .ref q_mb, .ref q_mw, .int mo_start, .int mo_many, .int mo_bits, .ref q_mx])), (q_mv, .inl (cI, 96, .inl mv)), (q_me, .inl (cI, 96, .inl me))] [] [0, 1, 2] rfl rfl (by decide) (by decide) (by decide) rfl hl.1 (Nat.le_of_ble_eq_true rfl) dX6_climb_10 ⟨Nat.zero_le _, Nat.zero_le _⟩ rfl (fun H locs hP hD hS => ?_)
  have hP : va_P D vwCl [(q_mo, .inr (6, [.int 0, .int mo_rows, .ref q_mv, .int mo_size, .ref q_me, .int mo_price, .int mo_queries, .ref q_mk, .ref q_ma, .ref q_mb, .ref q_mw, .int mo_start, .int mo_many, .int mo_bits, .ref q_mx])), (q_mv, .inl (cI, 96, .inl mv)), (q_me, .inl (cI, 96, .inl me))] H := hP
  have hD : va_D A [(q_mo, .inr (6, [.int 0, .int mo_rows, .ref q_mv, .int mo_size, .ref q_me, .int mo_price, .int mo_queries, .ref q_mk, .ref q_ma, .ref q_mb, .ref q_mw, .int mo_start, .int mo_many, .int mo_bits, .ref q_mx])), (q_mv, .inl (cI, 96, .inl mv)), (q_me, .inl (cI, 96, .inl me))] := hD
  refine lv_if_ne (tgt := 22) hx hb dX6_climb_13 (by decide) (fun c23 => ?_) (fun c23 => ?_)
  · have hf := pr_neg hf c23
    refine lv_iconst (v := 0) hx hb dX6_climb_22 (by decide) ?_
    refine lv_istore (lv' := [(4, .int 0), (0, .ref q_mo), (1, .int x1), (2, .int x2), (3, .int x3)]) hx hb dX6_climb_23 hl (by decide) rfl (fun ls hl => ?_)
    exact k_25 n _ _ _ _ _ _ _ _ _ _ ls hf (hP.sub [0, 1, 2] rfl) (hD.sub [0, 1, 2] (by decide) rfl) hS (lv_sub hl [1, 2, 3, 4, 0] rfl)
  · have hf := pr_pos hf c23
    refine lv_aload_n hx hb dX6_climb_16 rfl (lv_at hl 0 rfl) ?_
    refine lv_iconst (v := 1) hx hb dX6_climb_17 (by decide) ?_
    obtain ⟨u24, hu24, hf⟩ := pr_bd hf
    refine fr_iV (As := [.int 1]) ⟨hx, hb, hml, hown, hts⟩ hK hP hD hS hA (c_X6_fail l D cI q_mo q_mv q_me q_mk q_ma q_mb q_mw q_mx n 1 0 mo_rows mo_size mo_price mo_queries mo_start mo_many mo_bits u24 hu24) (cwV 1 hts gX6_climb_X6_fail rfl rfl rfl (by decide +kernel) ⟨Nat.le_of_ble_eq_true rfl, Nat.le_of_ble_eq_true rfl⟩) [(q_mv, .inl (cI, 96, .inl mv)), (q_me, .inl (cI, 96, .inl me))] [0] [1, 2] rfl rfl (by decide) (by decide) (by decide) 0 rfl rfl rfl rfl hl.1 (Nat.le_of_ble_eq_true rfl) dX6_climb_18 ⟨Nat.zero_le _, Nat.zero_le _⟩ rfl (fun H locs hP hD hS => ?_)
    have hP : va_P D vwCl [(q_mv, .inl (cI, 96, .inl mv)), (q_me, .inl (cI, 96, .inl me)), (q_mo, .inr (6, [.int u24.2, .int mo_rows, .ref q_mv, .int mo_size, .ref q_me, .int mo_price, .int mo_queries, .ref q_mk, .ref q_ma, .ref q_mb, .ref q_mw, .int mo_start, .int mo_many, .int mo_bits, .ref q_mx]))] H := hP
    have hD : va_D A [(q_mv, .inl (cI, 96, .inl mv)), (q_me, .inl (cI, 96, .inl me)), (q_mo, .inr (6, [.int u24.2, .int mo_rows, .ref q_mv, .int mo_size, .ref q_me, .int mo_price, .int mo_queries, .ref q_mk, .ref q_ma, .ref q_mb, .ref q_mw, .int mo_start, .int mo_many, .int mo_bits, .ref q_mx]))] := hD
    obtain rfl := Option.some.inj hf
    exact hret _ _ _ _ dX6_climb_21 (hP.sub [2, 0, 1] rfl) (hD.sub [2, 0, 1] (by decide) rfl) hS
set_option maxHeartbeats 4000000 in
set_option maxRecDepth 100000 in
theorem c_X6_set (l : Launch) (D : va_G) (cI : ClassId) (q_mo q_mv q_me q_mk q_ma q_mb q_mw q_mx : Nat) (n : Nat) (x1 : Int32) (x2 : Int32) (mo_thrown : Int32) (mo_rows : Int32) (mo_size : Int32) (mo_price : Int32) (mo_queries : Int32) (mo_start : Int32) (mo_many : Int32) (mo_bits : Int32) (mv : (Nat → Int32)) (me : (Nat → Int32)) (res : Int32 × Int32 × (Nat → Int32) × (Nat → Int32)) (hf : f_X6_set n x1 x2 mo_thrown mo_rows mo_size mv me = some res) : fr_Ci l yX6_set wsX6_set ({ frames := 2, cells := 0, slots := 0, locals := 44 }) D [(cI, .int)] [.ref q_mo, .int x1, .int x2] [(q_mo, .inr (6, [.int mo_thrown, .int mo_rows, .ref q_mv, .int mo_size, .ref q_me, .int mo_price, .int mo_queries, .ref q_mk, .ref q_ma, .ref q_mb, .ref q_mw, .int mo_start, .int mo_many, .int mo_bits, .ref q_mx])), (q_mv, .inl (cI, 96, .inl mv)), (q_me, .inl (cI, 96, .inl me))] res.1 [(q_mo, .inr (6, [.int res.2.1, .int mo_rows, .ref q_mv, .int mo_size, .ref q_me, .int mo_price, .int mo_queries, .ref q_mk, .ref q_ma, .ref q_mb, .ref q_mw, .int mo_start, .int mo_many, .int mo_bits, .ref q_mx])), (q_mv, .inl (cI, 96, .inl res.2.2.1)), (q_me, .inl (cI, 96, .inl res.2.2.2))] := by
  refine fr_open_i (cc := cX6_set) (maxL := 4) (ret := some .int) (by decide +kernel) rfl (Nat.le_of_ble_eq_true rfl) ⟨.int, rfl, vp_nar_int _⟩ ?_
  intro p e s m below meth c A Q ls hx hb hml hown hts hA hK hP hD hS hl hret
  have hown : s.vm.findClass RX6 = some m.cls := hown
  have hl : lv_has ls 4 [(0, .ref q_mo), (1, .int x1), (2, .int x2)] := hl
  have hin6 : ∀ w ∈ u_ws RX6 TX6 15, w ∈ wsX6_set := fun _ h9 => List.mem_cons_of_mem _ (List.mem_append_right _ h9)
  unfold f_X6_set at hf
  refine lv_aload_n hx hb dX6_set_0 rfl (lv_at hl 0 rfl) ?_
  refine lv_iconst (v := 0) hx hb dX6_set_1 (by decide) ?_
  refine va_put (D := D) (ci := 6) (v := .int 0) (ty := .int) (C := RX6) (T := TX6) (N := 15) hx hb hts hin6 tyX6 tyX6_ok nmX6 hown hK hP hD hS 0 rfl rfl 0 (by decide) (hts (.fieldLink RX6 38 "ColumnChooserModel" "thrown" "I") (List.mem_of_getElem? (i := 1) rfl)) (fun _ h9 => h9) rfl (by decide +kernel) rfl rfl (Nat.le_of_ble_eq_true rfl) dX6_set_2 (fun H locs hP hD hS => ?_)
  have hP : va_P D vwCl [(q_mo, .inr (6, [.int 0, .int mo_rows, .ref q_mv, .int mo_size, .ref q_me, .int mo_price, .int mo_queries, .ref q_mk, .ref q_ma, .ref q_mb, .ref q_mw, .int mo_start, .int mo_many, .int mo_bits, .ref q_mx])), (q_mv, .inl (cI, 96, .inl mv)), (q_me, .inl (cI, 96, .inl me))] H := hP
  have hD : va_D A [(q_mo, .inr (6, [.int 0, .int mo_rows, .ref q_mv, .int mo_size, .ref q_me, .int mo_price, .int mo_queries, .ref q_mk, .ref q_ma, .ref q_mb, .ref q_mw, .int mo_start, .int mo_many, .int mo_bits, .ref q_mx])), (q_mv, .inl (cI, 96, .inl mv)), (q_me, .inl (cI, 96, .inl me))] := hD
  refine lv_iload_n hx hb dX6_set_5 rfl (lv_at hl 1 rfl) ?_
  refine lv_i2l hx hb dX6_set_6 rfl ?_
  refine lv_iconst (v := 0) hx hb dX6_set_7 (by decide) ?_
  refine lv_aload_n hx hb dX6_set_8 rfl (lv_at hl 0 rfl) ?_
  refine va_get (D := D) (ci := 6) (v := .int mo_rows) (C := RX6) (T := TX6) (N := 15) hx hb hts hin6 hown hK hP 0 rfl rfl 1 (by decide) (hts (.fieldLink RX6 47 "ColumnChooserModel" "rows" "I") (List.mem_of_getElem? (i := 2) rfl)) (fun _ h9 => h9) rfl dX6_set_9 ?_
  refine lv_iconst (v := 1) hx hb dX6_set_12 (by decide) ?_
  refine lv_isub hx hb dX6_set_13 ?_
  obtain ⟨u11, hu11, hf⟩ := pr_bd hf
  refine fr_iS (As := [.long x1.toInt64, .int 0, .int (mo_rows - 1)]) ⟨hx, hb, hml, hown, hts⟩ hK hP hD hS hA (c_X6_isIn l D cI n x1.toInt64 0 (mo_rows - 1) u11 hu11) (va_cwS 3 hts gX6_set_X6_isIn rfl rfl rfl (by decide +kernel) ⟨Nat.le_of_ble_eq_true rfl, Nat.le_of_ble_eq_true rfl⟩) [(q_mo, .inr (6, [.int 0, .int mo_rows, .ref q_mv, .int mo_size, .ref q_me, .int mo_price, .int mo_queries, .ref q_mk, .ref q_ma, .ref q_mb, .ref q_mw, .int mo_start, .int mo_many, .int mo_bits, .ref q_mx])), (q_mv, .inl (cI, 96, .inl mv)), (q_me, .inl (cI, 96, .inl me))] [] [0, 1, 2] rfl rfl (by decide) (by decide) (by decide) rfl hl.1 (Nat.le_of_ble_eq_true rfl) dX6_set_14 ⟨Nat.zero_le _, Nat.zero_le _⟩ rfl (fun H locs hP hD hS => ?_)
  have hP : va_P D vwCl [(q_mo, .inr (6, [.int 0, .int mo_rows, .ref q_mv, .int mo_size, .ref q_me, .int mo_price, .int mo_queries, .ref q_mk, .ref q_ma, .ref q_mb, .ref q_mw, .int mo_start, .int mo_many, .int mo_bits, .ref q_mx])), (q_mv, .inl (cI, 96, .inl mv)), (q_me, .inl (cI, 96, .inl me))] H := hP
  have hD : va_D A [(q_mo, .inr (6, [.int 0, .int mo_rows, .ref q_mv, .int mo_size, .ref q_me, .int mo_price, .int mo_queries, .ref q_mk, .ref q_ma, .ref q_mb, .ref q_mw, .int mo_start, .int mo_many, .int mo_bits, .ref q_mx])), (q_mv, .inl (cI, 96, .inl mv)), (q_me, .inl (cI, 96, .inl me))] := hD
  refine lv_if_ne (tgt := 26) hx hb dX6_set_17 (by decide) (fun c12 => ?_) (fun c12 => ?_)
  · have hf := pr_neg hf c12
    refine lv_iload_n hx hb dX6_set_26 rfl (lv_at hl 2 rfl) ?_
    refine lv_i2l hx hb dX6_set_27 rfl ?_
    obtain ⟨u13, hu13, hf⟩ := pr_bd hf
    refine fr_iS (As := [.long x2.toInt64]) ⟨hx, hb, hml, hown, hts⟩ hK hP hD hS hA (c_X6_isValue l D cI n x2.toInt64 u13 hu13) (va_cwS 1 hts gX6_set_X6_isValue rfl rfl rfl (by decide +kernel) ⟨Nat.le_of_ble_eq_true rfl, Nat.le_of_ble_eq_true rfl⟩) [(q_mo, .inr (6, [.int 0, .int mo_rows, .ref q_mv, .int mo_size, .ref q_me, .int mo_price, .int mo_queries, .ref q_mk, .ref q_ma, .ref q_mb, .ref q_mw, .int mo_start, .int mo_many, .int mo_bits, .ref q_mx])), (q_mv, .inl (cI, 96, .inl mv)), (q_me, .inl (cI, 96, .inl me))] [] [0, 1, 2] rfl rfl (by decide) (by decide) (by decide) rfl hl.1 (Nat.le_of_ble_eq_true rfl) dX6_set_28 ⟨Nat.zero_le _, Nat.zero_le _⟩ rfl (fun H locs hP hD hS => ?_)
    have hP : va_P D vwCl [(q_mo, .inr (6, [.int 0, .int mo_rows, .ref q_mv, .int mo_size, .ref q_me, .int mo_price, .int mo_queries, .ref q_mk, .ref q_ma, .ref q_mb, .ref q_mw, .int mo_start, .int mo_many, .int mo_bits, .ref q_mx])), (q_mv, .inl (cI, 96, .inl mv)), (q_me, .inl (cI, 96, .inl me))] H := hP
    have hD : va_D A [(q_mo, .inr (6, [.int 0, .int mo_rows, .ref q_mv, .int mo_size, .ref q_me, .int mo_price, .int mo_queries, .ref q_mk, .ref q_ma, .ref q_mb, .ref q_mw, .int mo_start, .int mo_many, .int mo_bits, .ref q_mx])), (q_mv, .inl (cI, 96, .inl mv)), (q_me, .inl (cI, 96, .inl me))] := hD
    refine lv_if_ne (tgt := 40) hx hb dX6_set_31 (by decide) (fun c14 => ?_) (fun c14 => ?_)
    · have hf := pr_neg hf c14
      refine lv_aload_n hx hb dX6_set_40 rfl (lv_at hl 0 rfl) ?_
      refine va_get (D := D) (ci := 6) (v := .ref q_mv) (C := RX6) (T := TX6) (N := 15) hx hb hts hin6 hown hK hP 0 rfl rfl 2 (by decide) (hts (.fieldLink RX6 9 "ColumnChooserModel" "values" "[I") (List.mem_of_getElem? (i := 3) rfl)) (fun _ h9 => h9) rfl dX6_set_41 ?_
      refine lv_iload_n hx hb dX6_set_44 rfl (lv_at hl 1 rfl) ?_
      obtain ⟨v15, hv15, hf⟩ := pr_bd hf
      refine fr_rd hx hb hK hP 1 0 rfl rfl hv15 dX6_set_45 ?_
      refine lv_istore_n (lv' := [(3, .int v15), (0, .ref q_mo), (1, .int x1), (2, .int x2)]) hx hb dX6_set_46 rfl hl (by decide) rfl (fun ls hl => ?_)
      refine lv_aload_n hx hb dX6_set_47 rfl (lv_at hl 1 rfl) ?_
      refine va_get (D := D) (ci := 6) (v := .ref q_mv) (C := RX6) (T := TX6) (N := 15) hx hb hts hin6 hown hK hP 0 rfl rfl 2 (by decide) (hts (.fieldLink RX6 9 "ColumnChooserModel" "values" "[I") (List.mem_of_getElem? (i := 3) rfl)) (fun _ h9 => h9) rfl dX6_set_48 ?_
      refine lv_iload_n hx hb dX6_set_51 rfl (lv_at hl 2 rfl) ?_
      refine lv_iload_n hx hb dX6_set_52 rfl (lv_at hl 3 rfl) ?_
      obtain ⟨v16, hv16, hf⟩ := pr_bd hf
      refine fr_wr hx hb hK hP hD hS 1 0 rfl rfl hv16 dX6_set_53 (fun H locs hP hD hS => ?_)
      have hP : va_P D vwCl [(q_mo, .inr (6, [.int 0, .int mo_rows, .ref q_mv, .int mo_size, .ref q_me, .int mo_price, .int mo_queries, .ref q_mk, .ref q_ma, .ref q_mb, .ref q_mw, .int mo_start, .int mo_many, .int mo_bits, .ref q_mx])), (q_mv, .inl (cI, 96, .inl v16)), (q_me, .inl (cI, 96, .inl me))] H := hP
      have hD : va_D A [(q_mo, .inr (6, [.int 0, .int mo_rows, .ref q_mv, .int mo_size, .ref q_me, .int mo_price, .int mo_queries, .ref q_mk, .ref q_ma, .ref q_mb, .ref q_mw, .int mo_start, .int mo_many, .int mo_bits, .ref q_mx])), (q_mv, .inl (cI, 96, .inl v16)), (q_me, .inl (cI, 96, .inl me))] := hD
      refine lv_aload_n hx hb dX6_set_54 rfl (lv_at hl 1 rfl) ?_
      refine va_get (D := D) (ci := 6) (v := .ref q_me) (C := RX6) (T := TX6) (N := 15) hx hb hts hin6 hown hK hP 0 rfl rfl 4 (by decide) (hts (.fieldLink RX6 17 "ColumnChooserModel" "encodings" "[I") (List.mem_of_getElem? (i := 4) rfl)) (fun _ h9 => h9) rfl dX6_set_55 ?_
      refine lv_iload_n hx hb dX6_set_58 rfl (lv_at hl 2 rfl) ?_
      refine lv_aload_n hx hb dX6_set_59 rfl (lv_at hl 1 rfl) ?_
      refine va_get (D := D) (ci := 6) (v := .int mo_size) (C := RX6) (T := TX6) (N := 15) hx hb hts hin6 hown hK hP 0 rfl rfl 3 (by decide) (hts (.fieldLink RX6 13 "ColumnChooserModel" "size" "I") (List.mem_of_getElem? (i := 5) rfl)) (fun _ h9 => h9) rfl dX6_set_60 ?_
      obtain ⟨v17, hv17, hf⟩ := pr_bd hf
      refine fr_dv hx hb hv17 dX6_set_63 ?_
      refine lv_iconst (v := 0) hx hb dX6_set_64 (by decide) ?_
      obtain ⟨v18, hv18, hf⟩ := pr_bd hf
      refine fr_wr hx hb hK hP hD hS 2 0 rfl rfl hv18 dX6_set_65 (fun H locs hP hD hS => ?_)
      have hP : va_P D vwCl [(q_mo, .inr (6, [.int 0, .int mo_rows, .ref q_mv, .int mo_size, .ref q_me, .int mo_price, .int mo_queries, .ref q_mk, .ref q_ma, .ref q_mb, .ref q_mw, .int mo_start, .int mo_many, .int mo_bits, .ref q_mx])), (q_mv, .inl (cI, 96, .inl v16)), (q_me, .inl (cI, 96, .inl v18))] H := hP
      have hD : va_D A [(q_mo, .inr (6, [.int 0, .int mo_rows, .ref q_mv, .int mo_size, .ref q_me, .int mo_price, .int mo_queries, .ref q_mk, .ref q_ma, .ref q_mb, .ref q_mw, .int mo_start, .int mo_many, .int mo_bits, .ref q_mx])), (q_mv, .inl (cI, 96, .inl v16)), (q_me, .inl (cI, 96, .inl v18))] := hD
      refine lv_iload_n hx hb dX6_set_66 rfl (lv_at hl 0 rfl) ?_
      obtain rfl := Option.some.inj hf
      exact hret _ _ _ _ dX6_set_67 (hP.sub [0, 1, 2] rfl) (hD.sub [0, 1, 2] (by decide) rfl) hS
    · have hf := pr_pos hf c14
      refine lv_aload_n hx hb dX6_set_34 rfl (lv_at hl 0 rfl) ?_
      refine lv_iconst (v := 2) hx hb dX6_set_35 (by decide) ?_
      obtain ⟨u19, hu19, hf⟩ := pr_bd hf
      refine fr_iV (As := [.int 2]) ⟨hx, hb, hml, hown, hts⟩ hK hP hD hS hA (c_X6_fail l D cI q_mo q_mv q_me q_mk q_ma q_mb q_mw q_mx n 2 0 mo_rows mo_size mo_price mo_queries mo_start mo_many mo_bits u19 hu19) (cwV 1 hts gX6_set_X6_fail rfl rfl rfl (by decide +kernel) ⟨Nat.le_of_ble_eq_true rfl, Nat.le_of_ble_eq_true rfl⟩) [(q_mv, .inl (cI, 96, .inl mv)), (q_me, .inl (cI, 96, .inl me))] [0] [1, 2] rfl rfl (by decide) (by decide) (by decide) 0 rfl rfl rfl rfl hl.1 (Nat.le_of_ble_eq_true rfl) dX6_set_36 ⟨Nat.zero_le _, Nat.zero_le _⟩ rfl (fun H locs hP hD hS => ?_)
      have hP : va_P D vwCl [(q_mv, .inl (cI, 96, .inl mv)), (q_me, .inl (cI, 96, .inl me)), (q_mo, .inr (6, [.int u19.2, .int mo_rows, .ref q_mv, .int mo_size, .ref q_me, .int mo_price, .int mo_queries, .ref q_mk, .ref q_ma, .ref q_mb, .ref q_mw, .int mo_start, .int mo_many, .int mo_bits, .ref q_mx]))] H := hP
      have hD : va_D A [(q_mv, .inl (cI, 96, .inl mv)), (q_me, .inl (cI, 96, .inl me)), (q_mo, .inr (6, [.int u19.2, .int mo_rows, .ref q_mv, .int mo_size, .ref q_me, .int mo_price, .int mo_queries, .ref q_mk, .ref q_ma, .ref q_mb, .ref q_mw, .int mo_start, .int mo_many, .int mo_bits, .ref q_mx]))] := hD
      obtain rfl := Option.some.inj hf
      exact hret _ _ _ _ dX6_set_39 (hP.sub [2, 0, 1] rfl) (hD.sub [2, 0, 1] (by decide) rfl) hS
  · have hf := pr_pos hf c12
    refine lv_aload_n hx hb dX6_set_20 rfl (lv_at hl 0 rfl) ?_
    refine lv_iconst (v := 1) hx hb dX6_set_21 (by decide) ?_
    obtain ⟨u20, hu20, hf⟩ := pr_bd hf
    refine fr_iV (As := [.int 1]) ⟨hx, hb, hml, hown, hts⟩ hK hP hD hS hA (c_X6_fail l D cI q_mo q_mv q_me q_mk q_ma q_mb q_mw q_mx n 1 0 mo_rows mo_size mo_price mo_queries mo_start mo_many mo_bits u20 hu20) (cwV 1 hts gX6_set_X6_fail rfl rfl rfl (by decide +kernel) ⟨Nat.le_of_ble_eq_true rfl, Nat.le_of_ble_eq_true rfl⟩) [(q_mv, .inl (cI, 96, .inl mv)), (q_me, .inl (cI, 96, .inl me))] [0] [1, 2] rfl rfl (by decide) (by decide) (by decide) 0 rfl rfl rfl rfl hl.1 (Nat.le_of_ble_eq_true rfl) dX6_set_22 ⟨Nat.zero_le _, Nat.zero_le _⟩ rfl (fun H locs hP hD hS => ?_)
    have hP : va_P D vwCl [(q_mv, .inl (cI, 96, .inl mv)), (q_me, .inl (cI, 96, .inl me)), (q_mo, .inr (6, [.int u20.2, .int mo_rows, .ref q_mv, .int mo_size, .ref q_me, .int mo_price, .int mo_queries, .ref q_mk, .ref q_ma, .ref q_mb, .ref q_mw, .int mo_start, .int mo_many, .int mo_bits, .ref q_mx]))] H := hP
    have hD : va_D A [(q_mv, .inl (cI, 96, .inl mv)), (q_me, .inl (cI, 96, .inl me)), (q_mo, .inr (6, [.int u20.2, .int mo_rows, .ref q_mv, .int mo_size, .ref q_me, .int mo_price, .int mo_queries, .ref q_mk, .ref q_ma, .ref q_mb, .ref q_mw, .int mo_start, .int mo_many, .int mo_bits, .ref q_mx]))] := hD
    obtain rfl := Option.some.inj hf
    exact hret _ _ _ _ dX6_set_25 (hP.sub [2, 0, 1] rfl) (hD.sub [2, 0, 1] (by decide) rfl) hS
set_option maxHeartbeats 4000000 in
set_option maxRecDepth 100000 in
theorem c_X6_cut (l : Launch) (D : va_G) (cI : ClassId) (q_mo q_mv q_me q_mk q_ma q_mb q_mw q_mx : Nat) (n : Nat) (x1 : Int32) (mo_thrown : Int32) (mo_rows : Int32) (mo_size : Int32) (mo_price : Int32) (mo_queries : Int32) (mo_start : Int32) (mo_many : Int32) (mo_bits : Int32) (me : (Nat → Int32)) (res : Int32 × Int32 × Int32 × (Nat → Int32)) (hf : f_X6_cut n x1 mo_thrown mo_rows mo_size me = some res) : fr_Ci l yX6_cut wsX6_cut ({ frames := 1, cells := 0, slots := 0, locals := 23 }) D [(cI, .int)] [.ref q_mo, .int x1] [(q_mo, .inr (6, [.int mo_thrown, .int mo_rows, .ref q_mv, .int mo_size, .ref q_me, .int mo_price, .int mo_queries, .ref q_mk, .ref q_ma, .ref q_mb, .ref q_mw, .int mo_start, .int mo_many, .int mo_bits, .ref q_mx])), (q_me, .inl (cI, 96, .inl me))] res.1 [(q_mo, .inr (6, [.int res.2.1, .int res.2.2.1, .ref q_mv, .int mo_size, .ref q_me, .int mo_price, .int mo_queries, .ref q_mk, .ref q_ma, .ref q_mb, .ref q_mw, .int mo_start, .int mo_many, .int mo_bits, .ref q_mx])), (q_me, .inl (cI, 96, .inl res.2.2.2))] := by
  refine fr_open_i (cc := cX6_cut) (maxL := 2) (ret := some .int) (by decide +kernel) rfl (Nat.le_of_ble_eq_true rfl) ⟨.int, rfl, vp_nar_int _⟩ ?_
  intro p e s m below meth c A Q ls hx hb hml hown hts hA hK hP hD hS hl hret
  have hown : s.vm.findClass RX6 = some m.cls := hown
  have hl : lv_has ls 2 [(0, .ref q_mo), (1, .int x1)] := hl
  have hin6 : ∀ w ∈ u_ws RX6 TX6 15, w ∈ wsX6_cut := fun _ h9 => List.mem_cons_of_mem _ (List.mem_append_right _ h9)
  unfold f_X6_cut at hf
  refine lv_aload_n hx hb dX6_cut_0 rfl (lv_at hl 0 rfl) ?_
  refine lv_iconst (v := 0) hx hb dX6_cut_1 (by decide) ?_
  refine va_put (D := D) (ci := 6) (v := .int 0) (ty := .int) (C := RX6) (T := TX6) (N := 15) hx hb hts hin6 tyX6 tyX6_ok nmX6 hown hK hP hD hS 0 rfl rfl 0 (by decide) (hts (.fieldLink RX6 38 "ColumnChooserModel" "thrown" "I") (List.mem_of_getElem? (i := 1) rfl)) (fun _ h9 => h9) rfl (by decide +kernel) rfl rfl (Nat.le_of_ble_eq_true rfl) dX6_cut_2 (fun H locs hP hD hS => ?_)
  have hP : va_P D vwCl [(q_mo, .inr (6, [.int 0, .int mo_rows, .ref q_mv, .int mo_size, .ref q_me, .int mo_price, .int mo_queries, .ref q_mk, .ref q_ma, .ref q_mb, .ref q_mw, .int mo_start, .int mo_many, .int mo_bits, .ref q_mx])), (q_me, .inl (cI, 96, .inl me))] H := hP
  have hD : va_D A [(q_mo, .inr (6, [.int 0, .int mo_rows, .ref q_mv, .int mo_size, .ref q_me, .int mo_price, .int mo_queries, .ref q_mk, .ref q_ma, .ref q_mb, .ref q_mw, .int mo_start, .int mo_many, .int mo_bits, .ref q_mx])), (q_me, .inl (cI, 96, .inl me))] := hD
  refine lv_iload_n hx hb dX6_cut_5 rfl (lv_at hl 1 rfl) ?_
  refine lv_i2l hx hb dX6_cut_6 rfl ?_
  refine lv_iconst (v := 0) hx hb dX6_cut_7 (by decide) ?_
  refine lv_aload_n hx hb dX6_cut_8 rfl (lv_at hl 0 rfl) ?_
  refine va_get (D := D) (ci := 6) (v := .int mo_rows) (C := RX6) (T := TX6) (N := 15) hx hb hts hin6 hown hK hP 0 rfl rfl 1 (by decide) (hts (.fieldLink RX6 47 "ColumnChooserModel" "rows" "I") (List.mem_of_getElem? (i := 2) rfl)) (fun _ h9 => h9) rfl dX6_cut_9 ?_
  obtain ⟨u6, hu6, hf⟩ := pr_bd hf
  refine fr_iS (As := [.long x1.toInt64, .int 0, .int mo_rows]) ⟨hx, hb, hml, hown, hts⟩ hK hP hD hS hA (c_X6_isIn l D cI n x1.toInt64 0 mo_rows u6 hu6) (va_cwS 3 hts gX6_cut_X6_isIn rfl rfl rfl (by decide +kernel) ⟨Nat.le_of_ble_eq_true rfl, Nat.le_of_ble_eq_true rfl⟩) [(q_mo, .inr (6, [.int 0, .int mo_rows, .ref q_mv, .int mo_size, .ref q_me, .int mo_price, .int mo_queries, .ref q_mk, .ref q_ma, .ref q_mb, .ref q_mw, .int mo_start, .int mo_many, .int mo_bits, .ref q_mx])), (q_me, .inl (cI, 96, .inl me))] [] [0, 1] rfl rfl (by decide) (by decide) (by decide) rfl hl.1 (Nat.le_of_ble_eq_true rfl) dX6_cut_12 ⟨Nat.zero_le _, Nat.zero_le _⟩ rfl (fun H locs hP hD hS => ?_)
  have hP : va_P D vwCl [(q_mo, .inr (6, [.int 0, .int mo_rows, .ref q_mv, .int mo_size, .ref q_me, .int mo_price, .int mo_queries, .ref q_mk, .ref q_ma, .ref q_mb, .ref q_mw, .int mo_start, .int mo_many, .int mo_bits, .ref q_mx])), (q_me, .inl (cI, 96, .inl me))] H := hP
  have hD : va_D A [(q_mo, .inr (6, [.int 0, .int mo_rows, .ref q_mv, .int mo_size, .ref q_me, .int mo_price, .int mo_queries, .ref q_mk, .ref q_ma, .ref q_mb, .ref q_mw, .int mo_start, .int mo_many, .int mo_bits, .ref q_mx])), (q_me, .inl (cI, 96, .inl me))] := hD
  refine lv_if_ne (tgt := 24) hx hb dX6_cut_15 (by decide) (fun c7 => ?_) (fun c7 => ?_)
  · have hf := pr_neg hf c7
    refine lv_iload_n hx hb dX6_cut_24 rfl (lv_at hl 1 rfl) ?_
    refine lv_if_le (tgt := 44) hx hb dX6_cut_25 (by decide) (fun c8 => ?_) (fun c8 => ?_)
    · have hf := pr_pos hf c8
      refine lv_aload_n hx hb dX6_cut_44 rfl (lv_at hl 0 rfl) ?_
      refine va_get (D := D) (ci := 6) (v := .int mo_rows) (C := RX6) (T := TX6) (N := 15) hx hb hts hin6 hown hK hP 0 rfl rfl 1 (by decide) (hts (.fieldLink RX6 47 "ColumnChooserModel" "rows" "I") (List.mem_of_getElem? (i := 2) rfl)) (fun _ h9 => h9) rfl dX6_cut_45 ?_
      obtain rfl := Option.some.inj hf
      exact hret _ _ _ _ dX6_cut_48 (hP.sub [0, 1] rfl) (hD.sub [0, 1] (by decide) rfl) hS
    · have hf := pr_neg hf c8
      refine lv_aload_n hx hb dX6_cut_28 rfl (lv_at hl 0 rfl) ?_
      refine lv_aload_n hx hb dX6_cut_29 rfl (lv_at hl 0 rfl) ?_
      refine va_get (D := D) (ci := 6) (v := .int mo_rows) (C := RX6) (T := TX6) (N := 15) hx hb hts hin6 hown hK hP 0 rfl rfl 1 (by decide) (hts (.fieldLink RX6 47 "ColumnChooserModel" "rows" "I") (List.mem_of_getElem? (i := 2) rfl)) (fun _ h9 => h9) rfl dX6_cut_30 ?_
      refine lv_iload_n hx hb dX6_cut_33 rfl (lv_at hl 1 rfl) ?_
      refine lv_isub hx hb dX6_cut_34 ?_
      refine lv_aload_n hx hb dX6_cut_35 rfl (lv_at hl 0 rfl) ?_
      refine va_get (D := D) (ci := 6) (v := .int mo_rows) (C := RX6) (T := TX6) (N := 15) hx hb hts hin6 hown hK hP 0 rfl rfl 1 (by decide) (hts (.fieldLink RX6 47 "ColumnChooserModel" "rows" "I") (List.mem_of_getElem? (i := 2) rfl)) (fun _ h9 => h9) rfl dX6_cut_36 ?_
      refine lv_iload_n hx hb dX6_cut_39 rfl (lv_at hl 1 rfl) ?_
      refine lv_isub hx hb dX6_cut_40 ?_
      obtain ⟨u9, hu9, hf⟩ := pr_bd hf
      refine fr_vV (As := [.int (mo_rows - x1), .int (mo_rows - x1)]) ⟨hx, hb, hml, hown, hts⟩ hK hP hD hS hA (c_X6_changed l D cI q_mo q_mv q_me q_mk q_ma q_mb q_mw q_mx n (mo_rows - x1) (mo_rows - x1) 0 mo_rows mo_size mo_price mo_queries mo_start mo_many mo_bits me u9 hu9) (cwV 2 hts gX6_cut_X6_changed rfl rfl rfl (by decide +kernel) ⟨Nat.le_of_ble_eq_true rfl, Nat.le_of_ble_eq_true rfl⟩) [] [0, 1] [] rfl rfl (by decide) (by decide) (by decide) 0 rfl rfl rfl rfl hl.1 (Nat.le_of_ble_eq_true rfl) dX6_cut_41 ⟨Nat.zero_le _, Nat.zero_le _⟩ rfl (fun H locs hP hD hS => ?_)
      have hP : va_P D vwCl [(q_mo, .inr (6, [.int 0, .int u9.1, .ref q_mv, .int mo_size, .ref q_me, .int mo_price, .int mo_queries, .ref q_mk, .ref q_ma, .ref q_mb, .ref q_mw, .int mo_start, .int mo_many, .int mo_bits, .ref q_mx])), (q_me, .inl (cI, 96, .inl u9.2))] H := hP
      have hD : va_D A [(q_mo, .inr (6, [.int 0, .int u9.1, .ref q_mv, .int mo_size, .ref q_me, .int mo_price, .int mo_queries, .ref q_mk, .ref q_ma, .ref q_mb, .ref q_mw, .int mo_start, .int mo_many, .int mo_bits, .ref q_mx])), (q_me, .inl (cI, 96, .inl u9.2))] := hD
      refine lv_aload_n hx hb dX6_cut_44 rfl (lv_at hl 0 rfl) ?_
      refine va_get (D := D) (ci := 6) (v := .int u9.1) (C := RX6) (T := TX6) (N := 15) hx hb hts hin6 hown hK hP 0 rfl rfl 1 (by decide) (hts (.fieldLink RX6 47 "ColumnChooserModel" "rows" "I") (List.mem_of_getElem? (i := 2) rfl)) (fun _ h9 => h9) rfl dX6_cut_45 ?_
      obtain rfl := Option.some.inj hf
      exact hret _ _ _ _ dX6_cut_48 (hP.sub [0, 1] rfl) (hD.sub [0, 1] (by decide) rfl) hS
  · have hf := pr_pos hf c7
    refine lv_aload_n hx hb dX6_cut_18 rfl (lv_at hl 0 rfl) ?_
    refine lv_iconst (v := 1) hx hb dX6_cut_19 (by decide) ?_
    obtain ⟨u10, hu10, hf⟩ := pr_bd hf
    refine fr_iV (As := [.int 1]) ⟨hx, hb, hml, hown, hts⟩ hK hP hD hS hA (c_X6_fail l D cI q_mo q_mv q_me q_mk q_ma q_mb q_mw q_mx n 1 0 mo_rows mo_size mo_price mo_queries mo_start mo_many mo_bits u10 hu10) (cwV 1 hts gX6_cut_X6_fail rfl rfl rfl (by decide +kernel) ⟨Nat.le_of_ble_eq_true rfl, Nat.le_of_ble_eq_true rfl⟩) [(q_me, .inl (cI, 96, .inl me))] [0] [1] rfl rfl (by decide) (by decide) (by decide) 0 rfl rfl rfl rfl hl.1 (Nat.le_of_ble_eq_true rfl) dX6_cut_20 ⟨Nat.zero_le _, Nat.zero_le _⟩ rfl (fun H locs hP hD hS => ?_)
    have hP : va_P D vwCl [(q_me, .inl (cI, 96, .inl me)), (q_mo, .inr (6, [.int u10.2, .int mo_rows, .ref q_mv, .int mo_size, .ref q_me, .int mo_price, .int mo_queries, .ref q_mk, .ref q_ma, .ref q_mb, .ref q_mw, .int mo_start, .int mo_many, .int mo_bits, .ref q_mx]))] H := hP
    have hD : va_D A [(q_me, .inl (cI, 96, .inl me)), (q_mo, .inr (6, [.int u10.2, .int mo_rows, .ref q_mv, .int mo_size, .ref q_me, .int mo_price, .int mo_queries, .ref q_mk, .ref q_ma, .ref q_mb, .ref q_mw, .int mo_start, .int mo_many, .int mo_bits, .ref q_mx]))] := hD
    obtain rfl := Option.some.inj hf
    exact hret _ _ _ _ dX6_cut_23 (hP.sub [1, 0] rfl) (hD.sub [1, 0] (by decide) rfl) hS
set_option maxHeartbeats 4000000 in
set_option maxRecDepth 100000 in
theorem c_X6_rows (l : Launch) (D : va_G) (cI : ClassId) (q_mo q_mv q_me q_mk q_ma q_mb q_mw q_mx : Nat) (n : Nat) (mo_thrown : Int32) (mo_rows : Int32) (mo_size : Int32) (mo_price : Int32) (mo_queries : Int32) (mo_start : Int32) (mo_many : Int32) (mo_bits : Int32) (res : Int32 × Int32) (hf : f_X6_rows n mo_thrown mo_rows = some res) : fr_Ci l yX6_rows wsX6_rows ({ frames := 0, cells := 0, slots := 0, locals := 0 }) D [(cI, .int)] [.ref q_mo] [(q_mo, .inr (6, [.int mo_thrown, .int mo_rows, .ref q_mv, .int mo_size, .ref q_me, .int mo_price, .int mo_queries, .ref q_mk, .ref q_ma, .ref q_mb, .ref q_mw, .int mo_start, .int mo_many, .int mo_bits, .ref q_mx]))] res.1 [(q_mo, .inr (6, [.int res.2, .int mo_rows, .ref q_mv, .int mo_size, .ref q_me, .int mo_price, .int mo_queries, .ref q_mk, .ref q_ma, .ref q_mb, .ref q_mw, .int mo_start, .int mo_many, .int mo_bits, .ref q_mx]))] := by
  refine fr_open_i (cc := cX6_rows) (maxL := 1) (ret := some .int) (by decide +kernel) rfl (Nat.le_of_ble_eq_true rfl) ⟨.int, rfl, vp_nar_int _⟩ ?_
  intro p e s m below meth c A Q ls hx hb hml hown hts hA hK hP hD hS hl hret
  have hown : s.vm.findClass RX6 = some m.cls := hown
  have hl : lv_has ls 1 [(0, .ref q_mo)] := hl
  have hin6 : ∀ w ∈ u_ws RX6 TX6 15, w ∈ wsX6_rows := fun _ h9 => List.mem_cons_of_mem _ (List.mem_append_right _ h9)
  unfold f_X6_rows at hf
  refine lv_aload_n hx hb dX6_rows_0 rfl (lv_at hl 0 rfl) ?_
  refine lv_iconst (v := 0) hx hb dX6_rows_1 (by decide) ?_
  refine va_put (D := D) (ci := 6) (v := .int 0) (ty := .int) (C := RX6) (T := TX6) (N := 15) hx hb hts hin6 tyX6 tyX6_ok nmX6 hown hK hP hD hS 0 rfl rfl 0 (by decide) (hts (.fieldLink RX6 38 "ColumnChooserModel" "thrown" "I") (List.mem_of_getElem? (i := 1) rfl)) (fun _ h9 => h9) rfl (by decide +kernel) rfl rfl (Nat.le_of_ble_eq_true rfl) dX6_rows_2 (fun H locs hP hD hS => ?_)
  have hP : va_P D vwCl [(q_mo, .inr (6, [.int 0, .int mo_rows, .ref q_mv, .int mo_size, .ref q_me, .int mo_price, .int mo_queries, .ref q_mk, .ref q_ma, .ref q_mb, .ref q_mw, .int mo_start, .int mo_many, .int mo_bits, .ref q_mx]))] H := hP
  have hD : va_D A [(q_mo, .inr (6, [.int 0, .int mo_rows, .ref q_mv, .int mo_size, .ref q_me, .int mo_price, .int mo_queries, .ref q_mk, .ref q_ma, .ref q_mb, .ref q_mw, .int mo_start, .int mo_many, .int mo_bits, .ref q_mx]))] := hD
  refine lv_aload_n hx hb dX6_rows_5 rfl (lv_at hl 0 rfl) ?_
  refine va_get (D := D) (ci := 6) (v := .int mo_rows) (C := RX6) (T := TX6) (N := 15) hx hb hts hin6 hown hK hP 0 rfl rfl 1 (by decide) (hts (.fieldLink RX6 47 "ColumnChooserModel" "rows" "I") (List.mem_of_getElem? (i := 2) rfl)) (fun _ h9 => h9) rfl dX6_rows_6 ?_
  obtain rfl := Option.some.inj hf
  exact hret _ _ _ _ dX6_rows_9 (hP.sub [0] rfl) (hD.sub [0] (by decide) rfl) hS
set_option maxHeartbeats 4000000 in
set_option maxRecDepth 100000 in
theorem c_X6_value (l : Launch) (D : va_G) (cI : ClassId) (q_mo q_mv q_me q_mk q_ma q_mb q_mw q_mx : Nat) (n : Nat) (x1 : Int32) (mo_thrown : Int32) (mo_rows : Int32) (mo_size : Int32) (mo_price : Int32) (mo_queries : Int32) (mo_start : Int32) (mo_many : Int32) (mo_bits : Int32) (mv : (Nat → Int32)) (res : Int32 × Int32) (hf : f_X6_value n x1 mo_thrown mo_rows mv = some res) : fr_Ci l yX6_value wsX6_value ({ frames := 1, cells := 0, slots := 0, locals := 23 }) D [(cI, .int)] [.ref q_mo, .int x1] [(q_mo, .inr (6, [.int mo_thrown, .int mo_rows, .ref q_mv, .int mo_size, .ref q_me, .int mo_price, .int mo_queries, .ref q_mk, .ref q_ma, .ref q_mb, .ref q_mw, .int mo_start, .int mo_many, .int mo_bits, .ref q_mx])), (q_mv, .inl (cI, 96, .inl mv))] res.1 [(q_mo, .inr (6, [.int res.2, .int mo_rows, .ref q_mv, .int mo_size, .ref q_me, .int mo_price, .int mo_queries, .ref q_mk, .ref q_ma, .ref q_mb, .ref q_mw, .int mo_start, .int mo_many, .int mo_bits, .ref q_mx])), (q_mv, .inl (cI, 96, .inl mv))] := by
  refine fr_open_i (cc := cX6_value) (maxL := 2) (ret := some .int) (by decide +kernel) rfl (Nat.le_of_ble_eq_true rfl) ⟨.int, rfl, vp_nar_int _⟩ ?_
  intro p e s m below meth c A Q ls hx hb hml hown hts hA hK hP hD hS hl hret
  have hown : s.vm.findClass RX6 = some m.cls := hown
  have hl : lv_has ls 2 [(0, .ref q_mo), (1, .int x1)] := hl
  have hin6 : ∀ w ∈ u_ws RX6 TX6 15, w ∈ wsX6_value := fun _ h9 => List.mem_cons_of_mem _ (List.mem_append_right _ h9)
  unfold f_X6_value at hf
  refine lv_aload_n hx hb dX6_value_0 rfl (lv_at hl 0 rfl) ?_
  refine lv_iconst (v := 0) hx hb dX6_value_1 (by decide) ?_
  refine va_put (D := D) (ci := 6) (v := .int 0) (ty := .int) (C := RX6) (T := TX6) (N := 15) hx hb hts hin6 tyX6 tyX6_ok nmX6 hown hK hP hD hS 0 rfl rfl 0 (by decide) (hts (.fieldLink RX6 38 "ColumnChooserModel" "thrown" "I") (List.mem_of_getElem? (i := 1) rfl)) (fun _ h9 => h9) rfl (by decide +kernel) rfl rfl (Nat.le_of_ble_eq_true rfl) dX6_value_2 (fun H locs hP hD hS => ?_)
  have hP : va_P D vwCl [(q_mo, .inr (6, [.int 0, .int mo_rows, .ref q_mv, .int mo_size, .ref q_me, .int mo_price, .int mo_queries, .ref q_mk, .ref q_ma, .ref q_mb, .ref q_mw, .int mo_start, .int mo_many, .int mo_bits, .ref q_mx])), (q_mv, .inl (cI, 96, .inl mv))] H := hP
  have hD : va_D A [(q_mo, .inr (6, [.int 0, .int mo_rows, .ref q_mv, .int mo_size, .ref q_me, .int mo_price, .int mo_queries, .ref q_mk, .ref q_ma, .ref q_mb, .ref q_mw, .int mo_start, .int mo_many, .int mo_bits, .ref q_mx])), (q_mv, .inl (cI, 96, .inl mv))] := hD
  refine lv_iload_n hx hb dX6_value_5 rfl (lv_at hl 1 rfl) ?_
  refine lv_i2l hx hb dX6_value_6 rfl ?_
  refine lv_iconst (v := 0) hx hb dX6_value_7 (by decide) ?_
  refine lv_aload_n hx hb dX6_value_8 rfl (lv_at hl 0 rfl) ?_
  refine va_get (D := D) (ci := 6) (v := .int mo_rows) (C := RX6) (T := TX6) (N := 15) hx hb hts hin6 hown hK hP 0 rfl rfl 1 (by decide) (hts (.fieldLink RX6 47 "ColumnChooserModel" "rows" "I") (List.mem_of_getElem? (i := 2) rfl)) (fun _ h9 => h9) rfl dX6_value_9 ?_
  refine lv_iconst (v := 1) hx hb dX6_value_12 (by decide) ?_
  refine lv_isub hx hb dX6_value_13 ?_
  obtain ⟨u5, hu5, hf⟩ := pr_bd hf
  refine fr_iS (As := [.long x1.toInt64, .int 0, .int (mo_rows - 1)]) ⟨hx, hb, hml, hown, hts⟩ hK hP hD hS hA (c_X6_isIn l D cI n x1.toInt64 0 (mo_rows - 1) u5 hu5) (va_cwS 3 hts gX6_value_X6_isIn rfl rfl rfl (by decide +kernel) ⟨Nat.le_of_ble_eq_true rfl, Nat.le_of_ble_eq_true rfl⟩) [(q_mo, .inr (6, [.int 0, .int mo_rows, .ref q_mv, .int mo_size, .ref q_me, .int mo_price, .int mo_queries, .ref q_mk, .ref q_ma, .ref q_mb, .ref q_mw, .int mo_start, .int mo_many, .int mo_bits, .ref q_mx])), (q_mv, .inl (cI, 96, .inl mv))] [] [0, 1] rfl rfl (by decide) (by decide) (by decide) rfl hl.1 (Nat.le_of_ble_eq_true rfl) dX6_value_14 ⟨Nat.zero_le _, Nat.zero_le _⟩ rfl (fun H locs hP hD hS => ?_)
  have hP : va_P D vwCl [(q_mo, .inr (6, [.int 0, .int mo_rows, .ref q_mv, .int mo_size, .ref q_me, .int mo_price, .int mo_queries, .ref q_mk, .ref q_ma, .ref q_mb, .ref q_mw, .int mo_start, .int mo_many, .int mo_bits, .ref q_mx])), (q_mv, .inl (cI, 96, .inl mv))] H := hP
  have hD : va_D A [(q_mo, .inr (6, [.int 0, .int mo_rows, .ref q_mv, .int mo_size, .ref q_me, .int mo_price, .int mo_queries, .ref q_mk, .ref q_ma, .ref q_mb, .ref q_mw, .int mo_start, .int mo_many, .int mo_bits, .ref q_mx])), (q_mv, .inl (cI, 96, .inl mv))] := hD
  refine lv_if_eq (tgt := 29) hx hb dX6_value_17 (by decide) (fun c6 => ?_) (fun c6 => ?_)
  · have hf := pr_pos hf c6
    refine lv_aload_n hx hb dX6_value_29 rfl (lv_at hl 0 rfl) ?_
    refine lv_iconst (v := 1) hx hb dX6_value_30 (by decide) ?_
    obtain ⟨u7, hu7, hf⟩ := pr_bd hf
    refine fr_iV (As := [.int 1]) ⟨hx, hb, hml, hown, hts⟩ hK hP hD hS hA (c_X6_fail l D cI q_mo q_mv q_me q_mk q_ma q_mb q_mw q_mx n 1 0 mo_rows mo_size mo_price mo_queries mo_start mo_many mo_bits u7 hu7) (cwV 1 hts gX6_value_X6_fail rfl rfl rfl (by decide +kernel) ⟨Nat.le_of_ble_eq_true rfl, Nat.le_of_ble_eq_true rfl⟩) [(q_mv, .inl (cI, 96, .inl mv))] [0] [1] rfl rfl (by decide) (by decide) (by decide) 0 rfl rfl rfl rfl hl.1 (Nat.le_of_ble_eq_true rfl) dX6_value_31 ⟨Nat.zero_le _, Nat.zero_le _⟩ rfl (fun H locs hP hD hS => ?_)
    have hP : va_P D vwCl [(q_mv, .inl (cI, 96, .inl mv)), (q_mo, .inr (6, [.int u7.2, .int mo_rows, .ref q_mv, .int mo_size, .ref q_me, .int mo_price, .int mo_queries, .ref q_mk, .ref q_ma, .ref q_mb, .ref q_mw, .int mo_start, .int mo_many, .int mo_bits, .ref q_mx]))] H := hP
    have hD : va_D A [(q_mv, .inl (cI, 96, .inl mv)), (q_mo, .inr (6, [.int u7.2, .int mo_rows, .ref q_mv, .int mo_size, .ref q_me, .int mo_price, .int mo_queries, .ref q_mk, .ref q_ma, .ref q_mb, .ref q_mw, .int mo_start, .int mo_many, .int mo_bits, .ref q_mx]))] := hD
    obtain rfl := Option.some.inj hf
    exact hret _ _ _ _ dX6_value_34 (hP.sub [1, 0] rfl) (hD.sub [1, 0] (by decide) rfl) hS
  · have hf := pr_neg hf c6
    refine lv_aload_n hx hb dX6_value_20 rfl (lv_at hl 0 rfl) ?_
    refine va_get (D := D) (ci := 6) (v := .ref q_mv) (C := RX6) (T := TX6) (N := 15) hx hb hts hin6 hown hK hP 0 rfl rfl 2 (by decide) (hts (.fieldLink RX6 9 "ColumnChooserModel" "values" "[I") (List.mem_of_getElem? (i := 3) rfl)) (fun _ h9 => h9) rfl dX6_value_21 ?_
    refine lv_iload_n hx hb dX6_value_24 rfl (lv_at hl 1 rfl) ?_
    obtain ⟨v8, hv8, hf⟩ := pr_bd hf
    refine fr_rd hx hb hK hP 1 0 rfl rfl hv8 dX6_value_25 ?_
    refine lv_goto (tgt := 34) hx hb dX6_value_26 (by decide) ?_
    obtain rfl := Option.some.inj hf
    exact hret _ _ _ _ dX6_value_34 (hP.sub [0, 1] rfl) (hD.sub [0, 1] (by decide) rfl) hS
set_option maxHeartbeats 4000000 in
set_option maxRecDepth 100000 in
theorem c_X6_setSegmentSize (l : Launch) (D : va_G) (cI : ClassId) (q_mo q_mv q_me q_mk q_ma q_mb q_mw q_mx : Nat) (n : Nat) (x1 : Int32) (mo_thrown : Int32) (mo_rows : Int32) (mo_size : Int32) (mo_price : Int32) (mo_queries : Int32) (mo_start : Int32) (mo_many : Int32) (mo_bits : Int32) (me : (Nat → Int32)) (res : Int32 × Int32 × Int32 × Int32 × (Nat → Int32)) (hf : f_X6_setSegmentSize n x1 mo_thrown mo_rows mo_size me = some res) : fr_Ci l yX6_setSegmentSize wsX6_setSegmentSize ({ frames := 1, cells := 0, slots := 0, locals := 23 }) D [(cI, .int)] [.ref q_mo, .int x1] [(q_mo, .inr (6, [.int mo_thrown, .int mo_rows, .ref q_mv, .int mo_size, .ref q_me, .int mo_price, .int mo_queries, .ref q_mk, .ref q_ma, .ref q_mb, .ref q_mw, .int mo_start, .int mo_many, .int mo_bits, .ref q_mx])), (q_me, .inl (cI, 96, .inl me))] res.1 [(q_mo, .inr (6, [.int res.2.1, .int res.2.2.1, .ref q_mv, .int res.2.2.2.1, .ref q_me, .int mo_price, .int mo_queries, .ref q_mk, .ref q_ma, .ref q_mb, .ref q_mw, .int mo_start, .int mo_many, .int mo_bits, .ref q_mx])), (q_me, .inl (cI, 96, .inl res.2.2.2.2))] := by
  refine fr_open_i (cc := cX6_setSegmentSize) (maxL := 3) (ret := some .int) (by decide +kernel) rfl (Nat.le_of_ble_eq_true rfl) ⟨.int, rfl, vp_nar_int _⟩ ?_
  intro p e s m below meth c A Q ls hx hb hml hown hts hA hK hP hD hS hl hret
  have hown : s.vm.findClass RX6 = some m.cls := hown
  have hl : lv_has ls 3 [(0, .ref q_mo), (1, .int x1)] := hl
  have hin6 : ∀ w ∈ u_ws RX6 TX6 15, w ∈ wsX6_setSegmentSize := fun _ h9 => List.mem_cons_of_mem _ (List.mem_append_right _ h9)
  unfold f_X6_setSegmentSize at hf
  refine lv_aload_n hx hb dX6_setSegmentSize_0 rfl (lv_at hl 0 rfl) ?_
  refine lv_iconst (v := 0) hx hb dX6_setSegmentSize_1 (by decide) ?_
  refine va_put (D := D) (ci := 6) (v := .int 0) (ty := .int) (C := RX6) (T := TX6) (N := 15) hx hb hts hin6 tyX6 tyX6_ok nmX6 hown hK hP hD hS 0 rfl rfl 0 (by decide) (hts (.fieldLink RX6 38 "ColumnChooserModel" "thrown" "I") (List.mem_of_getElem? (i := 1) rfl)) (fun _ h9 => h9) rfl (by decide +kernel) rfl rfl (Nat.le_of_ble_eq_true rfl) dX6_setSegmentSize_2 (fun H locs hP hD hS => ?_)
  have hP : va_P D vwCl [(q_mo, .inr (6, [.int 0, .int mo_rows, .ref q_mv, .int mo_size, .ref q_me, .int mo_price, .int mo_queries, .ref q_mk, .ref q_ma, .ref q_mb, .ref q_mw, .int mo_start, .int mo_many, .int mo_bits, .ref q_mx])), (q_me, .inl (cI, 96, .inl me))] H := hP
  have hD : va_D A [(q_mo, .inr (6, [.int 0, .int mo_rows, .ref q_mv, .int mo_size, .ref q_me, .int mo_price, .int mo_queries, .ref q_mk, .ref q_ma, .ref q_mb, .ref q_mw, .int mo_start, .int mo_many, .int mo_bits, .ref q_mx])), (q_me, .inl (cI, 96, .inl me))] := hD
  refine lv_iload_n hx hb dX6_setSegmentSize_5 rfl (lv_at hl 1 rfl) ?_
  refine lv_i2l hx hb dX6_setSegmentSize_6 rfl ?_
  refine lv_iconst (v := 4) hx hb dX6_setSegmentSize_7 (by decide) ?_
  refine lv_bipush (v := 32) hx hb dX6_setSegmentSize_8 (by decide) ?_
  obtain ⟨u6, hu6, hf⟩ := pr_bd hf
  refine fr_iS (As := [.long x1.toInt64, .int 4, .int 32]) ⟨hx, hb, hml, hown, hts⟩ hK hP hD hS hA (c_X6_isIn l D cI n x1.toInt64 4 32 u6 hu6) (va_cwS 3 hts gX6_setSegmentSize_X6_isIn rfl rfl rfl (by decide +kernel) ⟨Nat.le_of_ble_eq_true rfl, Nat.le_of_ble_eq_true rfl⟩) [(q_mo, .inr (6, [.int 0, .int mo_rows, .ref q_mv, .int mo_size, .ref q_me, .int mo_price, .int mo_queries, .ref q_mk, .ref q_ma, .ref q_mb, .ref q_mw, .int mo_start, .int mo_many, .int mo_bits, .ref q_mx])), (q_me, .inl (cI, 96, .inl me))] [] [0, 1] rfl rfl (by decide) (by decide) (by decide) rfl hl.1 (Nat.le_of_ble_eq_true rfl) dX6_setSegmentSize_10 ⟨Nat.zero_le _, Nat.zero_le _⟩ rfl (fun H locs hP hD hS => ?_)
  have hP : va_P D vwCl [(q_mo, .inr (6, [.int 0, .int mo_rows, .ref q_mv, .int mo_size, .ref q_me, .int mo_price, .int mo_queries, .ref q_mk, .ref q_ma, .ref q_mb, .ref q_mw, .int mo_start, .int mo_many, .int mo_bits, .ref q_mx])), (q_me, .inl (cI, 96, .inl me))] H := hP
  have hD : va_D A [(q_mo, .inr (6, [.int 0, .int mo_rows, .ref q_mv, .int mo_size, .ref q_me, .int mo_price, .int mo_queries, .ref q_mk, .ref q_ma, .ref q_mb, .ref q_mw, .int mo_start, .int mo_many, .int mo_bits, .ref q_mx])), (q_me, .inl (cI, 96, .inl me))] := hD
  refine lv_if_ne (tgt := 22) hx hb dX6_setSegmentSize_13 (by decide) (fun c7 => ?_) (fun c7 => ?_)
  · have hf := pr_neg hf c7
    refine lv_aload_n hx hb dX6_setSegmentSize_22 rfl (lv_at hl 0 rfl) ?_
    refine va_get (D := D) (ci := 6) (v := .int mo_size) (C := RX6) (T := TX6) (N := 15) hx hb hts hin6 hown hK hP 0 rfl rfl 3 (by decide) (hts (.fieldLink RX6 13 "ColumnChooserModel" "size" "I") (List.mem_of_getElem? (i := 2) rfl)) (fun _ h9 => h9) rfl dX6_setSegmentSize_23 ?_
    refine lv_istore_n (lv' := [(2, .int mo_size), (0, .ref q_mo), (1, .int x1)]) hx hb dX6_setSegmentSize_26 rfl hl (by decide) rfl (fun ls hl => ?_)
    refine lv_aload_n hx hb dX6_setSegmentSize_27 rfl (lv_at hl 1 rfl) ?_
    refine lv_iload_n hx hb dX6_setSegmentSize_28 rfl (lv_at hl 2 rfl) ?_
    refine va_put (D := D) (ci := 6) (v := .int x1) (ty := .int) (C := RX6) (T := TX6) (N := 15) hx hb hts hin6 tyX6 tyX6_ok nmX6 hown hK hP hD hS 0 rfl rfl 3 (by decide) (hts (.fieldLink RX6 13 "ColumnChooserModel" "size" "I") (List.mem_of_getElem? (i := 2) rfl)) (fun _ h9 => h9) rfl (by decide +kernel) rfl rfl (Nat.le_of_ble_eq_true rfl) dX6_setSegmentSize_29 (fun H locs hP hD hS => ?_)
    have hP : va_P D vwCl [(q_mo, .inr (6, [.int 0, .int mo_rows, .ref q_mv, .int x1, .ref q_me, .int mo_price, .int mo_queries, .ref q_mk, .ref q_ma, .ref q_mb, .ref q_mw, .int mo_start, .int mo_many, .int mo_bits, .ref q_mx])), (q_me, .inl (cI, 96, .inl me))] H := hP
    have hD : va_D A [(q_mo, .inr (6, [.int 0, .int mo_rows, .ref q_mv, .int x1, .ref q_me, .int mo_price, .int mo_queries, .ref q_mk, .ref q_ma, .ref q_mb, .ref q_mw, .int mo_start, .int mo_many, .int mo_bits, .ref q_mx])), (q_me, .inl (cI, 96, .inl me))] := hD
    refine lv_iload_n hx hb dX6_setSegmentSize_32 rfl (lv_at hl 0 rfl) ?_
    refine lv_iload_n hx hb dX6_setSegmentSize_33 rfl (lv_at hl 2 rfl) ?_
    refine lv_icmp_eq (tgt := 46) hx hb dX6_setSegmentSize_34 (by decide) (fun c8 => ?_) (fun c8 => ?_)
    · have hf := pr_pos hf c8
      refine lv_iload_n hx hb dX6_setSegmentSize_46 rfl (lv_at hl 0 rfl) ?_
      obtain rfl := Option.some.inj hf
      exact hret _ _ _ _ dX6_setSegmentSize_47 (hP.sub [0, 1] rfl) (hD.sub [0, 1] (by decide) rfl) hS
    · have hf := pr_neg hf c8
      refine lv_aload_n hx hb dX6_setSegmentSize_37 rfl (lv_at hl 1 rfl) ?_
      refine lv_iconst (v := 0) hx hb dX6_setSegmentSize_38 (by decide) ?_
      refine lv_aload_n hx hb dX6_setSegmentSize_39 rfl (lv_at hl 1 rfl) ?_
      refine va_get (D := D) (ci := 6) (v := .int mo_rows) (C := RX6) (T := TX6) (N := 15) hx hb hts hin6 hown hK hP 0 rfl rfl 1 (by decide) (hts (.fieldLink RX6 47 "ColumnChooserModel" "rows" "I") (List.mem_of_getElem? (i := 3) rfl)) (fun _ h9 => h9) rfl dX6_setSegmentSize_40 ?_
      obtain ⟨u9, hu9, hf⟩ := pr_bd hf
      refine fr_vV (As := [.int 0, .int mo_rows]) ⟨hx, hb, hml, hown, hts⟩ hK hP hD hS hA (c_X6_changed l D cI q_mo q_mv q_me q_mk q_ma q_mb q_mw q_mx n 0 mo_rows 0 mo_rows x1 mo_price mo_queries mo_start mo_many mo_bits me u9 hu9) (cwV 2 hts gX6_setSegmentSize_X6_changed rfl rfl rfl (by decide +kernel) ⟨Nat.le_of_ble_eq_true rfl, Nat.le_of_ble_eq_true rfl⟩) [] [0, 1] [] rfl rfl (by decide) (by decide) (by decide) 0 rfl rfl rfl rfl hl.1 (Nat.le_of_ble_eq_true rfl) dX6_setSegmentSize_43 ⟨Nat.zero_le _, Nat.zero_le _⟩ rfl (fun H locs hP hD hS => ?_)
      have hP : va_P D vwCl [(q_mo, .inr (6, [.int 0, .int u9.1, .ref q_mv, .int x1, .ref q_me, .int mo_price, .int mo_queries, .ref q_mk, .ref q_ma, .ref q_mb, .ref q_mw, .int mo_start, .int mo_many, .int mo_bits, .ref q_mx])), (q_me, .inl (cI, 96, .inl u9.2))] H := hP
      have hD : va_D A [(q_mo, .inr (6, [.int 0, .int u9.1, .ref q_mv, .int x1, .ref q_me, .int mo_price, .int mo_queries, .ref q_mk, .ref q_ma, .ref q_mb, .ref q_mw, .int mo_start, .int mo_many, .int mo_bits, .ref q_mx])), (q_me, .inl (cI, 96, .inl u9.2))] := hD
      refine lv_iload_n hx hb dX6_setSegmentSize_46 rfl (lv_at hl 0 rfl) ?_
      obtain rfl := Option.some.inj hf
      exact hret _ _ _ _ dX6_setSegmentSize_47 (hP.sub [0, 1] rfl) (hD.sub [0, 1] (by decide) rfl) hS
  · have hf := pr_pos hf c7
    refine lv_aload_n hx hb dX6_setSegmentSize_16 rfl (lv_at hl 0 rfl) ?_
    refine lv_iconst (v := 1) hx hb dX6_setSegmentSize_17 (by decide) ?_
    obtain ⟨u10, hu10, hf⟩ := pr_bd hf
    refine fr_iV (As := [.int 1]) ⟨hx, hb, hml, hown, hts⟩ hK hP hD hS hA (c_X6_fail l D cI q_mo q_mv q_me q_mk q_ma q_mb q_mw q_mx n 1 0 mo_rows mo_size mo_price mo_queries mo_start mo_many mo_bits u10 hu10) (cwV 1 hts gX6_setSegmentSize_X6_fail rfl rfl rfl (by decide +kernel) ⟨Nat.le_of_ble_eq_true rfl, Nat.le_of_ble_eq_true rfl⟩) [(q_me, .inl (cI, 96, .inl me))] [0] [1] rfl rfl (by decide) (by decide) (by decide) 0 rfl rfl rfl rfl hl.1 (Nat.le_of_ble_eq_true rfl) dX6_setSegmentSize_18 ⟨Nat.zero_le _, Nat.zero_le _⟩ rfl (fun H locs hP hD hS => ?_)
    have hP : va_P D vwCl [(q_me, .inl (cI, 96, .inl me)), (q_mo, .inr (6, [.int u10.2, .int mo_rows, .ref q_mv, .int mo_size, .ref q_me, .int mo_price, .int mo_queries, .ref q_mk, .ref q_ma, .ref q_mb, .ref q_mw, .int mo_start, .int mo_many, .int mo_bits, .ref q_mx]))] H := hP
    have hD : va_D A [(q_me, .inl (cI, 96, .inl me)), (q_mo, .inr (6, [.int u10.2, .int mo_rows, .ref q_mv, .int mo_size, .ref q_me, .int mo_price, .int mo_queries, .ref q_mk, .ref q_ma, .ref q_mb, .ref q_mw, .int mo_start, .int mo_many, .int mo_bits, .ref q_mx]))] := hD
    obtain rfl := Option.some.inj hf
    exact hret _ _ _ _ dX6_setSegmentSize_21 (hP.sub [1, 0] rfl) (hD.sub [1, 0] (by decide) rfl) hS
set_option maxHeartbeats 4000000 in
set_option maxRecDepth 100000 in
theorem c_X6_segments (l : Launch) (D : va_G) (cI : ClassId) (q_mo q_mv q_me q_mk q_ma q_mb q_mw q_mx : Nat) (n : Nat) (x1 : Int32) (mo_thrown : Int32) (mo_rows : Int32) (mo_size : Int32) (mo_price : Int32) (mo_queries : Int32) (mo_start : Int32) (mo_many : Int32) (mo_bits : Int32) (res : Int32) (hf : f_X6_segments n x1 mo_rows = some res) : fr_Ci l yX6_segments wsX6_segments ({ frames := 0, cells := 0, slots := 0, locals := 0 }) D [(cI, .int)] [.ref q_mo, .int x1] [(q_mo, .inr (6, [.int mo_thrown, .int mo_rows, .ref q_mv, .int mo_size, .ref q_me, .int mo_price, .int mo_queries, .ref q_mk, .ref q_ma, .ref q_mb, .ref q_mw, .int mo_start, .int mo_many, .int mo_bits, .ref q_mx]))] res [(q_mo, .inr (6, [.int mo_thrown, .int mo_rows, .ref q_mv, .int mo_size, .ref q_me, .int mo_price, .int mo_queries, .ref q_mk, .ref q_ma, .ref q_mb, .ref q_mw, .int mo_start, .int mo_many, .int mo_bits, .ref q_mx]))] := by
  refine fr_open_i (cc := cX6_segments) (maxL := 2) (ret := some .int) (by decide +kernel) rfl (Nat.le_of_ble_eq_true rfl) ⟨.int, rfl, vp_nar_int _⟩ ?_
  intro p e s m below meth c A Q ls hx hb hml hown hts hA hK hP hD hS hl hret
  have hown : s.vm.findClass RX6 = some m.cls := hown
  have hl : lv_has ls 2 [(0, .ref q_mo), (1, .int x1)] := hl
  have hin6 : ∀ w ∈ u_ws RX6 TX6 15, w ∈ wsX6_segments := fun _ h9 => List.mem_cons_of_mem _ (List.mem_append_right _ h9)
  unfold f_X6_segments at hf
  refine lv_aload_n hx hb dX6_segments_0 rfl (lv_at hl 0 rfl) ?_
  refine va_get (D := D) (ci := 6) (v := .int mo_rows) (C := RX6) (T := TX6) (N := 15) hx hb hts hin6 hown hK hP 0 rfl rfl 1 (by decide) (hts (.fieldLink RX6 47 "ColumnChooserModel" "rows" "I") (List.mem_of_getElem? (i := 1) rfl)) (fun _ h9 => h9) rfl dX6_segments_1 ?_
  refine lv_iload_n hx hb dX6_segments_4 rfl (lv_at hl 1 rfl) ?_
  refine lv_iadd hx hb dX6_segments_5 ?_
  refine lv_iconst (v := 1) hx hb dX6_segments_6 (by decide) ?_
  refine lv_isub hx hb dX6_segments_7 ?_
  refine lv_iload_n hx hb dX6_segments_8 rfl (lv_at hl 1 rfl) ?_
  obtain ⟨v2, hv2, hf⟩ := pr_bd hf
  refine fr_dv hx hb hv2 dX6_segments_9 ?_
  obtain rfl := Option.some.inj hf
  exact hret _ _ _ _ dX6_segments_10 (hP.sub [0] rfl) (hD.sub [0] (by decide) rfl) hS
set_option maxHeartbeats 4000000 in
set_option maxRecDepth 100000 in
theorem c_X6_segmentCount (l : Launch) (D : va_G) (cI : ClassId) (q_mo q_mv q_me q_mk q_ma q_mb q_mw q_mx : Nat) (n : Nat) (mo_thrown : Int32) (mo_rows : Int32) (mo_size : Int32) (mo_price : Int32) (mo_queries : Int32) (mo_start : Int32) (mo_many : Int32) (mo_bits : Int32) (res : Int32 × Int32) (hf : f_X6_segmentCount n mo_thrown mo_rows mo_size = some res) : fr_Ci l yX6_segmentCount wsX6_segmentCount ({ frames := 1, cells := 0, slots := 0, locals := 21 }) D [(cI, .int)] [.ref q_mo] [(q_mo, .inr (6, [.int mo_thrown, .int mo_rows, .ref q_mv, .int mo_size, .ref q_me, .int mo_price, .int mo_queries, .ref q_mk, .ref q_ma, .ref q_mb, .ref q_mw, .int mo_start, .int mo_many, .int mo_bits, .ref q_mx]))] res.1 [(q_mo, .inr (6, [.int res.2, .int mo_rows, .ref q_mv, .int mo_size, .ref q_me, .int mo_price, .int mo_queries, .ref q_mk, .ref q_ma, .ref q_mb, .ref q_mw, .int mo_start, .int mo_many, .int mo_bits, .ref q_mx]))] := by
  refine fr_open_i (cc := cX6_segmentCount) (maxL := 1) (ret := some .int) (by decide +kernel) rfl (Nat.le_of_ble_eq_true rfl) ⟨.int, rfl, vp_nar_int _⟩ ?_
  intro p e s m below meth c A Q ls hx hb hml hown hts hA hK hP hD hS hl hret
  have hown : s.vm.findClass RX6 = some m.cls := hown
  have hl : lv_has ls 1 [(0, .ref q_mo)] := hl
  have hin6 : ∀ w ∈ u_ws RX6 TX6 15, w ∈ wsX6_segmentCount := fun _ h9 => List.mem_cons_of_mem _ (List.mem_append_right _ h9)
  unfold f_X6_segmentCount at hf
  refine lv_aload_n hx hb dX6_segmentCount_0 rfl (lv_at hl 0 rfl) ?_
  refine lv_iconst (v := 0) hx hb dX6_segmentCount_1 (by decide) ?_
  refine va_put (D := D) (ci := 6) (v := .int 0) (ty := .int) (C := RX6) (T := TX6) (N := 15) hx hb hts hin6 tyX6 tyX6_ok nmX6 hown hK hP hD hS 0 rfl rfl 0 (by decide) (hts (.fieldLink RX6 38 "ColumnChooserModel" "thrown" "I") (List.mem_of_getElem? (i := 1) rfl)) (fun _ h9 => h9) rfl (by decide +kernel) rfl rfl (Nat.le_of_ble_eq_true rfl) dX6_segmentCount_2 (fun H locs hP hD hS => ?_)
  have hP : va_P D vwCl [(q_mo, .inr (6, [.int 0, .int mo_rows, .ref q_mv, .int mo_size, .ref q_me, .int mo_price, .int mo_queries, .ref q_mk, .ref q_ma, .ref q_mb, .ref q_mw, .int mo_start, .int mo_many, .int mo_bits, .ref q_mx]))] H := hP
  have hD : va_D A [(q_mo, .inr (6, [.int 0, .int mo_rows, .ref q_mv, .int mo_size, .ref q_me, .int mo_price, .int mo_queries, .ref q_mk, .ref q_ma, .ref q_mb, .ref q_mw, .int mo_start, .int mo_many, .int mo_bits, .ref q_mx]))] := hD
  refine lv_aload_n hx hb dX6_segmentCount_5 rfl (lv_at hl 0 rfl) ?_
  refine lv_aload_n hx hb dX6_segmentCount_6 rfl (lv_at hl 0 rfl) ?_
  refine va_get (D := D) (ci := 6) (v := .int mo_size) (C := RX6) (T := TX6) (N := 15) hx hb hts hin6 hown hK hP 0 rfl rfl 3 (by decide) (hts (.fieldLink RX6 13 "ColumnChooserModel" "size" "I") (List.mem_of_getElem? (i := 2) rfl)) (fun _ h9 => h9) rfl dX6_segmentCount_7 ?_
  obtain ⟨u2, hu2, hf⟩ := pr_bd hf
  refine fr_iV (As := [.int mo_size]) ⟨hx, hb, hml, hown, hts⟩ hK hP hD hS hA (c_X6_segments l D cI q_mo q_mv q_me q_mk q_ma q_mb q_mw q_mx n mo_size 0 mo_rows mo_size mo_price mo_queries mo_start mo_many mo_bits u2 hu2) (cwV 1 hts gX6_segmentCount_X6_segments rfl rfl rfl (by decide +kernel) ⟨Nat.le_of_ble_eq_true rfl, Nat.le_of_ble_eq_true rfl⟩) [] [0] [] rfl rfl (by decide) (by decide) (by decide) 0 rfl rfl rfl rfl hl.1 (Nat.le_of_ble_eq_true rfl) dX6_segmentCount_10 ⟨Nat.zero_le _, Nat.zero_le _⟩ rfl (fun H locs hP hD hS => ?_)
  have hP : va_P D vwCl [(q_mo, .inr (6, [.int 0, .int mo_rows, .ref q_mv, .int mo_size, .ref q_me, .int mo_price, .int mo_queries, .ref q_mk, .ref q_ma, .ref q_mb, .ref q_mw, .int mo_start, .int mo_many, .int mo_bits, .ref q_mx]))] H := hP
  have hD : va_D A [(q_mo, .inr (6, [.int 0, .int mo_rows, .ref q_mv, .int mo_size, .ref q_me, .int mo_price, .int mo_queries, .ref q_mk, .ref q_ma, .ref q_mb, .ref q_mw, .int mo_start, .int mo_many, .int mo_bits, .ref q_mx]))] := hD
  obtain rfl := Option.some.inj hf
  exact hret _ _ _ _ dX6_segmentCount_13 (hP.sub [0] rfl) (hD.sub [0] (by decide) rfl) hS
set_option maxHeartbeats 4000000 in
set_option maxRecDepth 100000 in
theorem c_X6_addQuery (l : Launch) (D : va_G) (cI : ClassId) (q_mo q_mv q_me q_mk q_ma q_mb q_mw q_mx : Nat) (n : Nat) (x1 : Int32) (x2 : Int32) (x3 : Int32) (x4 : Int32) (mo_thrown : Int32) (mo_rows : Int32) (mo_size : Int32) (mo_price : Int32) (mo_queries : Int32) (mo_start : Int32) (mo_many : Int32) (mo_bits : Int32) (mk : (Nat → Int32)) (ma : (Nat → Int32)) (mb : (Nat → Int32)) (mw : (Nat → Int32)) (res : Int32 × Int32 × Int32 × (Nat → Int32) × (Nat → Int32) × (Nat → Int32) × (Nat → Int32)) (hf : f_X6_addQuery n x1 x2 x3 x4 mo_thrown mo_queries mk ma mb mw = some res) : fr_Ci l yX6_addQuery wsX6_addQuery ({ frames := 2, cells := 0, slots := 0, locals := 44 }) D [(cI, .int)] [.ref q_mo, .int x1, .int x2, .int x3, .int x4] [(q_mo, .inr (6, [.int mo_thrown, .int mo_rows, .ref q_mv, .int mo_size, .ref q_me, .int mo_price, .int mo_queries, .ref q_mk, .ref q_ma, .ref q_mb, .ref q_mw, .int mo_start, .int mo_many, .int mo_bits, .ref q_mx])), (q_mk, .inl (cI, 20, .inl mk)), (q_ma, .inl (cI, 20, .inl ma)), (q_mb, .inl (cI, 20, .inl mb)), (q_mw, .inl (cI, 20, .inl mw))] res.1 [(q_mo, .inr (6, [.int res.2.1, .int mo_rows, .ref q_mv, .int mo_size, .ref q_me, .int mo_price, .int res.2.2.1, .ref q_mk, .ref q_ma, .ref q_mb, .ref q_mw, .int mo_start, .int mo_many, .int mo_bits, .ref q_mx])), (q_mk, .inl (cI, 20, .inl res.2.2.2.1)), (q_ma, .inl (cI, 20, .inl res.2.2.2.2.1)), (q_mb, .inl (cI, 20, .inl res.2.2.2.2.2.1)), (q_mw, .inl (cI, 20, .inl res.2.2.2.2.2.2))] := by
  refine fr_open_i (cc := cX6_addQuery) (maxL := 6) (ret := some .int) (by decide +kernel) rfl (Nat.le_of_ble_eq_true rfl) ⟨.int, rfl, vp_nar_int _⟩ ?_
  intro p e s m below meth c A Q ls hx hb hml hown hts hA hK hP hD hS hl hret
  have hown : s.vm.findClass RX6 = some m.cls := hown
  have hl : lv_has ls 6 [(0, .ref q_mo), (1, .int x1), (2, .int x2), (3, .int x3), (4, .int x4)] := hl
  have hin6 : ∀ w ∈ u_ws RX6 TX6 15, w ∈ wsX6_addQuery := fun _ h9 => List.mem_cons_of_mem _ (List.mem_append_right _ h9)
  have k_66 : ∀ (n : Nat), (∀ (z1 : Int32) (z2 : Int32) (z3 : Int32) (z4 : Int32) (y0 : Int32) (mo_thrown : Int32) (mo_queries : Int32) (mk : (Nat → Int32)) (ma : (Nat → Int32)) (mb : (Nat → Int32)) (mw : (Nat → Int32)) (H : Heap) (locs : List Loc) (ls : Array Slot), f_X6_addQuery_66 n z1 z2 z3 z4 y0 mo_thrown mo_queries mk ma mb mw = some res → va_P D vwCl [(q_mo, .inr (6, [.int mo_thrown, .int mo_rows, .ref q_mv, .int mo_size, .ref q_me, .int mo_price, .int mo_queries, .ref q_mk, .ref q_ma, .ref q_mb, .ref q_mw, .int mo_start, .int mo_many, .int mo_bits, .ref q_mx])), (q_mk, .inl (cI, 20, .inl mk)), (q_ma, .inl (cI, 20, .inl ma)), (q_mb, .inl (cI, 20, .inl mb)), (q_mw, .inl (cI, 20, .inl mw))] H → va_D A [(q_mo, .inr (6, [.int mo_thrown, .int mo_rows, .ref q_mv, .int mo_size, .ref q_me, .int mo_price, .int mo_queries, .ref q_mk, .ref q_ma, .ref q_mb, .ref q_mw, .int mo_start, .int mo_many, .int mo_bits, .ref q_mx])), (q_mk, .inl (cI, 20, .inl mk)), (q_ma, .inl (cI, 20, .inl ma)), (q_mb, .inl (cI, 20, .inl mb)), (q_mw, .inl (cI, 20, .inl mw))] → va_S A s.heap H locs → lv_has ls 6 [(0, .ref q_mo), (1, .int z1), (2, .int z2), (3, .int z3), (4, .int z4)] → W p l e ({ frames := 2, cells := 0, slots := 0, locals := 44 }) s m ([.ref q_mo, .int x1, .int x2, .int x3, .int x4] : List Value).toArray below meth c H locs 0 0 Q (F0 m 66 ls [.int y0])) := by
    intro n
    intro z1 z2 z3 z4 y0 mo_thrown mo_queries mk ma mb mw H locs ls hf hP hD hS hl
    unfold f_X6_addQuery_66 at hf
    refine lv_istore (lv' := [(5, .int y0), (0, .ref q_mo), (1, .int z1), (2, .int z2), (3, .int z3), (4, .int z4)]) hx hb dX6_addQuery_66 hl (by decide) rfl (fun ls hl => ?_)
    refine lv_iload hx hb dX6_addQuery_68 (lv_at hl 0 rfl) ?_
    refine lv_if_eq (tgt := 85) hx hb dX6_addQuery_70 (by decide) (fun c21 => ?_) (fun c21 => ?_)
    · have hf := pr_pos hf c21
      refine lv_aload_n hx hb dX6_addQuery_85 rfl (lv_at hl 1 rfl) ?_
      refine lv_iconst (v := 1) hx hb dX6_addQuery_86 (by decide) ?_
      obtain ⟨u22, hu22, hf⟩ := pr_bd hf
      refine fr_iV (As := [.int 1]) ⟨hx, hb, hml, hown, hts⟩ hK hP hD hS hA (c_X6_fail l D cI q_mo q_mv q_me q_mk q_ma q_mb q_mw q_mx n 1 mo_thrown mo_rows mo_size mo_price mo_queries mo_start mo_many mo_bits u22 hu22) (cwV 1 hts gX6_addQuery_X6_fail rfl rfl rfl (by decide +kernel) ⟨Nat.le_of_ble_eq_true rfl, Nat.le_of_ble_eq_true rfl⟩) [(q_mk, .inl (cI, 20, .inl mk)), (q_ma, .inl (cI, 20, .inl ma)), (q_mb, .inl (cI, 20, .inl mb)), (q_mw, .inl (cI, 20, .inl mw))] [0] [1, 2, 3, 4] rfl rfl (by decide) (by decide) (by decide) 0 rfl rfl rfl rfl hl.1 (Nat.le_of_ble_eq_true rfl) dX6_addQuery_87 ⟨Nat.zero_le _, Nat.zero_le _⟩ rfl (fun H locs hP hD hS => ?_)
      have hP : va_P D vwCl [(q_mk, .inl (cI, 20, .inl mk)), (q_ma, .inl (cI, 20, .inl ma)), (q_mb, .inl (cI, 20, .inl mb)), (q_mw, .inl (cI, 20, .inl mw)), (q_mo, .inr (6, [.int u22.2, .int mo_rows, .ref q_mv, .int mo_size, .ref q_me, .int mo_price, .int mo_queries, .ref q_mk, .ref q_ma, .ref q_mb, .ref q_mw, .int mo_start, .int mo_many, .int mo_bits, .ref q_mx]))] H := hP
      have hD : va_D A [(q_mk, .inl (cI, 20, .inl mk)), (q_ma, .inl (cI, 20, .inl ma)), (q_mb, .inl (cI, 20, .inl mb)), (q_mw, .inl (cI, 20, .inl mw)), (q_mo, .inr (6, [.int u22.2, .int mo_rows, .ref q_mv, .int mo_size, .ref q_me, .int mo_price, .int mo_queries, .ref q_mk, .ref q_ma, .ref q_mb, .ref q_mw, .int mo_start, .int mo_many, .int mo_bits, .ref q_mx]))] := hD
      obtain rfl := Option.some.inj hf
      exact hret _ _ _ _ dX6_addQuery_90 (hP.sub [4, 0, 1, 2, 3] rfl) (hD.sub [4, 0, 1, 2, 3] (by decide) rfl) hS
    · have hf := pr_neg hf c21
      refine lv_iload hx hb dX6_addQuery_73 (lv_at hl 5 rfl) ?_
      refine lv_i2l hx hb dX6_addQuery_75 rfl ?_
      refine lv_iconst (v := 1) hx hb dX6_addQuery_76 (by decide) ?_
      refine lv_bipush (v := 100) hx hb dX6_addQuery_77 (by decide) ?_
      obtain ⟨u23, hu23, hf⟩ := pr_bd hf
      refine fr_iS (As := [.long z4.toInt64, .int 1, .int 100]) ⟨hx, hb, hml, hown, hts⟩ hK hP hD hS hA (c_X6_isIn l D cI n z4.toInt64 1 100 u23 hu23) (va_cwS 3 hts gX6_addQuery_X6_isIn rfl rfl rfl (by decide +kernel) ⟨Nat.le_of_ble_eq_true rfl, Nat.le_of_ble_eq_true rfl⟩) [(q_mo, .inr (6, [.int mo_thrown, .int mo_rows, .ref q_mv, .int mo_size, .ref q_me, .int mo_price, .int mo_queries, .ref q_mk, .ref q_ma, .ref q_mb, .ref q_mw, .int mo_start, .int mo_many, .int mo_bits, .ref q_mx])), (q_mk, .inl (cI, 20, .inl mk)), (q_ma, .inl (cI, 20, .inl ma)), (q_mb, .inl (cI, 20, .inl mb)), (q_mw, .inl (cI, 20, .inl mw))] [] [0, 1, 2, 3, 4] rfl rfl (by decide) (by decide) (by decide) rfl hl.1 (Nat.le_of_ble_eq_true rfl) dX6_addQuery_79 ⟨Nat.zero_le _, Nat.zero_le _⟩ rfl (fun H locs hP hD hS => ?_)
      have hP : va_P D vwCl [(q_mo, .inr (6, [.int mo_thrown, .int mo_rows, .ref q_mv, .int mo_size, .ref q_me, .int mo_price, .int mo_queries, .ref q_mk, .ref q_ma, .ref q_mb, .ref q_mw, .int mo_start, .int mo_many, .int mo_bits, .ref q_mx])), (q_mk, .inl (cI, 20, .inl mk)), (q_ma, .inl (cI, 20, .inl ma)), (q_mb, .inl (cI, 20, .inl mb)), (q_mw, .inl (cI, 20, .inl mw))] H := hP
      have hD : va_D A [(q_mo, .inr (6, [.int mo_thrown, .int mo_rows, .ref q_mv, .int mo_size, .ref q_me, .int mo_price, .int mo_queries, .ref q_mk, .ref q_ma, .ref q_mb, .ref q_mw, .int mo_start, .int mo_many, .int mo_bits, .ref q_mx])), (q_mk, .inl (cI, 20, .inl mk)), (q_ma, .inl (cI, 20, .inl ma)), (q_mb, .inl (cI, 20, .inl mb)), (q_mw, .inl (cI, 20, .inl mw))] := hD
      refine lv_if_ne (tgt := 91) hx hb dX6_addQuery_82 (by decide) (fun c24 => ?_) (fun c24 => ?_)
      · have hf := pr_neg hf c24
        refine lv_aload_n hx hb dX6_addQuery_91 rfl (lv_at hl 1 rfl) ?_
        refine va_get (D := D) (ci := 6) (v := .int mo_queries) (C := RX6) (T := TX6) (N := 15) hx hb hts hin6 hown hK hP 0 rfl rfl 6 (by decide) (hts (.fieldLink RX6 65 "ColumnChooserModel" "queries" "I") (List.mem_of_getElem? (i := 2) rfl)) (fun _ h9 => h9) rfl dX6_addQuery_92 ?_
        refine lv_bipush (v := 20) hx hb dX6_addQuery_95 (by decide) ?_
        refine lv_icmp_ne (tgt := 106) hx hb dX6_addQuery_97 (by decide) (fun c25 => ?_) (fun c25 => ?_)
        · have hf := pr_neg hf c25
          refine lv_aload_n hx hb dX6_addQuery_106 rfl (lv_at hl 1 rfl) ?_
          refine va_get (D := D) (ci := 6) (v := .ref q_mk) (C := RX6) (T := TX6) (N := 15) hx hb hts hin6 hown hK hP 0 rfl rfl 7 (by decide) (hts (.fieldLink RX6 23 "ColumnChooserModel" "kinds" "[I") (List.mem_of_getElem? (i := 3) rfl)) (fun _ h9 => h9) rfl dX6_addQuery_107 ?_
          refine lv_aload_n hx hb dX6_addQuery_110 rfl (lv_at hl 1 rfl) ?_
          refine va_get (D := D) (ci := 6) (v := .int mo_queries) (C := RX6) (T := TX6) (N := 15) hx hb hts hin6 hown hK hP 0 rfl rfl 6 (by decide) (hts (.fieldLink RX6 65 "ColumnChooserModel" "queries" "I") (List.mem_of_getElem? (i := 2) rfl)) (fun _ h9 => h9) rfl dX6_addQuery_111 ?_
          refine lv_iload_n hx hb dX6_addQuery_114 rfl (lv_at hl 2 rfl) ?_
          obtain ⟨v26, hv26, hf⟩ := pr_bd hf
          refine fr_wr hx hb hK hP hD hS 1 0 rfl rfl hv26 dX6_addQuery_115 (fun H locs hP hD hS => ?_)
          have hP : va_P D vwCl [(q_mo, .inr (6, [.int mo_thrown, .int mo_rows, .ref q_mv, .int mo_size, .ref q_me, .int mo_price, .int mo_queries, .ref q_mk, .ref q_ma, .ref q_mb, .ref q_mw, .int mo_start, .int mo_many, .int mo_bits, .ref q_mx])), (q_mk, .inl (cI, 20, .inl v26)), (q_ma, .inl (cI, 20, .inl ma)), (q_mb, .inl (cI, 20, .inl mb)), (q_mw, .inl (cI, 20, .inl mw))] H := hP
          have hD : va_D A [(q_mo, .inr (6, [.int mo_thrown, .int mo_rows, .ref q_mv, .int mo_size, .ref q_me, .int mo_price, .int mo_queries, .ref q_mk, .ref q_ma, .ref q_mb, .ref q_mw, .int mo_start, .int mo_many, .int mo_bits, .ref q_mx])), (q_mk, .inl (cI, 20, .inl v26)), (q_ma, .inl (cI, 20, .inl ma)), (q_mb, .inl (cI, 20, .inl mb)), (q_mw, .inl (cI, 20, .inl mw))] := hD
          refine lv_aload_n hx hb dX6_addQuery_116 rfl (lv_at hl 1 rfl) ?_
          refine va_get (D := D) (ci := 6) (v := .ref q_ma) (C := RX6) (T := TX6) (N := 15) hx hb hts hin6 hown hK hP 0 rfl rfl 8 (by decide) (hts (.fieldLink RX6 26 "ColumnChooserModel" "as" "[I") (List.mem_of_getElem? (i := 4) rfl)) (fun _ h9 => h9) rfl dX6_addQuery_117 ?_
          refine lv_aload_n hx hb dX6_addQuery_120 rfl (lv_at hl 1 rfl) ?_
          refine va_get (D := D) (ci := 6) (v := .int mo_queries) (C := RX6) (T := TX6) (N := 15) hx hb hts hin6 hown hK hP 0 rfl rfl 6 (by decide) (hts (.fieldLink RX6 65 "ColumnChooserModel" "queries" "I") (List.mem_of_getElem? (i := 2) rfl)) (fun _ h9 => h9) rfl dX6_addQuery_121 ?_
          refine lv_iload_n hx hb dX6_addQuery_124 rfl (lv_at hl 3 rfl) ?_
          obtain ⟨v27, hv27, hf⟩ := pr_bd hf
          refine fr_wr hx hb hK hP hD hS 2 0 rfl rfl hv27 dX6_addQuery_125 (fun H locs hP hD hS => ?_)
          have hP : va_P D vwCl [(q_mo, .inr (6, [.int mo_thrown, .int mo_rows, .ref q_mv, .int mo_size, .ref q_me, .int mo_price, .int mo_queries, .ref q_mk, .ref q_ma, .ref q_mb, .ref q_mw, .int mo_start, .int mo_many, .int mo_bits, .ref q_mx])), (q_mk, .inl (cI, 20, .inl v26)), (q_ma, .inl (cI, 20, .inl v27)), (q_mb, .inl (cI, 20, .inl mb)), (q_mw, .inl (cI, 20, .inl mw))] H := hP
          have hD : va_D A [(q_mo, .inr (6, [.int mo_thrown, .int mo_rows, .ref q_mv, .int mo_size, .ref q_me, .int mo_price, .int mo_queries, .ref q_mk, .ref q_ma, .ref q_mb, .ref q_mw, .int mo_start, .int mo_many, .int mo_bits, .ref q_mx])), (q_mk, .inl (cI, 20, .inl v26)), (q_ma, .inl (cI, 20, .inl v27)), (q_mb, .inl (cI, 20, .inl mb)), (q_mw, .inl (cI, 20, .inl mw))] := hD
          refine lv_aload_n hx hb dX6_addQuery_126 rfl (lv_at hl 1 rfl) ?_
          refine va_get (D := D) (ci := 6) (v := .ref q_mb) (C := RX6) (T := TX6) (N := 15) hx hb hts hin6 hown hK hP 0 rfl rfl 9 (by decide) (hts (.fieldLink RX6 29 "ColumnChooserModel" "bs" "[I") (List.mem_of_getElem? (i := 5) rfl)) (fun _ h9 => h9) rfl dX6_addQuery_127 ?_
          refine lv_aload_n hx hb dX6_addQuery_130 rfl (lv_at hl 1 rfl) ?_
          refine va_get (D := D) (ci := 6) (v := .int mo_queries) (C := RX6) (T := TX6) (N := 15) hx hb hts hin6 hown hK hP 0 rfl rfl 6 (by decide) (hts (.fieldLink RX6 65 "ColumnChooserModel" "queries" "I") (List.mem_of_getElem? (i := 2) rfl)) (fun _ h9 => h9) rfl dX6_addQuery_131 ?_
          refine lv_iload_n hx hb dX6_addQuery_134 rfl (lv_at hl 4 rfl) ?_
          obtain ⟨v28, hv28, hf⟩ := pr_bd hf
          refine fr_wr hx hb hK hP hD hS 3 0 rfl rfl hv28 dX6_addQuery_135 (fun H locs hP hD hS => ?_)
          have hP : va_P D vwCl [(q_mo, .inr (6, [.int mo_thrown, .int mo_rows, .ref q_mv, .int mo_size, .ref q_me, .int mo_price, .int mo_queries, .ref q_mk, .ref q_ma, .ref q_mb, .ref q_mw, .int mo_start, .int mo_many, .int mo_bits, .ref q_mx])), (q_mk, .inl (cI, 20, .inl v26)), (q_ma, .inl (cI, 20, .inl v27)), (q_mb, .inl (cI, 20, .inl v28)), (q_mw, .inl (cI, 20, .inl mw))] H := hP
          have hD : va_D A [(q_mo, .inr (6, [.int mo_thrown, .int mo_rows, .ref q_mv, .int mo_size, .ref q_me, .int mo_price, .int mo_queries, .ref q_mk, .ref q_ma, .ref q_mb, .ref q_mw, .int mo_start, .int mo_many, .int mo_bits, .ref q_mx])), (q_mk, .inl (cI, 20, .inl v26)), (q_ma, .inl (cI, 20, .inl v27)), (q_mb, .inl (cI, 20, .inl v28)), (q_mw, .inl (cI, 20, .inl mw))] := hD
          refine lv_aload_n hx hb dX6_addQuery_136 rfl (lv_at hl 1 rfl) ?_
          refine va_get (D := D) (ci := 6) (v := .ref q_mw) (C := RX6) (T := TX6) (N := 15) hx hb hts hin6 hown hK hP 0 rfl rfl 10 (by decide) (hts (.fieldLink RX6 32 "ColumnChooserModel" "weights" "[I") (List.mem_of_getElem? (i := 6) rfl)) (fun _ h9 => h9) rfl dX6_addQuery_137 ?_
          refine lv_aload_n hx hb dX6_addQuery_140 rfl (lv_at hl 1 rfl) ?_
          refine va_get (D := D) (ci := 6) (v := .int mo_queries) (C := RX6) (T := TX6) (N := 15) hx hb hts hin6 hown hK hP 0 rfl rfl 6 (by decide) (hts (.fieldLink RX6 65 "ColumnChooserModel" "queries" "I") (List.mem_of_getElem? (i := 2) rfl)) (fun _ h9 => h9) rfl dX6_addQuery_141 ?_
          refine lv_iload hx hb dX6_addQuery_144 (lv_at hl 5 rfl) ?_
          obtain ⟨v29, hv29, hf⟩ := pr_bd hf
          refine fr_wr hx hb hK hP hD hS 4 0 rfl rfl hv29 dX6_addQuery_146 (fun H locs hP hD hS => ?_)
          have hP : va_P D vwCl [(q_mo, .inr (6, [.int mo_thrown, .int mo_rows, .ref q_mv, .int mo_size, .ref q_me, .int mo_price, .int mo_queries, .ref q_mk, .ref q_ma, .ref q_mb, .ref q_mw, .int mo_start, .int mo_many, .int mo_bits, .ref q_mx])), (q_mk, .inl (cI, 20, .inl v26)), (q_ma, .inl (cI, 20, .inl v27)), (q_mb, .inl (cI, 20, .inl v28)), (q_mw, .inl (cI, 20, .inl v29))] H := hP
          have hD : va_D A [(q_mo, .inr (6, [.int mo_thrown, .int mo_rows, .ref q_mv, .int mo_size, .ref q_me, .int mo_price, .int mo_queries, .ref q_mk, .ref q_ma, .ref q_mb, .ref q_mw, .int mo_start, .int mo_many, .int mo_bits, .ref q_mx])), (q_mk, .inl (cI, 20, .inl v26)), (q_ma, .inl (cI, 20, .inl v27)), (q_mb, .inl (cI, 20, .inl v28)), (q_mw, .inl (cI, 20, .inl v29))] := hD
          refine lv_aload_n hx hb dX6_addQuery_147 rfl (lv_at hl 1 rfl) ?_
          refine lv_dup hx hb dX6_addQuery_148 rfl ?_
          refine va_get (D := D) (ci := 6) (v := .int mo_queries) (C := RX6) (T := TX6) (N := 15) hx hb hts hin6 hown hK hP 0 rfl rfl 6 (by decide) (hts (.fieldLink RX6 65 "ColumnChooserModel" "queries" "I") (List.mem_of_getElem? (i := 2) rfl)) (fun _ h9 => h9) rfl dX6_addQuery_149 ?_
          refine lv_iconst (v := 1) hx hb dX6_addQuery_152 (by decide) ?_
          refine lv_iadd hx hb dX6_addQuery_153 ?_
          refine va_put (D := D) (ci := 6) (v := .int (mo_queries + 1)) (ty := .int) (C := RX6) (T := TX6) (N := 15) hx hb hts hin6 tyX6 tyX6_ok nmX6 hown hK hP hD hS 0 rfl rfl 6 (by decide) (hts (.fieldLink RX6 65 "ColumnChooserModel" "queries" "I") (List.mem_of_getElem? (i := 2) rfl)) (fun _ h9 => h9) rfl (by decide +kernel) rfl rfl (Nat.le_of_ble_eq_true rfl) dX6_addQuery_154 (fun H locs hP hD hS => ?_)
          have hP : va_P D vwCl [(q_mo, .inr (6, [.int mo_thrown, .int mo_rows, .ref q_mv, .int mo_size, .ref q_me, .int mo_price, .int (mo_queries + 1), .ref q_mk, .ref q_ma, .ref q_mb, .ref q_mw, .int mo_start, .int mo_many, .int mo_bits, .ref q_mx])), (q_mk, .inl (cI, 20, .inl v26)), (q_ma, .inl (cI, 20, .inl v27)), (q_mb, .inl (cI, 20, .inl v28)), (q_mw, .inl (cI, 20, .inl v29))] H := hP
          have hD : va_D A [(q_mo, .inr (6, [.int mo_thrown, .int mo_rows, .ref q_mv, .int mo_size, .ref q_me, .int mo_price, .int (mo_queries + 1), .ref q_mk, .ref q_ma, .ref q_mb, .ref q_mw, .int mo_start, .int mo_many, .int mo_bits, .ref q_mx])), (q_mk, .inl (cI, 20, .inl v26)), (q_ma, .inl (cI, 20, .inl v27)), (q_mb, .inl (cI, 20, .inl v28)), (q_mw, .inl (cI, 20, .inl v29))] := hD
          refine lv_aload_n hx hb dX6_addQuery_157 rfl (lv_at hl 1 rfl) ?_
          refine va_get (D := D) (ci := 6) (v := .int (mo_queries + 1)) (C := RX6) (T := TX6) (N := 15) hx hb hts hin6 hown hK hP 0 rfl rfl 6 (by decide) (hts (.fieldLink RX6 65 "ColumnChooserModel" "queries" "I") (List.mem_of_getElem? (i := 2) rfl)) (fun _ h9 => h9) rfl dX6_addQuery_158 ?_
          refine lv_iconst (v := 1) hx hb dX6_addQuery_161 (by decide) ?_
          refine lv_isub hx hb dX6_addQuery_162 ?_
          obtain rfl := Option.some.inj hf
          exact hret _ _ _ _ dX6_addQuery_163 (hP.sub [0, 1, 2, 3, 4] rfl) (hD.sub [0, 1, 2, 3, 4] (by decide) rfl) hS
        · have hf := pr_pos hf c25
          refine lv_aload_n hx hb dX6_addQuery_100 rfl (lv_at hl 1 rfl) ?_
          refine lv_iconst (v := 2) hx hb dX6_addQuery_101 (by decide) ?_
          obtain ⟨u30, hu30, hf⟩ := pr_bd hf
          refine fr_iV (As := [.int 2]) ⟨hx, hb, hml, hown, hts⟩ hK hP hD hS hA (c_X6_fail l D cI q_mo q_mv q_me q_mk q_ma q_mb q_mw q_mx n 2 mo_thrown mo_rows mo_size mo_price mo_queries mo_start mo_many mo_bits u30 hu30) (cwV 1 hts gX6_addQuery_X6_fail rfl rfl rfl (by decide +kernel) ⟨Nat.le_of_ble_eq_true rfl, Nat.le_of_ble_eq_true rfl⟩) [(q_mk, .inl (cI, 20, .inl mk)), (q_ma, .inl (cI, 20, .inl ma)), (q_mb, .inl (cI, 20, .inl mb)), (q_mw, .inl (cI, 20, .inl mw))] [0] [1, 2, 3, 4] rfl rfl (by decide) (by decide) (by decide) 0 rfl rfl rfl rfl hl.1 (Nat.le_of_ble_eq_true rfl) dX6_addQuery_102 ⟨Nat.zero_le _, Nat.zero_le _⟩ rfl (fun H locs hP hD hS => ?_)
          have hP : va_P D vwCl [(q_mk, .inl (cI, 20, .inl mk)), (q_ma, .inl (cI, 20, .inl ma)), (q_mb, .inl (cI, 20, .inl mb)), (q_mw, .inl (cI, 20, .inl mw)), (q_mo, .inr (6, [.int u30.2, .int mo_rows, .ref q_mv, .int mo_size, .ref q_me, .int mo_price, .int mo_queries, .ref q_mk, .ref q_ma, .ref q_mb, .ref q_mw, .int mo_start, .int mo_many, .int mo_bits, .ref q_mx]))] H := hP
          have hD : va_D A [(q_mk, .inl (cI, 20, .inl mk)), (q_ma, .inl (cI, 20, .inl ma)), (q_mb, .inl (cI, 20, .inl mb)), (q_mw, .inl (cI, 20, .inl mw)), (q_mo, .inr (6, [.int u30.2, .int mo_rows, .ref q_mv, .int mo_size, .ref q_me, .int mo_price, .int mo_queries, .ref q_mk, .ref q_ma, .ref q_mb, .ref q_mw, .int mo_start, .int mo_many, .int mo_bits, .ref q_mx]))] := hD
          obtain rfl := Option.some.inj hf
          exact hret _ _ _ _ dX6_addQuery_105 (hP.sub [4, 0, 1, 2, 3] rfl) (hD.sub [4, 0, 1, 2, 3] (by decide) rfl) hS
      · have hf := pr_pos hf c24
        refine lv_aload_n hx hb dX6_addQuery_85 rfl (lv_at hl 1 rfl) ?_
        refine lv_iconst (v := 1) hx hb dX6_addQuery_86 (by decide) ?_
        obtain ⟨u31, hu31, hf⟩ := pr_bd hf
        refine fr_iV (As := [.int 1]) ⟨hx, hb, hml, hown, hts⟩ hK hP hD hS hA (c_X6_fail l D cI q_mo q_mv q_me q_mk q_ma q_mb q_mw q_mx n 1 mo_thrown mo_rows mo_size mo_price mo_queries mo_start mo_many mo_bits u31 hu31) (cwV 1 hts gX6_addQuery_X6_fail rfl rfl rfl (by decide +kernel) ⟨Nat.le_of_ble_eq_true rfl, Nat.le_of_ble_eq_true rfl⟩) [(q_mk, .inl (cI, 20, .inl mk)), (q_ma, .inl (cI, 20, .inl ma)), (q_mb, .inl (cI, 20, .inl mb)), (q_mw, .inl (cI, 20, .inl mw))] [0] [1, 2, 3, 4] rfl rfl (by decide) (by decide) (by decide) 0 rfl rfl rfl rfl hl.1 (Nat.le_of_ble_eq_true rfl) dX6_addQuery_87 ⟨Nat.zero_le _, Nat.zero_le _⟩ rfl (fun H locs hP hD hS => ?_)
        have hP : va_P D vwCl [(q_mk, .inl (cI, 20, .inl mk)), (q_ma, .inl (cI, 20, .inl ma)), (q_mb, .inl (cI, 20, .inl mb)), (q_mw, .inl (cI, 20, .inl mw)), (q_mo, .inr (6, [.int u31.2, .int mo_rows, .ref q_mv, .int mo_size, .ref q_me, .int mo_price, .int mo_queries, .ref q_mk, .ref q_ma, .ref q_mb, .ref q_mw, .int mo_start, .int mo_many, .int mo_bits, .ref q_mx]))] H := hP
        have hD : va_D A [(q_mk, .inl (cI, 20, .inl mk)), (q_ma, .inl (cI, 20, .inl ma)), (q_mb, .inl (cI, 20, .inl mb)), (q_mw, .inl (cI, 20, .inl mw)), (q_mo, .inr (6, [.int u31.2, .int mo_rows, .ref q_mv, .int mo_size, .ref q_me, .int mo_price, .int mo_queries, .ref q_mk, .ref q_ma, .ref q_mb, .ref q_mw, .int mo_start, .int mo_many, .int mo_bits, .ref q_mx]))] := hD
        obtain rfl := Option.some.inj hf
        exact hret _ _ _ _ dX6_addQuery_90 (hP.sub [4, 0, 1, 2, 3] rfl) (hD.sub [4, 0, 1, 2, 3] (by decide) rfl) hS
  unfold f_X6_addQuery at hf
  refine lv_aload_n hx hb dX6_addQuery_0 rfl (lv_at hl 0 rfl) ?_
  refine lv_iconst (v := 0) hx hb dX6_addQuery_1 (by decide) ?_
  refine va_put (D := D) (ci := 6) (v := .int 0) (ty := .int) (C := RX6) (T := TX6) (N := 15) hx hb hts hin6 tyX6 tyX6_ok nmX6 hown hK hP hD hS 0 rfl rfl 0 (by decide) (hts (.fieldLink RX6 38 "ColumnChooserModel" "thrown" "I") (List.mem_of_getElem? (i := 1) rfl)) (fun _ h9 => h9) rfl (by decide +kernel) rfl rfl (Nat.le_of_ble_eq_true rfl) dX6_addQuery_2 (fun H locs hP hD hS => ?_)
  have hP : va_P D vwCl [(q_mo, .inr (6, [.int 0, .int mo_rows, .ref q_mv, .int mo_size, .ref q_me, .int mo_price, .int mo_queries, .ref q_mk, .ref q_ma, .ref q_mb, .ref q_mw, .int mo_start, .int mo_many, .int mo_bits, .ref q_mx])), (q_mk, .inl (cI, 20, .inl mk)), (q_ma, .inl (cI, 20, .inl ma)), (q_mb, .inl (cI, 20, .inl mb)), (q_mw, .inl (cI, 20, .inl mw))] H := hP
  have hD : va_D A [(q_mo, .inr (6, [.int 0, .int mo_rows, .ref q_mv, .int mo_size, .ref q_me, .int mo_price, .int mo_queries, .ref q_mk, .ref q_ma, .ref q_mb, .ref q_mw, .int mo_start, .int mo_many, .int mo_bits, .ref q_mx])), (q_mk, .inl (cI, 20, .inl mk)), (q_ma, .inl (cI, 20, .inl ma)), (q_mb, .inl (cI, 20, .inl mb)), (q_mw, .inl (cI, 20, .inl mw))] := hD
  refine lv_iload_n hx hb dX6_addQuery_5 rfl (lv_at hl 1 rfl) ?_
  refine lv_if_ne (tgt := 20) hx hb dX6_addQuery_6 (by decide) (fun c32 => ?_) (fun c32 => ?_)
  · have hf := pr_neg hf c32
    refine lv_iload_n hx hb dX6_addQuery_20 rfl (lv_at hl 1 rfl) ?_
    refine lv_iconst (v := 1) hx hb dX6_addQuery_21 (by decide) ?_
    refine lv_icmp_ne (tgt := 48) hx hb dX6_addQuery_22 (by decide) (fun c33 => ?_) (fun c33 => ?_)
    · have hf := pr_neg hf c33
      refine lv_iload_n hx hb dX6_addQuery_48 rfl (lv_at hl 1 rfl) ?_
      refine lv_iconst (v := 2) hx hb dX6_addQuery_49 (by decide) ?_
      refine lv_icmp_ne (tgt := 65) hx hb dX6_addQuery_50 (by decide) (fun c34 => ?_) (fun c34 => ?_)
      · have hf := pr_neg hf c34
        refine lv_iconst (v := 0) hx hb dX6_addQuery_65 (by decide) ?_
        exact k_66 n _ _ _ _ _ _ _ _ _ _ _ _ _ ls hf (hP.sub [0, 1, 2, 3, 4] rfl) (hD.sub [0, 1, 2, 3, 4] (by decide) rfl) hS (lv_sub hl [0, 1, 2, 3, 4] rfl)
      · have hf := pr_pos hf c34
        refine lv_iload_n hx hb dX6_addQuery_53 rfl (lv_at hl 2 rfl) ?_
        refine lv_i2l hx hb dX6_addQuery_54 rfl ?_
        obtain ⟨u35, hu35, hf⟩ := pr_bd hf
        refine fr_iS (As := [.long x2.toInt64]) ⟨hx, hb, hml, hown, hts⟩ hK hP hD hS hA (c_X6_isValue l D cI n x2.toInt64 u35 hu35) (va_cwS 1 hts gX6_addQuery_X6_isValue rfl rfl rfl (by decide +kernel) ⟨Nat.le_of_ble_eq_true rfl, Nat.le_of_ble_eq_true rfl⟩) [(q_mo, .inr (6, [.int 0, .int mo_rows, .ref q_mv, .int mo_size, .ref q_me, .int mo_price, .int mo_queries, .ref q_mk, .ref q_ma, .ref q_mb, .ref q_mw, .int mo_start, .int mo_many, .int mo_bits, .ref q_mx])), (q_mk, .inl (cI, 20, .inl mk)), (q_ma, .inl (cI, 20, .inl ma)), (q_mb, .inl (cI, 20, .inl mb)), (q_mw, .inl (cI, 20, .inl mw))] [] [0, 1, 2, 3, 4] rfl rfl (by decide) (by decide) (by decide) rfl hl.1 (Nat.le_of_ble_eq_true rfl) dX6_addQuery_55 ⟨Nat.zero_le _, Nat.zero_le _⟩ rfl (fun H locs hP hD hS => ?_)
        have hP : va_P D vwCl [(q_mo, .inr (6, [.int 0, .int mo_rows, .ref q_mv, .int mo_size, .ref q_me, .int mo_price, .int mo_queries, .ref q_mk, .ref q_ma, .ref q_mb, .ref q_mw, .int mo_start, .int mo_many, .int mo_bits, .ref q_mx])), (q_mk, .inl (cI, 20, .inl mk)), (q_ma, .inl (cI, 20, .inl ma)), (q_mb, .inl (cI, 20, .inl mb)), (q_mw, .inl (cI, 20, .inl mw))] H := hP
        have hD : va_D A [(q_mo, .inr (6, [.int 0, .int mo_rows, .ref q_mv, .int mo_size, .ref q_me, .int mo_price, .int mo_queries, .ref q_mk, .ref q_ma, .ref q_mb, .ref q_mw, .int mo_start, .int mo_many, .int mo_bits, .ref q_mx])), (q_mk, .inl (cI, 20, .inl mk)), (q_ma, .inl (cI, 20, .inl ma)), (q_mb, .inl (cI, 20, .inl mb)), (q_mw, .inl (cI, 20, .inl mw))] := hD
        refine lv_if_eq (tgt := 65) hx hb dX6_addQuery_58 (by decide) (fun c36 => ?_) (fun c36 => ?_)
        · have hf := pr_pos hf c36
          refine lv_iconst (v := 0) hx hb dX6_addQuery_65 (by decide) ?_
          exact k_66 n _ _ _ _ _ _ _ _ _ _ _ _ _ ls hf (hP.sub [0, 1, 2, 3, 4] rfl) (hD.sub [0, 1, 2, 3, 4] (by decide) rfl) hS (lv_sub hl [0, 1, 2, 3, 4] rfl)
        · have hf := pr_neg hf c36
          refine lv_iconst (v := 1) hx hb dX6_addQuery_61 (by decide) ?_
          refine lv_goto (tgt := 66) hx hb dX6_addQuery_62 (by decide) ?_
          exact k_66 n _ _ _ _ _ _ _ _ _ _ _ _ _ ls hf (hP.sub [0, 1, 2, 3, 4] rfl) (hD.sub [0, 1, 2, 3, 4] (by decide) rfl) hS (lv_sub hl [0, 1, 2, 3, 4] rfl)
    · have hf := pr_pos hf c33
      refine lv_iload_n hx hb dX6_addQuery_25 rfl (lv_at hl 2 rfl) ?_
      refine lv_if_lt (tgt := 44) hx hb dX6_addQuery_26 (by decide) (fun c37 => ?_) (fun c37 => ?_)
      · have hf := pr_pos hf c37
        refine lv_iconst (v := 0) hx hb dX6_addQuery_44 (by decide) ?_
        refine lv_goto (tgt := 66) hx hb dX6_addQuery_45 (by decide) ?_
        exact k_66 n _ _ _ _ _ _ _ _ _ _ _ _ _ ls hf (hP.sub [0, 1, 2, 3, 4] rfl) (hD.sub [0, 1, 2, 3, 4] (by decide) rfl) hS (lv_sub hl [0, 1, 2, 3, 4] rfl)
      · have hf := pr_neg hf c37
        refine lv_iload_n hx hb dX6_addQuery_29 rfl (lv_at hl 3 rfl) ?_
        refine lv_bipush (v := 96) hx hb dX6_addQuery_30 (by decide) ?_
        refine lv_icmp_gt (tgt := 44) hx hb dX6_addQuery_32 (by decide) (fun c38 => ?_) (fun c38 => ?_)
        · have hf := pr_pos hf c38
          refine lv_iconst (v := 0) hx hb dX6_addQuery_44 (by decide) ?_
          refine lv_goto (tgt := 66) hx hb dX6_addQuery_45 (by decide) ?_
          exact k_66 n _ _ _ _ _ _ _ _ _ _ _ _ _ ls hf (hP.sub [0, 1, 2, 3, 4] rfl) (hD.sub [0, 1, 2, 3, 4] (by decide) rfl) hS (lv_sub hl [0, 1, 2, 3, 4] rfl)
        · have hf := pr_neg hf c38
          refine lv_iload_n hx hb dX6_addQuery_35 rfl (lv_at hl 2 rfl) ?_
          refine lv_iload_n hx hb dX6_addQuery_36 rfl (lv_at hl 3 rfl) ?_
          refine lv_icmp_ge (tgt := 44) hx hb dX6_addQuery_37 (by decide) (fun c39 => ?_) (fun c39 => ?_)
          · have hf := pr_pos hf c39
            refine lv_iconst (v := 0) hx hb dX6_addQuery_44 (by decide) ?_
            refine lv_goto (tgt := 66) hx hb dX6_addQuery_45 (by decide) ?_
            exact k_66 n _ _ _ _ _ _ _ _ _ _ _ _ _ ls hf (hP.sub [0, 1, 2, 3, 4] rfl) (hD.sub [0, 1, 2, 3, 4] (by decide) rfl) hS (lv_sub hl [0, 1, 2, 3, 4] rfl)
          · have hf := pr_neg hf c39
            refine lv_iconst (v := 1) hx hb dX6_addQuery_40 (by decide) ?_
            refine lv_goto (tgt := 66) hx hb dX6_addQuery_41 (by decide) ?_
            exact k_66 n _ _ _ _ _ _ _ _ _ _ _ _ _ ls hf (hP.sub [0, 1, 2, 3, 4] rfl) (hD.sub [0, 1, 2, 3, 4] (by decide) rfl) hS (lv_sub hl [0, 1, 2, 3, 4] rfl)
  · have hf := pr_pos hf c32
    refine lv_iload_n hx hb dX6_addQuery_9 rfl (lv_at hl 2 rfl) ?_
    refine lv_i2l hx hb dX6_addQuery_10 rfl ?_
    refine lv_iconst (v := 0) hx hb dX6_addQuery_11 (by decide) ?_
    refine lv_bipush (v := 95) hx hb dX6_addQuery_12 (by decide) ?_
    obtain ⟨u40, hu40, hf⟩ := pr_bd hf
    refine fr_iS (As := [.long x2.toInt64, .int 0, .int 95]) ⟨hx, hb, hml, hown, hts⟩ hK hP hD hS hA (c_X6_isIn l D cI n x2.toInt64 0 95 u40 hu40) (va_cwS 3 hts gX6_addQuery_X6_isIn rfl rfl rfl (by decide +kernel) ⟨Nat.le_of_ble_eq_true rfl, Nat.le_of_ble_eq_true rfl⟩) [(q_mo, .inr (6, [.int 0, .int mo_rows, .ref q_mv, .int mo_size, .ref q_me, .int mo_price, .int mo_queries, .ref q_mk, .ref q_ma, .ref q_mb, .ref q_mw, .int mo_start, .int mo_many, .int mo_bits, .ref q_mx])), (q_mk, .inl (cI, 20, .inl mk)), (q_ma, .inl (cI, 20, .inl ma)), (q_mb, .inl (cI, 20, .inl mb)), (q_mw, .inl (cI, 20, .inl mw))] [] [0, 1, 2, 3, 4] rfl rfl (by decide) (by decide) (by decide) rfl hl.1 (Nat.le_of_ble_eq_true rfl) dX6_addQuery_14 ⟨Nat.zero_le _, Nat.zero_le _⟩ rfl (fun H locs hP hD hS => ?_)
    have hP : va_P D vwCl [(q_mo, .inr (6, [.int 0, .int mo_rows, .ref q_mv, .int mo_size, .ref q_me, .int mo_price, .int mo_queries, .ref q_mk, .ref q_ma, .ref q_mb, .ref q_mw, .int mo_start, .int mo_many, .int mo_bits, .ref q_mx])), (q_mk, .inl (cI, 20, .inl mk)), (q_ma, .inl (cI, 20, .inl ma)), (q_mb, .inl (cI, 20, .inl mb)), (q_mw, .inl (cI, 20, .inl mw))] H := hP
    have hD : va_D A [(q_mo, .inr (6, [.int 0, .int mo_rows, .ref q_mv, .int mo_size, .ref q_me, .int mo_price, .int mo_queries, .ref q_mk, .ref q_ma, .ref q_mb, .ref q_mw, .int mo_start, .int mo_many, .int mo_bits, .ref q_mx])), (q_mk, .inl (cI, 20, .inl mk)), (q_ma, .inl (cI, 20, .inl ma)), (q_mb, .inl (cI, 20, .inl mb)), (q_mw, .inl (cI, 20, .inl mw))] := hD
    refine lv_goto (tgt := 66) hx hb dX6_addQuery_17 (by decide) ?_
    exact k_66 n _ _ _ _ _ _ _ _ _ _ _ _ _ ls hf (hP.sub [0, 1, 2, 3, 4] rfl) (hD.sub [0, 1, 2, 3, 4] (by decide) rfl) hS (lv_sub hl [0, 1, 2, 3, 4] rfl)
set_option maxHeartbeats 4000000 in
set_option maxRecDepth 100000 in
theorem c_X6_clearQueries (l : Launch) (D : va_G) (cI : ClassId) (q_mo q_mv q_me q_mk q_ma q_mb q_mw q_mx : Nat) (n : Nat) (mo_thrown : Int32) (mo_rows : Int32) (mo_size : Int32) (mo_price : Int32) (mo_queries : Int32) (mo_start : Int32) (mo_many : Int32) (mo_bits : Int32) (res : Int32 × Int32 × Int32) (hf : f_X6_clearQueries n mo_thrown mo_queries = some res) : fr_Ci l yX6_clearQueries wsX6_clearQueries ({ frames := 0, cells := 0, slots := 0, locals := 0 }) D [(cI, .int)] [.ref q_mo] [(q_mo, .inr (6, [.int mo_thrown, .int mo_rows, .ref q_mv, .int mo_size, .ref q_me, .int mo_price, .int mo_queries, .ref q_mk, .ref q_ma, .ref q_mb, .ref q_mw, .int mo_start, .int mo_many, .int mo_bits, .ref q_mx]))] res.1 [(q_mo, .inr (6, [.int res.2.1, .int mo_rows, .ref q_mv, .int mo_size, .ref q_me, .int mo_price, .int res.2.2, .ref q_mk, .ref q_ma, .ref q_mb, .ref q_mw, .int mo_start, .int mo_many, .int mo_bits, .ref q_mx]))] := by
  refine fr_open_i (cc := cX6_clearQueries) (maxL := 2) (ret := some .int) (by decide +kernel) rfl (Nat.le_of_ble_eq_true rfl) ⟨.int, rfl, vp_nar_int _⟩ ?_
  intro p e s m below meth c A Q ls hx hb hml hown hts hA hK hP hD hS hl hret
  have hown : s.vm.findClass RX6 = some m.cls := hown
  have hl : lv_has ls 2 [(0, .ref q_mo)] := hl
  have hin6 : ∀ w ∈ u_ws RX6 TX6 15, w ∈ wsX6_clearQueries := fun _ h9 => List.mem_cons_of_mem _ (List.mem_append_right _ h9)
  unfold f_X6_clearQueries at hf
  refine lv_aload_n hx hb dX6_clearQueries_0 rfl (lv_at hl 0 rfl) ?_
  refine lv_iconst (v := 0) hx hb dX6_clearQueries_1 (by decide) ?_
  refine va_put (D := D) (ci := 6) (v := .int 0) (ty := .int) (C := RX6) (T := TX6) (N := 15) hx hb hts hin6 tyX6 tyX6_ok nmX6 hown hK hP hD hS 0 rfl rfl 0 (by decide) (hts (.fieldLink RX6 38 "ColumnChooserModel" "thrown" "I") (List.mem_of_getElem? (i := 1) rfl)) (fun _ h9 => h9) rfl (by decide +kernel) rfl rfl (Nat.le_of_ble_eq_true rfl) dX6_clearQueries_2 (fun H locs hP hD hS => ?_)
  have hP : va_P D vwCl [(q_mo, .inr (6, [.int 0, .int mo_rows, .ref q_mv, .int mo_size, .ref q_me, .int mo_price, .int mo_queries, .ref q_mk, .ref q_ma, .ref q_mb, .ref q_mw, .int mo_start, .int mo_many, .int mo_bits, .ref q_mx]))] H := hP
  have hD : va_D A [(q_mo, .inr (6, [.int 0, .int mo_rows, .ref q_mv, .int mo_size, .ref q_me, .int mo_price, .int mo_queries, .ref q_mk, .ref q_ma, .ref q_mb, .ref q_mw, .int mo_start, .int mo_many, .int mo_bits, .ref q_mx]))] := hD
  refine lv_aload_n hx hb dX6_clearQueries_5 rfl (lv_at hl 0 rfl) ?_
  refine va_get (D := D) (ci := 6) (v := .int mo_queries) (C := RX6) (T := TX6) (N := 15) hx hb hts hin6 hown hK hP 0 rfl rfl 6 (by decide) (hts (.fieldLink RX6 65 "ColumnChooserModel" "queries" "I") (List.mem_of_getElem? (i := 2) rfl)) (fun _ h9 => h9) rfl dX6_clearQueries_6 ?_
  refine lv_istore_n (lv' := [(1, .int mo_queries), (0, .ref q_mo)]) hx hb dX6_clearQueries_9 rfl hl (by decide) rfl (fun ls hl => ?_)
  refine lv_aload_n hx hb dX6_clearQueries_10 rfl (lv_at hl 1 rfl) ?_
  refine lv_iconst (v := 0) hx hb dX6_clearQueries_11 (by decide) ?_
  refine va_put (D := D) (ci := 6) (v := .int 0) (ty := .int) (C := RX6) (T := TX6) (N := 15) hx hb hts hin6 tyX6 tyX6_ok nmX6 hown hK hP hD hS 0 rfl rfl 6 (by decide) (hts (.fieldLink RX6 65 "ColumnChooserModel" "queries" "I") (List.mem_of_getElem? (i := 2) rfl)) (fun _ h9 => h9) rfl (by decide +kernel) rfl rfl (Nat.le_of_ble_eq_true rfl) dX6_clearQueries_12 (fun H locs hP hD hS => ?_)
  have hP : va_P D vwCl [(q_mo, .inr (6, [.int 0, .int mo_rows, .ref q_mv, .int mo_size, .ref q_me, .int mo_price, .int 0, .ref q_mk, .ref q_ma, .ref q_mb, .ref q_mw, .int mo_start, .int mo_many, .int mo_bits, .ref q_mx]))] H := hP
  have hD : va_D A [(q_mo, .inr (6, [.int 0, .int mo_rows, .ref q_mv, .int mo_size, .ref q_me, .int mo_price, .int 0, .ref q_mk, .ref q_ma, .ref q_mb, .ref q_mw, .int mo_start, .int mo_many, .int mo_bits, .ref q_mx]))] := hD
  refine lv_iload_n hx hb dX6_clearQueries_15 rfl (lv_at hl 0 rfl) ?_
  obtain rfl := Option.some.inj hf
  exact hret _ _ _ _ dX6_clearQueries_16 (hP.sub [0] rfl) (hD.sub [0] (by decide) rfl) hS
set_option maxHeartbeats 4000000 in
set_option maxRecDepth 100000 in
theorem c_X6_setPrice (l : Launch) (D : va_G) (cI : ClassId) (q_mo q_mv q_me q_mk q_ma q_mb q_mw q_mx : Nat) (n : Nat) (x1 : Int32) (mo_thrown : Int32) (mo_rows : Int32) (mo_size : Int32) (mo_price : Int32) (mo_queries : Int32) (mo_start : Int32) (mo_many : Int32) (mo_bits : Int32) (res : Int32 × Int32 × Int32) (hf : f_X6_setPrice n x1 mo_thrown mo_price = some res) : fr_Ci l yX6_setPrice wsX6_setPrice ({ frames := 1, cells := 0, slots := 0, locals := 23 }) D [(cI, .int)] [.ref q_mo, .int x1] [(q_mo, .inr (6, [.int mo_thrown, .int mo_rows, .ref q_mv, .int mo_size, .ref q_me, .int mo_price, .int mo_queries, .ref q_mk, .ref q_ma, .ref q_mb, .ref q_mw, .int mo_start, .int mo_many, .int mo_bits, .ref q_mx]))] res.1 [(q_mo, .inr (6, [.int res.2.1, .int mo_rows, .ref q_mv, .int mo_size, .ref q_me, .int res.2.2, .int mo_queries, .ref q_mk, .ref q_ma, .ref q_mb, .ref q_mw, .int mo_start, .int mo_many, .int mo_bits, .ref q_mx]))] := by
  refine fr_open_i (cc := cX6_setPrice) (maxL := 3) (ret := some .int) (by decide +kernel) rfl (Nat.le_of_ble_eq_true rfl) ⟨.int, rfl, vp_nar_int _⟩ ?_
  intro p e s m below meth c A Q ls hx hb hml hown hts hA hK hP hD hS hl hret
  have hown : s.vm.findClass RX6 = some m.cls := hown
  have hl : lv_has ls 3 [(0, .ref q_mo), (1, .int x1)] := hl
  have hin6 : ∀ w ∈ u_ws RX6 TX6 15, w ∈ wsX6_setPrice := fun _ h9 => List.mem_cons_of_mem _ (List.mem_append_right _ h9)
  unfold f_X6_setPrice at hf
  refine lv_aload_n hx hb dX6_setPrice_0 rfl (lv_at hl 0 rfl) ?_
  refine lv_iconst (v := 0) hx hb dX6_setPrice_1 (by decide) ?_
  refine va_put (D := D) (ci := 6) (v := .int 0) (ty := .int) (C := RX6) (T := TX6) (N := 15) hx hb hts hin6 tyX6 tyX6_ok nmX6 hown hK hP hD hS 0 rfl rfl 0 (by decide) (hts (.fieldLink RX6 38 "ColumnChooserModel" "thrown" "I") (List.mem_of_getElem? (i := 1) rfl)) (fun _ h9 => h9) rfl (by decide +kernel) rfl rfl (Nat.le_of_ble_eq_true rfl) dX6_setPrice_2 (fun H locs hP hD hS => ?_)
  have hP : va_P D vwCl [(q_mo, .inr (6, [.int 0, .int mo_rows, .ref q_mv, .int mo_size, .ref q_me, .int mo_price, .int mo_queries, .ref q_mk, .ref q_ma, .ref q_mb, .ref q_mw, .int mo_start, .int mo_many, .int mo_bits, .ref q_mx]))] H := hP
  have hD : va_D A [(q_mo, .inr (6, [.int 0, .int mo_rows, .ref q_mv, .int mo_size, .ref q_me, .int mo_price, .int mo_queries, .ref q_mk, .ref q_ma, .ref q_mb, .ref q_mw, .int mo_start, .int mo_many, .int mo_bits, .ref q_mx]))] := hD
  refine lv_iload_n hx hb dX6_setPrice_5 rfl (lv_at hl 1 rfl) ?_
  refine lv_i2l hx hb dX6_setPrice_6 rfl ?_
  refine lv_iconst (v := 0) hx hb dX6_setPrice_7 (by decide) ?_
  refine lv_bipush (v := 100) hx hb dX6_setPrice_8 (by decide) ?_
  obtain ⟨u4, hu4, hf⟩ := pr_bd hf
  refine fr_iS (As := [.long x1.toInt64, .int 0, .int 100]) ⟨hx, hb, hml, hown, hts⟩ hK hP hD hS hA (c_X6_isIn l D cI n x1.toInt64 0 100 u4 hu4) (va_cwS 3 hts gX6_setPrice_X6_isIn rfl rfl rfl (by decide +kernel) ⟨Nat.le_of_ble_eq_true rfl, Nat.le_of_ble_eq_true rfl⟩) [(q_mo, .inr (6, [.int 0, .int mo_rows, .ref q_mv, .int mo_size, .ref q_me, .int mo_price, .int mo_queries, .ref q_mk, .ref q_ma, .ref q_mb, .ref q_mw, .int mo_start, .int mo_many, .int mo_bits, .ref q_mx]))] [] [0] rfl rfl (by decide) (by decide) (by decide) rfl hl.1 (Nat.le_of_ble_eq_true rfl) dX6_setPrice_10 ⟨Nat.zero_le _, Nat.zero_le _⟩ rfl (fun H locs hP hD hS => ?_)
  have hP : va_P D vwCl [(q_mo, .inr (6, [.int 0, .int mo_rows, .ref q_mv, .int mo_size, .ref q_me, .int mo_price, .int mo_queries, .ref q_mk, .ref q_ma, .ref q_mb, .ref q_mw, .int mo_start, .int mo_many, .int mo_bits, .ref q_mx]))] H := hP
  have hD : va_D A [(q_mo, .inr (6, [.int 0, .int mo_rows, .ref q_mv, .int mo_size, .ref q_me, .int mo_price, .int mo_queries, .ref q_mk, .ref q_ma, .ref q_mb, .ref q_mw, .int mo_start, .int mo_many, .int mo_bits, .ref q_mx]))] := hD
  refine lv_if_ne (tgt := 22) hx hb dX6_setPrice_13 (by decide) (fun c5 => ?_) (fun c5 => ?_)
  · have hf := pr_neg hf c5
    refine lv_aload_n hx hb dX6_setPrice_22 rfl (lv_at hl 0 rfl) ?_
    refine va_get (D := D) (ci := 6) (v := .int mo_price) (C := RX6) (T := TX6) (N := 15) hx hb hts hin6 hown hK hP 0 rfl rfl 5 (by decide) (hts (.fieldLink RX6 20 "ColumnChooserModel" "price" "I") (List.mem_of_getElem? (i := 2) rfl)) (fun _ h9 => h9) rfl dX6_setPrice_23 ?_
    refine lv_istore_n (lv' := [(2, .int mo_price), (0, .ref q_mo), (1, .int x1)]) hx hb dX6_setPrice_26 rfl hl (by decide) rfl (fun ls hl => ?_)
    refine lv_aload_n hx hb dX6_setPrice_27 rfl (lv_at hl 1 rfl) ?_
    refine lv_iload_n hx hb dX6_setPrice_28 rfl (lv_at hl 2 rfl) ?_
    refine va_put (D := D) (ci := 6) (v := .int x1) (ty := .int) (C := RX6) (T := TX6) (N := 15) hx hb hts hin6 tyX6 tyX6_ok nmX6 hown hK hP hD hS 0 rfl rfl 5 (by decide) (hts (.fieldLink RX6 20 "ColumnChooserModel" "price" "I") (List.mem_of_getElem? (i := 2) rfl)) (fun _ h9 => h9) rfl (by decide +kernel) rfl rfl (Nat.le_of_ble_eq_true rfl) dX6_setPrice_29 (fun H locs hP hD hS => ?_)
    have hP : va_P D vwCl [(q_mo, .inr (6, [.int 0, .int mo_rows, .ref q_mv, .int mo_size, .ref q_me, .int x1, .int mo_queries, .ref q_mk, .ref q_ma, .ref q_mb, .ref q_mw, .int mo_start, .int mo_many, .int mo_bits, .ref q_mx]))] H := hP
    have hD : va_D A [(q_mo, .inr (6, [.int 0, .int mo_rows, .ref q_mv, .int mo_size, .ref q_me, .int x1, .int mo_queries, .ref q_mk, .ref q_ma, .ref q_mb, .ref q_mw, .int mo_start, .int mo_many, .int mo_bits, .ref q_mx]))] := hD
    refine lv_iload_n hx hb dX6_setPrice_32 rfl (lv_at hl 0 rfl) ?_
    obtain rfl := Option.some.inj hf
    exact hret _ _ _ _ dX6_setPrice_33 (hP.sub [0] rfl) (hD.sub [0] (by decide) rfl) hS
  · have hf := pr_pos hf c5
    refine lv_aload_n hx hb dX6_setPrice_16 rfl (lv_at hl 0 rfl) ?_
    refine lv_iconst (v := 1) hx hb dX6_setPrice_17 (by decide) ?_
    obtain ⟨u6, hu6, hf⟩ := pr_bd hf
    refine fr_iV (As := [.int 1]) ⟨hx, hb, hml, hown, hts⟩ hK hP hD hS hA (c_X6_fail l D cI q_mo q_mv q_me q_mk q_ma q_mb q_mw q_mx n 1 0 mo_rows mo_size mo_price mo_queries mo_start mo_many mo_bits u6 hu6) (cwV 1 hts gX6_setPrice_X6_fail rfl rfl rfl (by decide +kernel) ⟨Nat.le_of_ble_eq_true rfl, Nat.le_of_ble_eq_true rfl⟩) [] [0] [] rfl rfl (by decide) (by decide) (by decide) 0 rfl rfl rfl rfl hl.1 (Nat.le_of_ble_eq_true rfl) dX6_setPrice_18 ⟨Nat.zero_le _, Nat.zero_le _⟩ rfl (fun H locs hP hD hS => ?_)
    have hP : va_P D vwCl [(q_mo, .inr (6, [.int u6.2, .int mo_rows, .ref q_mv, .int mo_size, .ref q_me, .int mo_price, .int mo_queries, .ref q_mk, .ref q_ma, .ref q_mb, .ref q_mw, .int mo_start, .int mo_many, .int mo_bits, .ref q_mx]))] H := hP
    have hD : va_D A [(q_mo, .inr (6, [.int u6.2, .int mo_rows, .ref q_mv, .int mo_size, .ref q_me, .int mo_price, .int mo_queries, .ref q_mk, .ref q_ma, .ref q_mb, .ref q_mw, .int mo_start, .int mo_many, .int mo_bits, .ref q_mx]))] := hD
    obtain rfl := Option.some.inj hf
    exact hret _ _ _ _ dX6_setPrice_21 (hP.sub [0] rfl) (hD.sub [0] (by decide) rfl) hS
set_option maxHeartbeats 4000000 in
set_option maxRecDepth 100000 in
theorem c_X6_answer (l : Launch) (D : va_G) (cI : ClassId) (q_mo q_mv q_me q_mk q_ma q_mb q_mw q_mx : Nat) (n : Nat) (x1 : Int32) (mo_thrown : Int32) (mo_rows : Int32) (mo_size : Int32) (mo_price : Int32) (mo_queries : Int32) (mo_start : Int32) (mo_many : Int32) (mo_bits : Int32) (mv : (Nat → Int32)) (mk : (Nat → Int32)) (ma : (Nat → Int32)) (mb : (Nat → Int32)) (res : Int64 × Int32) (hf : f_X6_answer n x1 mo_thrown mo_rows mo_queries mv mk ma mb = some res) : fr_Cl l yX6_answer wsX6_answer ({ frames := 1, cells := 0, slots := 0, locals := 23 }) D [(cI, .int)] [.ref q_mo, .int x1] [(q_mo, .inr (6, [.int mo_thrown, .int mo_rows, .ref q_mv, .int mo_size, .ref q_me, .int mo_price, .int mo_queries, .ref q_mk, .ref q_ma, .ref q_mb, .ref q_mw, .int mo_start, .int mo_many, .int mo_bits, .ref q_mx])), (q_mv, .inl (cI, 96, .inl mv)), (q_mk, .inl (cI, 20, .inl mk)), (q_ma, .inl (cI, 20, .inl ma)), (q_mb, .inl (cI, 20, .inl mb))] res.1 [(q_mo, .inr (6, [.int res.2, .int mo_rows, .ref q_mv, .int mo_size, .ref q_me, .int mo_price, .int mo_queries, .ref q_mk, .ref q_ma, .ref q_mb, .ref q_mw, .int mo_start, .int mo_many, .int mo_bits, .ref q_mx])), (q_mv, .inl (cI, 96, .inl mv)), (q_mk, .inl (cI, 20, .inl mk)), (q_ma, .inl (cI, 20, .inl ma)), (q_mb, .inl (cI, 20, .inl mb))] := by
  refine fr_open_l (cc := cX6_answer) (maxL := 6) (by decide +kernel) rfl (Nat.le_of_ble_eq_true rfl) ?_
  intro p e s m below meth c A Q ls hx hb hml hown hts hA hK hP hD hS hl hret
  have hown : s.vm.findClass RX6 = some m.cls := hown
  have hl : lv_has ls 6 [(0, .ref q_mo), (1, .int x1)] := hl
  have hin6 : ∀ w ∈ u_ws RX6 TX6 15, w ∈ wsX6_answer := fun _ h9 => List.mem_cons_of_mem _ (List.mem_append_right _ h9)
  have k_68 : ∀ (n : Nat), (∀ (z1 : Int32) (z2 : Int32) (z3 : Int64) (z5 : Int32) (mo_thrown : Int32) (H : Heap) (locs : List Loc) (ls : Array Slot), f_X6_answer_68 n z1 z2 z3 z5 mo_thrown mo_rows mo_queries mv mk ma mb = some res → va_P D vwCl [(q_mo, .inr (6, [.int mo_thrown, .int mo_rows, .ref q_mv, .int mo_size, .ref q_me, .int mo_price, .int mo_queries, .ref q_mk, .ref q_ma, .ref q_mb, .ref q_mw, .int mo_start, .int mo_many, .int mo_bits, .ref q_mx])), (q_mv, .inl (cI, 96, .inl mv)), (q_mk, .inl (cI, 20, .inl mk)), (q_ma, .inl (cI, 20, .inl ma)), (q_mb, .inl (cI, 20, .inl mb))] H → va_D A [(q_mo, .inr (6, [.int mo_thrown, .int mo_rows, .ref q_mv, .int mo_size, .ref q_me, .int mo_price, .int mo_queries, .ref q_mk, .ref q_ma, .ref q_mb, .ref q_mw, .int mo_start, .int mo_many, .int mo_bits, .ref q_mx])), (q_mv, .inl (cI, 96, .inl mv)), (q_mk, .inl (cI, 20, .inl mk)), (q_ma, .inl (cI, 20, .inl ma)), (q_mb, .inl (cI, 20, .inl mb))] → va_S A s.heap H locs → lv_has ls 6 [(0, .ref q_mo), (1, .int z1), (2, .int z2), (3, .long z3), (5, .int z5)] → W p l e ({ frames := 1, cells := 0, slots := 0, locals := 23 }) s m ([.ref q_mo, .int x1] : List Value).toArray below meth c H locs 0 0 Q (F0 m 68 ls [])) := by
    intro n
    induction n with
    | zero =>
      intro z1 z2 z3 z5 mo_thrown H locs ls hf hP hD hS hl
      exact absurd (show (none : Option (Int64 × Int32)) = some res from hf) (by simp)
    | succ n ih =>
      intro z1 z2 z3 z5 mo_thrown H locs ls hf hP hD hS hl
      have hf : f_X6_answer_68_s (f_X6_answer_68 n) n z1 z2 z3 z5 mo_thrown mo_rows mo_queries mv mk ma mb = some res := hf
      unfold f_X6_answer_68_s at hf
      refine lv_iload hx hb dX6_answer_68 (lv_at hl 4 rfl) ?_
      refine lv_aload_n hx hb dX6_answer_70 rfl (lv_at hl 0 rfl) ?_
      refine va_get (D := D) (ci := 6) (v := .int mo_rows) (C := RX6) (T := TX6) (N := 15) hx hb hts hin6 hown hK hP 0 rfl rfl 1 (by decide) (hts (.fieldLink RX6 47 "ColumnChooserModel" "rows" "I") (List.mem_of_getElem? (i := 5) rfl)) (fun _ h9 => h9) rfl dX6_answer_71 ?_
      refine lv_icmp_ge (tgt := 147) hx hb dX6_answer_74 (by decide) (fun c18 => ?_) (fun c18 => ?_)
      · have hf := pr_pos hf c18
        refine lv_lload_n hx hb dX6_answer_147 rfl (lv_at hl 3 rfl) ?_
        obtain rfl := Option.some.inj hf
        exact hret _ _ _ _ dX6_answer_148 (hP.sub [0, 1, 2, 3, 4] rfl) (hD.sub [0, 1, 2, 3, 4] (by decide) rfl) hS
      · have hf := pr_neg hf c18
        refine lv_aload_n hx hb dX6_answer_77 rfl (lv_at hl 0 rfl) ?_
        refine va_get (D := D) (ci := 6) (v := .ref q_mk) (C := RX6) (T := TX6) (N := 15) hx hb hts hin6 hown hK hP 0 rfl rfl 7 (by decide) (hts (.fieldLink RX6 23 "ColumnChooserModel" "kinds" "[I") (List.mem_of_getElem? (i := 4) rfl)) (fun _ h9 => h9) rfl dX6_answer_78 ?_
        refine lv_iload_n hx hb dX6_answer_81 rfl (lv_at hl 1 rfl) ?_
        obtain ⟨v19, hv19, hf⟩ := pr_bd hf
        refine fr_rd hx hb hK hP 2 0 rfl rfl hv19 dX6_answer_82 ?_
        refine lv_iconst (v := 1) hx hb dX6_answer_83 (by decide) ?_
        refine lv_icmp_ne (tgt := 122) hx hb dX6_answer_84 (by decide) (fun c20 => ?_) (fun c20 => ?_)
        · have hf := pr_neg hf c20
          refine lv_lload_n hx hb dX6_answer_122 rfl (lv_at hl 3 rfl) ?_
          refine lv_aload_n hx hb dX6_answer_123 rfl (lv_at hl 0 rfl) ?_
          refine va_get (D := D) (ci := 6) (v := .ref q_mv) (C := RX6) (T := TX6) (N := 15) hx hb hts hin6 hown hK hP 0 rfl rfl 2 (by decide) (hts (.fieldLink RX6 9 "ColumnChooserModel" "values" "[I") (List.mem_of_getElem? (i := 6) rfl)) (fun _ h9 => h9) rfl dX6_answer_124 ?_
          refine lv_iload hx hb dX6_answer_127 (lv_at hl 4 rfl) ?_
          obtain ⟨v21, hv21, hf⟩ := pr_bd hf
          refine fr_rd hx hb hK hP 1 0 rfl rfl hv21 dX6_answer_129 ?_
          refine lv_iload_n hx hb dX6_answer_130 rfl (lv_at hl 2 rfl) ?_
          refine lv_icmp_ne (tgt := 138) hx hb dX6_answer_131 (by decide) (fun c22 => ?_) (fun c22 => ?_)
          · have hf := pr_neg hf c22
            refine lv_lconst (v := 0) hx hb dX6_answer_138 (by decide) ?_
            refine lv_ladd hx hb dX6_answer_139 ?_
            refine lv_lstore_n (lv' := [(3, .long (z3 + 0)), (0, .ref q_mo), (1, .int z1), (2, .int z2), (5, .int z5)]) hx hb dX6_answer_140 rfl hl (by decide) rfl (fun ls hl => ?_)
            refine lv_iinc (v := (z5 + 1)) (lv' := [(5, .int (z5 + 1)), (3, .long (z3 + 0)), (0, .ref q_mo), (1, .int z1), (2, .int z2)]) hx hb dX6_answer_141 hl (k := 4) rfl rfl (by decide) rfl (fun ls hl => ?_)
            refine lv_goto (tgt := 68) hx hb dX6_answer_144 (by decide) ?_
            exact ih _ _ _ _ _ _ _ ls hf (hP.sub [0, 1, 2, 3, 4] rfl) (hD.sub [0, 1, 2, 3, 4] (by decide) rfl) hS (lv_sub hl [2, 3, 4, 1, 0] rfl)
          · have hf := pr_pos hf c22
            refine lv_lconst (v := 1) hx hb dX6_answer_134 (by decide) ?_
            refine lv_goto (tgt := 139) hx hb dX6_answer_135 (by decide) ?_
            refine lv_ladd hx hb dX6_answer_139 ?_
            refine lv_lstore_n (lv' := [(3, .long (z3 + 1)), (0, .ref q_mo), (1, .int z1), (2, .int z2), (5, .int z5)]) hx hb dX6_answer_140 rfl hl (by decide) rfl (fun ls hl => ?_)
            refine lv_iinc (v := (z5 + 1)) (lv' := [(5, .int (z5 + 1)), (3, .long (z3 + 1)), (0, .ref q_mo), (1, .int z1), (2, .int z2)]) hx hb dX6_answer_141 hl (k := 4) rfl rfl (by decide) rfl (fun ls hl => ?_)
            refine lv_goto (tgt := 68) hx hb dX6_answer_144 (by decide) ?_
            exact ih _ _ _ _ _ _ _ ls hf (hP.sub [0, 1, 2, 3, 4] rfl) (hD.sub [0, 1, 2, 3, 4] (by decide) rfl) hS (lv_sub hl [2, 3, 4, 1, 0] rfl)
        · have hf := pr_pos hf c20
          refine lv_lload_n hx hb dX6_answer_87 rfl (lv_at hl 3 rfl) ?_
          refine lv_iload hx hb dX6_answer_88 (lv_at hl 4 rfl) ?_
          refine lv_iload_n hx hb dX6_answer_90 rfl (lv_at hl 2 rfl) ?_
          refine lv_icmp_lt (tgt := 116) hx hb dX6_answer_91 (by decide) (fun c23 => ?_) (fun c23 => ?_)
          · have hf := pr_pos hf c23
            refine lv_lconst (v := 0) hx hb dX6_answer_116 (by decide) ?_
            refine lv_ladd hx hb dX6_answer_117 ?_
            refine lv_lstore_n (lv' := [(3, .long (z3 + 0)), (0, .ref q_mo), (1, .int z1), (2, .int z2), (5, .int z5)]) hx hb dX6_answer_118 rfl hl (by decide) rfl (fun ls hl => ?_)
            refine lv_goto (tgt := 141) hx hb dX6_answer_119 (by decide) ?_
            refine lv_iinc (v := (z5 + 1)) (lv' := [(5, .int (z5 + 1)), (3, .long (z3 + 0)), (0, .ref q_mo), (1, .int z1), (2, .int z2)]) hx hb dX6_answer_141 hl (k := 4) rfl rfl (by decide) rfl (fun ls hl => ?_)
            refine lv_goto (tgt := 68) hx hb dX6_answer_144 (by decide) ?_
            exact ih _ _ _ _ _ _ _ ls hf (hP.sub [0, 1, 2, 3, 4] rfl) (hD.sub [0, 1, 2, 3, 4] (by decide) rfl) hS (lv_sub hl [2, 3, 4, 1, 0] rfl)
          · have hf := pr_neg hf c23
            refine lv_iload hx hb dX6_answer_94 (lv_at hl 4 rfl) ?_
            refine lv_aload_n hx hb dX6_answer_96 rfl (lv_at hl 0 rfl) ?_
            refine va_get (D := D) (ci := 6) (v := .ref q_mb) (C := RX6) (T := TX6) (N := 15) hx hb hts hin6 hown hK hP 0 rfl rfl 9 (by decide) (hts (.fieldLink RX6 29 "ColumnChooserModel" "bs" "[I") (List.mem_of_getElem? (i := 7) rfl)) (fun _ h9 => h9) rfl dX6_answer_97 ?_
            refine lv_iload_n hx hb dX6_answer_100 rfl (lv_at hl 1 rfl) ?_
            obtain ⟨v24, hv24, hf⟩ := pr_bd hf
            refine fr_rd hx hb hK hP 4 0 rfl rfl hv24 dX6_answer_101 ?_
            refine lv_icmp_ge (tgt := 116) hx hb dX6_answer_102 (by decide) (fun c25 => ?_) (fun c25 => ?_)
            · have hf := pr_pos hf c25
              refine lv_lconst (v := 0) hx hb dX6_answer_116 (by decide) ?_
              refine lv_ladd hx hb dX6_answer_117 ?_
              refine lv_lstore_n (lv' := [(3, .long (z3 + 0)), (0, .ref q_mo), (1, .int z1), (2, .int z2), (5, .int z5)]) hx hb dX6_answer_118 rfl hl (by decide) rfl (fun ls hl => ?_)
              refine lv_goto (tgt := 141) hx hb dX6_answer_119 (by decide) ?_
              refine lv_iinc (v := (z5 + 1)) (lv' := [(5, .int (z5 + 1)), (3, .long (z3 + 0)), (0, .ref q_mo), (1, .int z1), (2, .int z2)]) hx hb dX6_answer_141 hl (k := 4) rfl rfl (by decide) rfl (fun ls hl => ?_)
              refine lv_goto (tgt := 68) hx hb dX6_answer_144 (by decide) ?_
              exact ih _ _ _ _ _ _ _ ls hf (hP.sub [0, 1, 2, 3, 4] rfl) (hD.sub [0, 1, 2, 3, 4] (by decide) rfl) hS (lv_sub hl [2, 3, 4, 1, 0] rfl)
            · have hf := pr_neg hf c25
              refine lv_aload_n hx hb dX6_answer_105 rfl (lv_at hl 0 rfl) ?_
              refine va_get (D := D) (ci := 6) (v := .ref q_mv) (C := RX6) (T := TX6) (N := 15) hx hb hts hin6 hown hK hP 0 rfl rfl 2 (by decide) (hts (.fieldLink RX6 9 "ColumnChooserModel" "values" "[I") (List.mem_of_getElem? (i := 6) rfl)) (fun _ h9 => h9) rfl dX6_answer_106 ?_
              refine lv_iload hx hb dX6_answer_109 (lv_at hl 4 rfl) ?_
              obtain ⟨v26, hv26, hf⟩ := pr_bd hf
              refine fr_rd hx hb hK hP 1 0 rfl rfl hv26 dX6_answer_111 ?_
              refine lv_i2l hx hb dX6_answer_112 rfl ?_
              refine lv_goto (tgt := 117) hx hb dX6_answer_113 (by decide) ?_
              refine lv_ladd hx hb dX6_answer_117 ?_
              refine lv_lstore_n (lv' := [(3, .long (z3 + v26.toInt64)), (0, .ref q_mo), (1, .int z1), (2, .int z2), (5, .int z5)]) hx hb dX6_answer_118 rfl hl (by decide) rfl (fun ls hl => ?_)
              refine lv_goto (tgt := 141) hx hb dX6_answer_119 (by decide) ?_
              refine lv_iinc (v := (z5 + 1)) (lv' := [(5, .int (z5 + 1)), (3, .long (z3 + v26.toInt64)), (0, .ref q_mo), (1, .int z1), (2, .int z2)]) hx hb dX6_answer_141 hl (k := 4) rfl rfl (by decide) rfl (fun ls hl => ?_)
              refine lv_goto (tgt := 68) hx hb dX6_answer_144 (by decide) ?_
              exact ih _ _ _ _ _ _ _ ls hf (hP.sub [0, 1, 2, 3, 4] rfl) (hD.sub [0, 1, 2, 3, 4] (by decide) rfl) hS (lv_sub hl [2, 3, 4, 1, 0] rfl)
  unfold f_X6_answer at hf
  refine lv_aload_n hx hb dX6_answer_0 rfl (lv_at hl 0 rfl) ?_
  refine lv_iconst (v := 0) hx hb dX6_answer_1 (by decide) ?_
  refine va_put (D := D) (ci := 6) (v := .int 0) (ty := .int) (C := RX6) (T := TX6) (N := 15) hx hb hts hin6 tyX6 tyX6_ok nmX6 hown hK hP hD hS 0 rfl rfl 0 (by decide) (hts (.fieldLink RX6 38 "ColumnChooserModel" "thrown" "I") (List.mem_of_getElem? (i := 1) rfl)) (fun _ h9 => h9) rfl (by decide +kernel) rfl rfl (Nat.le_of_ble_eq_true rfl) dX6_answer_2 (fun H locs hP hD hS => ?_)
  have hP : va_P D vwCl [(q_mo, .inr (6, [.int 0, .int mo_rows, .ref q_mv, .int mo_size, .ref q_me, .int mo_price, .int mo_queries, .ref q_mk, .ref q_ma, .ref q_mb, .ref q_mw, .int mo_start, .int mo_many, .int mo_bits, .ref q_mx])), (q_mv, .inl (cI, 96, .inl mv)), (q_mk, .inl (cI, 20, .inl mk)), (q_ma, .inl (cI, 20, .inl ma)), (q_mb, .inl (cI, 20, .inl mb))] H := hP
  have hD : va_D A [(q_mo, .inr (6, [.int 0, .int mo_rows, .ref q_mv, .int mo_size, .ref q_me, .int mo_price, .int mo_queries, .ref q_mk, .ref q_ma, .ref q_mb, .ref q_mw, .int mo_start, .int mo_many, .int mo_bits, .ref q_mx])), (q_mv, .inl (cI, 96, .inl mv)), (q_mk, .inl (cI, 20, .inl mk)), (q_ma, .inl (cI, 20, .inl ma)), (q_mb, .inl (cI, 20, .inl mb))] := hD
  refine lv_iload_n hx hb dX6_answer_5 rfl (lv_at hl 1 rfl) ?_
  refine lv_i2l hx hb dX6_answer_6 rfl ?_
  refine lv_iconst (v := 0) hx hb dX6_answer_7 (by decide) ?_
  refine lv_aload_n hx hb dX6_answer_8 rfl (lv_at hl 0 rfl) ?_
  refine va_get (D := D) (ci := 6) (v := .int mo_queries) (C := RX6) (T := TX6) (N := 15) hx hb hts hin6 hown hK hP 0 rfl rfl 6 (by decide) (hts (.fieldLink RX6 65 "ColumnChooserModel" "queries" "I") (List.mem_of_getElem? (i := 2) rfl)) (fun _ h9 => h9) rfl dX6_answer_9 ?_
  refine lv_iconst (v := 1) hx hb dX6_answer_12 (by decide) ?_
  refine lv_isub hx hb dX6_answer_13 ?_
  obtain ⟨u27, hu27, hf⟩ := pr_bd hf
  refine fr_iS (As := [.long x1.toInt64, .int 0, .int (mo_queries - 1)]) ⟨hx, hb, hml, hown, hts⟩ hK hP hD hS hA (c_X6_isIn l D cI n x1.toInt64 0 (mo_queries - 1) u27 hu27) (va_cwS 3 hts gX6_answer_X6_isIn rfl rfl rfl (by decide +kernel) ⟨Nat.le_of_ble_eq_true rfl, Nat.le_of_ble_eq_true rfl⟩) [(q_mo, .inr (6, [.int 0, .int mo_rows, .ref q_mv, .int mo_size, .ref q_me, .int mo_price, .int mo_queries, .ref q_mk, .ref q_ma, .ref q_mb, .ref q_mw, .int mo_start, .int mo_many, .int mo_bits, .ref q_mx])), (q_mv, .inl (cI, 96, .inl mv)), (q_mk, .inl (cI, 20, .inl mk)), (q_ma, .inl (cI, 20, .inl ma)), (q_mb, .inl (cI, 20, .inl mb))] [] [0, 1, 2, 3, 4] rfl rfl (by decide) (by decide) (by decide) rfl hl.1 (Nat.le_of_ble_eq_true rfl) dX6_answer_14 ⟨Nat.zero_le _, Nat.zero_le _⟩ rfl (fun H locs hP hD hS => ?_)
  have hP : va_P D vwCl [(q_mo, .inr (6, [.int 0, .int mo_rows, .ref q_mv, .int mo_size, .ref q_me, .int mo_price, .int mo_queries, .ref q_mk, .ref q_ma, .ref q_mb, .ref q_mw, .int mo_start, .int mo_many, .int mo_bits, .ref q_mx])), (q_mv, .inl (cI, 96, .inl mv)), (q_mk, .inl (cI, 20, .inl mk)), (q_ma, .inl (cI, 20, .inl ma)), (q_mb, .inl (cI, 20, .inl mb))] H := hP
  have hD : va_D A [(q_mo, .inr (6, [.int 0, .int mo_rows, .ref q_mv, .int mo_size, .ref q_me, .int mo_price, .int mo_queries, .ref q_mk, .ref q_ma, .ref q_mb, .ref q_mw, .int mo_start, .int mo_many, .int mo_bits, .ref q_mx])), (q_mv, .inl (cI, 96, .inl mv)), (q_mk, .inl (cI, 20, .inl mk)), (q_ma, .inl (cI, 20, .inl ma)), (q_mb, .inl (cI, 20, .inl mb))] := hD
  refine lv_if_ne (tgt := 27) hx hb dX6_answer_17 (by decide) (fun c28 => ?_) (fun c28 => ?_)
  · have hf := pr_neg hf c28
    refine lv_aload_n hx hb dX6_answer_27 rfl (lv_at hl 0 rfl) ?_
    refine va_get (D := D) (ci := 6) (v := .ref q_ma) (C := RX6) (T := TX6) (N := 15) hx hb hts hin6 hown hK hP 0 rfl rfl 8 (by decide) (hts (.fieldLink RX6 26 "ColumnChooserModel" "as" "[I") (List.mem_of_getElem? (i := 3) rfl)) (fun _ h9 => h9) rfl dX6_answer_28 ?_
    refine lv_iload_n hx hb dX6_answer_31 rfl (lv_at hl 1 rfl) ?_
    obtain ⟨v29, hv29, hf⟩ := pr_bd hf
    refine fr_rd hx hb hK hP 3 0 rfl rfl hv29 dX6_answer_32 ?_
    refine lv_istore_n (lv' := [(2, .int v29), (0, .ref q_mo), (1, .int x1)]) hx hb dX6_answer_33 rfl hl (by decide) rfl (fun ls hl => ?_)
    refine lv_aload_n hx hb dX6_answer_34 rfl (lv_at hl 1 rfl) ?_
    refine va_get (D := D) (ci := 6) (v := .ref q_mk) (C := RX6) (T := TX6) (N := 15) hx hb hts hin6 hown hK hP 0 rfl rfl 7 (by decide) (hts (.fieldLink RX6 23 "ColumnChooserModel" "kinds" "[I") (List.mem_of_getElem? (i := 4) rfl)) (fun _ h9 => h9) rfl dX6_answer_35 ?_
    refine lv_iload_n hx hb dX6_answer_38 rfl (lv_at hl 2 rfl) ?_
    obtain ⟨v30, hv30, hf⟩ := pr_bd hf
    refine fr_rd hx hb hK hP 2 0 rfl rfl hv30 dX6_answer_39 ?_
    refine lv_if_ne (tgt := 63) hx hb dX6_answer_40 (by decide) (fun c31 => ?_) (fun c31 => ?_)
    · have hf := pr_neg hf c31
      refine lv_lconst (v := 0) hx hb dX6_answer_63 (by decide) ?_
      refine lv_lstore_n (lv' := [(3, .long 0), (2, .int v29), (0, .ref q_mo), (1, .int x1)]) hx hb dX6_answer_64 rfl hl (by decide) rfl (fun ls hl => ?_)
      refine lv_iconst (v := 0) hx hb dX6_answer_65 (by decide) ?_
      refine lv_istore (lv' := [(5, .int 0), (3, .long 0), (2, .int v29), (0, .ref q_mo), (1, .int x1)]) hx hb dX6_answer_66 hl (by decide) rfl (fun ls hl => ?_)
      exact k_68 n _ _ _ _ _ _ _ ls hf (hP.sub [0, 1, 2, 3, 4] rfl) (hD.sub [0, 1, 2, 3, 4] (by decide) rfl) hS (lv_sub hl [3, 4, 2, 1, 0] rfl)
    · have hf := pr_pos hf c31
      refine lv_iload_n hx hb dX6_answer_43 rfl (lv_at hl 0 rfl) ?_
      refine lv_aload_n hx hb dX6_answer_44 rfl (lv_at hl 1 rfl) ?_
      refine va_get (D := D) (ci := 6) (v := .int mo_rows) (C := RX6) (T := TX6) (N := 15) hx hb hts hin6 hown hK hP 0 rfl rfl 1 (by decide) (hts (.fieldLink RX6 47 "ColumnChooserModel" "rows" "I") (List.mem_of_getElem? (i := 5) rfl)) (fun _ h9 => h9) rfl dX6_answer_45 ?_
      refine lv_icmp_ge (tgt := 61) hx hb dX6_answer_48 (by decide) (fun c32 => ?_) (fun c32 => ?_)
      · have hf := pr_pos hf c32
        refine lv_lconst (v := 0) hx hb dX6_answer_61 (by decide) ?_
        obtain rfl := Option.some.inj hf
        exact hret _ _ _ _ dX6_answer_62 (hP.sub [0, 1, 2, 3, 4] rfl) (hD.sub [0, 1, 2, 3, 4] (by decide) rfl) hS
      · have hf := pr_neg hf c32
        refine lv_aload_n hx hb dX6_answer_51 rfl (lv_at hl 1 rfl) ?_
        refine va_get (D := D) (ci := 6) (v := .ref q_mv) (C := RX6) (T := TX6) (N := 15) hx hb hts hin6 hown hK hP 0 rfl rfl 2 (by decide) (hts (.fieldLink RX6 9 "ColumnChooserModel" "values" "[I") (List.mem_of_getElem? (i := 6) rfl)) (fun _ h9 => h9) rfl dX6_answer_52 ?_
        refine lv_iload_n hx hb dX6_answer_55 rfl (lv_at hl 0 rfl) ?_
        obtain ⟨v33, hv33, hf⟩ := pr_bd hf
        refine fr_rd hx hb hK hP 1 0 rfl rfl hv33 dX6_answer_56 ?_
        refine lv_i2l hx hb dX6_answer_57 rfl ?_
        refine lv_goto (tgt := 62) hx hb dX6_answer_58 (by decide) ?_
        obtain rfl := Option.some.inj hf
        exact hret _ _ _ _ dX6_answer_62 (hP.sub [0, 1, 2, 3, 4] rfl) (hD.sub [0, 1, 2, 3, 4] (by decide) rfl) hS
  · have hf := pr_pos hf c28
    refine lv_aload_n hx hb dX6_answer_20 rfl (lv_at hl 0 rfl) ?_
    refine lv_iconst (v := 1) hx hb dX6_answer_21 (by decide) ?_
    obtain ⟨u34, hu34, hf⟩ := pr_bd hf
    refine fr_iV (As := [.int 1]) ⟨hx, hb, hml, hown, hts⟩ hK hP hD hS hA (c_X6_fail l D cI q_mo q_mv q_me q_mk q_ma q_mb q_mw q_mx n 1 0 mo_rows mo_size mo_price mo_queries mo_start mo_many mo_bits u34 hu34) (cwV 1 hts gX6_answer_X6_fail rfl rfl rfl (by decide +kernel) ⟨Nat.le_of_ble_eq_true rfl, Nat.le_of_ble_eq_true rfl⟩) [(q_mv, .inl (cI, 96, .inl mv)), (q_mk, .inl (cI, 20, .inl mk)), (q_ma, .inl (cI, 20, .inl ma)), (q_mb, .inl (cI, 20, .inl mb))] [0] [1, 2, 3, 4] rfl rfl (by decide) (by decide) (by decide) 0 rfl rfl rfl rfl hl.1 (Nat.le_of_ble_eq_true rfl) dX6_answer_22 ⟨Nat.zero_le _, Nat.zero_le _⟩ rfl (fun H locs hP hD hS => ?_)
    have hP : va_P D vwCl [(q_mv, .inl (cI, 96, .inl mv)), (q_mk, .inl (cI, 20, .inl mk)), (q_ma, .inl (cI, 20, .inl ma)), (q_mb, .inl (cI, 20, .inl mb)), (q_mo, .inr (6, [.int u34.2, .int mo_rows, .ref q_mv, .int mo_size, .ref q_me, .int mo_price, .int mo_queries, .ref q_mk, .ref q_ma, .ref q_mb, .ref q_mw, .int mo_start, .int mo_many, .int mo_bits, .ref q_mx]))] H := hP
    have hD : va_D A [(q_mv, .inl (cI, 96, .inl mv)), (q_mk, .inl (cI, 20, .inl mk)), (q_ma, .inl (cI, 20, .inl ma)), (q_mb, .inl (cI, 20, .inl mb)), (q_mo, .inr (6, [.int u34.2, .int mo_rows, .ref q_mv, .int mo_size, .ref q_me, .int mo_price, .int mo_queries, .ref q_mk, .ref q_ma, .ref q_mb, .ref q_mw, .int mo_start, .int mo_many, .int mo_bits, .ref q_mx]))] := hD
    refine lv_i2l hx hb dX6_answer_25 rfl ?_
    obtain rfl := Option.some.inj hf
    exact hret _ _ _ _ dX6_answer_26 (hP.sub [4, 0, 1, 2, 3] rfl) (hD.sub [4, 0, 1, 2, 3] (by decide) rfl) hS
set_option maxHeartbeats 4000000 in
set_option maxRecDepth 100000 in
theorem c_X6_choose (l : Launch) (D : va_G) (cI : ClassId) (q_mo q_mv q_me q_mk q_ma q_mb q_mw q_mx : Nat) (n : Nat) (x1 : Int32) (x2 : Int32) (mo_thrown : Int32) (mo_rows : Int32) (mo_size : Int32) (mo_price : Int32) (mo_queries : Int32) (mo_start : Int32) (mo_many : Int32) (mo_bits : Int32) (res : Int32 × Int32) (hf : f_X6_choose n x1 x2 mo_rows mo_start mo_many = some res) : fr_Cv l yX6_choose wsX6_choose ({ frames := 1, cells := 0, slots := 0, locals := 21 }) D [(cI, .int)] [.ref q_mo, .int x1, .int x2] [(q_mo, .inr (6, [.int mo_thrown, .int mo_rows, .ref q_mv, .int mo_size, .ref q_me, .int mo_price, .int mo_queries, .ref q_mk, .ref q_ma, .ref q_mb, .ref q_mw, .int mo_start, .int mo_many, .int mo_bits, .ref q_mx]))] [(q_mo, .inr (6, [.int mo_thrown, .int mo_rows, .ref q_mv, .int mo_size, .ref q_me, .int mo_price, .int mo_queries, .ref q_mk, .ref q_ma, .ref q_mb, .ref q_mw, .int res.1, .int res.2, .int mo_bits, .ref q_mx]))] := by
  refine fr_open_v (cc := cX6_choose) (maxL := 3) (by decide +kernel) rfl (Nat.le_of_ble_eq_true rfl) ?_
  intro p e s m below meth c A Q ls hx hb hml hown hts hA hK hP hD hS hl hret
  have hown : s.vm.findClass RX6 = some m.cls := hown
  have hl : lv_has ls 3 [(0, .ref q_mo), (1, .int x1), (2, .int x2)] := hl
  have hin6 : ∀ w ∈ u_ws RX6 TX6 15, w ∈ wsX6_choose := fun _ h9 => List.mem_cons_of_mem _ (List.mem_append_right _ h9)
  unfold f_X6_choose at hf
  refine lv_aload_n hx hb dX6_choose_0 rfl (lv_at hl 0 rfl) ?_
  refine lv_iload_n hx hb dX6_choose_1 rfl (lv_at hl 1 rfl) ?_
  refine lv_iload_n hx hb dX6_choose_2 rfl (lv_at hl 2 rfl) ?_
  refine lv_imul hx hb dX6_choose_3 ?_
  refine va_put (D := D) (ci := 6) (v := .int (x1 * x2)) (ty := .int) (C := RX6) (T := TX6) (N := 15) hx hb hts hin6 tyX6 tyX6_ok nmX6 hown hK hP hD hS 0 rfl rfl 11 (by decide) (hts (.fieldLink RX6 68 "ColumnChooserModel" "start" "I") (List.mem_of_getElem? (i := 1) rfl)) (fun _ h9 => h9) rfl (by decide +kernel) rfl rfl (Nat.le_of_ble_eq_true rfl) dX6_choose_4 (fun H locs hP hD hS => ?_)
  have hP : va_P D vwCl [(q_mo, .inr (6, [.int mo_thrown, .int mo_rows, .ref q_mv, .int mo_size, .ref q_me, .int mo_price, .int mo_queries, .ref q_mk, .ref q_ma, .ref q_mb, .ref q_mw, .int (x1 * x2), .int mo_many, .int mo_bits, .ref q_mx]))] H := hP
  have hD : va_D A [(q_mo, .inr (6, [.int mo_thrown, .int mo_rows, .ref q_mv, .int mo_size, .ref q_me, .int mo_price, .int mo_queries, .ref q_mk, .ref q_ma, .ref q_mb, .ref q_mw, .int (x1 * x2), .int mo_many, .int mo_bits, .ref q_mx]))] := hD
  refine lv_aload_n hx hb dX6_choose_7 rfl (lv_at hl 0 rfl) ?_
  refine lv_iload_n hx hb dX6_choose_8 rfl (lv_at hl 2 rfl) ?_
  refine lv_aload_n hx hb dX6_choose_9 rfl (lv_at hl 0 rfl) ?_
  refine va_get (D := D) (ci := 6) (v := .int mo_rows) (C := RX6) (T := TX6) (N := 15) hx hb hts hin6 hown hK hP 0 rfl rfl 1 (by decide) (hts (.fieldLink RX6 47 "ColumnChooserModel" "rows" "I") (List.mem_of_getElem? (i := 2) rfl)) (fun _ h9 => h9) rfl dX6_choose_10 ?_
  refine lv_aload_n hx hb dX6_choose_13 rfl (lv_at hl 0 rfl) ?_
  refine va_get (D := D) (ci := 6) (v := .int (x1 * x2)) (C := RX6) (T := TX6) (N := 15) hx hb hts hin6 hown hK hP 0 rfl rfl 11 (by decide) (hts (.fieldLink RX6 68 "ColumnChooserModel" "start" "I") (List.mem_of_getElem? (i := 1) rfl)) (fun _ h9 => h9) rfl dX6_choose_14 ?_
  refine lv_isub hx hb dX6_choose_17 ?_
  refine va_mmin hx hb (hml.trans hl.1.symm) hown (hts (.methodLink RX6 71 Lib.Math.min.name) (List.mem_of_getElem? (i := 3) rfl)) (hts (.static Lib.Math.min.name) (List.mem_of_getElem? (i := 4) rfl)) (hts (.initialized "java/lang/Math") (List.mem_of_getElem? (i := 5) rfl)) (hts (.code Lib.Math.min.name Lib.Math.min.code 2 (some .int)) (List.mem_of_getElem? (i := 6) rfl)) (Nat.le_of_ble_eq_true rfl) (Nat.le_of_ble_eq_true rfl) (Nat.zero_le _) (Nat.zero_le _) dX6_choose_18 ?_
  refine va_put (D := D) (ci := 6) (v := .int (if (mo_rows - (x1 * x2)) < x2 then (mo_rows - (x1 * x2)) else x2)) (ty := .int) (C := RX6) (T := TX6) (N := 15) hx hb hts hin6 tyX6 tyX6_ok nmX6 hown hK hP hD hS 0 rfl rfl 12 (by decide) (hts (.fieldLink RX6 77 "ColumnChooserModel" "many" "I") (List.mem_of_getElem? (i := 7) rfl)) (fun _ h9 => h9) rfl (by decide +kernel) rfl rfl (Nat.le_of_ble_eq_true rfl) dX6_choose_21 (fun H locs hP hD hS => ?_)
  have hP : va_P D vwCl [(q_mo, .inr (6, [.int mo_thrown, .int mo_rows, .ref q_mv, .int mo_size, .ref q_me, .int mo_price, .int mo_queries, .ref q_mk, .ref q_ma, .ref q_mb, .ref q_mw, .int (x1 * x2), .int (if (mo_rows - (x1 * x2)) < x2 then (mo_rows - (x1 * x2)) else x2), .int mo_bits, .ref q_mx]))] H := hP
  have hD : va_D A [(q_mo, .inr (6, [.int mo_thrown, .int mo_rows, .ref q_mv, .int mo_size, .ref q_me, .int mo_price, .int mo_queries, .ref q_mk, .ref q_ma, .ref q_mb, .ref q_mw, .int (x1 * x2), .int (if (mo_rows - (x1 * x2)) < x2 then (mo_rows - (x1 * x2)) else x2), .int mo_bits, .ref q_mx]))] := hD
  obtain rfl := Option.some.inj hf
  exact hret _ _ _ _ dX6_choose_24 (hP.sub [0] rfl) (hD.sub [0] (by decide) rfl) hS
set_option maxHeartbeats 4000000 in
set_option maxRecDepth 100000 in
theorem c_X6_at (l : Launch) (D : va_G) (cI : ClassId) (q_mo q_mv q_me q_mk q_ma q_mb q_mw q_mx : Nat) (n : Nat) (x1 : Int32) (mo_thrown : Int32) (mo_rows : Int32) (mo_size : Int32) (mo_price : Int32) (mo_queries : Int32) (mo_start : Int32) (mo_many : Int32) (mo_bits : Int32) (mv : (Nat → Int32)) (res : Int32) (hf : f_X6_at n x1 mo_start mv = some res) : fr_Ci l yX6_at wsX6_at ({ frames := 0, cells := 0, slots := 0, locals := 0 }) D [(cI, .int)] [.ref q_mo, .int x1] [(q_mo, .inr (6, [.int mo_thrown, .int mo_rows, .ref q_mv, .int mo_size, .ref q_me, .int mo_price, .int mo_queries, .ref q_mk, .ref q_ma, .ref q_mb, .ref q_mw, .int mo_start, .int mo_many, .int mo_bits, .ref q_mx])), (q_mv, .inl (cI, 96, .inl mv))] res [(q_mo, .inr (6, [.int mo_thrown, .int mo_rows, .ref q_mv, .int mo_size, .ref q_me, .int mo_price, .int mo_queries, .ref q_mk, .ref q_ma, .ref q_mb, .ref q_mw, .int mo_start, .int mo_many, .int mo_bits, .ref q_mx])), (q_mv, .inl (cI, 96, .inl mv))] := by
  refine fr_open_i (cc := cX6_at) (maxL := 2) (ret := some .int) (by decide +kernel) rfl (Nat.le_of_ble_eq_true rfl) ⟨.int, rfl, vp_nar_int _⟩ ?_
  intro p e s m below meth c A Q ls hx hb hml hown hts hA hK hP hD hS hl hret
  have hown : s.vm.findClass RX6 = some m.cls := hown
  have hl : lv_has ls 2 [(0, .ref q_mo), (1, .int x1)] := hl
  have hin6 : ∀ w ∈ u_ws RX6 TX6 15, w ∈ wsX6_at := fun _ h9 => List.mem_cons_of_mem _ (List.mem_append_right _ h9)
  unfold f_X6_at at hf
  refine lv_aload_n hx hb dX6_at_0 rfl (lv_at hl 0 rfl) ?_
  refine va_get (D := D) (ci := 6) (v := .ref q_mv) (C := RX6) (T := TX6) (N := 15) hx hb hts hin6 hown hK hP 0 rfl rfl 2 (by decide) (hts (.fieldLink RX6 9 "ColumnChooserModel" "values" "[I") (List.mem_of_getElem? (i := 1) rfl)) (fun _ h9 => h9) rfl dX6_at_1 ?_
  refine lv_aload_n hx hb dX6_at_4 rfl (lv_at hl 0 rfl) ?_
  refine va_get (D := D) (ci := 6) (v := .int mo_start) (C := RX6) (T := TX6) (N := 15) hx hb hts hin6 hown hK hP 0 rfl rfl 11 (by decide) (hts (.fieldLink RX6 68 "ColumnChooserModel" "start" "I") (List.mem_of_getElem? (i := 2) rfl)) (fun _ h9 => h9) rfl dX6_at_5 ?_
  refine lv_iload_n hx hb dX6_at_8 rfl (lv_at hl 1 rfl) ?_
  refine lv_iadd hx hb dX6_at_9 ?_
  obtain ⟨v2, hv2, hf⟩ := pr_bd hf
  refine fr_rd hx hb hK hP 1 0 rfl rfl hv2 dX6_at_10 ?_
  obtain rfl := Option.some.inj hf
  exact hret _ _ _ _ dX6_at_11 (hP.sub [0, 1] rfl) (hD.sub [0, 1] (by decide) rfl) hS
set_option maxHeartbeats 4000000 in
set_option maxRecDepth 100000 in
theorem c_X6_width (l : Launch) (D : va_G) (cI : ClassId) (n : Nat) (x0 : Int64) (res : Int32) (hf : f_X6_width n x0 = some res) : fr_Ci l yX6_width wsX6_width ({ frames := 0, cells := 0, slots := 0, locals := 0 }) D [(cI, .int)] [.long x0] [] res [] := by
  refine fr_open_i (cc := cX6_width) (maxL := 3) (ret := some .int) (by decide +kernel) rfl (Nat.le_of_ble_eq_true rfl) ⟨.int, rfl, vp_nar_int _⟩ ?_
  intro p e s m below meth c A Q ls hx hb hml hown hts hA hK hP hD hS hl hret
  have hown : s.vm.findClass RX6 = some m.cls := hown
  have hl : lv_has ls 3 [(0, .long x0)] := hl
  have k_2 : ∀ (n : Nat), (∀ (z0 : Int64) (z2 : Int32) (H : Heap) (locs : List Loc) (ls : Array Slot), f_X6_width_2 n z0 z2 = some res → va_P D vwCl [] H → va_D A [] → va_S A s.heap H locs → lv_has ls 3 [(0, .long z0), (2, .int z2)] → W p l e ({ frames := 0, cells := 0, slots := 0, locals := 0 }) s m ([.long x0] : List Value).toArray below meth c H locs 0 0 Q (F0 m 2 ls [])) := by
    intro n
    induction n with
    | zero =>
      intro z0 z2 H locs ls hf hP hD hS hl
      exact absurd (show (none : Option (Int32)) = some res from hf) (by simp)
    | succ n ih =>
      intro z0 z2 H locs ls hf hP hD hS hl
      have hf : f_X6_width_2_s (f_X6_width_2 n) n z0 z2 = some res := hf
      unfold f_X6_width_2_s at hf
      refine lv_lload_n hx hb dX6_width_2 rfl (lv_at hl 0 rfl) ?_
      refine lv_iload_n hx hb dX6_width_3 rfl (lv_at hl 1 rfl) ?_
      refine lv_lshr hx hb dX6_width_4 rfl ?_
      refine lv_lconst (v := 0) hx hb dX6_width_5 (by decide) ?_
      refine W.lcmp hx hb dX6_width_6 ?_
      refine lv_if_le (tgt := 16) hx hb dX6_width_7 (by decide) (fun c2 => ?_) (fun c2 => ?_)
      · have hf := pr_pos hf c2
        refine lv_iload_n hx hb dX6_width_16 rfl (lv_at hl 1 rfl) ?_
        obtain rfl := Option.some.inj hf
        exact hret _ _ _ _ dX6_width_17 (hP.sub [] rfl) (hD.sub [] (by decide) rfl) hS
      · have hf := pr_neg hf c2
        refine lv_iinc (v := (z2 + 1)) (lv' := [(2, .int (z2 + 1)), (0, .long z0)]) hx hb dX6_width_10 hl (k := 1) rfl rfl (by decide) rfl (fun ls hl => ?_)
        refine lv_goto (tgt := 2) hx hb dX6_width_13 (by decide) ?_
        exact ih _ _ _ _ ls hf (hP.sub [] rfl) (hD.sub [] (by decide) rfl) hS (lv_sub hl [1, 0] rfl)
  unfold f_X6_width at hf
  refine lv_iconst (v := 0) hx hb dX6_width_0 (by decide) ?_
  refine lv_istore_n (lv' := [(2, .int 0), (0, .long x0)]) hx hb dX6_width_1 rfl hl (by decide) rfl (fun ls hl => ?_)
  exact k_2 n _ _ _ _ ls hf (hP.sub [] rfl) (hD.sub [] (by decide) rfl) hS (lv_sub hl [1, 0] rfl)
set_option maxHeartbeats 4000000 in
set_option maxRecDepth 100000 in
theorem c_X6_least (l : Launch) (D : va_G) (cI : ClassId) (q_mo q_mv q_me q_mk q_ma q_mb q_mw q_mx : Nat) (n : Nat) (mo_thrown : Int32) (mo_rows : Int32) (mo_size : Int32) (mo_price : Int32) (mo_queries : Int32) (mo_start : Int32) (mo_many : Int32) (mo_bits : Int32) (mv : (Nat → Int32)) (res : Int32) (hf : f_X6_least n mo_start mo_many mv = some res) : fr_Ci l yX6_least wsX6_least ({ frames := 1, cells := 0, slots := 0, locals := 21 }) D [(cI, .int)] [.ref q_mo] [(q_mo, .inr (6, [.int mo_thrown, .int mo_rows, .ref q_mv, .int mo_size, .ref q_me, .int mo_price, .int mo_queries, .ref q_mk, .ref q_ma, .ref q_mb, .ref q_mw, .int mo_start, .int mo_many, .int mo_bits, .ref q_mx])), (q_mv, .inl (cI, 96, .inl mv))] res [(q_mo, .inr (6, [.int mo_thrown, .int mo_rows, .ref q_mv, .int mo_size, .ref q_me, .int mo_price, .int mo_queries, .ref q_mk, .ref q_ma, .ref q_mb, .ref q_mw, .int mo_start, .int mo_many, .int mo_bits, .ref q_mx])), (q_mv, .inl (cI, 96, .inl mv))] := by
  refine fr_open_i (cc := cX6_least) (maxL := 3) (ret := some .int) (by decide +kernel) rfl (Nat.le_of_ble_eq_true rfl) ⟨.int, rfl, vp_nar_int _⟩ ?_
  intro p e s m below meth c A Q ls hx hb hml hown hts hA hK hP hD hS hl hret
  have hown : s.vm.findClass RX6 = some m.cls := hown
  have hl : lv_has ls 3 [(0, .ref q_mo)] := hl
  have hin6 : ∀ w ∈ u_ws RX6 TX6 15, w ∈ wsX6_least := fun _ h9 => List.mem_cons_of_mem _ (List.mem_append_right _ h9)
  have k_8 : ∀ (n : Nat), (∀ (z1 : Int32) (z2 : Int32) (H : Heap) (locs : List Loc) (ls : Array Slot), f_X6_least_8 n z1 z2 mo_start mo_many mv = some res → va_P D vwCl [(q_mo, .inr (6, [.int mo_thrown, .int mo_rows, .ref q_mv, .int mo_size, .ref q_me, .int mo_price, .int mo_queries, .ref q_mk, .ref q_ma, .ref q_mb, .ref q_mw, .int mo_start, .int mo_many, .int mo_bits, .ref q_mx])), (q_mv, .inl (cI, 96, .inl mv))] H → va_D A [(q_mo, .inr (6, [.int mo_thrown, .int mo_rows, .ref q_mv, .int mo_size, .ref q_me, .int mo_price, .int mo_queries, .ref q_mk, .ref q_ma, .ref q_mb, .ref q_mw, .int mo_start, .int mo_many, .int mo_bits, .ref q_mx])), (q_mv, .inl (cI, 96, .inl mv))] → va_S A s.heap H locs → lv_has ls 3 [(0, .ref q_mo), (1, .int z1), (2, .int z2)] → W p l e ({ frames := 1, cells := 0, slots := 0, locals := 21 }) s m ([.ref q_mo] : List Value).toArray below meth c H locs 0 0 Q (F0 m 8 ls [])) := by
    intro n
    induction n with
    | zero =>
      intro z1 z2 H locs ls hf hP hD hS hl
      exact absurd (show (none : Option (Int32)) = some res from hf) (by simp)
    | succ n ih =>
      intro z1 z2 H locs ls hf hP hD hS hl
      have hf : f_X6_least_8_s (f_X6_least_8 n) n z1 z2 mo_start mo_many mv = some res := hf
      unfold f_X6_least_8_s at hf
      refine lv_iload_n hx hb dX6_least_8 rfl (lv_at hl 2 rfl) ?_
      refine lv_aload_n hx hb dX6_least_9 rfl (lv_at hl 0 rfl) ?_
      refine va_get (D := D) (ci := 6) (v := .int mo_many) (C := RX6) (T := TX6) (N := 15) hx hb hts hin6 hown hK hP 0 rfl rfl 12 (by decide) (hts (.fieldLink RX6 77 "ColumnChooserModel" "many" "I") (List.mem_of_getElem? (i := 1) rfl)) (fun _ h9 => h9) rfl dX6_least_10 ?_
      refine lv_icmp_ge (tgt := 32) hx hb dX6_least_13 (by decide) (fun c4 => ?_) (fun c4 => ?_)
      · have hf := pr_pos hf c4
        refine lv_iload_n hx hb dX6_least_32 rfl (lv_at hl 1 rfl) ?_
        obtain rfl := Option.some.inj hf
        exact hret _ _ _ _ dX6_least_33 (hP.sub [0, 1] rfl) (hD.sub [0, 1] (by decide) rfl) hS
      · have hf := pr_neg hf c4
        refine lv_iload_n hx hb dX6_least_16 rfl (lv_at hl 1 rfl) ?_
        refine lv_aload_n hx hb dX6_least_17 rfl (lv_at hl 0 rfl) ?_
        refine lv_iload_n hx hb dX6_least_18 rfl (lv_at hl 2 rfl) ?_
        obtain ⟨u5, hu5, hf⟩ := pr_bd hf
        refine fr_iV (As := [.int z2]) ⟨hx, hb, hml, hown, hts⟩ hK hP hD hS hA (c_X6_at l D cI q_mo q_mv q_me q_mk q_ma q_mb q_mw q_mx n z2 mo_thrown mo_rows mo_size mo_price mo_queries mo_start mo_many mo_bits mv u5 hu5) (cwV 1 hts gX6_least_X6_at rfl rfl rfl (by decide +kernel) ⟨Nat.le_of_ble_eq_true rfl, Nat.le_of_ble_eq_true rfl⟩) [] [0, 1] [] rfl rfl (by decide) (by decide) (by decide) 0 rfl rfl rfl rfl hl.1 (Nat.le_of_ble_eq_true rfl) dX6_least_19 ⟨Nat.zero_le _, Nat.zero_le _⟩ rfl (fun H locs hP hD hS => ?_)
        have hP : va_P D vwCl [(q_mo, .inr (6, [.int mo_thrown, .int mo_rows, .ref q_mv, .int mo_size, .ref q_me, .int mo_price, .int mo_queries, .ref q_mk, .ref q_ma, .ref q_mb, .ref q_mw, .int mo_start, .int mo_many, .int mo_bits, .ref q_mx])), (q_mv, .inl (cI, 96, .inl mv))] H := hP
        have hD : va_D A [(q_mo, .inr (6, [.int mo_thrown, .int mo_rows, .ref q_mv, .int mo_size, .ref q_me, .int mo_price, .int mo_queries, .ref q_mk, .ref q_ma, .ref q_mb, .ref q_mw, .int mo_start, .int mo_many, .int mo_bits, .ref q_mx])), (q_mv, .inl (cI, 96, .inl mv))] := hD
        refine va_mmin hx hb (hml.trans hl.1.symm) hown (hts (.methodLink RX6 71 Lib.Math.min.name) (List.mem_of_getElem? (i := 2) rfl)) (hts (.static Lib.Math.min.name) (List.mem_of_getElem? (i := 3) rfl)) (hts (.initialized "java/lang/Math") (List.mem_of_getElem? (i := 4) rfl)) (hts (.code Lib.Math.min.name Lib.Math.min.code 2 (some .int)) (List.mem_of_getElem? (i := 5) rfl)) (Nat.le_of_ble_eq_true rfl) (Nat.le_of_ble_eq_true rfl) (Nat.zero_le _) (Nat.zero_le _) dX6_least_22 ?_
        refine lv_istore_n (lv' := [(1, .int (if u5 < z1 then u5 else z1)), (0, .ref q_mo), (2, .int z2)]) hx hb dX6_least_25 rfl hl (by decide) rfl (fun ls hl => ?_)
        refine lv_iinc (v := (z2 + 1)) (lv' := [(2, .int (z2 + 1)), (1, .int (if u5 < z1 then u5 else z1)), (0, .ref q_mo)]) hx hb dX6_least_26 hl (k := 2) rfl rfl (by decide) rfl (fun ls hl => ?_)
        refine lv_goto (tgt := 8) hx hb dX6_least_29 (by decide) ?_
        exact ih _ _ _ _ ls hf (hP.sub [0, 1] rfl) (hD.sub [0, 1] (by decide) rfl) hS (lv_sub hl [2, 1, 0] rfl)
  unfold f_X6_least at hf
  refine lv_aload_n hx hb dX6_least_0 rfl (lv_at hl 0 rfl) ?_
  refine lv_iconst (v := 0) hx hb dX6_least_1 (by decide) ?_
  obtain ⟨u6, hu6, hf⟩ := pr_bd hf
  refine fr_iV (As := [.int 0]) ⟨hx, hb, hml, hown, hts⟩ hK hP hD hS hA (c_X6_at l D cI q_mo q_mv q_me q_mk q_ma q_mb q_mw q_mx n 0 mo_thrown mo_rows mo_size mo_price mo_queries mo_start mo_many mo_bits mv u6 hu6) (cwV 1 hts gX6_least_X6_at rfl rfl rfl (by decide +kernel) ⟨Nat.le_of_ble_eq_true rfl, Nat.le_of_ble_eq_true rfl⟩) [] [0, 1] [] rfl rfl (by decide) (by decide) (by decide) 0 rfl rfl rfl rfl hl.1 (Nat.le_of_ble_eq_true rfl) dX6_least_2 ⟨Nat.zero_le _, Nat.zero_le _⟩ rfl (fun H locs hP hD hS => ?_)
  have hP : va_P D vwCl [(q_mo, .inr (6, [.int mo_thrown, .int mo_rows, .ref q_mv, .int mo_size, .ref q_me, .int mo_price, .int mo_queries, .ref q_mk, .ref q_ma, .ref q_mb, .ref q_mw, .int mo_start, .int mo_many, .int mo_bits, .ref q_mx])), (q_mv, .inl (cI, 96, .inl mv))] H := hP
  have hD : va_D A [(q_mo, .inr (6, [.int mo_thrown, .int mo_rows, .ref q_mv, .int mo_size, .ref q_me, .int mo_price, .int mo_queries, .ref q_mk, .ref q_ma, .ref q_mb, .ref q_mw, .int mo_start, .int mo_many, .int mo_bits, .ref q_mx])), (q_mv, .inl (cI, 96, .inl mv))] := hD
  refine lv_istore_n (lv' := [(1, .int u6), (0, .ref q_mo)]) hx hb dX6_least_5 rfl hl (by decide) rfl (fun ls hl => ?_)
  refine lv_iconst (v := 1) hx hb dX6_least_6 (by decide) ?_
  refine lv_istore_n (lv' := [(2, .int 1), (1, .int u6), (0, .ref q_mo)]) hx hb dX6_least_7 rfl hl (by decide) rfl (fun ls hl => ?_)
  exact k_8 n _ _ _ _ ls hf (hP.sub [0, 1] rfl) (hD.sub [0, 1] (by decide) rfl) hS (lv_sub hl [2, 1, 0] rfl)
set_option maxHeartbeats 4000000 in
set_option maxRecDepth 100000 in
theorem c_X6_frameWidth (l : Launch) (D : va_G) (cI : ClassId) (q_mo q_mv q_me q_mk q_ma q_mb q_mw q_mx : Nat) (n : Nat) (mo_thrown : Int32) (mo_rows : Int32) (mo_size : Int32) (mo_price : Int32) (mo_queries : Int32) (mo_start : Int32) (mo_many : Int32) (mo_bits : Int32) (mv : (Nat → Int32)) (res : Int32) (hf : f_X6_frameWidth n mo_start mo_many mv = some res) : fr_Ci l yX6_frameWidth wsX6_frameWidth ({ frames := 2, cells := 0, slots := 0, locals := 43 }) D [(cI, .int)] [.ref q_mo] [(q_mo, .inr (6, [.int mo_thrown, .int mo_rows, .ref q_mv, .int mo_size, .ref q_me, .int mo_price, .int mo_queries, .ref q_mk, .ref q_ma, .ref q_mb, .ref q_mw, .int mo_start, .int mo_many, .int mo_bits, .ref q_mx])), (q_mv, .inl (cI, 96, .inl mv))] res [(q_mo, .inr (6, [.int mo_thrown, .int mo_rows, .ref q_mv, .int mo_size, .ref q_me, .int mo_price, .int mo_queries, .ref q_mk, .ref q_ma, .ref q_mb, .ref q_mw, .int mo_start, .int mo_many, .int mo_bits, .ref q_mx])), (q_mv, .inl (cI, 96, .inl mv))] := by
  refine fr_open_i (cc := cX6_frameWidth) (maxL := 3) (ret := some .int) (by decide +kernel) rfl (Nat.le_of_ble_eq_true rfl) ⟨.int, rfl, vp_nar_int _⟩ ?_
  intro p e s m below meth c A Q ls hx hb hml hown hts hA hK hP hD hS hl hret
  have hown : s.vm.findClass RX6 = some m.cls := hown
  have hl : lv_has ls 3 [(0, .ref q_mo)] := hl
  have hin6 : ∀ w ∈ u_ws RX6 TX6 15, w ∈ wsX6_frameWidth := fun _ h9 => List.mem_cons_of_mem _ (List.mem_append_right _ h9)
  have k_8 : ∀ (n : Nat), (∀ (z1 : Int32) (z2 : Int32) (H : Heap) (locs : List Loc) (ls : Array Slot), f_X6_frameWidth_8 n z1 z2 mo_start mo_many mv = some res → va_P D vwCl [(q_mo, .inr (6, [.int mo_thrown, .int mo_rows, .ref q_mv, .int mo_size, .ref q_me, .int mo_price, .int mo_queries, .ref q_mk, .ref q_ma, .ref q_mb, .ref q_mw, .int mo_start, .int mo_many, .int mo_bits, .ref q_mx])), (q_mv, .inl (cI, 96, .inl mv))] H → va_D A [(q_mo, .inr (6, [.int mo_thrown, .int mo_rows, .ref q_mv, .int mo_size, .ref q_me, .int mo_price, .int mo_queries, .ref q_mk, .ref q_ma, .ref q_mb, .ref q_mw, .int mo_start, .int mo_many, .int mo_bits, .ref q_mx])), (q_mv, .inl (cI, 96, .inl mv))] → va_S A s.heap H locs → lv_has ls 3 [(0, .ref q_mo), (1, .int z1), (2, .int z2)] → W p l e ({ frames := 2, cells := 0, slots := 0, locals := 43 }) s m ([.ref q_mo] : List Value).toArray below meth c H locs 0 0 Q (F0 m 8 ls [])) := by
    intro n
    induction n with
    | zero =>
      intro z1 z2 H locs ls hf hP hD hS hl
      exact absurd (show (none : Option (Int32)) = some res from hf) (by simp)
    | succ n ih =>
      intro z1 z2 H locs ls hf hP hD hS hl
      have hf : f_X6_frameWidth_8_s (f_X6_frameWidth_8 n) n z1 z2 mo_start mo_many mv = some res := hf
      unfold f_X6_frameWidth_8_s at hf
      refine lv_iload_n hx hb dX6_frameWidth_8 rfl (lv_at hl 2 rfl) ?_
      refine lv_aload_n hx hb dX6_frameWidth_9 rfl (lv_at hl 0 rfl) ?_
      refine va_get (D := D) (ci := 6) (v := .int mo_many) (C := RX6) (T := TX6) (N := 15) hx hb hts hin6 hown hK hP 0 rfl rfl 12 (by decide) (hts (.fieldLink RX6 77 "ColumnChooserModel" "many" "I") (List.mem_of_getElem? (i := 1) rfl)) (fun _ h9 => h9) rfl dX6_frameWidth_10 ?_
      refine lv_icmp_ge (tgt := 32) hx hb dX6_frameWidth_13 (by decide) (fun c6 => ?_) (fun c6 => ?_)
      · have hf := pr_pos hf c6
        refine lv_iload_n hx hb dX6_frameWidth_32 rfl (lv_at hl 1 rfl) ?_
        refine lv_aload_n hx hb dX6_frameWidth_33 rfl (lv_at hl 0 rfl) ?_
        obtain ⟨u7, hu7, hf⟩ := pr_bd hf
        refine fr_iV (As := []) ⟨hx, hb, hml, hown, hts⟩ hK hP hD hS hA (c_X6_least l D cI q_mo q_mv q_me q_mk q_ma q_mb q_mw q_mx n mo_thrown mo_rows mo_size mo_price mo_queries mo_start mo_many mo_bits mv u7 hu7) (cwV 0 hts gX6_frameWidth_X6_least rfl rfl rfl (by decide +kernel) ⟨Nat.le_of_ble_eq_true rfl, Nat.le_of_ble_eq_true rfl⟩) [] [0, 1] [] rfl rfl (by decide) (by decide) (by decide) 0 rfl rfl rfl rfl hl.1 (Nat.le_of_ble_eq_true rfl) dX6_frameWidth_34 ⟨Nat.zero_le _, Nat.zero_le _⟩ rfl (fun H locs hP hD hS => ?_)
        have hP : va_P D vwCl [(q_mo, .inr (6, [.int mo_thrown, .int mo_rows, .ref q_mv, .int mo_size, .ref q_me, .int mo_price, .int mo_queries, .ref q_mk, .ref q_ma, .ref q_mb, .ref q_mw, .int mo_start, .int mo_many, .int mo_bits, .ref q_mx])), (q_mv, .inl (cI, 96, .inl mv))] H := hP
        have hD : va_D A [(q_mo, .inr (6, [.int mo_thrown, .int mo_rows, .ref q_mv, .int mo_size, .ref q_me, .int mo_price, .int mo_queries, .ref q_mk, .ref q_ma, .ref q_mb, .ref q_mw, .int mo_start, .int mo_many, .int mo_bits, .ref q_mx])), (q_mv, .inl (cI, 96, .inl mv))] := hD
        refine lv_isub hx hb dX6_frameWidth_37 ?_
        refine lv_i2l hx hb dX6_frameWidth_38 rfl ?_
        obtain ⟨u8, hu8, hf⟩ := pr_bd hf
        refine fr_iS (As := [.long (z1 - u7).toInt64]) ⟨hx, hb, hml, hown, hts⟩ hK hP hD hS hA (c_X6_width l D cI n ((z1 - u7).toInt64) u8 hu8) (va_cwS 1 hts gX6_frameWidth_X6_width rfl rfl rfl (by decide +kernel) ⟨Nat.le_of_ble_eq_true rfl, Nat.le_of_ble_eq_true rfl⟩) [(q_mo, .inr (6, [.int mo_thrown, .int mo_rows, .ref q_mv, .int mo_size, .ref q_me, .int mo_price, .int mo_queries, .ref q_mk, .ref q_ma, .ref q_mb, .ref q_mw, .int mo_start, .int mo_many, .int mo_bits, .ref q_mx])), (q_mv, .inl (cI, 96, .inl mv))] [] [0, 1] rfl rfl (by decide) (by decide) (by decide) rfl hl.1 (Nat.le_of_ble_eq_true rfl) dX6_frameWidth_39 ⟨Nat.zero_le _, Nat.zero_le _⟩ rfl (fun H locs hP hD hS => ?_)
        have hP : va_P D vwCl [(q_mo, .inr (6, [.int mo_thrown, .int mo_rows, .ref q_mv, .int mo_size, .ref q_me, .int mo_price, .int mo_queries, .ref q_mk, .ref q_ma, .ref q_mb, .ref q_mw, .int mo_start, .int mo_many, .int mo_bits, .ref q_mx])), (q_mv, .inl (cI, 96, .inl mv))] H := hP
        have hD : va_D A [(q_mo, .inr (6, [.int mo_thrown, .int mo_rows, .ref q_mv, .int mo_size, .ref q_me, .int mo_price, .int mo_queries, .ref q_mk, .ref q_ma, .ref q_mb, .ref q_mw, .int mo_start, .int mo_many, .int mo_bits, .ref q_mx])), (q_mv, .inl (cI, 96, .inl mv))] := hD
        obtain rfl := Option.some.inj hf
        exact hret _ _ _ _ dX6_frameWidth_42 (hP.sub [0, 1] rfl) (hD.sub [0, 1] (by decide) rfl) hS
      · have hf := pr_neg hf c6
        refine lv_iload_n hx hb dX6_frameWidth_16 rfl (lv_at hl 1 rfl) ?_
        refine lv_aload_n hx hb dX6_frameWidth_17 rfl (lv_at hl 0 rfl) ?_
        refine lv_iload_n hx hb dX6_frameWidth_18 rfl (lv_at hl 2 rfl) ?_
        obtain ⟨u9, hu9, hf⟩ := pr_bd hf
        refine fr_iV (As := [.int z2]) ⟨hx, hb, hml, hown, hts⟩ hK hP hD hS hA (c_X6_at l D cI q_mo q_mv q_me q_mk q_ma q_mb q_mw q_mx n z2 mo_thrown mo_rows mo_size mo_price mo_queries mo_start mo_many mo_bits mv u9 hu9) (cwV 1 hts gX6_frameWidth_X6_at rfl rfl rfl (by decide +kernel) ⟨Nat.le_of_ble_eq_true rfl, Nat.le_of_ble_eq_true rfl⟩) [] [0, 1] [] rfl rfl (by decide) (by decide) (by decide) 0 rfl rfl rfl rfl hl.1 (Nat.le_of_ble_eq_true rfl) dX6_frameWidth_19 ⟨Nat.zero_le _, Nat.zero_le _⟩ rfl (fun H locs hP hD hS => ?_)
        have hP : va_P D vwCl [(q_mo, .inr (6, [.int mo_thrown, .int mo_rows, .ref q_mv, .int mo_size, .ref q_me, .int mo_price, .int mo_queries, .ref q_mk, .ref q_ma, .ref q_mb, .ref q_mw, .int mo_start, .int mo_many, .int mo_bits, .ref q_mx])), (q_mv, .inl (cI, 96, .inl mv))] H := hP
        have hD : va_D A [(q_mo, .inr (6, [.int mo_thrown, .int mo_rows, .ref q_mv, .int mo_size, .ref q_me, .int mo_price, .int mo_queries, .ref q_mk, .ref q_ma, .ref q_mb, .ref q_mw, .int mo_start, .int mo_many, .int mo_bits, .ref q_mx])), (q_mv, .inl (cI, 96, .inl mv))] := hD
        refine va_mmax hx hb (hml.trans hl.1.symm) hown (hts (.methodLink RX6 83 Lib.Math.max.name) (List.mem_of_getElem? (i := 2) rfl)) (hts (.static Lib.Math.max.name) (List.mem_of_getElem? (i := 3) rfl)) (hts (.initialized "java/lang/Math") (List.mem_of_getElem? (i := 4) rfl)) (hts (.code Lib.Math.max.name Lib.Math.max.code 2 (some .int)) (List.mem_of_getElem? (i := 5) rfl)) (Nat.le_of_ble_eq_true rfl) (Nat.le_of_ble_eq_true rfl) (Nat.zero_le _) (Nat.zero_le _) dX6_frameWidth_22 ?_
        refine lv_istore_n (lv' := [(1, .int (if z1 < u9 then u9 else z1)), (0, .ref q_mo), (2, .int z2)]) hx hb dX6_frameWidth_25 rfl hl (by decide) rfl (fun ls hl => ?_)
        refine lv_iinc (v := (z2 + 1)) (lv' := [(2, .int (z2 + 1)), (1, .int (if z1 < u9 then u9 else z1)), (0, .ref q_mo)]) hx hb dX6_frameWidth_26 hl (k := 2) rfl rfl (by decide) rfl (fun ls hl => ?_)
        refine lv_goto (tgt := 8) hx hb dX6_frameWidth_29 (by decide) ?_
        exact ih _ _ _ _ ls hf (hP.sub [0, 1] rfl) (hD.sub [0, 1] (by decide) rfl) hS (lv_sub hl [2, 1, 0] rfl)
  unfold f_X6_frameWidth at hf
  refine lv_aload_n hx hb dX6_frameWidth_0 rfl (lv_at hl 0 rfl) ?_
  refine lv_iconst (v := 0) hx hb dX6_frameWidth_1 (by decide) ?_
  obtain ⟨u10, hu10, hf⟩ := pr_bd hf
  refine fr_iV (As := [.int 0]) ⟨hx, hb, hml, hown, hts⟩ hK hP hD hS hA (c_X6_at l D cI q_mo q_mv q_me q_mk q_ma q_mb q_mw q_mx n 0 mo_thrown mo_rows mo_size mo_price mo_queries mo_start mo_many mo_bits mv u10 hu10) (cwV 1 hts gX6_frameWidth_X6_at rfl rfl rfl (by decide +kernel) ⟨Nat.le_of_ble_eq_true rfl, Nat.le_of_ble_eq_true rfl⟩) [] [0, 1] [] rfl rfl (by decide) (by decide) (by decide) 0 rfl rfl rfl rfl hl.1 (Nat.le_of_ble_eq_true rfl) dX6_frameWidth_2 ⟨Nat.zero_le _, Nat.zero_le _⟩ rfl (fun H locs hP hD hS => ?_)
  have hP : va_P D vwCl [(q_mo, .inr (6, [.int mo_thrown, .int mo_rows, .ref q_mv, .int mo_size, .ref q_me, .int mo_price, .int mo_queries, .ref q_mk, .ref q_ma, .ref q_mb, .ref q_mw, .int mo_start, .int mo_many, .int mo_bits, .ref q_mx])), (q_mv, .inl (cI, 96, .inl mv))] H := hP
  have hD : va_D A [(q_mo, .inr (6, [.int mo_thrown, .int mo_rows, .ref q_mv, .int mo_size, .ref q_me, .int mo_price, .int mo_queries, .ref q_mk, .ref q_ma, .ref q_mb, .ref q_mw, .int mo_start, .int mo_many, .int mo_bits, .ref q_mx])), (q_mv, .inl (cI, 96, .inl mv))] := hD
  refine lv_istore_n (lv' := [(1, .int u10), (0, .ref q_mo)]) hx hb dX6_frameWidth_5 rfl hl (by decide) rfl (fun ls hl => ?_)
  refine lv_iconst (v := 1) hx hb dX6_frameWidth_6 (by decide) ?_
  refine lv_istore_n (lv' := [(2, .int 1), (1, .int u10), (0, .ref q_mo)]) hx hb dX6_frameWidth_7 rfl hl (by decide) rfl (fun ls hl => ?_)
  exact k_8 n _ _ _ _ ls hf (hP.sub [0, 1] rfl) (hD.sub [0, 1] (by decide) rfl) hS (lv_sub hl [2, 1, 0] rfl)
set_option maxHeartbeats 4000000 in
set_option maxRecDepth 100000 in
theorem c_X6_folded (l : Launch) (D : va_G) (cI : ClassId) (n : Nat) (x0 : Int32) (res : Int32) (hf : f_X6_folded n x0 = some res) : fr_Ci l yX6_folded wsX6_folded ({ frames := 0, cells := 0, slots := 0, locals := 0 }) D [(cI, .int)] [.int x0] [] res [] := by
  refine fr_open_i (cc := cX6_folded) (maxL := 1) (ret := some .int) (by decide +kernel) rfl (Nat.le_of_ble_eq_true rfl) ⟨.int, rfl, vp_nar_int _⟩ ?_
  intro p e s m below meth c A Q ls hx hb hml hown hts hA hK hP hD hS hl hret
  have hown : s.vm.findClass RX6 = some m.cls := hown
  have hl : lv_has ls 1 [(0, .int x0)] := hl
  unfold f_X6_folded at hf
  refine lv_iload_n hx hb dX6_folded_0 rfl (lv_at hl 0 rfl) ?_
  refine lv_if_ge (tgt := 13) hx hb dX6_folded_1 (by decide) (fun c2 => ?_) (fun c2 => ?_)
  · have hf := pr_pos hf c2
    refine lv_iconst (v := 2) hx hb dX6_folded_13 (by decide) ?_
    refine lv_iload_n hx hb dX6_folded_14 rfl (lv_at hl 0 rfl) ?_
    refine lv_imul hx hb dX6_folded_15 ?_
    obtain rfl := Option.some.inj hf
    exact hret _ _ _ _ dX6_folded_16 (hP.sub [] rfl) (hD.sub [] (by decide) rfl) hS
  · have hf := pr_neg hf c2
    refine lv_bipush (v := -2) hx hb dX6_folded_4 (by decide) ?_
    refine lv_iload_n hx hb dX6_folded_6 rfl (lv_at hl 0 rfl) ?_
    refine lv_imul hx hb dX6_folded_7 ?_
    refine lv_iconst (v := 1) hx hb dX6_folded_8 (by decide) ?_
    refine lv_isub hx hb dX6_folded_9 ?_
    refine lv_goto (tgt := 16) hx hb dX6_folded_10 (by decide) ?_
    obtain rfl := Option.some.inj hf
    exact hret _ _ _ _ dX6_folded_16 (hP.sub [] rfl) (hD.sub [] (by decide) rfl) hS
set_option maxHeartbeats 4000000 in
set_option maxRecDepth 100000 in
theorem c_X6_deltaWidth (l : Launch) (D : va_G) (cI : ClassId) (q_mo q_mv q_me q_mk q_ma q_mb q_mw q_mx : Nat) (n : Nat) (mo_thrown : Int32) (mo_rows : Int32) (mo_size : Int32) (mo_price : Int32) (mo_queries : Int32) (mo_start : Int32) (mo_many : Int32) (mo_bits : Int32) (mv : (Nat → Int32)) (res : Int32) (hf : f_X6_deltaWidth n mo_start mo_many mv = some res) : fr_Ci l yX6_deltaWidth wsX6_deltaWidth ({ frames := 1, cells := 0, slots := 0, locals := 22 }) D [(cI, .int)] [.ref q_mo] [(q_mo, .inr (6, [.int mo_thrown, .int mo_rows, .ref q_mv, .int mo_size, .ref q_me, .int mo_price, .int mo_queries, .ref q_mk, .ref q_ma, .ref q_mb, .ref q_mw, .int mo_start, .int mo_many, .int mo_bits, .ref q_mx])), (q_mv, .inl (cI, 96, .inl mv))] res [(q_mo, .inr (6, [.int mo_thrown, .int mo_rows, .ref q_mv, .int mo_size, .ref q_me, .int mo_price, .int mo_queries, .ref q_mk, .ref q_ma, .ref q_mb, .ref q_mw, .int mo_start, .int mo_many, .int mo_bits, .ref q_mx])), (q_mv, .inl (cI, 96, .inl mv))] := by
  refine fr_open_i (cc := cX6_deltaWidth) (maxL := 3) (ret := some .int) (by decide +kernel) rfl (Nat.le_of_ble_eq_true rfl) ⟨.int, rfl, vp_nar_int _⟩ ?_
  intro p e s m below meth c A Q ls hx hb hml hown hts hA hK hP hD hS hl hret
  have hown : s.vm.findClass RX6 = some m.cls := hown
  have hl : lv_has ls 3 [(0, .ref q_mo)] := hl
  have hin6 : ∀ w ∈ u_ws RX6 TX6 15, w ∈ wsX6_deltaWidth := fun _ h9 => List.mem_cons_of_mem _ (List.mem_append_right _ h9)
  have k_4 : ∀ (n : Nat), (∀ (z1 : Int32) (z2 : Int32) (H : Heap) (locs : List Loc) (ls : Array Slot), f_X6_deltaWidth_4 n z1 z2 mo_start mo_many mv = some res → va_P D vwCl [(q_mo, .inr (6, [.int mo_thrown, .int mo_rows, .ref q_mv, .int mo_size, .ref q_me, .int mo_price, .int mo_queries, .ref q_mk, .ref q_ma, .ref q_mb, .ref q_mw, .int mo_start, .int mo_many, .int mo_bits, .ref q_mx])), (q_mv, .inl (cI, 96, .inl mv))] H → va_D A [(q_mo, .inr (6, [.int mo_thrown, .int mo_rows, .ref q_mv, .int mo_size, .ref q_me, .int mo_price, .int mo_queries, .ref q_mk, .ref q_ma, .ref q_mb, .ref q_mw, .int mo_start, .int mo_many, .int mo_bits, .ref q_mx])), (q_mv, .inl (cI, 96, .inl mv))] → va_S A s.heap H locs → lv_has ls 3 [(0, .ref q_mo), (1, .int z1), (2, .int z2)] → W p l e ({ frames := 1, cells := 0, slots := 0, locals := 22 }) s m ([.ref q_mo] : List Value).toArray below meth c H locs 0 0 Q (F0 m 4 ls [])) := by
    intro n
    induction n with
    | zero =>
      intro z1 z2 H locs ls hf hP hD hS hl
      exact absurd (show (none : Option (Int32)) = some res from hf) (by simp)
    | succ n ih =>
      intro z1 z2 H locs ls hf hP hD hS hl
      have hf : f_X6_deltaWidth_4_s (f_X6_deltaWidth_4 n) n z1 z2 mo_start mo_many mv = some res := hf
      unfold f_X6_deltaWidth_4_s at hf
      refine lv_iload_n hx hb dX6_deltaWidth_4 rfl (lv_at hl 2 rfl) ?_
      refine lv_aload_n hx hb dX6_deltaWidth_5 rfl (lv_at hl 0 rfl) ?_
      refine va_get (D := D) (ci := 6) (v := .int mo_many) (C := RX6) (T := TX6) (N := 15) hx hb hts hin6 hown hK hP 0 rfl rfl 12 (by decide) (hts (.fieldLink RX6 77 "ColumnChooserModel" "many" "I") (List.mem_of_getElem? (i := 1) rfl)) (fun _ h9 => h9) rfl dX6_deltaWidth_6 ?_
      refine lv_icmp_ge (tgt := 43) hx hb dX6_deltaWidth_9 (by decide) (fun c6 => ?_) (fun c6 => ?_)
      · have hf := pr_pos hf c6
        refine lv_iload_n hx hb dX6_deltaWidth_43 rfl (lv_at hl 1 rfl) ?_
        obtain rfl := Option.some.inj hf
        exact hret _ _ _ _ dX6_deltaWidth_44 (hP.sub [0, 1] rfl) (hD.sub [0, 1] (by decide) rfl) hS
      · have hf := pr_neg hf c6
        refine lv_iload_n hx hb dX6_deltaWidth_12 rfl (lv_at hl 1 rfl) ?_
        refine lv_aload_n hx hb dX6_deltaWidth_13 rfl (lv_at hl 0 rfl) ?_
        refine lv_iload_n hx hb dX6_deltaWidth_14 rfl (lv_at hl 2 rfl) ?_
        obtain ⟨u7, hu7, hf⟩ := pr_bd hf
        refine fr_iV (As := [.int z2]) ⟨hx, hb, hml, hown, hts⟩ hK hP hD hS hA (c_X6_at l D cI q_mo q_mv q_me q_mk q_ma q_mb q_mw q_mx n z2 mo_thrown mo_rows mo_size mo_price mo_queries mo_start mo_many mo_bits mv u7 hu7) (cwV 1 hts gX6_deltaWidth_X6_at rfl rfl rfl (by decide +kernel) ⟨Nat.le_of_ble_eq_true rfl, Nat.le_of_ble_eq_true rfl⟩) [] [0, 1] [] rfl rfl (by decide) (by decide) (by decide) 0 rfl rfl rfl rfl hl.1 (Nat.le_of_ble_eq_true rfl) dX6_deltaWidth_15 ⟨Nat.zero_le _, Nat.zero_le _⟩ rfl (fun H locs hP hD hS => ?_)
        have hP : va_P D vwCl [(q_mo, .inr (6, [.int mo_thrown, .int mo_rows, .ref q_mv, .int mo_size, .ref q_me, .int mo_price, .int mo_queries, .ref q_mk, .ref q_ma, .ref q_mb, .ref q_mw, .int mo_start, .int mo_many, .int mo_bits, .ref q_mx])), (q_mv, .inl (cI, 96, .inl mv))] H := hP
        have hD : va_D A [(q_mo, .inr (6, [.int mo_thrown, .int mo_rows, .ref q_mv, .int mo_size, .ref q_me, .int mo_price, .int mo_queries, .ref q_mk, .ref q_ma, .ref q_mb, .ref q_mw, .int mo_start, .int mo_many, .int mo_bits, .ref q_mx])), (q_mv, .inl (cI, 96, .inl mv))] := hD
        refine lv_aload_n hx hb dX6_deltaWidth_18 rfl (lv_at hl 0 rfl) ?_
        refine lv_iload_n hx hb dX6_deltaWidth_19 rfl (lv_at hl 2 rfl) ?_
        refine lv_iconst (v := 1) hx hb dX6_deltaWidth_20 (by decide) ?_
        refine lv_isub hx hb dX6_deltaWidth_21 ?_
        obtain ⟨u8, hu8, hf⟩ := pr_bd hf
        refine fr_iV (As := [.int (z2 - 1)]) ⟨hx, hb, hml, hown, hts⟩ hK hP hD hS hA (c_X6_at l D cI q_mo q_mv q_me q_mk q_ma q_mb q_mw q_mx n (z2 - 1) mo_thrown mo_rows mo_size mo_price mo_queries mo_start mo_many mo_bits mv u8 hu8) (cwV 1 hts gX6_deltaWidth_X6_at rfl rfl rfl (by decide +kernel) ⟨Nat.le_of_ble_eq_true rfl, Nat.le_of_ble_eq_true rfl⟩) [] [0, 1] [] rfl rfl (by decide) (by decide) (by decide) 0 rfl rfl rfl rfl hl.1 (Nat.le_of_ble_eq_true rfl) dX6_deltaWidth_22 ⟨Nat.zero_le _, Nat.zero_le _⟩ rfl (fun H locs hP hD hS => ?_)
        have hP : va_P D vwCl [(q_mo, .inr (6, [.int mo_thrown, .int mo_rows, .ref q_mv, .int mo_size, .ref q_me, .int mo_price, .int mo_queries, .ref q_mk, .ref q_ma, .ref q_mb, .ref q_mw, .int mo_start, .int mo_many, .int mo_bits, .ref q_mx])), (q_mv, .inl (cI, 96, .inl mv))] H := hP
        have hD : va_D A [(q_mo, .inr (6, [.int mo_thrown, .int mo_rows, .ref q_mv, .int mo_size, .ref q_me, .int mo_price, .int mo_queries, .ref q_mk, .ref q_ma, .ref q_mb, .ref q_mw, .int mo_start, .int mo_many, .int mo_bits, .ref q_mx])), (q_mv, .inl (cI, 96, .inl mv))] := hD
        refine lv_isub hx hb dX6_deltaWidth_25 ?_
        obtain ⟨u9, hu9, hf⟩ := pr_bd hf
        refine fr_iS (As := [.int (u7 - u8)]) ⟨hx, hb, hml, hown, hts⟩ hK hP hD hS hA (c_X6_folded l D cI n (u7 - u8) u9 hu9) (va_cwS 1 hts gX6_deltaWidth_X6_folded rfl rfl rfl (by decide +kernel) ⟨Nat.le_of_ble_eq_true rfl, Nat.le_of_ble_eq_true rfl⟩) [(q_mo, .inr (6, [.int mo_thrown, .int mo_rows, .ref q_mv, .int mo_size, .ref q_me, .int mo_price, .int mo_queries, .ref q_mk, .ref q_ma, .ref q_mb, .ref q_mw, .int mo_start, .int mo_many, .int mo_bits, .ref q_mx])), (q_mv, .inl (cI, 96, .inl mv))] [] [0, 1] rfl rfl (by decide) (by decide) (by decide) rfl hl.1 (Nat.le_of_ble_eq_true rfl) dX6_deltaWidth_26 ⟨Nat.zero_le _, Nat.zero_le _⟩ rfl (fun H locs hP hD hS => ?_)
        have hP : va_P D vwCl [(q_mo, .inr (6, [.int mo_thrown, .int mo_rows, .ref q_mv, .int mo_size, .ref q_me, .int mo_price, .int mo_queries, .ref q_mk, .ref q_ma, .ref q_mb, .ref q_mw, .int mo_start, .int mo_many, .int mo_bits, .ref q_mx])), (q_mv, .inl (cI, 96, .inl mv))] H := hP
        have hD : va_D A [(q_mo, .inr (6, [.int mo_thrown, .int mo_rows, .ref q_mv, .int mo_size, .ref q_me, .int mo_price, .int mo_queries, .ref q_mk, .ref q_ma, .ref q_mb, .ref q_mw, .int mo_start, .int mo_many, .int mo_bits, .ref q_mx])), (q_mv, .inl (cI, 96, .inl mv))] := hD
        refine lv_i2l hx hb dX6_deltaWidth_29 rfl ?_
        obtain ⟨u10, hu10, hf⟩ := pr_bd hf
        refine fr_iS (As := [.long u9.toInt64]) ⟨hx, hb, hml, hown, hts⟩ hK hP hD hS hA (c_X6_width l D cI n u9.toInt64 u10 hu10) (va_cwS 1 hts gX6_deltaWidth_X6_width rfl rfl rfl (by decide +kernel) ⟨Nat.le_of_ble_eq_true rfl, Nat.le_of_ble_eq_true rfl⟩) [(q_mo, .inr (6, [.int mo_thrown, .int mo_rows, .ref q_mv, .int mo_size, .ref q_me, .int mo_price, .int mo_queries, .ref q_mk, .ref q_ma, .ref q_mb, .ref q_mw, .int mo_start, .int mo_many, .int mo_bits, .ref q_mx])), (q_mv, .inl (cI, 96, .inl mv))] [] [0, 1] rfl rfl (by decide) (by decide) (by decide) rfl hl.1 (Nat.le_of_ble_eq_true rfl) dX6_deltaWidth_30 ⟨Nat.zero_le _, Nat.zero_le _⟩ rfl (fun H locs hP hD hS => ?_)
        have hP : va_P D vwCl [(q_mo, .inr (6, [.int mo_thrown, .int mo_rows, .ref q_mv, .int mo_size, .ref q_me, .int mo_price, .int mo_queries, .ref q_mk, .ref q_ma, .ref q_mb, .ref q_mw, .int mo_start, .int mo_many, .int mo_bits, .ref q_mx])), (q_mv, .inl (cI, 96, .inl mv))] H := hP
        have hD : va_D A [(q_mo, .inr (6, [.int mo_thrown, .int mo_rows, .ref q_mv, .int mo_size, .ref q_me, .int mo_price, .int mo_queries, .ref q_mk, .ref q_ma, .ref q_mb, .ref q_mw, .int mo_start, .int mo_many, .int mo_bits, .ref q_mx])), (q_mv, .inl (cI, 96, .inl mv))] := hD
        refine va_mmax hx hb (hml.trans hl.1.symm) hown (hts (.methodLink RX6 83 Lib.Math.max.name) (List.mem_of_getElem? (i := 2) rfl)) (hts (.static Lib.Math.max.name) (List.mem_of_getElem? (i := 3) rfl)) (hts (.initialized "java/lang/Math") (List.mem_of_getElem? (i := 4) rfl)) (hts (.code Lib.Math.max.name Lib.Math.max.code 2 (some .int)) (List.mem_of_getElem? (i := 5) rfl)) (Nat.le_of_ble_eq_true rfl) (Nat.le_of_ble_eq_true rfl) (Nat.zero_le _) (Nat.zero_le _) dX6_deltaWidth_33 ?_
        refine lv_istore_n (lv' := [(1, .int (if z1 < u10 then u10 else z1)), (0, .ref q_mo), (2, .int z2)]) hx hb dX6_deltaWidth_36 rfl hl (by decide) rfl (fun ls hl => ?_)
        refine lv_iinc (v := (z2 + 1)) (lv' := [(2, .int (z2 + 1)), (1, .int (if z1 < u10 then u10 else z1)), (0, .ref q_mo)]) hx hb dX6_deltaWidth_37 hl (k := 2) rfl rfl (by decide) rfl (fun ls hl => ?_)
        refine lv_goto (tgt := 4) hx hb dX6_deltaWidth_40 (by decide) ?_
        exact ih _ _ _ _ ls hf (hP.sub [0, 1] rfl) (hD.sub [0, 1] (by decide) rfl) hS (lv_sub hl [2, 1, 0] rfl)
  unfold f_X6_deltaWidth at hf
  refine lv_iconst (v := 0) hx hb dX6_deltaWidth_0 (by decide) ?_
  refine lv_istore_n (lv' := [(1, .int 0), (0, .ref q_mo)]) hx hb dX6_deltaWidth_1 rfl hl (by decide) rfl (fun ls hl => ?_)
  refine lv_iconst (v := 1) hx hb dX6_deltaWidth_2 (by decide) ?_
  refine lv_istore_n (lv' := [(2, .int 1), (1, .int 0), (0, .ref q_mo)]) hx hb dX6_deltaWidth_3 rfl hl (by decide) rfl (fun ls hl => ?_)
  exact k_4 n _ _ _ _ ls hf (hP.sub [0, 1] rfl) (hD.sub [0, 1] (by decide) rfl) hS (lv_sub hl [2, 1, 0] rfl)
set_option maxHeartbeats 4000000 in
set_option maxRecDepth 100000 in
theorem c_X6_isNewRun (l : Launch) (D : va_G) (cI : ClassId) (q_mo q_mv q_me q_mk q_ma q_mb q_mw q_mx : Nat) (n : Nat) (x1 : Int32) (mo_thrown : Int32) (mo_rows : Int32) (mo_size : Int32) (mo_price : Int32) (mo_queries : Int32) (mo_start : Int32) (mo_many : Int32) (mo_bits : Int32) (mv : (Nat → Int32)) (res : Bool) (hf : f_X6_isNewRun n x1 mo_start mv = some res) : fr_Ci l yX6_isNewRun wsX6_isNewRun ({ frames := 1, cells := 0, slots := 0, locals := 21 }) D [(cI, .int)] [.ref q_mo, .int x1] [(q_mo, .inr (6, [.int mo_thrown, .int mo_rows, .ref q_mv, .int mo_size, .ref q_me, .int mo_price, .int mo_queries, .ref q_mk, .ref q_ma, .ref q_mb, .ref q_mw, .int mo_start, .int mo_many, .int mo_bits, .ref q_mx])), (q_mv, .inl (cI, 96, .inl mv))] (pr_b res) [(q_mo, .inr (6, [.int mo_thrown, .int mo_rows, .ref q_mv, .int mo_size, .ref q_me, .int mo_price, .int mo_queries, .ref q_mk, .ref q_ma, .ref q_mb, .ref q_mw, .int mo_start, .int mo_many, .int mo_bits, .ref q_mx])), (q_mv, .inl (cI, 96, .inl mv))] := by
  refine fr_open_i (cc := cX6_isNewRun) (maxL := 2) (ret := some .boolean) (by decide +kernel) rfl (Nat.le_of_ble_eq_true rfl) ⟨.boolean, rfl, pr_b_n _⟩ ?_
  intro p e s m below meth c A Q ls hx hb hml hown hts hA hK hP hD hS hl hret
  have hown : s.vm.findClass RX6 = some m.cls := hown
  have hl : lv_has ls 2 [(0, .ref q_mo), (1, .int x1)] := hl
  unfold f_X6_isNewRun at hf
  refine lv_iload_n hx hb dX6_isNewRun_0 rfl (lv_at hl 1 rfl) ?_
  refine lv_if_eq (tgt := 19) hx hb dX6_isNewRun_1 (by decide) (fun c5 => ?_) (fun c5 => ?_)
  · have hf := pr_pos hf c5
    refine lv_iconst (v := 1) hx hb dX6_isNewRun_19 (by decide) ?_
    refine lv_goto (tgt := 24) hx hb dX6_isNewRun_20 (by decide) ?_
    obtain rfl := Option.some.inj hf
    exact hret _ _ _ _ dX6_isNewRun_24 (hP.sub [0, 1] rfl) (hD.sub [0, 1] (by decide) rfl) hS
  · have hf := pr_neg hf c5
    refine lv_aload_n hx hb dX6_isNewRun_4 rfl (lv_at hl 0 rfl) ?_
    refine lv_iload_n hx hb dX6_isNewRun_5 rfl (lv_at hl 1 rfl) ?_
    obtain ⟨u6, hu6, hf⟩ := pr_bd hf
    refine fr_iV (As := [.int x1]) ⟨hx, hb, hml, hown, hts⟩ hK hP hD hS hA (c_X6_at l D cI q_mo q_mv q_me q_mk q_ma q_mb q_mw q_mx n x1 mo_thrown mo_rows mo_size mo_price mo_queries mo_start mo_many mo_bits mv u6 hu6) (cwV 1 hts gX6_isNewRun_X6_at rfl rfl rfl (by decide +kernel) ⟨Nat.le_of_ble_eq_true rfl, Nat.le_of_ble_eq_true rfl⟩) [] [0, 1] [] rfl rfl (by decide) (by decide) (by decide) 0 rfl rfl rfl rfl hl.1 (Nat.le_of_ble_eq_true rfl) dX6_isNewRun_6 ⟨Nat.zero_le _, Nat.zero_le _⟩ rfl (fun H locs hP hD hS => ?_)
    have hP : va_P D vwCl [(q_mo, .inr (6, [.int mo_thrown, .int mo_rows, .ref q_mv, .int mo_size, .ref q_me, .int mo_price, .int mo_queries, .ref q_mk, .ref q_ma, .ref q_mb, .ref q_mw, .int mo_start, .int mo_many, .int mo_bits, .ref q_mx])), (q_mv, .inl (cI, 96, .inl mv))] H := hP
    have hD : va_D A [(q_mo, .inr (6, [.int mo_thrown, .int mo_rows, .ref q_mv, .int mo_size, .ref q_me, .int mo_price, .int mo_queries, .ref q_mk, .ref q_ma, .ref q_mb, .ref q_mw, .int mo_start, .int mo_many, .int mo_bits, .ref q_mx])), (q_mv, .inl (cI, 96, .inl mv))] := hD
    refine lv_aload_n hx hb dX6_isNewRun_9 rfl (lv_at hl 0 rfl) ?_
    refine lv_iload_n hx hb dX6_isNewRun_10 rfl (lv_at hl 1 rfl) ?_
    refine lv_iconst (v := 1) hx hb dX6_isNewRun_11 (by decide) ?_
    refine lv_isub hx hb dX6_isNewRun_12 ?_
    obtain ⟨u7, hu7, hf⟩ := pr_bd hf
    refine fr_iV (As := [.int (x1 - 1)]) ⟨hx, hb, hml, hown, hts⟩ hK hP hD hS hA (c_X6_at l D cI q_mo q_mv q_me q_mk q_ma q_mb q_mw q_mx n (x1 - 1) mo_thrown mo_rows mo_size mo_price mo_queries mo_start mo_many mo_bits mv u7 hu7) (cwV 1 hts gX6_isNewRun_X6_at rfl rfl rfl (by decide +kernel) ⟨Nat.le_of_ble_eq_true rfl, Nat.le_of_ble_eq_true rfl⟩) [] [0, 1] [] rfl rfl (by decide) (by decide) (by decide) 0 rfl rfl rfl rfl hl.1 (Nat.le_of_ble_eq_true rfl) dX6_isNewRun_13 ⟨Nat.zero_le _, Nat.zero_le _⟩ rfl (fun H locs hP hD hS => ?_)
    have hP : va_P D vwCl [(q_mo, .inr (6, [.int mo_thrown, .int mo_rows, .ref q_mv, .int mo_size, .ref q_me, .int mo_price, .int mo_queries, .ref q_mk, .ref q_ma, .ref q_mb, .ref q_mw, .int mo_start, .int mo_many, .int mo_bits, .ref q_mx])), (q_mv, .inl (cI, 96, .inl mv))] H := hP
    have hD : va_D A [(q_mo, .inr (6, [.int mo_thrown, .int mo_rows, .ref q_mv, .int mo_size, .ref q_me, .int mo_price, .int mo_queries, .ref q_mk, .ref q_ma, .ref q_mb, .ref q_mw, .int mo_start, .int mo_many, .int mo_bits, .ref q_mx])), (q_mv, .inl (cI, 96, .inl mv))] := hD
    refine lv_icmp_eq (tgt := 23) hx hb dX6_isNewRun_16 (by decide) (fun c8 => ?_) (fun c8 => ?_)
    · have hf := pr_pos hf c8
      refine lv_iconst (v := 0) hx hb dX6_isNewRun_23 (by decide) ?_
      obtain rfl := Option.some.inj hf
      exact hret _ _ _ _ dX6_isNewRun_24 (hP.sub [0, 1] rfl) (hD.sub [0, 1] (by decide) rfl) hS
    · have hf := pr_neg hf c8
      refine lv_iconst (v := 1) hx hb dX6_isNewRun_19 (by decide) ?_
      refine lv_goto (tgt := 24) hx hb dX6_isNewRun_20 (by decide) ?_
      obtain rfl := Option.some.inj hf
      exact hret _ _ _ _ dX6_isNewRun_24 (hP.sub [0, 1] rfl) (hD.sub [0, 1] (by decide) rfl) hS
set_option maxHeartbeats 4000000 in
set_option maxRecDepth 100000 in
theorem c_X6_runsTo (l : Launch) (D : va_G) (cI : ClassId) (q_mo q_mv q_me q_mk q_ma q_mb q_mw q_mx : Nat) (n : Nat) (x1 : Int32) (mo_thrown : Int32) (mo_rows : Int32) (mo_size : Int32) (mo_price : Int32) (mo_queries : Int32) (mo_start : Int32) (mo_many : Int32) (mo_bits : Int32) (mv : (Nat → Int32)) (res : Int32) (hf : f_X6_runsTo n x1 mo_start mv = some res) : fr_Ci l yX6_runsTo wsX6_runsTo ({ frames := 2, cells := 0, slots := 0, locals := 42 }) D [(cI, .int)] [.ref q_mo, .int x1] [(q_mo, .inr (6, [.int mo_thrown, .int mo_rows, .ref q_mv, .int mo_size, .ref q_me, .int mo_price, .int mo_queries, .ref q_mk, .ref q_ma, .ref q_mb, .ref q_mw, .int mo_start, .int mo_many, .int mo_bits, .ref q_mx])), (q_mv, .inl (cI, 96, .inl mv))] res [(q_mo, .inr (6, [.int mo_thrown, .int mo_rows, .ref q_mv, .int mo_size, .ref q_me, .int mo_price, .int mo_queries, .ref q_mk, .ref q_ma, .ref q_mb, .ref q_mw, .int mo_start, .int mo_many, .int mo_bits, .ref q_mx])), (q_mv, .inl (cI, 96, .inl mv))] := by
  refine fr_open_i (cc := cX6_runsTo) (maxL := 4) (ret := some .int) (by decide +kernel) rfl (Nat.le_of_ble_eq_true rfl) ⟨.int, rfl, vp_nar_int _⟩ ?_
  intro p e s m below meth c A Q ls hx hb hml hown hts hA hK hP hD hS hl hret
  have hown : s.vm.findClass RX6 = some m.cls := hown
  have hl : lv_has ls 4 [(0, .ref q_mo), (1, .int x1)] := hl
  have k_4 : ∀ (n : Nat), (∀ (z1 : Int32) (z2 : Int32) (z3 : Int32) (H : Heap) (locs : List Loc) (ls : Array Slot), f_X6_runsTo_4 n z1 z2 z3 mo_start mv = some res → va_P D vwCl [(q_mo, .inr (6, [.int mo_thrown, .int mo_rows, .ref q_mv, .int mo_size, .ref q_me, .int mo_price, .int mo_queries, .ref q_mk, .ref q_ma, .ref q_mb, .ref q_mw, .int mo_start, .int mo_many, .int mo_bits, .ref q_mx])), (q_mv, .inl (cI, 96, .inl mv))] H → va_D A [(q_mo, .inr (6, [.int mo_thrown, .int mo_rows, .ref q_mv, .int mo_size, .ref q_me, .int mo_price, .int mo_queries, .ref q_mk, .ref q_ma, .ref q_mb, .ref q_mw, .int mo_start, .int mo_many, .int mo_bits, .ref q_mx])), (q_mv, .inl (cI, 96, .inl mv))] → va_S A s.heap H locs → lv_has ls 4 [(0, .ref q_mo), (1, .int z1), (2, .int z2), (3, .int z3)] → W p l e ({ frames := 2, cells := 0, slots := 0, locals := 42 }) s m ([.ref q_mo, .int x1] : List Value).toArray below meth c H locs 0 0 Q (F0 m 4 ls [])) := by
    intro n
    induction n with
    | zero =>
      intro z1 z2 z3 H locs ls hf hP hD hS hl
      exact absurd (show (none : Option (Int32)) = some res from hf) (by simp)
    | succ n ih =>
      intro z1 z2 z3 H locs ls hf hP hD hS hl
      have hf : f_X6_runsTo_4_s (f_X6_runsTo_4 n) n z1 z2 z3 mo_start mv = some res := hf
      unfold f_X6_runsTo_4_s at hf
      refine lv_iload_n hx hb dX6_runsTo_4 rfl (lv_at hl 3 rfl) ?_
      refine lv_iload_n hx hb dX6_runsTo_5 rfl (lv_at hl 1 rfl) ?_
      refine lv_icmp_gt (tgt := 31) hx hb dX6_runsTo_6 (by decide) (fun c4 => ?_) (fun c4 => ?_)
      · have hf := pr_pos hf c4
        refine lv_iload_n hx hb dX6_runsTo_31 rfl (lv_at hl 2 rfl) ?_
        obtain rfl := Option.some.inj hf
        exact hret _ _ _ _ dX6_runsTo_32 (hP.sub [0, 1] rfl) (hD.sub [0, 1] (by decide) rfl) hS
      · have hf := pr_neg hf c4
        refine lv_iload_n hx hb dX6_runsTo_9 rfl (lv_at hl 2 rfl) ?_
        refine lv_aload_n hx hb dX6_runsTo_10 rfl (lv_at hl 0 rfl) ?_
        refine lv_iload_n hx hb dX6_runsTo_11 rfl (lv_at hl 3 rfl) ?_
        obtain ⟨u5, hu5, hf⟩ := pr_bd hf
        refine fr_iV (As := [.int z3]) ⟨hx, hb, hml, hown, hts⟩ hK hP hD hS hA (c_X6_isNewRun l D cI q_mo q_mv q_me q_mk q_ma q_mb q_mw q_mx n z3 mo_thrown mo_rows mo_size mo_price mo_queries mo_start mo_many mo_bits mv u5 hu5) (cwV 1 hts gX6_runsTo_X6_isNewRun rfl rfl rfl (by decide +kernel) ⟨Nat.le_of_ble_eq_true rfl, Nat.le_of_ble_eq_true rfl⟩) [] [0, 1] [] rfl rfl (by decide) (by decide) (by decide) 0 rfl rfl rfl rfl hl.1 (Nat.le_of_ble_eq_true rfl) dX6_runsTo_12 ⟨Nat.zero_le _, Nat.zero_le _⟩ rfl (fun H locs hP hD hS => ?_)
        have hP : va_P D vwCl [(q_mo, .inr (6, [.int mo_thrown, .int mo_rows, .ref q_mv, .int mo_size, .ref q_me, .int mo_price, .int mo_queries, .ref q_mk, .ref q_ma, .ref q_mb, .ref q_mw, .int mo_start, .int mo_many, .int mo_bits, .ref q_mx])), (q_mv, .inl (cI, 96, .inl mv))] H := hP
        have hD : va_D A [(q_mo, .inr (6, [.int mo_thrown, .int mo_rows, .ref q_mv, .int mo_size, .ref q_me, .int mo_price, .int mo_queries, .ref q_mk, .ref q_ma, .ref q_mb, .ref q_mw, .int mo_start, .int mo_many, .int mo_bits, .ref q_mx])), (q_mv, .inl (cI, 96, .inl mv))] := hD
        refine lv_if_eq (tgt := 22) hx hb dX6_runsTo_15 (by decide) (fun c6 => ?_) (fun c6 => ?_)
        · have hf := pr_pos hf c6
          refine lv_iconst (v := 0) hx hb dX6_runsTo_22 (by decide) ?_
          refine lv_iadd hx hb dX6_runsTo_23 ?_
          refine lv_istore_n (lv' := [(2, .int (z2 + 0)), (0, .ref q_mo), (1, .int z1), (3, .int z3)]) hx hb dX6_runsTo_24 rfl hl (by decide) rfl (fun ls hl => ?_)
          refine lv_iinc (v := (z3 + 1)) (lv' := [(3, .int (z3 + 1)), (2, .int (z2 + 0)), (0, .ref q_mo), (1, .int z1)]) hx hb dX6_runsTo_25 hl (k := 3) rfl rfl (by decide) rfl (fun ls hl => ?_)
          refine lv_goto (tgt := 4) hx hb dX6_runsTo_28 (by decide) ?_
          exact ih _ _ _ _ _ ls hf (hP.sub [0, 1] rfl) (hD.sub [0, 1] (by decide) rfl) hS (lv_sub hl [2, 3, 1, 0] rfl)
        · have hf := pr_neg hf c6
          refine lv_iconst (v := 1) hx hb dX6_runsTo_18 (by decide) ?_
          refine lv_goto (tgt := 23) hx hb dX6_runsTo_19 (by decide) ?_
          refine lv_iadd hx hb dX6_runsTo_23 ?_
          refine lv_istore_n (lv' := [(2, .int (z2 + 1)), (0, .ref q_mo), (1, .int z1), (3, .int z3)]) hx hb dX6_runsTo_24 rfl hl (by decide) rfl (fun ls hl => ?_)
          refine lv_iinc (v := (z3 + 1)) (lv' := [(3, .int (z3 + 1)), (2, .int (z2 + 1)), (0, .ref q_mo), (1, .int z1)]) hx hb dX6_runsTo_25 hl (k := 3) rfl rfl (by decide) rfl (fun ls hl => ?_)
          refine lv_goto (tgt := 4) hx hb dX6_runsTo_28 (by decide) ?_
          exact ih _ _ _ _ _ ls hf (hP.sub [0, 1] rfl) (hD.sub [0, 1] (by decide) rfl) hS (lv_sub hl [2, 3, 1, 0] rfl)
  unfold f_X6_runsTo at hf
  refine lv_iconst (v := 0) hx hb dX6_runsTo_0 (by decide) ?_
  refine lv_istore_n (lv' := [(2, .int 0), (0, .ref q_mo), (1, .int x1)]) hx hb dX6_runsTo_1 rfl hl (by decide) rfl (fun ls hl => ?_)
  refine lv_iconst (v := 0) hx hb dX6_runsTo_2 (by decide) ?_
  refine lv_istore_n (lv' := [(3, .int 0), (2, .int 0), (0, .ref q_mo), (1, .int x1)]) hx hb dX6_runsTo_3 rfl hl (by decide) rfl (fun ls hl => ?_)
  exact k_4 n _ _ _ _ _ ls hf (hP.sub [0, 1] rfl) (hD.sub [0, 1] (by decide) rfl) hS (lv_sub hl [2, 3, 1, 0] rfl)
set_option maxHeartbeats 4000000 in
set_option maxRecDepth 100000 in
theorem c_X6_differentBelow (l : Launch) (D : va_G) (cI : ClassId) (q_mo q_mv q_me q_mk q_ma q_mb q_mw q_mx : Nat) (n : Nat) (x1 : Int32) (mo_thrown : Int32) (mo_rows : Int32) (mo_size : Int32) (mo_price : Int32) (mo_queries : Int32) (mo_start : Int32) (mo_many : Int32) (mo_bits : Int32) (mv : (Nat → Int32)) (res : Int32) (hf : f_X6_differentBelow n x1 mo_start mo_many mv = some res) : fr_Ci l yX6_differentBelow wsX6_differentBelow ({ frames := 1, cells := 0, slots := 0, locals := 21 }) D [(cI, .int)] [.ref q_mo, .int x1] [(q_mo, .inr (6, [.int mo_thrown, .int mo_rows, .ref q_mv, .int mo_size, .ref q_me, .int mo_price, .int mo_queries, .ref q_mk, .ref q_ma, .ref q_mb, .ref q_mw, .int mo_start, .int mo_many, .int mo_bits, .ref q_mx])), (q_mv, .inl (cI, 96, .inl mv))] res [(q_mo, .inr (6, [.int mo_thrown, .int mo_rows, .ref q_mv, .int mo_size, .ref q_me, .int mo_price, .int mo_queries, .ref q_mk, .ref q_ma, .ref q_mb, .ref q_mw, .int mo_start, .int mo_many, .int mo_bits, .ref q_mx])), (q_mv, .inl (cI, 96, .inl mv))] := by
  refine fr_open_i (cc := cX6_differentBelow) (maxL := 6) (ret := some .int) (by decide +kernel) rfl (Nat.le_of_ble_eq_true rfl) ⟨.int, rfl, vp_nar_int _⟩ ?_
  intro p e s m below meth c A Q ls hx hb hml hown hts hA hK hP hD hS hl hret
  have hown : s.vm.findClass RX6 = some m.cls := hown
  have hl : lv_has ls 6 [(0, .ref q_mo), (1, .int x1)] := hl
  have hin6 : ∀ w ∈ u_ws RX6 TX6 15, w ∈ wsX6_differentBelow := fun _ h9 => List.mem_cons_of_mem _ (List.mem_append_right _ h9)
  have k_4 : ∀ (n : Nat), (∀ (z1 : Int32) (z2 : Int32) (z3 : Int32) (z4 : Int32) (z5 : Int32) (H : Heap) (locs : List Loc) (ls : Array Slot), f_X6_differentBelow_4 n 4 z1 z2 z3 z4 z5 mo_start mo_many mv = some res → va_P D vwCl [(q_mo, .inr (6, [.int mo_thrown, .int mo_rows, .ref q_mv, .int mo_size, .ref q_me, .int mo_price, .int mo_queries, .ref q_mk, .ref q_ma, .ref q_mb, .ref q_mw, .int mo_start, .int mo_many, .int mo_bits, .ref q_mx])), (q_mv, .inl (cI, 96, .inl mv))] H → va_D A [(q_mo, .inr (6, [.int mo_thrown, .int mo_rows, .ref q_mv, .int mo_size, .ref q_me, .int mo_price, .int mo_queries, .ref q_mk, .ref q_ma, .ref q_mb, .ref q_mw, .int mo_start, .int mo_many, .int mo_bits, .ref q_mx])), (q_mv, .inl (cI, 96, .inl mv))] → va_S A s.heap H locs → lv_has ls 6 [(0, .ref q_mo), (1, .int z1), (2, .int z2), (3, .int z3)] → W p l e ({ frames := 1, cells := 0, slots := 0, locals := 21 }) s m ([.ref q_mo, .int x1] : List Value).toArray below meth c H locs 0 0 Q (F0 m 4 ls [])) ∧ (∀ (z1 : Int32) (z2 : Int32) (z3 : Int32) (z4 : Int32) (z5 : Int32) (H : Heap) (locs : List Loc) (ls : Array Slot), f_X6_differentBelow_4 n 31 z1 z2 z3 z4 z5 mo_start mo_many mv = some res → va_P D vwCl [(q_mo, .inr (6, [.int mo_thrown, .int mo_rows, .ref q_mv, .int mo_size, .ref q_me, .int mo_price, .int mo_queries, .ref q_mk, .ref q_ma, .ref q_mb, .ref q_mw, .int mo_start, .int mo_many, .int mo_bits, .ref q_mx])), (q_mv, .inl (cI, 96, .inl mv))] H → va_D A [(q_mo, .inr (6, [.int mo_thrown, .int mo_rows, .ref q_mv, .int mo_size, .ref q_me, .int mo_price, .int mo_queries, .ref q_mk, .ref q_ma, .ref q_mb, .ref q_mw, .int mo_start, .int mo_many, .int mo_bits, .ref q_mx])), (q_mv, .inl (cI, 96, .inl mv))] → va_S A s.heap H locs → lv_has ls 6 [(0, .ref q_mo), (1, .int z1), (2, .int z2), (3, .int z3), (4, .int z4), (5, .int z5)] → W p l e ({ frames := 1, cells := 0, slots := 0, locals := 21 }) s m ([.ref q_mo, .int x1] : List Value).toArray below meth c H locs 0 0 Q (F0 m 31 ls [])) := by
    intro n
    induction n with
    | zero =>
      refine ⟨?_, ?_⟩
      · intro z1 z2 z3 z4 z5 H locs ls hf hP hD hS hl
        exact absurd (show (none : Option (Int32)) = some res from hf) (by simp)
      · intro z1 z2 z3 z4 z5 H locs ls hf hP hD hS hl
        exact absurd (show (none : Option (Int32)) = some res from hf) (by simp)
    | succ n ih =>
      refine ⟨?_, ?_⟩
      · intro z1 z2 z3 z4 z5 H locs ls hf hP hD hS hl
        have hf : f_X6_differentBelow_4_s (f_X6_differentBelow_4 n) n 4 z1 z2 z3 z4 z5 mo_start mo_many mv = some res := hf
        unfold f_X6_differentBelow_4_s at hf
        have hf := pr_pos hf rfl
        refine lv_iload_n hx hb dX6_differentBelow_4 rfl (lv_at hl 3 rfl) ?_
        refine lv_aload_n hx hb dX6_differentBelow_5 rfl (lv_at hl 0 rfl) ?_
        refine va_get (D := D) (ci := 6) (v := .int mo_many) (C := RX6) (T := TX6) (N := 15) hx hb hts hin6 hown hK hP 0 rfl rfl 12 (by decide) (hts (.fieldLink RX6 77 "ColumnChooserModel" "many" "I") (List.mem_of_getElem? (i := 1) rfl)) (fun _ h9 => h9) rfl dX6_differentBelow_6 ?_
        refine lv_icmp_ge (tgt := 88) hx hb dX6_differentBelow_9 (by decide) (fun c10 => ?_) (fun c10 => ?_)
        · have hf := pr_pos hf c10
          refine lv_iload_n hx hb dX6_differentBelow_88 rfl (lv_at hl 2 rfl) ?_
          obtain rfl := Option.some.inj hf
          exact hret _ _ _ _ dX6_differentBelow_89 (hP.sub [0, 1] rfl) (hD.sub [0, 1] (by decide) rfl) hS
        · have hf := pr_neg hf c10
          refine lv_aload_n hx hb dX6_differentBelow_12 rfl (lv_at hl 0 rfl) ?_
          refine lv_iload_n hx hb dX6_differentBelow_13 rfl (lv_at hl 3 rfl) ?_
          obtain ⟨u11, hu11, hf⟩ := pr_bd hf
          refine fr_iV (As := [.int z3]) ⟨hx, hb, hml, hown, hts⟩ hK hP hD hS hA (c_X6_at l D cI q_mo q_mv q_me q_mk q_ma q_mb q_mw q_mx n z3 mo_thrown mo_rows mo_size mo_price mo_queries mo_start mo_many mo_bits mv u11 hu11) (cwV 1 hts gX6_differentBelow_X6_at rfl rfl rfl (by decide +kernel) ⟨Nat.le_of_ble_eq_true rfl, Nat.le_of_ble_eq_true rfl⟩) [] [0, 1] [] rfl rfl (by decide) (by decide) (by decide) 0 rfl rfl rfl rfl hl.1 (Nat.le_of_ble_eq_true rfl) dX6_differentBelow_14 ⟨Nat.zero_le _, Nat.zero_le _⟩ rfl (fun H locs hP hD hS => ?_)
          have hP : va_P D vwCl [(q_mo, .inr (6, [.int mo_thrown, .int mo_rows, .ref q_mv, .int mo_size, .ref q_me, .int mo_price, .int mo_queries, .ref q_mk, .ref q_ma, .ref q_mb, .ref q_mw, .int mo_start, .int mo_many, .int mo_bits, .ref q_mx])), (q_mv, .inl (cI, 96, .inl mv))] H := hP
          have hD : va_D A [(q_mo, .inr (6, [.int mo_thrown, .int mo_rows, .ref q_mv, .int mo_size, .ref q_me, .int mo_price, .int mo_queries, .ref q_mk, .ref q_ma, .ref q_mb, .ref q_mw, .int mo_start, .int mo_many, .int mo_bits, .ref q_mx])), (q_mv, .inl (cI, 96, .inl mv))] := hD
          refine lv_iload_n hx hb dX6_differentBelow_17 rfl (lv_at hl 1 rfl) ?_
          refine lv_icmp_ge (tgt := 25) hx hb dX6_differentBelow_18 (by decide) (fun c12 => ?_) (fun c12 => ?_)
          · have hf := pr_pos hf c12
            refine lv_iconst (v := 0) hx hb dX6_differentBelow_25 (by decide) ?_
            refine lv_istore (lv' := [(4, .int 0), (0, .ref q_mo), (1, .int z1), (2, .int z2), (3, .int z3)]) hx hb dX6_differentBelow_26 hl (by decide) rfl (fun ls hl => ?_)
            refine lv_iconst (v := 0) hx hb dX6_differentBelow_28 (by decide) ?_
            refine lv_istore (lv' := [(5, .int 0), (4, .int 0), (0, .ref q_mo), (1, .int z1), (2, .int z2), (3, .int z3)]) hx hb dX6_differentBelow_29 hl (by decide) rfl (fun ls hl => ?_)
            exact ih.2 _ _ _ _ _ _ _ ls hf (hP.sub [0, 1] rfl) (hD.sub [0, 1] (by decide) rfl) hS (lv_sub hl [2, 3, 4, 5, 1, 0] rfl)
          · have hf := pr_neg hf c12
            refine lv_iconst (v := 1) hx hb dX6_differentBelow_21 (by decide) ?_
            refine lv_goto (tgt := 26) hx hb dX6_differentBelow_22 (by decide) ?_
            refine lv_istore (lv' := [(4, .int 1), (0, .ref q_mo), (1, .int z1), (2, .int z2), (3, .int z3)]) hx hb dX6_differentBelow_26 hl (by decide) rfl (fun ls hl => ?_)
            refine lv_iconst (v := 0) hx hb dX6_differentBelow_28 (by decide) ?_
            refine lv_istore (lv' := [(5, .int 0), (4, .int 1), (0, .ref q_mo), (1, .int z1), (2, .int z2), (3, .int z3)]) hx hb dX6_differentBelow_29 hl (by decide) rfl (fun ls hl => ?_)
            exact ih.2 _ _ _ _ _ _ _ ls hf (hP.sub [0, 1] rfl) (hD.sub [0, 1] (by decide) rfl) hS (lv_sub hl [2, 3, 4, 5, 1, 0] rfl)
      · intro z1 z2 z3 z4 z5 H locs ls hf hP hD hS hl
        have hf : f_X6_differentBelow_4_s (f_X6_differentBelow_4 n) n 31 z1 z2 z3 z4 z5 mo_start mo_many mv = some res := hf
        unfold f_X6_differentBelow_4_s at hf
        have hf := pr_neg hf (by decide)
        refine lv_iload hx hb dX6_differentBelow_31 (lv_at hl 5 rfl) ?_
        refine lv_iload_n hx hb dX6_differentBelow_33 rfl (lv_at hl 3 rfl) ?_
        refine lv_icmp_ge (tgt := 69) hx hb dX6_differentBelow_34 (by decide) (fun c13 => ?_) (fun c13 => ?_)
        · have hf := pr_pos hf c13
          refine lv_iload_n hx hb dX6_differentBelow_69 rfl (lv_at hl 2 rfl) ?_
          refine lv_iload hx hb dX6_differentBelow_70 (lv_at hl 4 rfl) ?_
          refine lv_if_eq (tgt := 79) hx hb dX6_differentBelow_72 (by decide) (fun c14 => ?_) (fun c14 => ?_)
          · have hf := pr_pos hf c14
            refine lv_iconst (v := 0) hx hb dX6_differentBelow_79 (by decide) ?_
            refine lv_iadd hx hb dX6_differentBelow_80 ?_
            refine lv_istore_n (lv' := [(2, .int (z2 + 0)), (0, .ref q_mo), (1, .int z1), (3, .int z3), (4, .int z4), (5, .int z5)]) hx hb dX6_differentBelow_81 rfl hl (by decide) rfl (fun ls hl => ?_)
            refine lv_iinc (v := (z3 + 1)) (lv' := [(3, .int (z3 + 1)), (2, .int (z2 + 0)), (0, .ref q_mo), (1, .int z1), (4, .int z4), (5, .int z5)]) hx hb dX6_differentBelow_82 hl (k := 3) rfl rfl (by decide) rfl (fun ls hl => ?_)
            refine lv_goto (tgt := 4) hx hb dX6_differentBelow_85 (by decide) ?_
            exact ih.1 _ _ _ _ _ _ _ ls hf (hP.sub [0, 1] rfl) (hD.sub [0, 1] (by decide) rfl) hS (lv_sub hl [2, 3, 1, 0] rfl)
          · have hf := pr_neg hf c14
            refine lv_iconst (v := 1) hx hb dX6_differentBelow_75 (by decide) ?_
            refine lv_goto (tgt := 80) hx hb dX6_differentBelow_76 (by decide) ?_
            refine lv_iadd hx hb dX6_differentBelow_80 ?_
            refine lv_istore_n (lv' := [(2, .int (z2 + 1)), (0, .ref q_mo), (1, .int z1), (3, .int z3), (4, .int z4), (5, .int z5)]) hx hb dX6_differentBelow_81 rfl hl (by decide) rfl (fun ls hl => ?_)
            refine lv_iinc (v := (z3 + 1)) (lv' := [(3, .int (z3 + 1)), (2, .int (z2 + 1)), (0, .ref q_mo), (1, .int z1), (4, .int z4), (5, .int z5)]) hx hb dX6_differentBelow_82 hl (k := 3) rfl rfl (by decide) rfl (fun ls hl => ?_)
            refine lv_goto (tgt := 4) hx hb dX6_differentBelow_85 (by decide) ?_
            exact ih.1 _ _ _ _ _ _ _ ls hf (hP.sub [0, 1] rfl) (hD.sub [0, 1] (by decide) rfl) hS (lv_sub hl [2, 3, 1, 0] rfl)
        · have hf := pr_neg hf c13
          refine lv_iload hx hb dX6_differentBelow_37 (lv_at hl 4 rfl) ?_
          refine lv_if_eq (tgt := 60) hx hb dX6_differentBelow_39 (by decide) (fun c15 => ?_) (fun c15 => ?_)
          · have hf := pr_pos hf c15
            refine lv_iconst (v := 0) hx hb dX6_differentBelow_60 (by decide) ?_
            refine lv_istore (lv' := [(4, .int 0), (0, .ref q_mo), (1, .int z1), (2, .int z2), (3, .int z3), (5, .int z5)]) hx hb dX6_differentBelow_61 hl (by decide) rfl (fun ls hl => ?_)
            refine lv_iinc (v := (z5 + 1)) (lv' := [(5, .int (z5 + 1)), (4, .int 0), (0, .ref q_mo), (1, .int z1), (2, .int z2), (3, .int z3)]) hx hb dX6_differentBelow_63 hl (k := 5) rfl rfl (by decide) rfl (fun ls hl => ?_)
            refine lv_goto (tgt := 31) hx hb dX6_differentBelow_66 (by decide) ?_
            exact ih.2 _ _ _ _ _ _ _ ls hf (hP.sub [0, 1] rfl) (hD.sub [0, 1] (by decide) rfl) hS (lv_sub hl [2, 3, 4, 5, 1, 0] rfl)
          · have hf := pr_neg hf c15
            refine lv_aload_n hx hb dX6_differentBelow_42 rfl (lv_at hl 0 rfl) ?_
            refine lv_iload hx hb dX6_differentBelow_43 (lv_at hl 5 rfl) ?_
            obtain ⟨u16, hu16, hf⟩ := pr_bd hf
            refine fr_iV (As := [.int z5]) ⟨hx, hb, hml, hown, hts⟩ hK hP hD hS hA (c_X6_at l D cI q_mo q_mv q_me q_mk q_ma q_mb q_mw q_mx n z5 mo_thrown mo_rows mo_size mo_price mo_queries mo_start mo_many mo_bits mv u16 hu16) (cwV 1 hts gX6_differentBelow_X6_at rfl rfl rfl (by decide +kernel) ⟨Nat.le_of_ble_eq_true rfl, Nat.le_of_ble_eq_true rfl⟩) [] [0, 1] [] rfl rfl (by decide) (by decide) (by decide) 0 rfl rfl rfl rfl hl.1 (Nat.le_of_ble_eq_true rfl) dX6_differentBelow_45 ⟨Nat.zero_le _, Nat.zero_le _⟩ rfl (fun H locs hP hD hS => ?_)
            have hP : va_P D vwCl [(q_mo, .inr (6, [.int mo_thrown, .int mo_rows, .ref q_mv, .int mo_size, .ref q_me, .int mo_price, .int mo_queries, .ref q_mk, .ref q_ma, .ref q_mb, .ref q_mw, .int mo_start, .int mo_many, .int mo_bits, .ref q_mx])), (q_mv, .inl (cI, 96, .inl mv))] H := hP
            have hD : va_D A [(q_mo, .inr (6, [.int mo_thrown, .int mo_rows, .ref q_mv, .int mo_size, .ref q_me, .int mo_price, .int mo_queries, .ref q_mk, .ref q_ma, .ref q_mb, .ref q_mw, .int mo_start, .int mo_many, .int mo_bits, .ref q_mx])), (q_mv, .inl (cI, 96, .inl mv))] := hD
            refine lv_aload_n hx hb dX6_differentBelow_48 rfl (lv_at hl 0 rfl) ?_
            refine lv_iload_n hx hb dX6_differentBelow_49 rfl (lv_at hl 3 rfl) ?_
            obtain ⟨u17, hu17, hf⟩ := pr_bd hf
            refine fr_iV (As := [.int z3]) ⟨hx, hb, hml, hown, hts⟩ hK hP hD hS hA (c_X6_at l D cI q_mo q_mv q_me q_mk q_ma q_mb q_mw q_mx n z3 mo_thrown mo_rows mo_size mo_price mo_queries mo_start mo_many mo_bits mv u17 hu17) (cwV 1 hts gX6_differentBelow_X6_at rfl rfl rfl (by decide +kernel) ⟨Nat.le_of_ble_eq_true rfl, Nat.le_of_ble_eq_true rfl⟩) [] [0, 1] [] rfl rfl (by decide) (by decide) (by decide) 0 rfl rfl rfl rfl hl.1 (Nat.le_of_ble_eq_true rfl) dX6_differentBelow_50 ⟨Nat.zero_le _, Nat.zero_le _⟩ rfl (fun H locs hP hD hS => ?_)
            have hP : va_P D vwCl [(q_mo, .inr (6, [.int mo_thrown, .int mo_rows, .ref q_mv, .int mo_size, .ref q_me, .int mo_price, .int mo_queries, .ref q_mk, .ref q_ma, .ref q_mb, .ref q_mw, .int mo_start, .int mo_many, .int mo_bits, .ref q_mx])), (q_mv, .inl (cI, 96, .inl mv))] H := hP
            have hD : va_D A [(q_mo, .inr (6, [.int mo_thrown, .int mo_rows, .ref q_mv, .int mo_size, .ref q_me, .int mo_price, .int mo_queries, .ref q_mk, .ref q_ma, .ref q_mb, .ref q_mw, .int mo_start, .int mo_many, .int mo_bits, .ref q_mx])), (q_mv, .inl (cI, 96, .inl mv))] := hD
            refine lv_icmp_eq (tgt := 60) hx hb dX6_differentBelow_53 (by decide) (fun c18 => ?_) (fun c18 => ?_)
            · have hf := pr_pos hf c18
              refine lv_iconst (v := 0) hx hb dX6_differentBelow_60 (by decide) ?_
              refine lv_istore (lv' := [(4, .int 0), (0, .ref q_mo), (1, .int z1), (2, .int z2), (3, .int z3), (5, .int z5)]) hx hb dX6_differentBelow_61 hl (by decide) rfl (fun ls hl => ?_)
              refine lv_iinc (v := (z5 + 1)) (lv' := [(5, .int (z5 + 1)), (4, .int 0), (0, .ref q_mo), (1, .int z1), (2, .int z2), (3, .int z3)]) hx hb dX6_differentBelow_63 hl (k := 5) rfl rfl (by decide) rfl (fun ls hl => ?_)
              refine lv_goto (tgt := 31) hx hb dX6_differentBelow_66 (by decide) ?_
              exact ih.2 _ _ _ _ _ _ _ ls hf (hP.sub [0, 1] rfl) (hD.sub [0, 1] (by decide) rfl) hS (lv_sub hl [2, 3, 4, 5, 1, 0] rfl)
            · have hf := pr_neg hf c18
              refine lv_iconst (v := 1) hx hb dX6_differentBelow_56 (by decide) ?_
              refine lv_goto (tgt := 61) hx hb dX6_differentBelow_57 (by decide) ?_
              refine lv_istore (lv' := [(4, .int 1), (0, .ref q_mo), (1, .int z1), (2, .int z2), (3, .int z3), (5, .int z5)]) hx hb dX6_differentBelow_61 hl (by decide) rfl (fun ls hl => ?_)
              refine lv_iinc (v := (z5 + 1)) (lv' := [(5, .int (z5 + 1)), (4, .int 1), (0, .ref q_mo), (1, .int z1), (2, .int z2), (3, .int z3)]) hx hb dX6_differentBelow_63 hl (k := 5) rfl rfl (by decide) rfl (fun ls hl => ?_)
              refine lv_goto (tgt := 31) hx hb dX6_differentBelow_66 (by decide) ?_
              exact ih.2 _ _ _ _ _ _ _ ls hf (hP.sub [0, 1] rfl) (hD.sub [0, 1] (by decide) rfl) hS (lv_sub hl [2, 3, 4, 5, 1, 0] rfl)
  unfold f_X6_differentBelow at hf
  refine lv_iconst (v := 0) hx hb dX6_differentBelow_0 (by decide) ?_
  refine lv_istore_n (lv' := [(2, .int 0), (0, .ref q_mo), (1, .int x1)]) hx hb dX6_differentBelow_1 rfl hl (by decide) rfl (fun ls hl => ?_)
  refine lv_iconst (v := 0) hx hb dX6_differentBelow_2 (by decide) ?_
  refine lv_istore_n (lv' := [(3, .int 0), (2, .int 0), (0, .ref q_mo), (1, .int x1)]) hx hb dX6_differentBelow_3 rfl hl (by decide) rfl (fun ls hl => ?_)
  exact (k_4 n).1 _ _ _ _ _ _ _ ls hf (hP.sub [0, 1] rfl) (hD.sub [0, 1] (by decide) rfl) hS (lv_sub hl [2, 3, 1, 0] rfl)
set_option maxHeartbeats 4000000 in
set_option maxRecDepth 100000 in
theorem c_X6_different (l : Launch) (D : va_G) (cI : ClassId) (q_mo q_mv q_me q_mk q_ma q_mb q_mw q_mx : Nat) (n : Nat) (mo_thrown : Int32) (mo_rows : Int32) (mo_size : Int32) (mo_price : Int32) (mo_queries : Int32) (mo_start : Int32) (mo_many : Int32) (mo_bits : Int32) (mv : (Nat → Int32)) (res : Int32) (hf : f_X6_different n mo_start mo_many mv = some res) : fr_Ci l yX6_different wsX6_different ({ frames := 2, cells := 0, slots := 0, locals := 46 }) D [(cI, .int)] [.ref q_mo] [(q_mo, .inr (6, [.int mo_thrown, .int mo_rows, .ref q_mv, .int mo_size, .ref q_me, .int mo_price, .int mo_queries, .ref q_mk, .ref q_ma, .ref q_mb, .ref q_mw, .int mo_start, .int mo_many, .int mo_bits, .ref q_mx])), (q_mv, .inl (cI, 96, .inl mv))] res [(q_mo, .inr (6, [.int mo_thrown, .int mo_rows, .ref q_mv, .int mo_size, .ref q_me, .int mo_price, .int mo_queries, .ref q_mk, .ref q_ma, .ref q_mb, .ref q_mw, .int mo_start, .int mo_many, .int mo_bits, .ref q_mx])), (q_mv, .inl (cI, 96, .inl mv))] := by
  refine fr_open_i (cc := cX6_different) (maxL := 1) (ret := some .int) (by decide +kernel) rfl (Nat.le_of_ble_eq_true rfl) ⟨.int, rfl, vp_nar_int _⟩ ?_
  intro p e s m below meth c A Q ls hx hb hml hown hts hA hK hP hD hS hl hret
  have hown : s.vm.findClass RX6 = some m.cls := hown
  have hl : lv_has ls 1 [(0, .ref q_mo)] := hl
  unfold f_X6_different at hf
  refine lv_aload_n hx hb dX6_different_0 rfl (lv_at hl 0 rfl) ?_
  refine lv_ldc (v := 100001) hx hb hown (hts (.constant RX6 101 (100001)) (List.mem_of_getElem? (i := 1) rfl)) dX6_different_1 ?_
  obtain ⟨u2, hu2, hf⟩ := pr_bd hf
  refine fr_iV (As := [.int 100001]) ⟨hx, hb, hml, hown, hts⟩ hK hP hD hS hA (c_X6_differentBelow l D cI q_mo q_mv q_me q_mk q_ma q_mb q_mw q_mx n 100001 mo_thrown mo_rows mo_size mo_price mo_queries mo_start mo_many mo_bits mv u2 hu2) (cwV 1 hts gX6_different_X6_differentBelow rfl rfl rfl (by decide +kernel) ⟨Nat.le_of_ble_eq_true rfl, Nat.le_of_ble_eq_true rfl⟩) [] [0, 1] [] rfl rfl (by decide) (by decide) (by decide) 0 rfl rfl rfl rfl hl.1 (Nat.le_of_ble_eq_true rfl) dX6_different_3 ⟨Nat.zero_le _, Nat.zero_le _⟩ rfl (fun H locs hP hD hS => ?_)
  have hP : va_P D vwCl [(q_mo, .inr (6, [.int mo_thrown, .int mo_rows, .ref q_mv, .int mo_size, .ref q_me, .int mo_price, .int mo_queries, .ref q_mk, .ref q_ma, .ref q_mb, .ref q_mw, .int mo_start, .int mo_many, .int mo_bits, .ref q_mx])), (q_mv, .inl (cI, 96, .inl mv))] H := hP
  have hD : va_D A [(q_mo, .inr (6, [.int mo_thrown, .int mo_rows, .ref q_mv, .int mo_size, .ref q_me, .int mo_price, .int mo_queries, .ref q_mk, .ref q_ma, .ref q_mb, .ref q_mw, .int mo_start, .int mo_many, .int mo_bits, .ref q_mx])), (q_mv, .inl (cI, 96, .inl mv))] := hD
  obtain rfl := Option.some.inj hf
  exact hret _ _ _ _ dX6_different_6 (hP.sub [0, 1] rfl) (hD.sub [0, 1] (by decide) rfl) hS
set_option maxHeartbeats 4000000 in
set_option maxRecDepth 100000 in
theorem c_X6_has (l : Launch) (D : va_G) (cI : ClassId) (q_mo q_mv q_me q_mk q_ma q_mb q_mw q_mx : Nat) (n : Nat) (x1 : Int32) (mo_thrown : Int32) (mo_rows : Int32) (mo_size : Int32) (mo_price : Int32) (mo_queries : Int32) (mo_start : Int32) (mo_many : Int32) (mo_bits : Int32) (mv : (Nat → Int32)) (res : Bool) (hf : f_X6_has n x1 mo_start mo_many mv = some res) : fr_Ci l yX6_has wsX6_has ({ frames := 2, cells := 0, slots := 0, locals := 46 }) D [(cI, .int)] [.ref q_mo, .int x1] [(q_mo, .inr (6, [.int mo_thrown, .int mo_rows, .ref q_mv, .int mo_size, .ref q_me, .int mo_price, .int mo_queries, .ref q_mk, .ref q_ma, .ref q_mb, .ref q_mw, .int mo_start, .int mo_many, .int mo_bits, .ref q_mx])), (q_mv, .inl (cI, 96, .inl mv))] (pr_b res) [(q_mo, .inr (6, [.int mo_thrown, .int mo_rows, .ref q_mv, .int mo_size, .ref q_me, .int mo_price, .int mo_queries, .ref q_mk, .ref q_ma, .ref q_mb, .ref q_mw, .int mo_start, .int mo_many, .int mo_bits, .ref q_mx])), (q_mv, .inl (cI, 96, .inl mv))] := by
  refine fr_open_i (cc := cX6_has) (maxL := 2) (ret := some .boolean) (by decide +kernel) rfl (Nat.le_of_ble_eq_true rfl) ⟨.boolean, rfl, pr_b_n _⟩ ?_
  intro p e s m below meth c A Q ls hx hb hml hown hts hA hK hP hD hS hl hret
  have hown : s.vm.findClass RX6 = some m.cls := hown
  have hl : lv_has ls 2 [(0, .ref q_mo), (1, .int x1)] := hl
  unfold f_X6_has at hf
  refine lv_aload_n hx hb dX6_has_0 rfl (lv_at hl 0 rfl) ?_
  refine lv_iload_n hx hb dX6_has_1 rfl (lv_at hl 1 rfl) ?_
  refine lv_iconst (v := 1) hx hb dX6_has_2 (by decide) ?_
  refine lv_iadd hx hb dX6_has_3 ?_
  obtain ⟨u4, hu4, hf⟩ := pr_bd hf
  refine fr_iV (As := [.int (x1 + 1)]) ⟨hx, hb, hml, hown, hts⟩ hK hP hD hS hA (c_X6_differentBelow l D cI q_mo q_mv q_me q_mk q_ma q_mb q_mw q_mx n (x1 + 1) mo_thrown mo_rows mo_size mo_price mo_queries mo_start mo_many mo_bits mv u4 hu4) (cwV 1 hts gX6_has_X6_differentBelow rfl rfl rfl (by decide +kernel) ⟨Nat.le_of_ble_eq_true rfl, Nat.le_of_ble_eq_true rfl⟩) [] [0, 1] [] rfl rfl (by decide) (by decide) (by decide) 0 rfl rfl rfl rfl hl.1 (Nat.le_of_ble_eq_true rfl) dX6_has_4 ⟨Nat.zero_le _, Nat.zero_le _⟩ rfl (fun H locs hP hD hS => ?_)
  have hP : va_P D vwCl [(q_mo, .inr (6, [.int mo_thrown, .int mo_rows, .ref q_mv, .int mo_size, .ref q_me, .int mo_price, .int mo_queries, .ref q_mk, .ref q_ma, .ref q_mb, .ref q_mw, .int mo_start, .int mo_many, .int mo_bits, .ref q_mx])), (q_mv, .inl (cI, 96, .inl mv))] H := hP
  have hD : va_D A [(q_mo, .inr (6, [.int mo_thrown, .int mo_rows, .ref q_mv, .int mo_size, .ref q_me, .int mo_price, .int mo_queries, .ref q_mk, .ref q_ma, .ref q_mb, .ref q_mw, .int mo_start, .int mo_many, .int mo_bits, .ref q_mx])), (q_mv, .inl (cI, 96, .inl mv))] := hD
  refine lv_aload_n hx hb dX6_has_7 rfl (lv_at hl 0 rfl) ?_
  refine lv_iload_n hx hb dX6_has_8 rfl (lv_at hl 1 rfl) ?_
  obtain ⟨u5, hu5, hf⟩ := pr_bd hf
  refine fr_iV (As := [.int x1]) ⟨hx, hb, hml, hown, hts⟩ hK hP hD hS hA (c_X6_differentBelow l D cI q_mo q_mv q_me q_mk q_ma q_mb q_mw q_mx n x1 mo_thrown mo_rows mo_size mo_price mo_queries mo_start mo_many mo_bits mv u5 hu5) (cwV 1 hts gX6_has_X6_differentBelow rfl rfl rfl (by decide +kernel) ⟨Nat.le_of_ble_eq_true rfl, Nat.le_of_ble_eq_true rfl⟩) [] [0, 1] [] rfl rfl (by decide) (by decide) (by decide) 0 rfl rfl rfl rfl hl.1 (Nat.le_of_ble_eq_true rfl) dX6_has_9 ⟨Nat.zero_le _, Nat.zero_le _⟩ rfl (fun H locs hP hD hS => ?_)
  have hP : va_P D vwCl [(q_mo, .inr (6, [.int mo_thrown, .int mo_rows, .ref q_mv, .int mo_size, .ref q_me, .int mo_price, .int mo_queries, .ref q_mk, .ref q_ma, .ref q_mb, .ref q_mw, .int mo_start, .int mo_many, .int mo_bits, .ref q_mx])), (q_mv, .inl (cI, 96, .inl mv))] H := hP
  have hD : va_D A [(q_mo, .inr (6, [.int mo_thrown, .int mo_rows, .ref q_mv, .int mo_size, .ref q_me, .int mo_price, .int mo_queries, .ref q_mk, .ref q_ma, .ref q_mb, .ref q_mw, .int mo_start, .int mo_many, .int mo_bits, .ref q_mx])), (q_mv, .inl (cI, 96, .inl mv))] := hD
  refine lv_icmp_le (tgt := 19) hx hb dX6_has_12 (by decide) (fun c6 => ?_) (fun c6 => ?_)
  · have hf := pr_pos hf c6
    refine lv_iconst (v := 0) hx hb dX6_has_19 (by decide) ?_
    obtain rfl := Option.some.inj hf
    exact hret _ _ _ _ dX6_has_20 (hP.sub [0, 1] rfl) (hD.sub [0, 1] (by decide) rfl) hS
  · have hf := pr_neg hf c6
    refine lv_iconst (v := 1) hx hb dX6_has_15 (by decide) ?_
    refine lv_goto (tgt := 20) hx hb dX6_has_16 (by decide) ?_
    obtain rfl := Option.some.inj hf
    exact hret _ _ _ _ dX6_has_20 (hP.sub [0, 1] rfl) (hD.sub [0, 1] (by decide) rfl) hS
set_option maxHeartbeats 4000000 in
set_option maxRecDepth 100000 in
theorem c_X6_isPossible (l : Launch) (D : va_G) (cI : ClassId) (q_mo q_mv q_me q_mk q_ma q_mb q_mw q_mx : Nat) (n : Nat) (x1 : Int32) (mo_thrown : Int32) (mo_rows : Int32) (mo_size : Int32) (mo_price : Int32) (mo_queries : Int32) (mo_start : Int32) (mo_many : Int32) (mo_bits : Int32) (mv : (Nat → Int32)) (res : Bool) (hf : f_X6_isPossible n x1 mo_start mo_many mv = some res) : fr_Ci l yX6_isPossible wsX6_isPossible ({ frames := 3, cells := 0, slots := 0, locals := 65 }) D [(cI, .int)] [.ref q_mo, .int x1] [(q_mo, .inr (6, [.int mo_thrown, .int mo_rows, .ref q_mv, .int mo_size, .ref q_me, .int mo_price, .int mo_queries, .ref q_mk, .ref q_ma, .ref q_mb, .ref q_mw, .int mo_start, .int mo_many, .int mo_bits, .ref q_mx])), (q_mv, .inl (cI, 96, .inl mv))] (pr_b res) [(q_mo, .inr (6, [.int mo_thrown, .int mo_rows, .ref q_mv, .int mo_size, .ref q_me, .int mo_price, .int mo_queries, .ref q_mk, .ref q_ma, .ref q_mb, .ref q_mw, .int mo_start, .int mo_many, .int mo_bits, .ref q_mx])), (q_mv, .inl (cI, 96, .inl mv))] := by
  refine fr_open_i (cc := cX6_isPossible) (maxL := 2) (ret := some .boolean) (by decide +kernel) rfl (Nat.le_of_ble_eq_true rfl) ⟨.boolean, rfl, pr_b_n _⟩ ?_
  intro p e s m below meth c A Q ls hx hb hml hown hts hA hK hP hD hS hl hret
  have hown : s.vm.findClass RX6 = some m.cls := hown
  have hl : lv_has ls 2 [(0, .ref q_mo), (1, .int x1)] := hl
  have hin6 : ∀ w ∈ u_ws RX6 TX6 15, w ∈ wsX6_isPossible := fun _ h9 => List.mem_cons_of_mem _ (List.mem_append_right _ h9)
  unfold f_X6_isPossible at hf
  refine lv_iload_n hx hb dX6_isPossible_0 rfl (lv_at hl 1 rfl) ?_
  refine lv_iconst (v := 1) hx hb dX6_isPossible_1 (by decide) ?_
  refine lv_icmp_ne (tgt := 19) hx hb dX6_isPossible_2 (by decide) (fun c4 => ?_) (fun c4 => ?_)
  · have hf := pr_neg hf c4
    refine lv_iconst (v := 1) hx hb dX6_isPossible_19 (by decide) ?_
    refine lv_goto (tgt := 24) hx hb dX6_isPossible_20 (by decide) ?_
    obtain rfl := Option.some.inj hf
    exact hret _ _ _ _ dX6_isPossible_24 (hP.sub [0, 1] rfl) (hD.sub [0, 1] (by decide) rfl) hS
  · have hf := pr_pos hf c4
    refine lv_aload_n hx hb dX6_isPossible_5 rfl (lv_at hl 0 rfl) ?_
    refine lv_aload_n hx hb dX6_isPossible_6 rfl (lv_at hl 0 rfl) ?_
    refine va_get (D := D) (ci := 6) (v := .int mo_many) (C := RX6) (T := TX6) (N := 15) hx hb hts hin6 hown hK hP 0 rfl rfl 12 (by decide) (hts (.fieldLink RX6 77 "ColumnChooserModel" "many" "I") (List.mem_of_getElem? (i := 1) rfl)) (fun _ h9 => h9) rfl dX6_isPossible_7 ?_
    refine lv_iconst (v := 1) hx hb dX6_isPossible_10 (by decide) ?_
    refine lv_isub hx hb dX6_isPossible_11 ?_
    obtain ⟨u5, hu5, hf⟩ := pr_bd hf
    refine fr_iV (As := [.int (mo_many - 1)]) ⟨hx, hb, hml, hown, hts⟩ hK hP hD hS hA (c_X6_runsTo l D cI q_mo q_mv q_me q_mk q_ma q_mb q_mw q_mx n (mo_many - 1) mo_thrown mo_rows mo_size mo_price mo_queries mo_start mo_many mo_bits mv u5 hu5) (cwV 1 hts gX6_isPossible_X6_runsTo rfl rfl rfl (by decide +kernel) ⟨Nat.le_of_ble_eq_true rfl, Nat.le_of_ble_eq_true rfl⟩) [] [0, 1] [] rfl rfl (by decide) (by decide) (by decide) 0 rfl rfl rfl rfl hl.1 (Nat.le_of_ble_eq_true rfl) dX6_isPossible_12 ⟨Nat.zero_le _, Nat.zero_le _⟩ rfl (fun H locs hP hD hS => ?_)
    have hP : va_P D vwCl [(q_mo, .inr (6, [.int mo_thrown, .int mo_rows, .ref q_mv, .int mo_size, .ref q_me, .int mo_price, .int mo_queries, .ref q_mk, .ref q_ma, .ref q_mb, .ref q_mw, .int mo_start, .int mo_many, .int mo_bits, .ref q_mx])), (q_mv, .inl (cI, 96, .inl mv))] H := hP
    have hD : va_D A [(q_mo, .inr (6, [.int mo_thrown, .int mo_rows, .ref q_mv, .int mo_size, .ref q_me, .int mo_price, .int mo_queries, .ref q_mk, .ref q_ma, .ref q_mb, .ref q_mw, .int mo_start, .int mo_many, .int mo_bits, .ref q_mx])), (q_mv, .inl (cI, 96, .inl mv))] := hD
    refine lv_iconst (v := 1) hx hb dX6_isPossible_15 (by decide) ?_
    refine lv_icmp_ne (tgt := 23) hx hb dX6_isPossible_16 (by decide) (fun c6 => ?_) (fun c6 => ?_)
    · have hf := pr_neg hf c6
      refine lv_iconst (v := 0) hx hb dX6_isPossible_23 (by decide) ?_
      obtain rfl := Option.some.inj hf
      exact hret _ _ _ _ dX6_isPossible_24 (hP.sub [0, 1] rfl) (hD.sub [0, 1] (by decide) rfl) hS
    · have hf := pr_pos hf c6
      refine lv_iconst (v := 1) hx hb dX6_isPossible_19 (by decide) ?_
      refine lv_goto (tgt := 24) hx hb dX6_isPossible_20 (by decide) ?_
      obtain rfl := Option.some.inj hf
      exact hret _ _ _ _ dX6_isPossible_24 (hP.sub [0, 1] rfl) (hD.sub [0, 1] (by decide) rfl) hS
set_option maxHeartbeats 4000000 in
set_option maxRecDepth 100000 in
theorem c_X6_sizeOf (l : Launch) (D : va_G) (cI : ClassId) (q_mo q_mv q_me q_mk q_ma q_mb q_mw q_mx : Nat) (n : Nat) (x1 : Int32) (mo_thrown : Int32) (mo_rows : Int32) (mo_size : Int32) (mo_price : Int32) (mo_queries : Int32) (mo_start : Int32) (mo_many : Int32) (mo_bits : Int32) (mv : (Nat → Int32)) (res : Int32) (hf : f_X6_sizeOf n x1 mo_start mo_many mv = some res) : fr_Ci l yX6_sizeOf wsX6_sizeOf ({ frames := 3, cells := 0, slots := 0, locals := 66 }) D [(cI, .int)] [.ref q_mo, .int x1] [(q_mo, .inr (6, [.int mo_thrown, .int mo_rows, .ref q_mv, .int mo_size, .ref q_me, .int mo_price, .int mo_queries, .ref q_mk, .ref q_ma, .ref q_mb, .ref q_mw, .int mo_start, .int mo_many, .int mo_bits, .ref q_mx])), (q_mv, .inl (cI, 96, .inl mv))] res [(q_mo, .inr (6, [.int mo_thrown, .int mo_rows, .ref q_mv, .int mo_size, .ref q_me, .int mo_price, .int mo_queries, .ref q_mk, .ref q_ma, .ref q_mb, .ref q_mw, .int mo_start, .int mo_many, .int mo_bits, .ref q_mx])), (q_mv, .inl (cI, 96, .inl mv))] := by
  refine fr_open_i (cc := cX6_sizeOf) (maxL := 2) (ret := some .int) (by decide +kernel) rfl (Nat.le_of_ble_eq_true rfl) ⟨.int, rfl, vp_nar_int _⟩ ?_
  intro p e s m below meth c A Q ls hx hb hml hown hts hA hK hP hD hS hl hret
  have hown : s.vm.findClass RX6 = some m.cls := hown
  have hl : lv_has ls 2 [(0, .ref q_mo), (1, .int x1)] := hl
  have hin6 : ∀ w ∈ u_ws RX6 TX6 15, w ∈ wsX6_sizeOf := fun _ h9 => List.mem_cons_of_mem _ (List.mem_append_right _ h9)
  unfold f_X6_sizeOf at hf
  refine lv_iload_n hx hb dX6_sizeOf_0 rfl (lv_at hl 1 rfl) ?_
  by_cases c12 : x1 = 0
  · have hf := pr_pos hf c12
    refine lv_tableIn (off := 35) (tgt := 36) hx hb dX6_sizeOf_1 (by rw [c12]; decide) (by rw [c12]; decide) (by rw [c12]; rfl) (by decide) ?_
    refine lv_bipush (v := 18) hx hb dX6_sizeOf_36 (by decide) ?_
    refine lv_aload_n hx hb dX6_sizeOf_38 rfl (lv_at hl 0 rfl) ?_
    refine va_get (D := D) (ci := 6) (v := .int mo_many) (C := RX6) (T := TX6) (N := 15) hx hb hts hin6 hown hK hP 0 rfl rfl 12 (by decide) (hts (.fieldLink RX6 77 "ColumnChooserModel" "many" "I") (List.mem_of_getElem? (i := 1) rfl)) (fun _ h9 => h9) rfl dX6_sizeOf_39 ?_
    refine lv_imul hx hb dX6_sizeOf_42 ?_
    obtain rfl := Option.some.inj hf
    exact hret _ _ _ _ dX6_sizeOf_43 (hP.sub [0, 1] rfl) (hD.sub [0, 1] (by decide) rfl) hS
  · have hf := pr_neg hf c12
    by_cases c13 : x1 = 1
    · have hf := pr_pos hf c13
      refine lv_tableIn (off := 43) (tgt := 44) hx hb dX6_sizeOf_1 (by rw [c13]; decide) (by rw [c13]; decide) (by rw [c13]; rfl) (by decide) ?_
      refine lv_bipush (v := 18) hx hb dX6_sizeOf_44 (by decide) ?_
      obtain rfl := Option.some.inj hf
      exact hret _ _ _ _ dX6_sizeOf_46 (hP.sub [0, 1] rfl) (hD.sub [0, 1] (by decide) rfl) hS
    · have hf := pr_neg hf c13
      by_cases c14 : x1 = 2
      · have hf := pr_pos hf c14
        refine lv_tableIn (off := 46) (tgt := 47) hx hb dX6_sizeOf_1 (by rw [c14]; decide) (by rw [c14]; decide) (by rw [c14]; rfl) (by decide) ?_
        refine lv_bipush (v := 24) hx hb dX6_sizeOf_47 (by decide) ?_
        refine lv_aload_n hx hb dX6_sizeOf_49 rfl (lv_at hl 0 rfl) ?_
        refine lv_aload_n hx hb dX6_sizeOf_50 rfl (lv_at hl 0 rfl) ?_
        refine va_get (D := D) (ci := 6) (v := .int mo_many) (C := RX6) (T := TX6) (N := 15) hx hb hts hin6 hown hK hP 0 rfl rfl 12 (by decide) (hts (.fieldLink RX6 77 "ColumnChooserModel" "many" "I") (List.mem_of_getElem? (i := 1) rfl)) (fun _ h9 => h9) rfl dX6_sizeOf_51 ?_
        refine lv_iconst (v := 1) hx hb dX6_sizeOf_54 (by decide) ?_
        refine lv_isub hx hb dX6_sizeOf_55 ?_
        obtain ⟨u15, hu15, hf⟩ := pr_bd hf
        refine fr_iV (As := [.int (mo_many - 1)]) ⟨hx, hb, hml, hown, hts⟩ hK hP hD hS hA (c_X6_runsTo l D cI q_mo q_mv q_me q_mk q_ma q_mb q_mw q_mx n (mo_many - 1) mo_thrown mo_rows mo_size mo_price mo_queries mo_start mo_many mo_bits mv u15 hu15) (cwV 1 hts gX6_sizeOf_X6_runsTo rfl rfl rfl (by decide +kernel) ⟨Nat.le_of_ble_eq_true rfl, Nat.le_of_ble_eq_true rfl⟩) [] [0, 1] [] rfl rfl (by decide) (by decide) (by decide) 0 rfl rfl rfl rfl hl.1 (Nat.le_of_ble_eq_true rfl) dX6_sizeOf_56 ⟨Nat.zero_le _, Nat.zero_le _⟩ rfl (fun H locs hP hD hS => ?_)
        have hP : va_P D vwCl [(q_mo, .inr (6, [.int mo_thrown, .int mo_rows, .ref q_mv, .int mo_size, .ref q_me, .int mo_price, .int mo_queries, .ref q_mk, .ref q_ma, .ref q_mb, .ref q_mw, .int mo_start, .int mo_many, .int mo_bits, .ref q_mx])), (q_mv, .inl (cI, 96, .inl mv))] H := hP
        have hD : va_D A [(q_mo, .inr (6, [.int mo_thrown, .int mo_rows, .ref q_mv, .int mo_size, .ref q_me, .int mo_price, .int mo_queries, .ref q_mk, .ref q_ma, .ref q_mb, .ref q_mw, .int mo_start, .int mo_many, .int mo_bits, .ref q_mx])), (q_mv, .inl (cI, 96, .inl mv))] := hD
        refine lv_imul hx hb dX6_sizeOf_59 ?_
        obtain rfl := Option.some.inj hf
        exact hret _ _ _ _ dX6_sizeOf_60 (hP.sub [0, 1] rfl) (hD.sub [0, 1] (by decide) rfl) hS
      · have hf := pr_neg hf c14
        by_cases c16 : x1 = 3
        · have hf := pr_pos hf c16
          refine lv_tableIn (off := 60) (tgt := 61) hx hb dX6_sizeOf_1 (by rw [c16]; decide) (by rw [c16]; decide) (by rw [c16]; rfl) (by decide) ?_
          refine lv_bipush (v := 6) hx hb dX6_sizeOf_61 (by decide) ?_
          refine lv_bipush (v := 18) hx hb dX6_sizeOf_63 (by decide) ?_
          refine lv_aload_n hx hb dX6_sizeOf_65 rfl (lv_at hl 0 rfl) ?_
          obtain ⟨u17, hu17, hf⟩ := pr_bd hf
          refine fr_iV (As := []) ⟨hx, hb, hml, hown, hts⟩ hK hP hD hS hA (c_X6_different l D cI q_mo q_mv q_me q_mk q_ma q_mb q_mw q_mx n mo_thrown mo_rows mo_size mo_price mo_queries mo_start mo_many mo_bits mv u17 hu17) (cwV 0 hts gX6_sizeOf_X6_different rfl rfl rfl (by decide +kernel) ⟨Nat.le_of_ble_eq_true rfl, Nat.le_of_ble_eq_true rfl⟩) [] [0, 1] [] rfl rfl (by decide) (by decide) (by decide) 0 rfl rfl rfl rfl hl.1 (Nat.le_of_ble_eq_true rfl) dX6_sizeOf_66 ⟨Nat.zero_le _, Nat.zero_le _⟩ rfl (fun H locs hP hD hS => ?_)
          have hP : va_P D vwCl [(q_mo, .inr (6, [.int mo_thrown, .int mo_rows, .ref q_mv, .int mo_size, .ref q_me, .int mo_price, .int mo_queries, .ref q_mk, .ref q_ma, .ref q_mb, .ref q_mw, .int mo_start, .int mo_many, .int mo_bits, .ref q_mx])), (q_mv, .inl (cI, 96, .inl mv))] H := hP
          have hD : va_D A [(q_mo, .inr (6, [.int mo_thrown, .int mo_rows, .ref q_mv, .int mo_size, .ref q_me, .int mo_price, .int mo_queries, .ref q_mk, .ref q_ma, .ref q_mb, .ref q_mw, .int mo_start, .int mo_many, .int mo_bits, .ref q_mx])), (q_mv, .inl (cI, 96, .inl mv))] := hD
          refine lv_imul hx hb dX6_sizeOf_69 ?_
          refine lv_iadd hx hb dX6_sizeOf_70 ?_
          refine lv_aload_n hx hb dX6_sizeOf_71 rfl (lv_at hl 0 rfl) ?_
          refine va_get (D := D) (ci := 6) (v := .int mo_many) (C := RX6) (T := TX6) (N := 15) hx hb hts hin6 hown hK hP 0 rfl rfl 12 (by decide) (hts (.fieldLink RX6 77 "ColumnChooserModel" "many" "I") (List.mem_of_getElem? (i := 1) rfl)) (fun _ h9 => h9) rfl dX6_sizeOf_72 ?_
          refine lv_aload_n hx hb dX6_sizeOf_75 rfl (lv_at hl 0 rfl) ?_
          obtain ⟨u18, hu18, hf⟩ := pr_bd hf
          refine fr_iV (As := []) ⟨hx, hb, hml, hown, hts⟩ hK hP hD hS hA (c_X6_different l D cI q_mo q_mv q_me q_mk q_ma q_mb q_mw q_mx n mo_thrown mo_rows mo_size mo_price mo_queries mo_start mo_many mo_bits mv u18 hu18) (cwV 0 hts gX6_sizeOf_X6_different rfl rfl rfl (by decide +kernel) ⟨Nat.le_of_ble_eq_true rfl, Nat.le_of_ble_eq_true rfl⟩) [] [0, 1] [] rfl rfl (by decide) (by decide) (by decide) 0 rfl rfl rfl rfl hl.1 (Nat.le_of_ble_eq_true rfl) dX6_sizeOf_76 ⟨Nat.zero_le _, Nat.zero_le _⟩ rfl (fun H locs hP hD hS => ?_)
          have hP : va_P D vwCl [(q_mo, .inr (6, [.int mo_thrown, .int mo_rows, .ref q_mv, .int mo_size, .ref q_me, .int mo_price, .int mo_queries, .ref q_mk, .ref q_ma, .ref q_mb, .ref q_mw, .int mo_start, .int mo_many, .int mo_bits, .ref q_mx])), (q_mv, .inl (cI, 96, .inl mv))] H := hP
          have hD : va_D A [(q_mo, .inr (6, [.int mo_thrown, .int mo_rows, .ref q_mv, .int mo_size, .ref q_me, .int mo_price, .int mo_queries, .ref q_mk, .ref q_ma, .ref q_mb, .ref q_mw, .int mo_start, .int mo_many, .int mo_bits, .ref q_mx])), (q_mv, .inl (cI, 96, .inl mv))] := hD
          refine lv_iconst (v := 1) hx hb dX6_sizeOf_79 (by decide) ?_
          refine lv_isub hx hb dX6_sizeOf_80 ?_
          refine lv_i2l hx hb dX6_sizeOf_81 rfl ?_
          obtain ⟨u19, hu19, hf⟩ := pr_bd hf
          refine fr_iS (As := [.long (u18 - 1).toInt64]) ⟨hx, hb, hml, hown, hts⟩ hK hP hD hS hA (c_X6_width l D cI n ((u18 - 1).toInt64) u19 hu19) (va_cwS 1 hts gX6_sizeOf_X6_width rfl rfl rfl (by decide +kernel) ⟨Nat.le_of_ble_eq_true rfl, Nat.le_of_ble_eq_true rfl⟩) [(q_mo, .inr (6, [.int mo_thrown, .int mo_rows, .ref q_mv, .int mo_size, .ref q_me, .int mo_price, .int mo_queries, .ref q_mk, .ref q_ma, .ref q_mb, .ref q_mw, .int mo_start, .int mo_many, .int mo_bits, .ref q_mx])), (q_mv, .inl (cI, 96, .inl mv))] [] [0, 1] rfl rfl (by decide) (by decide) (by decide) rfl hl.1 (Nat.le_of_ble_eq_true rfl) dX6_sizeOf_82 ⟨Nat.zero_le _, Nat.zero_le _⟩ rfl (fun H locs hP hD hS => ?_)
          have hP : va_P D vwCl [(q_mo, .inr (6, [.int mo_thrown, .int mo_rows, .ref q_mv, .int mo_size, .ref q_me, .int mo_price, .int mo_queries, .ref q_mk, .ref q_ma, .ref q_mb, .ref q_mw, .int mo_start, .int mo_many, .int mo_bits, .ref q_mx])), (q_mv, .inl (cI, 96, .inl mv))] H := hP
          have hD : va_D A [(q_mo, .inr (6, [.int mo_thrown, .int mo_rows, .ref q_mv, .int mo_size, .ref q_me, .int mo_price, .int mo_queries, .ref q_mk, .ref q_ma, .ref q_mb, .ref q_mw, .int mo_start, .int mo_many, .int mo_bits, .ref q_mx])), (q_mv, .inl (cI, 96, .inl mv))] := hD
          refine lv_imul hx hb dX6_sizeOf_85 ?_
          refine lv_iadd hx hb dX6_sizeOf_86 ?_
          obtain rfl := Option.some.inj hf
          exact hret _ _ _ _ dX6_sizeOf_87 (hP.sub [0, 1] rfl) (hD.sub [0, 1] (by decide) rfl) hS
        · have hf := pr_neg hf c16
          by_cases c20 : x1 = 4
          · have hf := pr_pos hf c20
            refine lv_tableIn (off := 87) (tgt := 88) hx hb dX6_sizeOf_1 (by rw [c20]; decide) (by rw [c20]; decide) (by rw [c20]; rfl) (by decide) ?_
            refine lv_bipush (v := 23) hx hb dX6_sizeOf_88 (by decide) ?_
            refine lv_aload_n hx hb dX6_sizeOf_90 rfl (lv_at hl 0 rfl) ?_
            refine va_get (D := D) (ci := 6) (v := .int mo_many) (C := RX6) (T := TX6) (N := 15) hx hb hts hin6 hown hK hP 0 rfl rfl 12 (by decide) (hts (.fieldLink RX6 77 "ColumnChooserModel" "many" "I") (List.mem_of_getElem? (i := 1) rfl)) (fun _ h9 => h9) rfl dX6_sizeOf_91 ?_
            refine lv_aload_n hx hb dX6_sizeOf_94 rfl (lv_at hl 0 rfl) ?_
            obtain ⟨u21, hu21, hf⟩ := pr_bd hf
            refine fr_iV (As := []) ⟨hx, hb, hml, hown, hts⟩ hK hP hD hS hA (c_X6_frameWidth l D cI q_mo q_mv q_me q_mk q_ma q_mb q_mw q_mx n mo_thrown mo_rows mo_size mo_price mo_queries mo_start mo_many mo_bits mv u21 hu21) (cwV 0 hts gX6_sizeOf_X6_frameWidth rfl rfl rfl (by decide +kernel) ⟨Nat.le_of_ble_eq_true rfl, Nat.le_of_ble_eq_true rfl⟩) [] [0, 1] [] rfl rfl (by decide) (by decide) (by decide) 0 rfl rfl rfl rfl hl.1 (Nat.le_of_ble_eq_true rfl) dX6_sizeOf_95 ⟨Nat.zero_le _, Nat.zero_le _⟩ rfl (fun H locs hP hD hS => ?_)
            have hP : va_P D vwCl [(q_mo, .inr (6, [.int mo_thrown, .int mo_rows, .ref q_mv, .int mo_size, .ref q_me, .int mo_price, .int mo_queries, .ref q_mk, .ref q_ma, .ref q_mb, .ref q_mw, .int mo_start, .int mo_many, .int mo_bits, .ref q_mx])), (q_mv, .inl (cI, 96, .inl mv))] H := hP
            have hD : va_D A [(q_mo, .inr (6, [.int mo_thrown, .int mo_rows, .ref q_mv, .int mo_size, .ref q_me, .int mo_price, .int mo_queries, .ref q_mk, .ref q_ma, .ref q_mb, .ref q_mw, .int mo_start, .int mo_many, .int mo_bits, .ref q_mx])), (q_mv, .inl (cI, 96, .inl mv))] := hD
            refine lv_imul hx hb dX6_sizeOf_98 ?_
            refine lv_iadd hx hb dX6_sizeOf_99 ?_
            obtain rfl := Option.some.inj hf
            exact hret _ _ _ _ dX6_sizeOf_100 (hP.sub [0, 1] rfl) (hD.sub [0, 1] (by decide) rfl) hS
          · have hf := pr_neg hf c20
            refine lv_tableOut (tgt := 101) hx hb dX6_sizeOf_1 (by have n0 := lv_neT (a := 0) c12 (by decide); have n1 := lv_neT (a := 1) c13 (by decide); have n2 := lv_neT (a := 2) c14 (by decide); have n3 := lv_neT (a := 3) c16 (by decide); have n4 := lv_neT (a := 4) c20 (by decide); omega) (by decide) ?_
            refine lv_bipush (v := 23) hx hb dX6_sizeOf_101 (by decide) ?_
            refine lv_aload_n hx hb dX6_sizeOf_103 rfl (lv_at hl 0 rfl) ?_
            refine va_get (D := D) (ci := 6) (v := .int mo_many) (C := RX6) (T := TX6) (N := 15) hx hb hts hin6 hown hK hP 0 rfl rfl 12 (by decide) (hts (.fieldLink RX6 77 "ColumnChooserModel" "many" "I") (List.mem_of_getElem? (i := 1) rfl)) (fun _ h9 => h9) rfl dX6_sizeOf_104 ?_
            refine lv_iconst (v := 1) hx hb dX6_sizeOf_107 (by decide) ?_
            refine lv_isub hx hb dX6_sizeOf_108 ?_
            refine lv_aload_n hx hb dX6_sizeOf_109 rfl (lv_at hl 0 rfl) ?_
            obtain ⟨u22, hu22, hf⟩ := pr_bd hf
            refine fr_iV (As := []) ⟨hx, hb, hml, hown, hts⟩ hK hP hD hS hA (c_X6_deltaWidth l D cI q_mo q_mv q_me q_mk q_ma q_mb q_mw q_mx n mo_thrown mo_rows mo_size mo_price mo_queries mo_start mo_many mo_bits mv u22 hu22) (cwV 0 hts gX6_sizeOf_X6_deltaWidth rfl rfl rfl (by decide +kernel) ⟨Nat.le_of_ble_eq_true rfl, Nat.le_of_ble_eq_true rfl⟩) [] [0, 1] [] rfl rfl (by decide) (by decide) (by decide) 0 rfl rfl rfl rfl hl.1 (Nat.le_of_ble_eq_true rfl) dX6_sizeOf_110 ⟨Nat.zero_le _, Nat.zero_le _⟩ rfl (fun H locs hP hD hS => ?_)
            have hP : va_P D vwCl [(q_mo, .inr (6, [.int mo_thrown, .int mo_rows, .ref q_mv, .int mo_size, .ref q_me, .int mo_price, .int mo_queries, .ref q_mk, .ref q_ma, .ref q_mb, .ref q_mw, .int mo_start, .int mo_many, .int mo_bits, .ref q_mx])), (q_mv, .inl (cI, 96, .inl mv))] H := hP
            have hD : va_D A [(q_mo, .inr (6, [.int mo_thrown, .int mo_rows, .ref q_mv, .int mo_size, .ref q_me, .int mo_price, .int mo_queries, .ref q_mk, .ref q_ma, .ref q_mb, .ref q_mw, .int mo_start, .int mo_many, .int mo_bits, .ref q_mx])), (q_mv, .inl (cI, 96, .inl mv))] := hD
            refine lv_imul hx hb dX6_sizeOf_113 ?_
            refine lv_iadd hx hb dX6_sizeOf_114 ?_
            obtain rfl := Option.some.inj hf
            exact hret _ _ _ _ dX6_sizeOf_115 (hP.sub [0, 1] rfl) (hD.sub [0, 1] (by decide) rfl) hS
set_option maxHeartbeats 4000000 in
set_option maxRecDepth 100000 in
theorem c_X6_pointCost (l : Launch) (D : va_G) (cI : ClassId) (q_mo q_mv q_me q_mk q_ma q_mb q_mw q_mx : Nat) (n : Nat) (x1 : Int32) (x2 : Int32) (mo_thrown : Int32) (mo_rows : Int32) (mo_size : Int32) (mo_price : Int32) (mo_queries : Int32) (mo_start : Int32) (mo_many : Int32) (mo_bits : Int32) (mv : (Nat → Int32)) (res : Int32) (hf : f_X6_pointCost n x1 x2 mo_start mv = some res) : fr_Ci l yX6_pointCost wsX6_pointCost ({ frames := 3, cells := 0, slots := 0, locals := 65 }) D [(cI, .int)] [.ref q_mo, .int x1, .int x2] [(q_mo, .inr (6, [.int mo_thrown, .int mo_rows, .ref q_mv, .int mo_size, .ref q_me, .int mo_price, .int mo_queries, .ref q_mk, .ref q_ma, .ref q_mb, .ref q_mw, .int mo_start, .int mo_many, .int mo_bits, .ref q_mx])), (q_mv, .inl (cI, 96, .inl mv))] res [(q_mo, .inr (6, [.int mo_thrown, .int mo_rows, .ref q_mv, .int mo_size, .ref q_me, .int mo_price, .int mo_queries, .ref q_mk, .ref q_ma, .ref q_mb, .ref q_mw, .int mo_start, .int mo_many, .int mo_bits, .ref q_mx])), (q_mv, .inl (cI, 96, .inl mv))] := by
  refine fr_open_i (cc := cX6_pointCost) (maxL := 3) (ret := some .int) (by decide +kernel) rfl (Nat.le_of_ble_eq_true rfl) ⟨.int, rfl, vp_nar_int _⟩ ?_
  intro p e s m below meth c A Q ls hx hb hml hown hts hA hK hP hD hS hl hret
  have hown : s.vm.findClass RX6 = some m.cls := hown
  have hl : lv_has ls 3 [(0, .ref q_mo), (1, .int x1), (2, .int x2)] := hl
  unfold f_X6_pointCost at hf
  refine lv_iload_n hx hb dX6_pointCost_0 rfl (lv_at hl 1 rfl) ?_
  refine lv_if_eq (tgt := 9) hx hb dX6_pointCost_1 (by decide) (fun c6 => ?_) (fun c6 => ?_)
  · have hf := pr_pos hf c6
    refine lv_iconst (v := 1) hx hb dX6_pointCost_9 (by decide) ?_
    refine lv_goto (tgt := 40) hx hb dX6_pointCost_10 (by decide) ?_
    obtain rfl := Option.some.inj hf
    exact hret _ _ _ _ dX6_pointCost_40 (hP.sub [0, 1] rfl) (hD.sub [0, 1] (by decide) rfl) hS
  · have hf := pr_neg hf c6
    refine lv_iload_n hx hb dX6_pointCost_4 rfl (lv_at hl 1 rfl) ?_
    refine lv_iconst (v := 1) hx hb dX6_pointCost_5 (by decide) ?_
    refine lv_icmp_ne (tgt := 13) hx hb dX6_pointCost_6 (by decide) (fun c7 => ?_) (fun c7 => ?_)
    · have hf := pr_neg hf c7
      refine lv_iload_n hx hb dX6_pointCost_13 rfl (lv_at hl 1 rfl) ?_
      refine lv_iconst (v := 2) hx hb dX6_pointCost_14 (by decide) ?_
      refine lv_icmp_ne (tgt := 28) hx hb dX6_pointCost_15 (by decide) (fun c8 => ?_) (fun c8 => ?_)
      · have hf := pr_neg hf c8
        refine lv_iload_n hx hb dX6_pointCost_28 rfl (lv_at hl 1 rfl) ?_
        refine lv_iconst (v := 5) hx hb dX6_pointCost_29 (by decide) ?_
        refine lv_icmp_ne (tgt := 39) hx hb dX6_pointCost_30 (by decide) (fun c9 => ?_) (fun c9 => ?_)
        · have hf := pr_neg hf c9
          refine lv_iconst (v := 2) hx hb dX6_pointCost_39 (by decide) ?_
          obtain rfl := Option.some.inj hf
          exact hret _ _ _ _ dX6_pointCost_40 (hP.sub [0, 1] rfl) (hD.sub [0, 1] (by decide) rfl) hS
        · have hf := pr_pos hf c9
          refine lv_iload_n hx hb dX6_pointCost_33 rfl (lv_at hl 2 rfl) ?_
          refine lv_iconst (v := 1) hx hb dX6_pointCost_34 (by decide) ?_
          refine lv_iadd hx hb dX6_pointCost_35 ?_
          refine lv_goto (tgt := 40) hx hb dX6_pointCost_36 (by decide) ?_
          obtain rfl := Option.some.inj hf
          exact hret _ _ _ _ dX6_pointCost_40 (hP.sub [0, 1] rfl) (hD.sub [0, 1] (by decide) rfl) hS
      · have hf := pr_pos hf c8
        refine lv_iconst (v := 1) hx hb dX6_pointCost_18 (by decide) ?_
        refine lv_aload_n hx hb dX6_pointCost_19 rfl (lv_at hl 0 rfl) ?_
        refine lv_iload_n hx hb dX6_pointCost_20 rfl (lv_at hl 2 rfl) ?_
        obtain ⟨u10, hu10, hf⟩ := pr_bd hf
        refine fr_iV (As := [.int x2]) ⟨hx, hb, hml, hown, hts⟩ hK hP hD hS hA (c_X6_runsTo l D cI q_mo q_mv q_me q_mk q_ma q_mb q_mw q_mx n x2 mo_thrown mo_rows mo_size mo_price mo_queries mo_start mo_many mo_bits mv u10 hu10) (cwV 1 hts gX6_pointCost_X6_runsTo rfl rfl rfl (by decide +kernel) ⟨Nat.le_of_ble_eq_true rfl, Nat.le_of_ble_eq_true rfl⟩) [] [0, 1] [] rfl rfl (by decide) (by decide) (by decide) 0 rfl rfl rfl rfl hl.1 (Nat.le_of_ble_eq_true rfl) dX6_pointCost_21 ⟨Nat.zero_le _, Nat.zero_le _⟩ rfl (fun H locs hP hD hS => ?_)
        have hP : va_P D vwCl [(q_mo, .inr (6, [.int mo_thrown, .int mo_rows, .ref q_mv, .int mo_size, .ref q_me, .int mo_price, .int mo_queries, .ref q_mk, .ref q_ma, .ref q_mb, .ref q_mw, .int mo_start, .int mo_many, .int mo_bits, .ref q_mx])), (q_mv, .inl (cI, 96, .inl mv))] H := hP
        have hD : va_D A [(q_mo, .inr (6, [.int mo_thrown, .int mo_rows, .ref q_mv, .int mo_size, .ref q_me, .int mo_price, .int mo_queries, .ref q_mk, .ref q_ma, .ref q_mb, .ref q_mw, .int mo_start, .int mo_many, .int mo_bits, .ref q_mx])), (q_mv, .inl (cI, 96, .inl mv))] := hD
        refine lv_iadd hx hb dX6_pointCost_24 ?_
        refine lv_goto (tgt := 40) hx hb dX6_pointCost_25 (by decide) ?_
        obtain rfl := Option.some.inj hf
        exact hret _ _ _ _ dX6_pointCost_40 (hP.sub [0, 1] rfl) (hD.sub [0, 1] (by decide) rfl) hS
    · have hf := pr_pos hf c7
      refine lv_iconst (v := 1) hx hb dX6_pointCost_9 (by decide) ?_
      refine lv_goto (tgt := 40) hx hb dX6_pointCost_10 (by decide) ?_
      obtain rfl := Option.some.inj hf
      exact hret _ _ _ _ dX6_pointCost_40 (hP.sub [0, 1] rfl) (hD.sub [0, 1] (by decide) rfl) hS
set_option maxHeartbeats 4000000 in
set_option maxRecDepth 100000 in
theorem c_X6_sumCost (l : Launch) (D : va_G) (cI : ClassId) (q_mo q_mv q_me q_mk q_ma q_mb q_mw q_mx : Nat) (n : Nat) (x1 : Int32) (x2 : Int32) (x3 : Int32) (mo_thrown : Int32) (mo_rows : Int32) (mo_size : Int32) (mo_price : Int32) (mo_queries : Int32) (mo_start : Int32) (mo_many : Int32) (mo_bits : Int32) (mv : (Nat → Int32)) (res : Int32) (hf : f_X6_sumCost n x1 x2 x3 mo_start mo_many mv = some res) : fr_Ci l yX6_sumCost wsX6_sumCost ({ frames := 3, cells := 0, slots := 0, locals := 66 }) D [(cI, .int)] [.ref q_mo, .int x1, .int x2, .int x3] [(q_mo, .inr (6, [.int mo_thrown, .int mo_rows, .ref q_mv, .int mo_size, .ref q_me, .int mo_price, .int mo_queries, .ref q_mk, .ref q_ma, .ref q_mb, .ref q_mw, .int mo_start, .int mo_many, .int mo_bits, .ref q_mx])), (q_mv, .inl (cI, 96, .inl mv))] res [(q_mo, .inr (6, [.int mo_thrown, .int mo_rows, .ref q_mv, .int mo_size, .ref q_me, .int mo_price, .int mo_queries, .ref q_mk, .ref q_ma, .ref q_mb, .ref q_mw, .int mo_start, .int mo_many, .int mo_bits, .ref q_mx])), (q_mv, .inl (cI, 96, .inl mv))] := by
  refine fr_open_i (cc := cX6_sumCost) (maxL := 4) (ret := some .int) (by decide +kernel) rfl (Nat.le_of_ble_eq_true rfl) ⟨.int, rfl, vp_nar_int _⟩ ?_
  intro p e s m below meth c A Q ls hx hb hml hown hts hA hK hP hD hS hl hret
  have hown : s.vm.findClass RX6 = some m.cls := hown
  have hl : lv_has ls 4 [(0, .ref q_mo), (1, .int x1), (2, .int x2), (3, .int x3)] := hl
  unfold f_X6_sumCost at hf
  refine lv_iload_n hx hb dX6_sumCost_0 rfl (lv_at hl 1 rfl) ?_
  by_cases c8 : x1 = 0
  · have hf := pr_pos hf c8
    refine lv_tableIn (off := 35) (tgt := 36) hx hb dX6_sumCost_1 (by rw [c8]; decide) (by rw [c8]; decide) (by rw [c8]; rfl) (by decide) ?_
    refine lv_iload_n hx hb dX6_sumCost_36 rfl (lv_at hl 3 rfl) ?_
    refine lv_iload_n hx hb dX6_sumCost_37 rfl (lv_at hl 2 rfl) ?_
    refine lv_isub hx hb dX6_sumCost_38 ?_
    refine lv_iconst (v := 1) hx hb dX6_sumCost_39 (by decide) ?_
    refine lv_iadd hx hb dX6_sumCost_40 ?_
    obtain rfl := Option.some.inj hf
    exact hret _ _ _ _ dX6_sumCost_41 (hP.sub [0, 1] rfl) (hD.sub [0, 1] (by decide) rfl) hS
  · have hf := pr_neg hf c8
    by_cases c9 : x1 = 1
    · have hf := pr_pos hf c9
      refine lv_tableIn (off := 41) (tgt := 42) hx hb dX6_sumCost_1 (by rw [c9]; decide) (by rw [c9]; decide) (by rw [c9]; rfl) (by decide) ?_
      refine lv_iconst (v := 1) hx hb dX6_sumCost_42 (by decide) ?_
      obtain rfl := Option.some.inj hf
      exact hret _ _ _ _ dX6_sumCost_43 (hP.sub [0, 1] rfl) (hD.sub [0, 1] (by decide) rfl) hS
    · have hf := pr_neg hf c9
      by_cases c10 : x1 = 2
      · have hf := pr_pos hf c10
        refine lv_tableIn (off := 43) (tgt := 44) hx hb dX6_sumCost_1 (by rw [c10]; decide) (by rw [c10]; decide) (by rw [c10]; rfl) (by decide) ?_
        refine lv_iconst (v := 1) hx hb dX6_sumCost_44 (by decide) ?_
        refine lv_aload_n hx hb dX6_sumCost_45 rfl (lv_at hl 0 rfl) ?_
        refine lv_iload_n hx hb dX6_sumCost_46 rfl (lv_at hl 3 rfl) ?_
        obtain ⟨u11, hu11, hf⟩ := pr_bd hf
        refine fr_iV (As := [.int x3]) ⟨hx, hb, hml, hown, hts⟩ hK hP hD hS hA (c_X6_runsTo l D cI q_mo q_mv q_me q_mk q_ma q_mb q_mw q_mx n x3 mo_thrown mo_rows mo_size mo_price mo_queries mo_start mo_many mo_bits mv u11 hu11) (cwV 1 hts gX6_sumCost_X6_runsTo rfl rfl rfl (by decide +kernel) ⟨Nat.le_of_ble_eq_true rfl, Nat.le_of_ble_eq_true rfl⟩) [] [0, 1] [] rfl rfl (by decide) (by decide) (by decide) 0 rfl rfl rfl rfl hl.1 (Nat.le_of_ble_eq_true rfl) dX6_sumCost_47 ⟨Nat.zero_le _, Nat.zero_le _⟩ rfl (fun H locs hP hD hS => ?_)
        have hP : va_P D vwCl [(q_mo, .inr (6, [.int mo_thrown, .int mo_rows, .ref q_mv, .int mo_size, .ref q_me, .int mo_price, .int mo_queries, .ref q_mk, .ref q_ma, .ref q_mb, .ref q_mw, .int mo_start, .int mo_many, .int mo_bits, .ref q_mx])), (q_mv, .inl (cI, 96, .inl mv))] H := hP
        have hD : va_D A [(q_mo, .inr (6, [.int mo_thrown, .int mo_rows, .ref q_mv, .int mo_size, .ref q_me, .int mo_price, .int mo_queries, .ref q_mk, .ref q_ma, .ref q_mb, .ref q_mw, .int mo_start, .int mo_many, .int mo_bits, .ref q_mx])), (q_mv, .inl (cI, 96, .inl mv))] := hD
        refine lv_iadd hx hb dX6_sumCost_50 ?_
        obtain rfl := Option.some.inj hf
        exact hret _ _ _ _ dX6_sumCost_51 (hP.sub [0, 1] rfl) (hD.sub [0, 1] (by decide) rfl) hS
      · have hf := pr_neg hf c10
        by_cases c12 : x1 = 3
        · have hf := pr_pos hf c12
          refine lv_tableIn (off := 51) (tgt := 52) hx hb dX6_sumCost_1 (by rw [c12]; decide) (by rw [c12]; decide) (by rw [c12]; rfl) (by decide) ?_
          refine lv_iload_n hx hb dX6_sumCost_52 rfl (lv_at hl 3 rfl) ?_
          refine lv_iload_n hx hb dX6_sumCost_53 rfl (lv_at hl 2 rfl) ?_
          refine lv_isub hx hb dX6_sumCost_54 ?_
          refine lv_iconst (v := 1) hx hb dX6_sumCost_55 (by decide) ?_
          refine lv_iadd hx hb dX6_sumCost_56 ?_
          refine lv_aload_n hx hb dX6_sumCost_57 rfl (lv_at hl 0 rfl) ?_
          obtain ⟨u13, hu13, hf⟩ := pr_bd hf
          refine fr_iV (As := []) ⟨hx, hb, hml, hown, hts⟩ hK hP hD hS hA (c_X6_different l D cI q_mo q_mv q_me q_mk q_ma q_mb q_mw q_mx n mo_thrown mo_rows mo_size mo_price mo_queries mo_start mo_many mo_bits mv u13 hu13) (cwV 0 hts gX6_sumCost_X6_different rfl rfl rfl (by decide +kernel) ⟨Nat.le_of_ble_eq_true rfl, Nat.le_of_ble_eq_true rfl⟩) [] [0, 1] [] rfl rfl (by decide) (by decide) (by decide) 0 rfl rfl rfl rfl hl.1 (Nat.le_of_ble_eq_true rfl) dX6_sumCost_58 ⟨Nat.zero_le _, Nat.zero_le _⟩ rfl (fun H locs hP hD hS => ?_)
          have hP : va_P D vwCl [(q_mo, .inr (6, [.int mo_thrown, .int mo_rows, .ref q_mv, .int mo_size, .ref q_me, .int mo_price, .int mo_queries, .ref q_mk, .ref q_ma, .ref q_mb, .ref q_mw, .int mo_start, .int mo_many, .int mo_bits, .ref q_mx])), (q_mv, .inl (cI, 96, .inl mv))] H := hP
          have hD : va_D A [(q_mo, .inr (6, [.int mo_thrown, .int mo_rows, .ref q_mv, .int mo_size, .ref q_me, .int mo_price, .int mo_queries, .ref q_mk, .ref q_ma, .ref q_mb, .ref q_mw, .int mo_start, .int mo_many, .int mo_bits, .ref q_mx])), (q_mv, .inl (cI, 96, .inl mv))] := hD
          refine lv_iadd hx hb dX6_sumCost_61 ?_
          obtain rfl := Option.some.inj hf
          exact hret _ _ _ _ dX6_sumCost_62 (hP.sub [0, 1] rfl) (hD.sub [0, 1] (by decide) rfl) hS
        · have hf := pr_neg hf c12
          by_cases c14 : x1 = 4
          · have hf := pr_pos hf c14
            refine lv_tableIn (off := 62) (tgt := 63) hx hb dX6_sumCost_1 (by rw [c14]; decide) (by rw [c14]; decide) (by rw [c14]; rfl) (by decide) ?_
            refine lv_iload_n hx hb dX6_sumCost_63 rfl (lv_at hl 3 rfl) ?_
            refine lv_iload_n hx hb dX6_sumCost_64 rfl (lv_at hl 2 rfl) ?_
            refine lv_isub hx hb dX6_sumCost_65 ?_
            refine lv_iconst (v := 2) hx hb dX6_sumCost_66 (by decide) ?_
            refine lv_iadd hx hb dX6_sumCost_67 ?_
            obtain rfl := Option.some.inj hf
            exact hret _ _ _ _ dX6_sumCost_68 (hP.sub [0, 1] rfl) (hD.sub [0, 1] (by decide) rfl) hS
          · have hf := pr_neg hf c14
            refine lv_tableOut (tgt := 69) hx hb dX6_sumCost_1 (by have n0 := lv_neT (a := 0) c8 (by decide); have n1 := lv_neT (a := 1) c9 (by decide); have n2 := lv_neT (a := 2) c10 (by decide); have n3 := lv_neT (a := 3) c12 (by decide); have n4 := lv_neT (a := 4) c14 (by decide); omega) (by decide) ?_
            refine lv_iload_n hx hb dX6_sumCost_69 rfl (lv_at hl 3 rfl) ?_
            refine lv_iconst (v := 1) hx hb dX6_sumCost_70 (by decide) ?_
            refine lv_iadd hx hb dX6_sumCost_71 ?_
            obtain rfl := Option.some.inj hf
            exact hret _ _ _ _ dX6_sumCost_72 (hP.sub [0, 1] rfl) (hD.sub [0, 1] (by decide) rfl) hS
set_option maxHeartbeats 4000000 in
set_option maxRecDepth 100000 in
theorem c_X6_countCost (l : Launch) (D : va_G) (cI : ClassId) (q_mo q_mv q_me q_mk q_ma q_mb q_mw q_mx : Nat) (n : Nat) (x1 : Int32) (x2 : Int32) (mo_thrown : Int32) (mo_rows : Int32) (mo_size : Int32) (mo_price : Int32) (mo_queries : Int32) (mo_start : Int32) (mo_many : Int32) (mo_bits : Int32) (mv : (Nat → Int32)) (res : Int32) (hf : f_X6_countCost n x1 x2 mo_start mo_many mv = some res) : fr_Ci l yX6_countCost wsX6_countCost ({ frames := 3, cells := 0, slots := 0, locals := 67 }) D [(cI, .int)] [.ref q_mo, .int x1, .int x2] [(q_mo, .inr (6, [.int mo_thrown, .int mo_rows, .ref q_mv, .int mo_size, .ref q_me, .int mo_price, .int mo_queries, .ref q_mk, .ref q_ma, .ref q_mb, .ref q_mw, .int mo_start, .int mo_many, .int mo_bits, .ref q_mx])), (q_mv, .inl (cI, 96, .inl mv))] res [(q_mo, .inr (6, [.int mo_thrown, .int mo_rows, .ref q_mv, .int mo_size, .ref q_me, .int mo_price, .int mo_queries, .ref q_mk, .ref q_ma, .ref q_mb, .ref q_mw, .int mo_start, .int mo_many, .int mo_bits, .ref q_mx])), (q_mv, .inl (cI, 96, .inl mv))] := by
  refine fr_open_i (cc := cX6_countCost) (maxL := 3) (ret := some .int) (by decide +kernel) rfl (Nat.le_of_ble_eq_true rfl) ⟨.int, rfl, vp_nar_int _⟩ ?_
  intro p e s m below meth c A Q ls hx hb hml hown hts hA hK hP hD hS hl hret
  have hown : s.vm.findClass RX6 = some m.cls := hown
  have hl : lv_has ls 3 [(0, .ref q_mo), (1, .int x1), (2, .int x2)] := hl
  have hin6 : ∀ w ∈ u_ws RX6 TX6 15, w ∈ wsX6_countCost := fun _ h9 => List.mem_cons_of_mem _ (List.mem_append_right _ h9)
  unfold f_X6_countCost at hf
  refine lv_iload_n hx hb dX6_countCost_0 rfl (lv_at hl 1 rfl) ?_
  by_cases c14 : x1 = 1
  · have hf := pr_pos hf c14
    refine lv_tableIn (off := 31) (tgt := 32) hx hb dX6_countCost_1 (by rw [c14]; decide) (by rw [c14]; decide) (by rw [c14]; rfl) (by decide) ?_
    refine lv_iconst (v := 1) hx hb dX6_countCost_32 (by decide) ?_
    obtain rfl := Option.some.inj hf
    exact hret _ _ _ _ dX6_countCost_33 (hP.sub [0, 1] rfl) (hD.sub [0, 1] (by decide) rfl) hS
  · have hf := pr_neg hf c14
    by_cases c15 : x1 = 2
    · have hf := pr_pos hf c15
      refine lv_tableIn (off := 33) (tgt := 34) hx hb dX6_countCost_1 (by rw [c15]; decide) (by rw [c15]; decide) (by rw [c15]; rfl) (by decide) ?_
      refine lv_aload_n hx hb dX6_countCost_34 rfl (lv_at hl 0 rfl) ?_
      refine lv_aload_n hx hb dX6_countCost_35 rfl (lv_at hl 0 rfl) ?_
      refine va_get (D := D) (ci := 6) (v := .int mo_many) (C := RX6) (T := TX6) (N := 15) hx hb hts hin6 hown hK hP 0 rfl rfl 12 (by decide) (hts (.fieldLink RX6 77 "ColumnChooserModel" "many" "I") (List.mem_of_getElem? (i := 1) rfl)) (fun _ h9 => h9) rfl dX6_countCost_36 ?_
      refine lv_iconst (v := 1) hx hb dX6_countCost_39 (by decide) ?_
      refine lv_isub hx hb dX6_countCost_40 ?_
      obtain ⟨u16, hu16, hf⟩ := pr_bd hf
      refine fr_iV (As := [.int (mo_many - 1)]) ⟨hx, hb, hml, hown, hts⟩ hK hP hD hS hA (c_X6_runsTo l D cI q_mo q_mv q_me q_mk q_ma q_mb q_mw q_mx n (mo_many - 1) mo_thrown mo_rows mo_size mo_price mo_queries mo_start mo_many mo_bits mv u16 hu16) (cwV 1 hts gX6_countCost_X6_runsTo rfl rfl rfl (by decide +kernel) ⟨Nat.le_of_ble_eq_true rfl, Nat.le_of_ble_eq_true rfl⟩) [] [0, 1] [] rfl rfl (by decide) (by decide) (by decide) 0 rfl rfl rfl rfl hl.1 (Nat.le_of_ble_eq_true rfl) dX6_countCost_41 ⟨Nat.zero_le _, Nat.zero_le _⟩ rfl (fun H locs hP hD hS => ?_)
      have hP : va_P D vwCl [(q_mo, .inr (6, [.int mo_thrown, .int mo_rows, .ref q_mv, .int mo_size, .ref q_me, .int mo_price, .int mo_queries, .ref q_mk, .ref q_ma, .ref q_mb, .ref q_mw, .int mo_start, .int mo_many, .int mo_bits, .ref q_mx])), (q_mv, .inl (cI, 96, .inl mv))] H := hP
      have hD : va_D A [(q_mo, .inr (6, [.int mo_thrown, .int mo_rows, .ref q_mv, .int mo_size, .ref q_me, .int mo_price, .int mo_queries, .ref q_mk, .ref q_ma, .ref q_mb, .ref q_mw, .int mo_start, .int mo_many, .int mo_bits, .ref q_mx])), (q_mv, .inl (cI, 96, .inl mv))] := hD
      refine lv_iconst (v := 1) hx hb dX6_countCost_44 (by decide) ?_
      refine lv_iadd hx hb dX6_countCost_45 ?_
      obtain rfl := Option.some.inj hf
      exact hret _ _ _ _ dX6_countCost_46 (hP.sub [0, 1] rfl) (hD.sub [0, 1] (by decide) rfl) hS
    · have hf := pr_neg hf c15
      by_cases c17 : x1 = 3
      · have hf := pr_pos hf c17
        refine lv_tableIn (off := 46) (tgt := 47) hx hb dX6_countCost_1 (by rw [c17]; decide) (by rw [c17]; decide) (by rw [c17]; rfl) (by decide) ?_
        refine lv_aload_n hx hb dX6_countCost_47 rfl (lv_at hl 0 rfl) ?_
        obtain ⟨u18, hu18, hf⟩ := pr_bd hf
        refine fr_iV (As := []) ⟨hx, hb, hml, hown, hts⟩ hK hP hD hS hA (c_X6_different l D cI q_mo q_mv q_me q_mk q_ma q_mb q_mw q_mx n mo_thrown mo_rows mo_size mo_price mo_queries mo_start mo_many mo_bits mv u18 hu18) (cwV 0 hts gX6_countCost_X6_different rfl rfl rfl (by decide +kernel) ⟨Nat.le_of_ble_eq_true rfl, Nat.le_of_ble_eq_true rfl⟩) [] [0, 1] [] rfl rfl (by decide) (by decide) (by decide) 0 rfl rfl rfl rfl hl.1 (Nat.le_of_ble_eq_true rfl) dX6_countCost_48 ⟨Nat.zero_le _, Nat.zero_le _⟩ rfl (fun H locs hP hD hS => ?_)
        have hP : va_P D vwCl [(q_mo, .inr (6, [.int mo_thrown, .int mo_rows, .ref q_mv, .int mo_size, .ref q_me, .int mo_price, .int mo_queries, .ref q_mk, .ref q_ma, .ref q_mb, .ref q_mw, .int mo_start, .int mo_many, .int mo_bits, .ref q_mx])), (q_mv, .inl (cI, 96, .inl mv))] H := hP
        have hD : va_D A [(q_mo, .inr (6, [.int mo_thrown, .int mo_rows, .ref q_mv, .int mo_size, .ref q_me, .int mo_price, .int mo_queries, .ref q_mk, .ref q_ma, .ref q_mb, .ref q_mw, .int mo_start, .int mo_many, .int mo_bits, .ref q_mx])), (q_mv, .inl (cI, 96, .inl mv))] := hD
        refine lv_aload_n hx hb dX6_countCost_51 rfl (lv_at hl 0 rfl) ?_
        refine lv_iload_n hx hb dX6_countCost_52 rfl (lv_at hl 2 rfl) ?_
        obtain ⟨u19, hu19, hf⟩ := pr_bd hf
        refine fr_iV (As := [.int x2]) ⟨hx, hb, hml, hown, hts⟩ hK hP hD hS hA (c_X6_has l D cI q_mo q_mv q_me q_mk q_ma q_mb q_mw q_mx n x2 mo_thrown mo_rows mo_size mo_price mo_queries mo_start mo_many mo_bits mv u19 hu19) (cwV 1 hts gX6_countCost_X6_has rfl rfl rfl (by decide +kernel) ⟨Nat.le_of_ble_eq_true rfl, Nat.le_of_ble_eq_true rfl⟩) [] [0, 1] [] rfl rfl (by decide) (by decide) (by decide) 0 rfl rfl rfl rfl hl.1 (Nat.le_of_ble_eq_true rfl) dX6_countCost_53 ⟨Nat.zero_le _, Nat.zero_le _⟩ rfl (fun H locs hP hD hS => ?_)
        have hP : va_P D vwCl [(q_mo, .inr (6, [.int mo_thrown, .int mo_rows, .ref q_mv, .int mo_size, .ref q_me, .int mo_price, .int mo_queries, .ref q_mk, .ref q_ma, .ref q_mb, .ref q_mw, .int mo_start, .int mo_many, .int mo_bits, .ref q_mx])), (q_mv, .inl (cI, 96, .inl mv))] H := hP
        have hD : va_D A [(q_mo, .inr (6, [.int mo_thrown, .int mo_rows, .ref q_mv, .int mo_size, .ref q_me, .int mo_price, .int mo_queries, .ref q_mk, .ref q_ma, .ref q_mb, .ref q_mw, .int mo_start, .int mo_many, .int mo_bits, .ref q_mx])), (q_mv, .inl (cI, 96, .inl mv))] := hD
        refine lv_if_eq (tgt := 66) hx hb dX6_countCost_56 (by decide) (fun c20 => ?_) (fun c20 => ?_)
        · have hf := pr_pos hf c20
          refine lv_iconst (v := 0) hx hb dX6_countCost_66 (by decide) ?_
          refine lv_iadd hx hb dX6_countCost_67 ?_
          obtain rfl := Option.some.inj hf
          exact hret _ _ _ _ dX6_countCost_68 (hP.sub [0, 1] rfl) (hD.sub [0, 1] (by decide) rfl) hS
        · have hf := pr_neg hf c20
          refine lv_aload_n hx hb dX6_countCost_59 rfl (lv_at hl 0 rfl) ?_
          refine va_get (D := D) (ci := 6) (v := .int mo_many) (C := RX6) (T := TX6) (N := 15) hx hb hts hin6 hown hK hP 0 rfl rfl 12 (by decide) (hts (.fieldLink RX6 77 "ColumnChooserModel" "many" "I") (List.mem_of_getElem? (i := 1) rfl)) (fun _ h9 => h9) rfl dX6_countCost_60 ?_
          refine lv_goto (tgt := 67) hx hb dX6_countCost_63 (by decide) ?_
          refine lv_iadd hx hb dX6_countCost_67 ?_
          obtain rfl := Option.some.inj hf
          exact hret _ _ _ _ dX6_countCost_68 (hP.sub [0, 1] rfl) (hD.sub [0, 1] (by decide) rfl) hS
      · have hf := pr_neg hf c17
        by_cases c21 : x1 = 4
        · have hf := pr_pos hf c21
          refine lv_tableIn (off := 68) (tgt := 69) hx hb dX6_countCost_1 (by rw [c21]; decide) (by rw [c21]; decide) (by rw [c21]; rfl) (by decide) ?_
          refine lv_iconst (v := 1) hx hb dX6_countCost_69 (by decide) ?_
          refine lv_iload_n hx hb dX6_countCost_70 rfl (lv_at hl 2 rfl) ?_
          refine lv_aload_n hx hb dX6_countCost_71 rfl (lv_at hl 0 rfl) ?_
          obtain ⟨u22, hu22, hf⟩ := pr_bd hf
          refine fr_iV (As := []) ⟨hx, hb, hml, hown, hts⟩ hK hP hD hS hA (c_X6_least l D cI q_mo q_mv q_me q_mk q_ma q_mb q_mw q_mx n mo_thrown mo_rows mo_size mo_price mo_queries mo_start mo_many mo_bits mv u22 hu22) (cwV 0 hts gX6_countCost_X6_least rfl rfl rfl (by decide +kernel) ⟨Nat.le_of_ble_eq_true rfl, Nat.le_of_ble_eq_true rfl⟩) [] [0, 1] [] rfl rfl (by decide) (by decide) (by decide) 0 rfl rfl rfl rfl hl.1 (Nat.le_of_ble_eq_true rfl) dX6_countCost_72 ⟨Nat.zero_le _, Nat.zero_le _⟩ rfl (fun H locs hP hD hS => ?_)
          have hP : va_P D vwCl [(q_mo, .inr (6, [.int mo_thrown, .int mo_rows, .ref q_mv, .int mo_size, .ref q_me, .int mo_price, .int mo_queries, .ref q_mk, .ref q_ma, .ref q_mb, .ref q_mw, .int mo_start, .int mo_many, .int mo_bits, .ref q_mx])), (q_mv, .inl (cI, 96, .inl mv))] H := hP
          have hD : va_D A [(q_mo, .inr (6, [.int mo_thrown, .int mo_rows, .ref q_mv, .int mo_size, .ref q_me, .int mo_price, .int mo_queries, .ref q_mk, .ref q_ma, .ref q_mb, .ref q_mw, .int mo_start, .int mo_many, .int mo_bits, .ref q_mx])), (q_mv, .inl (cI, 96, .inl mv))] := hD
          refine lv_icmp_lt (tgt := 100) hx hb dX6_countCost_75 (by decide) (fun c23 => ?_) (fun c23 => ?_)
          · have hf := pr_pos hf c23
            refine lv_iconst (v := 0) hx hb dX6_countCost_100 (by decide) ?_
            refine lv_iadd hx hb dX6_countCost_101 ?_
            obtain rfl := Option.some.inj hf
            exact hret _ _ _ _ dX6_countCost_102 (hP.sub [0, 1] rfl) (hD.sub [0, 1] (by decide) rfl) hS
          · have hf := pr_neg hf c23
            refine lv_iload_n hx hb dX6_countCost_78 rfl (lv_at hl 2 rfl) ?_
            refine lv_aload_n hx hb dX6_countCost_79 rfl (lv_at hl 0 rfl) ?_
            obtain ⟨u24, hu24, hf⟩ := pr_bd hf
            refine fr_iV (As := []) ⟨hx, hb, hml, hown, hts⟩ hK hP hD hS hA (c_X6_least l D cI q_mo q_mv q_me q_mk q_ma q_mb q_mw q_mx n mo_thrown mo_rows mo_size mo_price mo_queries mo_start mo_many mo_bits mv u24 hu24) (cwV 0 hts gX6_countCost_X6_least rfl rfl rfl (by decide +kernel) ⟨Nat.le_of_ble_eq_true rfl, Nat.le_of_ble_eq_true rfl⟩) [] [0, 1] [] rfl rfl (by decide) (by decide) (by decide) 0 rfl rfl rfl rfl hl.1 (Nat.le_of_ble_eq_true rfl) dX6_countCost_80 ⟨Nat.zero_le _, Nat.zero_le _⟩ rfl (fun H locs hP hD hS => ?_)
            have hP : va_P D vwCl [(q_mo, .inr (6, [.int mo_thrown, .int mo_rows, .ref q_mv, .int mo_size, .ref q_me, .int mo_price, .int mo_queries, .ref q_mk, .ref q_ma, .ref q_mb, .ref q_mw, .int mo_start, .int mo_many, .int mo_bits, .ref q_mx])), (q_mv, .inl (cI, 96, .inl mv))] H := hP
            have hD : va_D A [(q_mo, .inr (6, [.int mo_thrown, .int mo_rows, .ref q_mv, .int mo_size, .ref q_me, .int mo_price, .int mo_queries, .ref q_mk, .ref q_ma, .ref q_mb, .ref q_mw, .int mo_start, .int mo_many, .int mo_bits, .ref q_mx])), (q_mv, .inl (cI, 96, .inl mv))] := hD
            refine lv_iconst (v := 1) hx hb dX6_countCost_83 (by decide) ?_
            refine lv_aload_n hx hb dX6_countCost_84 rfl (lv_at hl 0 rfl) ?_
            obtain ⟨u25, hu25, hf⟩ := pr_bd hf
            refine fr_iV (As := []) ⟨hx, hb, hml, hown, hts⟩ hK hP hD hS hA (c_X6_frameWidth l D cI q_mo q_mv q_me q_mk q_ma q_mb q_mw q_mx n mo_thrown mo_rows mo_size mo_price mo_queries mo_start mo_many mo_bits mv u25 hu25) (cwV 0 hts gX6_countCost_X6_frameWidth rfl rfl rfl (by decide +kernel) ⟨Nat.le_of_ble_eq_true rfl, Nat.le_of_ble_eq_true rfl⟩) [] [0, 1] [] rfl rfl (by decide) (by decide) (by decide) 0 rfl rfl rfl rfl hl.1 (Nat.le_of_ble_eq_true rfl) dX6_countCost_85 ⟨Nat.zero_le _, Nat.zero_le _⟩ rfl (fun H locs hP hD hS => ?_)
            have hP : va_P D vwCl [(q_mo, .inr (6, [.int mo_thrown, .int mo_rows, .ref q_mv, .int mo_size, .ref q_me, .int mo_price, .int mo_queries, .ref q_mk, .ref q_ma, .ref q_mb, .ref q_mw, .int mo_start, .int mo_many, .int mo_bits, .ref q_mx])), (q_mv, .inl (cI, 96, .inl mv))] H := hP
            have hD : va_D A [(q_mo, .inr (6, [.int mo_thrown, .int mo_rows, .ref q_mv, .int mo_size, .ref q_me, .int mo_price, .int mo_queries, .ref q_mk, .ref q_ma, .ref q_mb, .ref q_mw, .int mo_start, .int mo_many, .int mo_bits, .ref q_mx])), (q_mv, .inl (cI, 96, .inl mv))] := hD
            refine lv_ishl hx hb dX6_countCost_88 ?_
            refine lv_iadd hx hb dX6_countCost_89 ?_
            refine lv_icmp_ge (tgt := 100) hx hb dX6_countCost_90 (by decide) (fun c26 => ?_) (fun c26 => ?_)
            · have hf := pr_pos hf c26
              refine lv_iconst (v := 0) hx hb dX6_countCost_100 (by decide) ?_
              refine lv_iadd hx hb dX6_countCost_101 ?_
              obtain rfl := Option.some.inj hf
              exact hret _ _ _ _ dX6_countCost_102 (hP.sub [0, 1] rfl) (hD.sub [0, 1] (by decide) rfl) hS
            · have hf := pr_neg hf c26
              refine lv_aload_n hx hb dX6_countCost_93 rfl (lv_at hl 0 rfl) ?_
              refine va_get (D := D) (ci := 6) (v := .int mo_many) (C := RX6) (T := TX6) (N := 15) hx hb hts hin6 hown hK hP 0 rfl rfl 12 (by decide) (hts (.fieldLink RX6 77 "ColumnChooserModel" "many" "I") (List.mem_of_getElem? (i := 1) rfl)) (fun _ h9 => h9) rfl dX6_countCost_94 ?_
              refine lv_goto (tgt := 101) hx hb dX6_countCost_97 (by decide) ?_
              refine lv_iadd hx hb dX6_countCost_101 ?_
              obtain rfl := Option.some.inj hf
              exact hret _ _ _ _ dX6_countCost_102 (hP.sub [0, 1] rfl) (hD.sub [0, 1] (by decide) rfl) hS
        · have hf := pr_neg hf c21
          refine lv_tableOut (tgt := 103) hx hb dX6_countCost_1 (by have n0 := lv_neT (a := 1) c14 (by decide); have n1 := lv_neT (a := 2) c15 (by decide); have n2 := lv_neT (a := 3) c17 (by decide); have n3 := lv_neT (a := 4) c21 (by decide); omega) (by decide) ?_
          refine lv_aload_n hx hb dX6_countCost_103 rfl (lv_at hl 0 rfl) ?_
          refine va_get (D := D) (ci := 6) (v := .int mo_many) (C := RX6) (T := TX6) (N := 15) hx hb hts hin6 hown hK hP 0 rfl rfl 12 (by decide) (hts (.fieldLink RX6 77 "ColumnChooserModel" "many" "I") (List.mem_of_getElem? (i := 1) rfl)) (fun _ h9 => h9) rfl dX6_countCost_104 ?_
          obtain rfl := Option.some.inj hf
          exact hret _ _ _ _ dX6_countCost_107 (hP.sub [0, 1] rfl) (hD.sub [0, 1] (by decide) rfl) hS
set_option maxHeartbeats 4000000 in
set_option maxRecDepth 100000 in
theorem c_X6_costOf (l : Launch) (D : va_G) (cI : ClassId) (q_mo q_mv q_me q_mk q_ma q_mb q_mw q_mx : Nat) (n : Nat) (x1 : Int32) (x2 : Int32) (mo_thrown : Int32) (mo_rows : Int32) (mo_size : Int32) (mo_price : Int32) (mo_queries : Int32) (mo_start : Int32) (mo_many : Int32) (mo_bits : Int32) (mv : (Nat → Int32)) (mk : (Nat → Int32)) (ma : (Nat → Int32)) (mb : (Nat → Int32)) (res : Int32) (hf : f_X6_costOf n x1 x2 mo_start mo_many mv mk ma mb = some res) : fr_Ci l yX6_costOf wsX6_costOf ({ frames := 4, cells := 0, slots := 0, locals := 89 }) D [(cI, .int)] [.ref q_mo, .int x1, .int x2] [(q_mo, .inr (6, [.int mo_thrown, .int mo_rows, .ref q_mv, .int mo_size, .ref q_me, .int mo_price, .int mo_queries, .ref q_mk, .ref q_ma, .ref q_mb, .ref q_mw, .int mo_start, .int mo_many, .int mo_bits, .ref q_mx])), (q_mv, .inl (cI, 96, .inl mv)), (q_mk, .inl (cI, 20, .inl mk)), (q_ma, .inl (cI, 20, .inl ma)), (q_mb, .inl (cI, 20, .inl mb))] res [(q_mo, .inr (6, [.int mo_thrown, .int mo_rows, .ref q_mv, .int mo_size, .ref q_me, .int mo_price, .int mo_queries, .ref q_mk, .ref q_ma, .ref q_mb, .ref q_mw, .int mo_start, .int mo_many, .int mo_bits, .ref q_mx])), (q_mv, .inl (cI, 96, .inl mv)), (q_mk, .inl (cI, 20, .inl mk)), (q_ma, .inl (cI, 20, .inl ma)), (q_mb, .inl (cI, 20, .inl mb))] := by
  refine fr_open_i (cc := cX6_costOf) (maxL := 6) (ret := some .int) (by decide +kernel) rfl (Nat.le_of_ble_eq_true rfl) ⟨.int, rfl, vp_nar_int _⟩ ?_
  intro p e s m below meth c A Q ls hx hb hml hown hts hA hK hP hD hS hl hret
  have hown : s.vm.findClass RX6 = some m.cls := hown
  have hl : lv_has ls 6 [(0, .ref q_mo), (1, .int x1), (2, .int x2)] := hl
  have hin6 : ∀ w ∈ u_ws RX6 TX6 15, w ∈ wsX6_costOf := fun _ h9 => List.mem_cons_of_mem _ (List.mem_append_right _ h9)
  unfold f_X6_costOf at hf
  refine lv_aload_n hx hb dX6_costOf_0 rfl (lv_at hl 0 rfl) ?_
  refine va_get (D := D) (ci := 6) (v := .ref q_ma) (C := RX6) (T := TX6) (N := 15) hx hb hts hin6 hown hK hP 0 rfl rfl 8 (by decide) (hts (.fieldLink RX6 26 "ColumnChooserModel" "as" "[I") (List.mem_of_getElem? (i := 1) rfl)) (fun _ h9 => h9) rfl dX6_costOf_1 ?_
  refine lv_iload_n hx hb dX6_costOf_4 rfl (lv_at hl 1 rfl) ?_
  obtain ⟨v13, hv13, hf⟩ := pr_bd hf
  refine fr_rd hx hb hK hP 3 0 rfl rfl hv13 dX6_costOf_5 ?_
  refine lv_istore_n (lv' := [(3, .int v13), (0, .ref q_mo), (1, .int x1), (2, .int x2)]) hx hb dX6_costOf_6 rfl hl (by decide) rfl (fun ls hl => ?_)
  refine lv_aload_n hx hb dX6_costOf_7 rfl (lv_at hl 1 rfl) ?_
  refine va_get (D := D) (ci := 6) (v := .ref q_mk) (C := RX6) (T := TX6) (N := 15) hx hb hts hin6 hown hK hP 0 rfl rfl 7 (by decide) (hts (.fieldLink RX6 23 "ColumnChooserModel" "kinds" "[I") (List.mem_of_getElem? (i := 2) rfl)) (fun _ h9 => h9) rfl dX6_costOf_8 ?_
  refine lv_iload_n hx hb dX6_costOf_11 rfl (lv_at hl 2 rfl) ?_
  obtain ⟨v14, hv14, hf⟩ := pr_bd hf
  refine fr_rd hx hb hK hP 2 0 rfl rfl hv14 dX6_costOf_12 ?_
  refine lv_if_ne (tgt := 53) hx hb dX6_costOf_13 (by decide) (fun c15 => ?_) (fun c15 => ?_)
  · have hf := pr_neg hf c15
    refine lv_aload_n hx hb dX6_costOf_53 rfl (lv_at hl 1 rfl) ?_
    refine va_get (D := D) (ci := 6) (v := .ref q_mk) (C := RX6) (T := TX6) (N := 15) hx hb hts hin6 hown hK hP 0 rfl rfl 7 (by decide) (hts (.fieldLink RX6 23 "ColumnChooserModel" "kinds" "[I") (List.mem_of_getElem? (i := 2) rfl)) (fun _ h9 => h9) rfl dX6_costOf_54 ?_
    refine lv_iload_n hx hb dX6_costOf_57 rfl (lv_at hl 2 rfl) ?_
    obtain ⟨v16, hv16, hf⟩ := pr_bd hf
    refine fr_rd hx hb hK hP 2 0 rfl rfl hv16 dX6_costOf_58 ?_
    refine lv_iconst (v := 1) hx hb dX6_costOf_59 (by decide) ?_
    refine lv_icmp_eq (tgt := 70) hx hb dX6_costOf_60 (by decide) (fun c17 => ?_) (fun c17 => ?_)
    · have hf := pr_pos hf c17
      refine lv_iload_n hx hb dX6_costOf_70 rfl (lv_at hl 0 rfl) ?_
      refine lv_aload_n hx hb dX6_costOf_71 rfl (lv_at hl 1 rfl) ?_
      refine va_get (D := D) (ci := 6) (v := .int mo_start) (C := RX6) (T := TX6) (N := 15) hx hb hts hin6 hown hK hP 0 rfl rfl 11 (by decide) (hts (.fieldLink RX6 68 "ColumnChooserModel" "start" "I") (List.mem_of_getElem? (i := 3) rfl)) (fun _ h9 => h9) rfl dX6_costOf_72 ?_
      refine va_mmax hx hb (hml.trans hl.1.symm) hown (hts (.methodLink RX6 83 Lib.Math.max.name) (List.mem_of_getElem? (i := 5) rfl)) (hts (.static Lib.Math.max.name) (List.mem_of_getElem? (i := 6) rfl)) (hts (.initialized "java/lang/Math") (List.mem_of_getElem? (i := 7) rfl)) (hts (.code Lib.Math.max.name Lib.Math.max.code 2 (some .int)) (List.mem_of_getElem? (i := 8) rfl)) (Nat.le_of_ble_eq_true rfl) (Nat.le_of_ble_eq_true rfl) (Nat.zero_le _) (Nat.zero_le _) dX6_costOf_75 ?_
      refine lv_istore (lv' := [(4, .int (if v13 < mo_start then mo_start else v13)), (3, .int v13), (0, .ref q_mo), (1, .int x1), (2, .int x2)]) hx hb dX6_costOf_78 hl (by decide) rfl (fun ls hl => ?_)
      refine lv_aload_n hx hb dX6_costOf_80 rfl (lv_at hl 2 rfl) ?_
      refine va_get (D := D) (ci := 6) (v := .ref q_mb) (C := RX6) (T := TX6) (N := 15) hx hb hts hin6 hown hK hP 0 rfl rfl 9 (by decide) (hts (.fieldLink RX6 29 "ColumnChooserModel" "bs" "[I") (List.mem_of_getElem? (i := 9) rfl)) (fun _ h9 => h9) rfl dX6_costOf_81 ?_
      refine lv_iload_n hx hb dX6_costOf_84 rfl (lv_at hl 3 rfl) ?_
      obtain ⟨v18, hv18, hf⟩ := pr_bd hf
      refine fr_rd hx hb hK hP 4 0 rfl rfl hv18 dX6_costOf_85 ?_
      refine lv_aload_n hx hb dX6_costOf_86 rfl (lv_at hl 2 rfl) ?_
      refine va_get (D := D) (ci := 6) (v := .int mo_start) (C := RX6) (T := TX6) (N := 15) hx hb hts hin6 hown hK hP 0 rfl rfl 11 (by decide) (hts (.fieldLink RX6 68 "ColumnChooserModel" "start" "I") (List.mem_of_getElem? (i := 3) rfl)) (fun _ h9 => h9) rfl dX6_costOf_87 ?_
      refine lv_aload_n hx hb dX6_costOf_90 rfl (lv_at hl 2 rfl) ?_
      refine va_get (D := D) (ci := 6) (v := .int mo_many) (C := RX6) (T := TX6) (N := 15) hx hb hts hin6 hown hK hP 0 rfl rfl 12 (by decide) (hts (.fieldLink RX6 77 "ColumnChooserModel" "many" "I") (List.mem_of_getElem? (i := 4) rfl)) (fun _ h9 => h9) rfl dX6_costOf_91 ?_
      refine lv_iadd hx hb dX6_costOf_94 ?_
      refine va_mmin hx hb (hml.trans hl.1.symm) hown (hts (.methodLink RX6 71 Lib.Math.min.name) (List.mem_of_getElem? (i := 10) rfl)) (hts (.static Lib.Math.min.name) (List.mem_of_getElem? (i := 11) rfl)) (hts (.initialized "java/lang/Math") (List.mem_of_getElem? (i := 7) rfl)) (hts (.code Lib.Math.min.name Lib.Math.min.code 2 (some .int)) (List.mem_of_getElem? (i := 12) rfl)) (Nat.le_of_ble_eq_true rfl) (Nat.le_of_ble_eq_true rfl) (Nat.zero_le _) (Nat.zero_le _) dX6_costOf_95 ?_
      refine lv_iconst (v := 1) hx hb dX6_costOf_98 (by decide) ?_
      refine lv_isub hx hb dX6_costOf_99 ?_
      refine lv_istore (lv' := [(5, .int ((if (mo_start + mo_many) < v18 then (mo_start + mo_many) else v18) - 1)), (4, .int (if v13 < mo_start then mo_start else v13)), (3, .int v13), (0, .ref q_mo), (1, .int x1), (2, .int x2)]) hx hb dX6_costOf_100 hl (by decide) rfl (fun ls hl => ?_)
      refine lv_iload hx hb dX6_costOf_102 (lv_at hl 1 rfl) ?_
      refine lv_iload hx hb dX6_costOf_104 (lv_at hl 0 rfl) ?_
      refine lv_icmp_le (tgt := 113) hx hb dX6_costOf_106 (by decide) (fun c19 => ?_) (fun c19 => ?_)
      · have hf := pr_pos hf c19
        refine lv_aload_n hx hb dX6_costOf_113 rfl (lv_at hl 3 rfl) ?_
        refine lv_iload_n hx hb dX6_costOf_114 rfl (lv_at hl 5 rfl) ?_
        refine lv_iload hx hb dX6_costOf_115 (lv_at hl 1 rfl) ?_
        refine lv_aload_n hx hb dX6_costOf_117 rfl (lv_at hl 3 rfl) ?_
        refine va_get (D := D) (ci := 6) (v := .int mo_start) (C := RX6) (T := TX6) (N := 15) hx hb hts hin6 hown hK hP 0 rfl rfl 11 (by decide) (hts (.fieldLink RX6 68 "ColumnChooserModel" "start" "I") (List.mem_of_getElem? (i := 3) rfl)) (fun _ h9 => h9) rfl dX6_costOf_118 ?_
        refine lv_isub hx hb dX6_costOf_121 ?_
        refine lv_iload hx hb dX6_costOf_122 (lv_at hl 0 rfl) ?_
        refine lv_aload_n hx hb dX6_costOf_124 rfl (lv_at hl 3 rfl) ?_
        refine va_get (D := D) (ci := 6) (v := .int mo_start) (C := RX6) (T := TX6) (N := 15) hx hb hts hin6 hown hK hP 0 rfl rfl 11 (by decide) (hts (.fieldLink RX6 68 "ColumnChooserModel" "start" "I") (List.mem_of_getElem? (i := 3) rfl)) (fun _ h9 => h9) rfl dX6_costOf_125 ?_
        refine lv_isub hx hb dX6_costOf_128 ?_
        obtain ⟨u20, hu20, hf⟩ := pr_bd hf
        refine fr_iV (As := [.int x2, .int ((if v13 < mo_start then mo_start else v13) - mo_start), .int (((if (mo_start + mo_many) < v18 then (mo_start + mo_many) else v18) - 1) - mo_start)]) ⟨hx, hb, hml, hown, hts⟩ hK hP hD hS hA (c_X6_sumCost l D cI q_mo q_mv q_me q_mk q_ma q_mb q_mw q_mx n x2 ((if v13 < mo_start then mo_start else v13) - mo_start) (((if (mo_start + mo_many) < v18 then (mo_start + mo_many) else v18) - 1) - mo_start) mo_thrown mo_rows mo_size mo_price mo_queries mo_start mo_many mo_bits mv u20 hu20) (cwV 3 hts gX6_costOf_X6_sumCost rfl rfl rfl (by decide +kernel) ⟨Nat.le_of_ble_eq_true rfl, Nat.le_of_ble_eq_true rfl⟩) [(q_mk, .inl (cI, 20, .inl mk)), (q_ma, .inl (cI, 20, .inl ma)), (q_mb, .inl (cI, 20, .inl mb))] [0, 1] [2, 3, 4] rfl rfl (by decide) (by decide) (by decide) 0 rfl rfl rfl rfl hl.1 (Nat.le_of_ble_eq_true rfl) dX6_costOf_129 ⟨Nat.zero_le _, Nat.zero_le _⟩ rfl (fun H locs hP hD hS => ?_)
        have hP : va_P D vwCl [(q_mk, .inl (cI, 20, .inl mk)), (q_ma, .inl (cI, 20, .inl ma)), (q_mb, .inl (cI, 20, .inl mb)), (q_mo, .inr (6, [.int mo_thrown, .int mo_rows, .ref q_mv, .int mo_size, .ref q_me, .int mo_price, .int mo_queries, .ref q_mk, .ref q_ma, .ref q_mb, .ref q_mw, .int mo_start, .int mo_many, .int mo_bits, .ref q_mx])), (q_mv, .inl (cI, 96, .inl mv))] H := hP
        have hD : va_D A [(q_mk, .inl (cI, 20, .inl mk)), (q_ma, .inl (cI, 20, .inl ma)), (q_mb, .inl (cI, 20, .inl mb)), (q_mo, .inr (6, [.int mo_thrown, .int mo_rows, .ref q_mv, .int mo_size, .ref q_me, .int mo_price, .int mo_queries, .ref q_mk, .ref q_ma, .ref q_mb, .ref q_mw, .int mo_start, .int mo_many, .int mo_bits, .ref q_mx])), (q_mv, .inl (cI, 96, .inl mv))] := hD
        obtain rfl := Option.some.inj hf
        exact hret _ _ _ _ dX6_costOf_132 (hP.sub [3, 4, 0, 1, 2] rfl) (hD.sub [3, 4, 0, 1, 2] (by decide) rfl) hS
      · have hf := pr_neg hf c19
        refine lv_iconst (v := 0) hx hb dX6_costOf_109 (by decide) ?_
        refine lv_goto (tgt := 132) hx hb dX6_costOf_110 (by decide) ?_
        obtain rfl := Option.some.inj hf
        exact hret _ _ _ _ dX6_costOf_132 (hP.sub [0, 1, 2, 3, 4] rfl) (hD.sub [0, 1, 2, 3, 4] (by decide) rfl) hS
    · have hf := pr_neg hf c17
      refine lv_aload_n hx hb dX6_costOf_63 rfl (lv_at hl 1 rfl) ?_
      refine lv_iload_n hx hb dX6_costOf_64 rfl (lv_at hl 3 rfl) ?_
      refine lv_iload_n hx hb dX6_costOf_65 rfl (lv_at hl 0 rfl) ?_
      obtain ⟨u21, hu21, hf⟩ := pr_bd hf
      refine fr_iV (As := [.int x2, .int v13]) ⟨hx, hb, hml, hown, hts⟩ hK hP hD hS hA (c_X6_countCost l D cI q_mo q_mv q_me q_mk q_ma q_mb q_mw q_mx n x2 v13 mo_thrown mo_rows mo_size mo_price mo_queries mo_start mo_many mo_bits mv u21 hu21) (cwV 2 hts gX6_costOf_X6_countCost rfl rfl rfl (by decide +kernel) ⟨Nat.le_of_ble_eq_true rfl, Nat.le_of_ble_eq_true rfl⟩) [(q_mk, .inl (cI, 20, .inl mk)), (q_ma, .inl (cI, 20, .inl ma)), (q_mb, .inl (cI, 20, .inl mb))] [0, 1] [2, 3, 4] rfl rfl (by decide) (by decide) (by decide) 0 rfl rfl rfl rfl hl.1 (Nat.le_of_ble_eq_true rfl) dX6_costOf_66 ⟨Nat.zero_le _, Nat.zero_le _⟩ rfl (fun H locs hP hD hS => ?_)
      have hP : va_P D vwCl [(q_mk, .inl (cI, 20, .inl mk)), (q_ma, .inl (cI, 20, .inl ma)), (q_mb, .inl (cI, 20, .inl mb)), (q_mo, .inr (6, [.int mo_thrown, .int mo_rows, .ref q_mv, .int mo_size, .ref q_me, .int mo_price, .int mo_queries, .ref q_mk, .ref q_ma, .ref q_mb, .ref q_mw, .int mo_start, .int mo_many, .int mo_bits, .ref q_mx])), (q_mv, .inl (cI, 96, .inl mv))] H := hP
      have hD : va_D A [(q_mk, .inl (cI, 20, .inl mk)), (q_ma, .inl (cI, 20, .inl ma)), (q_mb, .inl (cI, 20, .inl mb)), (q_mo, .inr (6, [.int mo_thrown, .int mo_rows, .ref q_mv, .int mo_size, .ref q_me, .int mo_price, .int mo_queries, .ref q_mk, .ref q_ma, .ref q_mb, .ref q_mw, .int mo_start, .int mo_many, .int mo_bits, .ref q_mx])), (q_mv, .inl (cI, 96, .inl mv))] := hD
      obtain rfl := Option.some.inj hf
      exact hret _ _ _ _ dX6_costOf_69 (hP.sub [3, 4, 0, 1, 2] rfl) (hD.sub [3, 4, 0, 1, 2] (by decide) rfl) hS
  · have hf := pr_pos hf c15
    refine lv_iload_n hx hb dX6_costOf_16 rfl (lv_at hl 0 rfl) ?_
    refine lv_aload_n hx hb dX6_costOf_17 rfl (lv_at hl 1 rfl) ?_
    refine va_get (D := D) (ci := 6) (v := .int mo_start) (C := RX6) (T := TX6) (N := 15) hx hb hts hin6 hown hK hP 0 rfl rfl 11 (by decide) (hts (.fieldLink RX6 68 "ColumnChooserModel" "start" "I") (List.mem_of_getElem? (i := 3) rfl)) (fun _ h9 => h9) rfl dX6_costOf_18 ?_
    refine lv_icmp_lt (tgt := 37) hx hb dX6_costOf_21 (by decide) (fun c22 => ?_) (fun c22 => ?_)
    · have hf := pr_pos hf c22
      refine lv_iconst (v := 0) hx hb dX6_costOf_37 (by decide) ?_
      refine lv_goto (tgt := 52) hx hb dX6_costOf_38 (by decide) ?_
      obtain rfl := Option.some.inj hf
      exact hret _ _ _ _ dX6_costOf_52 (hP.sub [0, 1, 2, 3, 4] rfl) (hD.sub [0, 1, 2, 3, 4] (by decide) rfl) hS
    · have hf := pr_neg hf c22
      refine lv_iload_n hx hb dX6_costOf_24 rfl (lv_at hl 0 rfl) ?_
      refine lv_aload_n hx hb dX6_costOf_25 rfl (lv_at hl 1 rfl) ?_
      refine va_get (D := D) (ci := 6) (v := .int mo_start) (C := RX6) (T := TX6) (N := 15) hx hb hts hin6 hown hK hP 0 rfl rfl 11 (by decide) (hts (.fieldLink RX6 68 "ColumnChooserModel" "start" "I") (List.mem_of_getElem? (i := 3) rfl)) (fun _ h9 => h9) rfl dX6_costOf_26 ?_
      refine lv_aload_n hx hb dX6_costOf_29 rfl (lv_at hl 1 rfl) ?_
      refine va_get (D := D) (ci := 6) (v := .int mo_many) (C := RX6) (T := TX6) (N := 15) hx hb hts hin6 hown hK hP 0 rfl rfl 12 (by decide) (hts (.fieldLink RX6 77 "ColumnChooserModel" "many" "I") (List.mem_of_getElem? (i := 4) rfl)) (fun _ h9 => h9) rfl dX6_costOf_30 ?_
      refine lv_iadd hx hb dX6_costOf_33 ?_
      refine lv_icmp_lt (tgt := 41) hx hb dX6_costOf_34 (by decide) (fun c23 => ?_) (fun c23 => ?_)
      · have hf := pr_pos hf c23
        refine lv_aload_n hx hb dX6_costOf_41 rfl (lv_at hl 1 rfl) ?_
        refine lv_iload_n hx hb dX6_costOf_42 rfl (lv_at hl 3 rfl) ?_
        refine lv_iload_n hx hb dX6_costOf_43 rfl (lv_at hl 0 rfl) ?_
        refine lv_aload_n hx hb dX6_costOf_44 rfl (lv_at hl 1 rfl) ?_
        refine va_get (D := D) (ci := 6) (v := .int mo_start) (C := RX6) (T := TX6) (N := 15) hx hb hts hin6 hown hK hP 0 rfl rfl 11 (by decide) (hts (.fieldLink RX6 68 "ColumnChooserModel" "start" "I") (List.mem_of_getElem? (i := 3) rfl)) (fun _ h9 => h9) rfl dX6_costOf_45 ?_
        refine lv_isub hx hb dX6_costOf_48 ?_
        obtain ⟨u24, hu24, hf⟩ := pr_bd hf
        refine fr_iV (As := [.int x2, .int (v13 - mo_start)]) ⟨hx, hb, hml, hown, hts⟩ hK hP hD hS hA (c_X6_pointCost l D cI q_mo q_mv q_me q_mk q_ma q_mb q_mw q_mx n x2 (v13 - mo_start) mo_thrown mo_rows mo_size mo_price mo_queries mo_start mo_many mo_bits mv u24 hu24) (cwV 2 hts gX6_costOf_X6_pointCost rfl rfl rfl (by decide +kernel) ⟨Nat.le_of_ble_eq_true rfl, Nat.le_of_ble_eq_true rfl⟩) [(q_mk, .inl (cI, 20, .inl mk)), (q_ma, .inl (cI, 20, .inl ma)), (q_mb, .inl (cI, 20, .inl mb))] [0, 1] [2, 3, 4] rfl rfl (by decide) (by decide) (by decide) 0 rfl rfl rfl rfl hl.1 (Nat.le_of_ble_eq_true rfl) dX6_costOf_49 ⟨Nat.zero_le _, Nat.zero_le _⟩ rfl (fun H locs hP hD hS => ?_)
        have hP : va_P D vwCl [(q_mk, .inl (cI, 20, .inl mk)), (q_ma, .inl (cI, 20, .inl ma)), (q_mb, .inl (cI, 20, .inl mb)), (q_mo, .inr (6, [.int mo_thrown, .int mo_rows, .ref q_mv, .int mo_size, .ref q_me, .int mo_price, .int mo_queries, .ref q_mk, .ref q_ma, .ref q_mb, .ref q_mw, .int mo_start, .int mo_many, .int mo_bits, .ref q_mx])), (q_mv, .inl (cI, 96, .inl mv))] H := hP
        have hD : va_D A [(q_mk, .inl (cI, 20, .inl mk)), (q_ma, .inl (cI, 20, .inl ma)), (q_mb, .inl (cI, 20, .inl mb)), (q_mo, .inr (6, [.int mo_thrown, .int mo_rows, .ref q_mv, .int mo_size, .ref q_me, .int mo_price, .int mo_queries, .ref q_mk, .ref q_ma, .ref q_mb, .ref q_mw, .int mo_start, .int mo_many, .int mo_bits, .ref q_mx])), (q_mv, .inl (cI, 96, .inl mv))] := hD
        obtain rfl := Option.some.inj hf
        exact hret _ _ _ _ dX6_costOf_52 (hP.sub [3, 4, 0, 1, 2] rfl) (hD.sub [3, 4, 0, 1, 2] (by decide) rfl) hS
      · have hf := pr_neg hf c23
        refine lv_iconst (v := 0) hx hb dX6_costOf_37 (by decide) ?_
        refine lv_goto (tgt := 52) hx hb dX6_costOf_38 (by decide) ?_
        obtain rfl := Option.some.inj hf
        exact hret _ _ _ _ dX6_costOf_52 (hP.sub [0, 1, 2, 3, 4] rfl) (hD.sub [0, 1, 2, 3, 4] (by decide) rfl) hS
set_option maxHeartbeats 4000000 in
set_option maxRecDepth 100000 in
theorem c_X6_scoreOf (l : Launch) (D : va_G) (cI : ClassId) (q_mo q_mv q_me q_mk q_ma q_mb q_mw q_mx : Nat) (n : Nat) (x1 : Int32) (mo_thrown : Int32) (mo_rows : Int32) (mo_size : Int32) (mo_price : Int32) (mo_queries : Int32) (mo_start : Int32) (mo_many : Int32) (mo_bits : Int32) (mv : (Nat → Int32)) (mk : (Nat → Int32)) (ma : (Nat → Int32)) (mb : (Nat → Int32)) (mw : (Nat → Int32)) (res : Int32) (hf : f_X6_scoreOf n x1 mo_price mo_queries mo_start mo_many mv mk ma mb mw = some res) : fr_Ci l yX6_scoreOf wsX6_scoreOf ({ frames := 5, cells := 0, slots := 0, locals := 114 }) D [(cI, .int)] [.ref q_mo, .int x1] [(q_mo, .inr (6, [.int mo_thrown, .int mo_rows, .ref q_mv, .int mo_size, .ref q_me, .int mo_price, .int mo_queries, .ref q_mk, .ref q_ma, .ref q_mb, .ref q_mw, .int mo_start, .int mo_many, .int mo_bits, .ref q_mx])), (q_mv, .inl (cI, 96, .inl mv)), (q_mk, .inl (cI, 20, .inl mk)), (q_ma, .inl (cI, 20, .inl ma)), (q_mb, .inl (cI, 20, .inl mb)), (q_mw, .inl (cI, 20, .inl mw))] res [(q_mo, .inr (6, [.int mo_thrown, .int mo_rows, .ref q_mv, .int mo_size, .ref q_me, .int mo_price, .int mo_queries, .ref q_mk, .ref q_ma, .ref q_mb, .ref q_mw, .int mo_start, .int mo_many, .int mo_bits, .ref q_mx])), (q_mv, .inl (cI, 96, .inl mv)), (q_mk, .inl (cI, 20, .inl mk)), (q_ma, .inl (cI, 20, .inl ma)), (q_mb, .inl (cI, 20, .inl mb)), (q_mw, .inl (cI, 20, .inl mw))] := by
  refine fr_open_i (cc := cX6_scoreOf) (maxL := 4) (ret := some .int) (by decide +kernel) rfl (Nat.le_of_ble_eq_true rfl) ⟨.int, rfl, vp_nar_int _⟩ ?_
  intro p e s m below meth c A Q ls hx hb hml hown hts hA hK hP hD hS hl hret
  have hown : s.vm.findClass RX6 = some m.cls := hown
  have hl : lv_has ls 4 [(0, .ref q_mo), (1, .int x1)] := hl
  have hin6 : ∀ w ∈ u_ws RX6 TX6 15, w ∈ wsX6_scoreOf := fun _ h9 => List.mem_cons_of_mem _ (List.mem_append_right _ h9)
  have k_13 : ∀ (n : Nat), (∀ (z1 : Int32) (z2 : Int32) (z3 : Int32) (H : Heap) (locs : List Loc) (ls : Array Slot), f_X6_scoreOf_13 n z1 z2 z3 mo_price mo_queries mo_start mo_many mv mk ma mb mw = some res → va_P D vwCl [(q_mo, .inr (6, [.int mo_thrown, .int mo_rows, .ref q_mv, .int mo_size, .ref q_me, .int mo_price, .int mo_queries, .ref q_mk, .ref q_ma, .ref q_mb, .ref q_mw, .int mo_start, .int mo_many, .int mo_bits, .ref q_mx])), (q_mv, .inl (cI, 96, .inl mv)), (q_mk, .inl (cI, 20, .inl mk)), (q_ma, .inl (cI, 20, .inl ma)), (q_mb, .inl (cI, 20, .inl mb)), (q_mw, .inl (cI, 20, .inl mw))] H → va_D A [(q_mo, .inr (6, [.int mo_thrown, .int mo_rows, .ref q_mv, .int mo_size, .ref q_me, .int mo_price, .int mo_queries, .ref q_mk, .ref q_ma, .ref q_mb, .ref q_mw, .int mo_start, .int mo_many, .int mo_bits, .ref q_mx])), (q_mv, .inl (cI, 96, .inl mv)), (q_mk, .inl (cI, 20, .inl mk)), (q_ma, .inl (cI, 20, .inl ma)), (q_mb, .inl (cI, 20, .inl mb)), (q_mw, .inl (cI, 20, .inl mw))] → va_S A s.heap H locs → lv_has ls 4 [(0, .ref q_mo), (1, .int z1), (2, .int z2), (3, .int z3)] → W p l e ({ frames := 5, cells := 0, slots := 0, locals := 114 }) s m ([.ref q_mo, .int x1] : List Value).toArray below meth c H locs 0 0 Q (F0 m 13 ls [])) := by
    intro n
    induction n with
    | zero =>
      intro z1 z2 z3 H locs ls hf hP hD hS hl
      exact absurd (show (none : Option (Int32)) = some res from hf) (by simp)
    | succ n ih =>
      intro z1 z2 z3 H locs ls hf hP hD hS hl
      have hf : f_X6_scoreOf_13_s (f_X6_scoreOf_13 n) n z1 z2 z3 mo_price mo_queries mo_start mo_many mv mk ma mb mw = some res := hf
      unfold f_X6_scoreOf_13_s at hf
      refine lv_iload_n hx hb dX6_scoreOf_13 rfl (lv_at hl 3 rfl) ?_
      refine lv_aload_n hx hb dX6_scoreOf_14 rfl (lv_at hl 0 rfl) ?_
      refine va_get (D := D) (ci := 6) (v := .int mo_queries) (C := RX6) (T := TX6) (N := 15) hx hb hts hin6 hown hK hP 0 rfl rfl 6 (by decide) (hts (.fieldLink RX6 65 "ColumnChooserModel" "queries" "I") (List.mem_of_getElem? (i := 2) rfl)) (fun _ h9 => h9) rfl dX6_scoreOf_15 ?_
      refine lv_icmp_ge (tgt := 43) hx hb dX6_scoreOf_18 (by decide) (fun c5 => ?_) (fun c5 => ?_)
      · have hf := pr_pos hf c5
        refine lv_iload_n hx hb dX6_scoreOf_43 rfl (lv_at hl 2 rfl) ?_
        obtain rfl := Option.some.inj hf
        exact hret _ _ _ _ dX6_scoreOf_44 (hP.sub [0, 1, 2, 3, 4, 5] rfl) (hD.sub [0, 1, 2, 3, 4, 5] (by decide) rfl) hS
      · have hf := pr_neg hf c5
        refine lv_iload_n hx hb dX6_scoreOf_21 rfl (lv_at hl 2 rfl) ?_
        refine lv_aload_n hx hb dX6_scoreOf_22 rfl (lv_at hl 0 rfl) ?_
        refine va_get (D := D) (ci := 6) (v := .ref q_mw) (C := RX6) (T := TX6) (N := 15) hx hb hts hin6 hown hK hP 0 rfl rfl 10 (by decide) (hts (.fieldLink RX6 32 "ColumnChooserModel" "weights" "[I") (List.mem_of_getElem? (i := 3) rfl)) (fun _ h9 => h9) rfl dX6_scoreOf_23 ?_
        refine lv_iload_n hx hb dX6_scoreOf_26 rfl (lv_at hl 3 rfl) ?_
        obtain ⟨v6, hv6, hf⟩ := pr_bd hf
        refine fr_rd hx hb hK hP 5 0 rfl rfl hv6 dX6_scoreOf_27 ?_
        refine lv_aload_n hx hb dX6_scoreOf_28 rfl (lv_at hl 0 rfl) ?_
        refine lv_iload_n hx hb dX6_scoreOf_29 rfl (lv_at hl 3 rfl) ?_
        refine lv_iload_n hx hb dX6_scoreOf_30 rfl (lv_at hl 1 rfl) ?_
        obtain ⟨u7, hu7, hf⟩ := pr_bd hf
        refine fr_iV (As := [.int z3, .int z1]) ⟨hx, hb, hml, hown, hts⟩ hK hP hD hS hA (c_X6_costOf l D cI q_mo q_mv q_me q_mk q_ma q_mb q_mw q_mx n z3 z1 mo_thrown mo_rows mo_size mo_price mo_queries mo_start mo_many mo_bits mv mk ma mb u7 hu7) (cwV 2 hts gX6_scoreOf_X6_costOf rfl rfl rfl (by decide +kernel) ⟨Nat.le_of_ble_eq_true rfl, Nat.le_of_ble_eq_true rfl⟩) [(q_mw, .inl (cI, 20, .inl mw))] [0, 1, 2, 3, 4] [5] rfl rfl (by decide) (by decide) (by decide) 0 rfl rfl rfl rfl hl.1 (Nat.le_of_ble_eq_true rfl) dX6_scoreOf_31 ⟨Nat.zero_le _, Nat.zero_le _⟩ rfl (fun H locs hP hD hS => ?_)
        have hP : va_P D vwCl [(q_mw, .inl (cI, 20, .inl mw)), (q_mo, .inr (6, [.int mo_thrown, .int mo_rows, .ref q_mv, .int mo_size, .ref q_me, .int mo_price, .int mo_queries, .ref q_mk, .ref q_ma, .ref q_mb, .ref q_mw, .int mo_start, .int mo_many, .int mo_bits, .ref q_mx])), (q_mv, .inl (cI, 96, .inl mv)), (q_mk, .inl (cI, 20, .inl mk)), (q_ma, .inl (cI, 20, .inl ma)), (q_mb, .inl (cI, 20, .inl mb))] H := hP
        have hD : va_D A [(q_mw, .inl (cI, 20, .inl mw)), (q_mo, .inr (6, [.int mo_thrown, .int mo_rows, .ref q_mv, .int mo_size, .ref q_me, .int mo_price, .int mo_queries, .ref q_mk, .ref q_ma, .ref q_mb, .ref q_mw, .int mo_start, .int mo_many, .int mo_bits, .ref q_mx])), (q_mv, .inl (cI, 96, .inl mv)), (q_mk, .inl (cI, 20, .inl mk)), (q_ma, .inl (cI, 20, .inl ma)), (q_mb, .inl (cI, 20, .inl mb))] := hD
        refine lv_imul hx hb dX6_scoreOf_34 ?_
        refine lv_iadd hx hb dX6_scoreOf_35 ?_
        refine lv_istore_n (lv' := [(2, .int (z2 + (v6 * u7))), (0, .ref q_mo), (1, .int z1), (3, .int z3)]) hx hb dX6_scoreOf_36 rfl hl (by decide) rfl (fun ls hl => ?_)
        refine lv_iinc (v := (z3 + 1)) (lv' := [(3, .int (z3 + 1)), (2, .int (z2 + (v6 * u7))), (0, .ref q_mo), (1, .int z1)]) hx hb dX6_scoreOf_37 hl (k := 3) rfl rfl (by decide) rfl (fun ls hl => ?_)
        refine lv_goto (tgt := 13) hx hb dX6_scoreOf_40 (by decide) ?_
        exact ih _ _ _ _ _ ls hf (hP.sub [1, 2, 3, 4, 5, 0] rfl) (hD.sub [1, 2, 3, 4, 5, 0] (by decide) rfl) hS (lv_sub hl [2, 3, 1, 0] rfl)
  unfold f_X6_scoreOf at hf
  refine lv_aload_n hx hb dX6_scoreOf_0 rfl (lv_at hl 0 rfl) ?_
  refine va_get (D := D) (ci := 6) (v := .int mo_price) (C := RX6) (T := TX6) (N := 15) hx hb hts hin6 hown hK hP 0 rfl rfl 5 (by decide) (hts (.fieldLink RX6 20 "ColumnChooserModel" "price" "I") (List.mem_of_getElem? (i := 1) rfl)) (fun _ h9 => h9) rfl dX6_scoreOf_1 ?_
  refine lv_aload_n hx hb dX6_scoreOf_4 rfl (lv_at hl 0 rfl) ?_
  refine lv_iload_n hx hb dX6_scoreOf_5 rfl (lv_at hl 1 rfl) ?_
  obtain ⟨u8, hu8, hf⟩ := pr_bd hf
  refine fr_iV (As := [.int x1]) ⟨hx, hb, hml, hown, hts⟩ hK hP hD hS hA (c_X6_sizeOf l D cI q_mo q_mv q_me q_mk q_ma q_mb q_mw q_mx n x1 mo_thrown mo_rows mo_size mo_price mo_queries mo_start mo_many mo_bits mv u8 hu8) (cwV 1 hts gX6_scoreOf_X6_sizeOf rfl rfl rfl (by decide +kernel) ⟨Nat.le_of_ble_eq_true rfl, Nat.le_of_ble_eq_true rfl⟩) [(q_mk, .inl (cI, 20, .inl mk)), (q_ma, .inl (cI, 20, .inl ma)), (q_mb, .inl (cI, 20, .inl mb)), (q_mw, .inl (cI, 20, .inl mw))] [0, 1] [2, 3, 4, 5] rfl rfl (by decide) (by decide) (by decide) 0 rfl rfl rfl rfl hl.1 (Nat.le_of_ble_eq_true rfl) dX6_scoreOf_6 ⟨Nat.zero_le _, Nat.zero_le _⟩ rfl (fun H locs hP hD hS => ?_)
  have hP : va_P D vwCl [(q_mk, .inl (cI, 20, .inl mk)), (q_ma, .inl (cI, 20, .inl ma)), (q_mb, .inl (cI, 20, .inl mb)), (q_mw, .inl (cI, 20, .inl mw)), (q_mo, .inr (6, [.int mo_thrown, .int mo_rows, .ref q_mv, .int mo_size, .ref q_me, .int mo_price, .int mo_queries, .ref q_mk, .ref q_ma, .ref q_mb, .ref q_mw, .int mo_start, .int mo_many, .int mo_bits, .ref q_mx])), (q_mv, .inl (cI, 96, .inl mv))] H := hP
  have hD : va_D A [(q_mk, .inl (cI, 20, .inl mk)), (q_ma, .inl (cI, 20, .inl ma)), (q_mb, .inl (cI, 20, .inl mb)), (q_mw, .inl (cI, 20, .inl mw)), (q_mo, .inr (6, [.int mo_thrown, .int mo_rows, .ref q_mv, .int mo_size, .ref q_me, .int mo_price, .int mo_queries, .ref q_mk, .ref q_ma, .ref q_mb, .ref q_mw, .int mo_start, .int mo_many, .int mo_bits, .ref q_mx])), (q_mv, .inl (cI, 96, .inl mv))] := hD
  refine lv_imul hx hb dX6_scoreOf_9 ?_
  refine lv_istore_n (lv' := [(2, .int (mo_price * u8)), (0, .ref q_mo), (1, .int x1)]) hx hb dX6_scoreOf_10 rfl hl (by decide) rfl (fun ls hl => ?_)
  refine lv_iconst (v := 0) hx hb dX6_scoreOf_11 (by decide) ?_
  refine lv_istore_n (lv' := [(3, .int 0), (2, .int (mo_price * u8)), (0, .ref q_mo), (1, .int x1)]) hx hb dX6_scoreOf_12 rfl hl (by decide) rfl (fun ls hl => ?_)
  exact k_13 n _ _ _ _ _ ls hf (hP.sub [4, 5, 0, 1, 2, 3] rfl) (hD.sub [4, 5, 0, 1, 2, 3] (by decide) rfl) hS (lv_sub hl [2, 3, 1, 0] rfl)
set_option maxHeartbeats 4000000 in
set_option maxRecDepth 100000 in
theorem c_X6_best (l : Launch) (D : va_G) (cI : ClassId) (q_mo q_mv q_me q_mk q_ma q_mb q_mw q_mx : Nat) (n : Nat) (mo_thrown : Int32) (mo_rows : Int32) (mo_size : Int32) (mo_price : Int32) (mo_queries : Int32) (mo_start : Int32) (mo_many : Int32) (mo_bits : Int32) (mv : (Nat → Int32)) (mk : (Nat → Int32)) (ma : (Nat → Int32)) (mb : (Nat → Int32)) (mw : (Nat → Int32)) (res : Int32) (hf : f_X6_best n mo_price mo_queries mo_start mo_many mv mk ma mb mw = some res) : fr_Ci l yX6_best wsX6_best ({ frames := 6, cells := 0, slots := 0, locals := 137 }) D [(cI, .int)] [.ref q_mo] [(q_mo, .inr (6, [.int mo_thrown, .int mo_rows, .ref q_mv, .int mo_size, .ref q_me, .int mo_price, .int mo_queries, .ref q_mk, .ref q_ma, .ref q_mb, .ref q_mw, .int mo_start, .int mo_many, .int mo_bits, .ref q_mx])), (q_mv, .inl (cI, 96, .inl mv)), (q_mk, .inl (cI, 20, .inl mk)), (q_ma, .inl (cI, 20, .inl ma)), (q_mb, .inl (cI, 20, .inl mb)), (q_mw, .inl (cI, 20, .inl mw))] res [(q_mo, .inr (6, [.int mo_thrown, .int mo_rows, .ref q_mv, .int mo_size, .ref q_me, .int mo_price, .int mo_queries, .ref q_mk, .ref q_ma, .ref q_mb, .ref q_mw, .int mo_start, .int mo_many, .int mo_bits, .ref q_mx])), (q_mv, .inl (cI, 96, .inl mv)), (q_mk, .inl (cI, 20, .inl mk)), (q_ma, .inl (cI, 20, .inl ma)), (q_mb, .inl (cI, 20, .inl mb)), (q_mw, .inl (cI, 20, .inl mw))] := by
  refine fr_open_i (cc := cX6_best) (maxL := 3) (ret := some .int) (by decide +kernel) rfl (Nat.le_of_ble_eq_true rfl) ⟨.int, rfl, vp_nar_int _⟩ ?_
  intro p e s m below meth c A Q ls hx hb hml hown hts hA hK hP hD hS hl hret
  have hown : s.vm.findClass RX6 = some m.cls := hown
  have hl : lv_has ls 3 [(0, .ref q_mo)] := hl
  have k_4 : ∀ (n : Nat), (∀ (z1 : Int32) (z2 : Int32) (H : Heap) (locs : List Loc) (ls : Array Slot), f_X6_best_4 n z1 z2 mo_price mo_queries mo_start mo_many mv mk ma mb mw = some res → va_P D vwCl [(q_mo, .inr (6, [.int mo_thrown, .int mo_rows, .ref q_mv, .int mo_size, .ref q_me, .int mo_price, .int mo_queries, .ref q_mk, .ref q_ma, .ref q_mb, .ref q_mw, .int mo_start, .int mo_many, .int mo_bits, .ref q_mx])), (q_mv, .inl (cI, 96, .inl mv)), (q_mk, .inl (cI, 20, .inl mk)), (q_ma, .inl (cI, 20, .inl ma)), (q_mb, .inl (cI, 20, .inl mb)), (q_mw, .inl (cI, 20, .inl mw))] H → va_D A [(q_mo, .inr (6, [.int mo_thrown, .int mo_rows, .ref q_mv, .int mo_size, .ref q_me, .int mo_price, .int mo_queries, .ref q_mk, .ref q_ma, .ref q_mb, .ref q_mw, .int mo_start, .int mo_many, .int mo_bits, .ref q_mx])), (q_mv, .inl (cI, 96, .inl mv)), (q_mk, .inl (cI, 20, .inl mk)), (q_ma, .inl (cI, 20, .inl ma)), (q_mb, .inl (cI, 20, .inl mb)), (q_mw, .inl (cI, 20, .inl mw))] → va_S A s.heap H locs → lv_has ls 3 [(0, .ref q_mo), (1, .int z1), (2, .int z2)] → W p l e ({ frames := 6, cells := 0, slots := 0, locals := 137 }) s m ([.ref q_mo] : List Value).toArray below meth c H locs 0 0 Q (F0 m 4 ls [])) := by
    intro n
    induction n with
    | zero =>
      intro z1 z2 H locs ls hf hP hD hS hl
      exact absurd (show (none : Option (Int32)) = some res from hf) (by simp)
    | succ n ih =>
      intro z1 z2 H locs ls hf hP hD hS hl
      have hf : f_X6_best_4_s (f_X6_best_4 n) n z1 z2 mo_price mo_queries mo_start mo_many mv mk ma mb mw = some res := hf
      unfold f_X6_best_4_s at hf
      refine lv_iload_n hx hb dX6_best_4 rfl (lv_at hl 2 rfl) ?_
      refine lv_bipush (v := 6) hx hb dX6_best_5 (by decide) ?_
      refine lv_icmp_ge (tgt := 39) hx hb dX6_best_7 (by decide) (fun c7 => ?_) (fun c7 => ?_)
      · have hf := pr_pos hf c7
        refine lv_iload_n hx hb dX6_best_39 rfl (lv_at hl 1 rfl) ?_
        obtain rfl := Option.some.inj hf
        exact hret _ _ _ _ dX6_best_40 (hP.sub [0, 1, 2, 3, 4, 5] rfl) (hD.sub [0, 1, 2, 3, 4, 5] (by decide) rfl) hS
      · have hf := pr_neg hf c7
        refine lv_aload_n hx hb dX6_best_10 rfl (lv_at hl 0 rfl) ?_
        refine lv_iload_n hx hb dX6_best_11 rfl (lv_at hl 2 rfl) ?_
        obtain ⟨u8, hu8, hf⟩ := pr_bd hf
        refine fr_iV (As := [.int z2]) ⟨hx, hb, hml, hown, hts⟩ hK hP hD hS hA (c_X6_isPossible l D cI q_mo q_mv q_me q_mk q_ma q_mb q_mw q_mx n z2 mo_thrown mo_rows mo_size mo_price mo_queries mo_start mo_many mo_bits mv u8 hu8) (cwV 1 hts gX6_best_X6_isPossible rfl rfl rfl (by decide +kernel) ⟨Nat.le_of_ble_eq_true rfl, Nat.le_of_ble_eq_true rfl⟩) [(q_mk, .inl (cI, 20, .inl mk)), (q_ma, .inl (cI, 20, .inl ma)), (q_mb, .inl (cI, 20, .inl mb)), (q_mw, .inl (cI, 20, .inl mw))] [0, 1] [2, 3, 4, 5] rfl rfl (by decide) (by decide) (by decide) 0 rfl rfl rfl rfl hl.1 (Nat.le_of_ble_eq_true rfl) dX6_best_12 ⟨Nat.zero_le _, Nat.zero_le _⟩ rfl (fun H locs hP hD hS => ?_)
        have hP : va_P D vwCl [(q_mk, .inl (cI, 20, .inl mk)), (q_ma, .inl (cI, 20, .inl ma)), (q_mb, .inl (cI, 20, .inl mb)), (q_mw, .inl (cI, 20, .inl mw)), (q_mo, .inr (6, [.int mo_thrown, .int mo_rows, .ref q_mv, .int mo_size, .ref q_me, .int mo_price, .int mo_queries, .ref q_mk, .ref q_ma, .ref q_mb, .ref q_mw, .int mo_start, .int mo_many, .int mo_bits, .ref q_mx])), (q_mv, .inl (cI, 96, .inl mv))] H := hP
        have hD : va_D A [(q_mk, .inl (cI, 20, .inl mk)), (q_ma, .inl (cI, 20, .inl ma)), (q_mb, .inl (cI, 20, .inl mb)), (q_mw, .inl (cI, 20, .inl mw)), (q_mo, .inr (6, [.int mo_thrown, .int mo_rows, .ref q_mv, .int mo_size, .ref q_me, .int mo_price, .int mo_queries, .ref q_mk, .ref q_ma, .ref q_mb, .ref q_mw, .int mo_start, .int mo_many, .int mo_bits, .ref q_mx])), (q_mv, .inl (cI, 96, .inl mv))] := hD
        refine lv_if_eq (tgt := 33) hx hb dX6_best_15 (by decide) (fun c9 => ?_) (fun c9 => ?_)
        · have hf := pr_pos hf c9
          refine lv_iinc (v := (z2 + 1)) (lv' := [(2, .int (z2 + 1)), (0, .ref q_mo), (1, .int z1)]) hx hb dX6_best_33 hl (k := 2) rfl rfl (by decide) rfl (fun ls hl => ?_)
          refine lv_goto (tgt := 4) hx hb dX6_best_36 (by decide) ?_
          exact ih _ _ _ _ ls hf (hP.sub [4, 5, 0, 1, 2, 3] rfl) (hD.sub [4, 5, 0, 1, 2, 3] (by decide) rfl) hS (lv_sub hl [1, 2, 0] rfl)
        · have hf := pr_neg hf c9
          refine lv_aload_n hx hb dX6_best_18 rfl (lv_at hl 0 rfl) ?_
          refine lv_iload_n hx hb dX6_best_19 rfl (lv_at hl 2 rfl) ?_
          obtain ⟨u10, hu10, hf⟩ := pr_bd hf
          refine fr_iV (As := [.int z2]) ⟨hx, hb, hml, hown, hts⟩ hK hP hD hS hA (c_X6_scoreOf l D cI q_mo q_mv q_me q_mk q_ma q_mb q_mw q_mx n z2 mo_thrown mo_rows mo_size mo_price mo_queries mo_start mo_many mo_bits mv mk ma mb mw u10 hu10) (cwV 1 hts gX6_best_X6_scoreOf rfl rfl rfl (by decide +kernel) ⟨Nat.le_of_ble_eq_true rfl, Nat.le_of_ble_eq_true rfl⟩) [] [4, 5, 0, 1, 2, 3] [] rfl rfl (by decide) (by decide) (by decide) 0 rfl rfl rfl rfl hl.1 (Nat.le_of_ble_eq_true rfl) dX6_best_20 ⟨Nat.zero_le _, Nat.zero_le _⟩ rfl (fun H locs hP hD hS => ?_)
          have hP : va_P D vwCl [(q_mo, .inr (6, [.int mo_thrown, .int mo_rows, .ref q_mv, .int mo_size, .ref q_me, .int mo_price, .int mo_queries, .ref q_mk, .ref q_ma, .ref q_mb, .ref q_mw, .int mo_start, .int mo_many, .int mo_bits, .ref q_mx])), (q_mv, .inl (cI, 96, .inl mv)), (q_mk, .inl (cI, 20, .inl mk)), (q_ma, .inl (cI, 20, .inl ma)), (q_mb, .inl (cI, 20, .inl mb)), (q_mw, .inl (cI, 20, .inl mw))] H := hP
          have hD : va_D A [(q_mo, .inr (6, [.int mo_thrown, .int mo_rows, .ref q_mv, .int mo_size, .ref q_me, .int mo_price, .int mo_queries, .ref q_mk, .ref q_ma, .ref q_mb, .ref q_mw, .int mo_start, .int mo_many, .int mo_bits, .ref q_mx])), (q_mv, .inl (cI, 96, .inl mv)), (q_mk, .inl (cI, 20, .inl mk)), (q_ma, .inl (cI, 20, .inl ma)), (q_mb, .inl (cI, 20, .inl mb)), (q_mw, .inl (cI, 20, .inl mw))] := hD
          refine lv_aload_n hx hb dX6_best_23 rfl (lv_at hl 0 rfl) ?_
          refine lv_iload_n hx hb dX6_best_24 rfl (lv_at hl 1 rfl) ?_
          obtain ⟨u11, hu11, hf⟩ := pr_bd hf
          refine fr_iV (As := [.int z1]) ⟨hx, hb, hml, hown, hts⟩ hK hP hD hS hA (c_X6_scoreOf l D cI q_mo q_mv q_me q_mk q_ma q_mb q_mw q_mx n z1 mo_thrown mo_rows mo_size mo_price mo_queries mo_start mo_many mo_bits mv mk ma mb mw u11 hu11) (cwV 1 hts gX6_best_X6_scoreOf rfl rfl rfl (by decide +kernel) ⟨Nat.le_of_ble_eq_true rfl, Nat.le_of_ble_eq_true rfl⟩) [] [0, 1, 2, 3, 4, 5] [] rfl rfl (by decide) (by decide) (by decide) 0 rfl rfl rfl rfl hl.1 (Nat.le_of_ble_eq_true rfl) dX6_best_25 ⟨Nat.zero_le _, Nat.zero_le _⟩ rfl (fun H locs hP hD hS => ?_)
          have hP : va_P D vwCl [(q_mo, .inr (6, [.int mo_thrown, .int mo_rows, .ref q_mv, .int mo_size, .ref q_me, .int mo_price, .int mo_queries, .ref q_mk, .ref q_ma, .ref q_mb, .ref q_mw, .int mo_start, .int mo_many, .int mo_bits, .ref q_mx])), (q_mv, .inl (cI, 96, .inl mv)), (q_mk, .inl (cI, 20, .inl mk)), (q_ma, .inl (cI, 20, .inl ma)), (q_mb, .inl (cI, 20, .inl mb)), (q_mw, .inl (cI, 20, .inl mw))] H := hP
          have hD : va_D A [(q_mo, .inr (6, [.int mo_thrown, .int mo_rows, .ref q_mv, .int mo_size, .ref q_me, .int mo_price, .int mo_queries, .ref q_mk, .ref q_ma, .ref q_mb, .ref q_mw, .int mo_start, .int mo_many, .int mo_bits, .ref q_mx])), (q_mv, .inl (cI, 96, .inl mv)), (q_mk, .inl (cI, 20, .inl mk)), (q_ma, .inl (cI, 20, .inl ma)), (q_mb, .inl (cI, 20, .inl mb)), (q_mw, .inl (cI, 20, .inl mw))] := hD
          refine lv_icmp_ge (tgt := 33) hx hb dX6_best_28 (by decide) (fun c12 => ?_) (fun c12 => ?_)
          · have hf := pr_pos hf c12
            refine lv_iinc (v := (z2 + 1)) (lv' := [(2, .int (z2 + 1)), (0, .ref q_mo), (1, .int z1)]) hx hb dX6_best_33 hl (k := 2) rfl rfl (by decide) rfl (fun ls hl => ?_)
            refine lv_goto (tgt := 4) hx hb dX6_best_36 (by decide) ?_
            exact ih _ _ _ _ ls hf (hP.sub [0, 1, 2, 3, 4, 5] rfl) (hD.sub [0, 1, 2, 3, 4, 5] (by decide) rfl) hS (lv_sub hl [1, 2, 0] rfl)
          · have hf := pr_neg hf c12
            refine lv_iload_n hx hb dX6_best_31 rfl (lv_at hl 2 rfl) ?_
            refine lv_istore_n (lv' := [(1, .int z2), (0, .ref q_mo), (2, .int z2)]) hx hb dX6_best_32 rfl hl (by decide) rfl (fun ls hl => ?_)
            refine lv_iinc (v := (z2 + 1)) (lv' := [(2, .int (z2 + 1)), (1, .int z2), (0, .ref q_mo)]) hx hb dX6_best_33 hl (k := 2) rfl rfl (by decide) rfl (fun ls hl => ?_)
            refine lv_goto (tgt := 4) hx hb dX6_best_36 (by decide) ?_
            exact ih _ _ _ _ ls hf (hP.sub [0, 1, 2, 3, 4, 5] rfl) (hD.sub [0, 1, 2, 3, 4, 5] (by decide) rfl) hS (lv_sub hl [2, 1, 0] rfl)
  unfold f_X6_best at hf
  refine lv_iconst (v := 0) hx hb dX6_best_0 (by decide) ?_
  refine lv_istore_n (lv' := [(1, .int 0), (0, .ref q_mo)]) hx hb dX6_best_1 rfl hl (by decide) rfl (fun ls hl => ?_)
  refine lv_iconst (v := 1) hx hb dX6_best_2 (by decide) ?_
  refine lv_istore_n (lv' := [(2, .int 1), (1, .int 0), (0, .ref q_mo)]) hx hb dX6_best_3 rfl hl (by decide) rfl (fun ls hl => ?_)
  exact k_4 n _ _ _ _ ls hf (hP.sub [0, 1, 2, 3, 4, 5] rfl) (hD.sub [0, 1, 2, 3, 4, 5] (by decide) rfl) hS (lv_sub hl [2, 1, 0] rfl)
set_option maxHeartbeats 4000000 in
set_option maxRecDepth 100000 in
theorem c_X6_isSegment (l : Launch) (D : va_G) (cI : ClassId) (q_mo q_mv q_me q_mk q_ma q_mb q_mw q_mx : Nat) (n : Nat) (x1 : Int32) (mo_thrown : Int32) (mo_rows : Int32) (mo_size : Int32) (mo_price : Int32) (mo_queries : Int32) (mo_start : Int32) (mo_many : Int32) (mo_bits : Int32) (res : Bool) (hf : f_X6_isSegment n x1 mo_rows mo_size = some res) : fr_Ci l yX6_isSegment wsX6_isSegment ({ frames := 1, cells := 0, slots := 0, locals := 21 }) D [(cI, .int)] [.ref q_mo, .int x1] [(q_mo, .inr (6, [.int mo_thrown, .int mo_rows, .ref q_mv, .int mo_size, .ref q_me, .int mo_price, .int mo_queries, .ref q_mk, .ref q_ma, .ref q_mb, .ref q_mw, .int mo_start, .int mo_many, .int mo_bits, .ref q_mx]))] (pr_b res) [(q_mo, .inr (6, [.int mo_thrown, .int mo_rows, .ref q_mv, .int mo_size, .ref q_me, .int mo_price, .int mo_queries, .ref q_mk, .ref q_ma, .ref q_mb, .ref q_mw, .int mo_start, .int mo_many, .int mo_bits, .ref q_mx]))] := by
  refine fr_open_i (cc := cX6_isSegment) (maxL := 2) (ret := some .boolean) (by decide +kernel) rfl (Nat.le_of_ble_eq_true rfl) ⟨.boolean, rfl, pr_b_n _⟩ ?_
  intro p e s m below meth c A Q ls hx hb hml hown hts hA hK hP hD hS hl hret
  have hown : s.vm.findClass RX6 = some m.cls := hown
  have hl : lv_has ls 2 [(0, .ref q_mo), (1, .int x1)] := hl
  have hin6 : ∀ w ∈ u_ws RX6 TX6 15, w ∈ wsX6_isSegment := fun _ h9 => List.mem_cons_of_mem _ (List.mem_append_right _ h9)
  unfold f_X6_isSegment at hf
  refine lv_iload_n hx hb dX6_isSegment_0 rfl (lv_at hl 1 rfl) ?_
  refine lv_if_lt (tgt := 20) hx hb dX6_isSegment_1 (by decide) (fun c4 => ?_) (fun c4 => ?_)
  · have hf := pr_pos hf c4
    refine lv_iconst (v := 0) hx hb dX6_isSegment_20 (by decide) ?_
    obtain rfl := Option.some.inj hf
    exact hret _ _ _ _ dX6_isSegment_21 (hP.sub [0] rfl) (hD.sub [0] (by decide) rfl) hS
  · have hf := pr_neg hf c4
    refine lv_iload_n hx hb dX6_isSegment_4 rfl (lv_at hl 1 rfl) ?_
    refine lv_aload_n hx hb dX6_isSegment_5 rfl (lv_at hl 0 rfl) ?_
    refine lv_aload_n hx hb dX6_isSegment_6 rfl (lv_at hl 0 rfl) ?_
    refine va_get (D := D) (ci := 6) (v := .int mo_size) (C := RX6) (T := TX6) (N := 15) hx hb hts hin6 hown hK hP 0 rfl rfl 3 (by decide) (hts (.fieldLink RX6 13 "ColumnChooserModel" "size" "I") (List.mem_of_getElem? (i := 1) rfl)) (fun _ h9 => h9) rfl dX6_isSegment_7 ?_
    obtain ⟨u5, hu5, hf⟩ := pr_bd hf
    refine fr_iV (As := [.int mo_size]) ⟨hx, hb, hml, hown, hts⟩ hK hP hD hS hA (c_X6_segments l D cI q_mo q_mv q_me q_mk q_ma q_mb q_mw q_mx n mo_size mo_thrown mo_rows mo_size mo_price mo_queries mo_start mo_many mo_bits u5 hu5) (cwV 1 hts gX6_isSegment_X6_segments rfl rfl rfl (by decide +kernel) ⟨Nat.le_of_ble_eq_true rfl, Nat.le_of_ble_eq_true rfl⟩) [] [0] [] rfl rfl (by decide) (by decide) (by decide) 0 rfl rfl rfl rfl hl.1 (Nat.le_of_ble_eq_true rfl) dX6_isSegment_10 ⟨Nat.zero_le _, Nat.zero_le _⟩ rfl (fun H locs hP hD hS => ?_)
    have hP : va_P D vwCl [(q_mo, .inr (6, [.int mo_thrown, .int mo_rows, .ref q_mv, .int mo_size, .ref q_me, .int mo_price, .int mo_queries, .ref q_mk, .ref q_ma, .ref q_mb, .ref q_mw, .int mo_start, .int mo_many, .int mo_bits, .ref q_mx]))] H := hP
    have hD : va_D A [(q_mo, .inr (6, [.int mo_thrown, .int mo_rows, .ref q_mv, .int mo_size, .ref q_me, .int mo_price, .int mo_queries, .ref q_mk, .ref q_ma, .ref q_mb, .ref q_mw, .int mo_start, .int mo_many, .int mo_bits, .ref q_mx]))] := hD
    refine lv_icmp_ge (tgt := 20) hx hb dX6_isSegment_13 (by decide) (fun c6 => ?_) (fun c6 => ?_)
    · have hf := pr_pos hf c6
      refine lv_iconst (v := 0) hx hb dX6_isSegment_20 (by decide) ?_
      obtain rfl := Option.some.inj hf
      exact hret _ _ _ _ dX6_isSegment_21 (hP.sub [0] rfl) (hD.sub [0] (by decide) rfl) hS
    · have hf := pr_neg hf c6
      refine lv_iconst (v := 1) hx hb dX6_isSegment_16 (by decide) ?_
      refine lv_goto (tgt := 21) hx hb dX6_isSegment_17 (by decide) ?_
      obtain rfl := Option.some.inj hf
      exact hret _ _ _ _ dX6_isSegment_21 (hP.sub [0] rfl) (hD.sub [0] (by decide) rfl) hS
set_option maxHeartbeats 4000000 in
set_option maxRecDepth 100000 in
theorem c_X6_asks (l : Launch) (D : va_G) (cI : ClassId) (q_mo q_mv q_me q_mk q_ma q_mb q_mw q_mx : Nat) (n : Nat) (x1 : Int32) (x2 : Int32) (mo_thrown : Int32) (mo_rows : Int32) (mo_size : Int32) (mo_price : Int32) (mo_queries : Int32) (mo_start : Int32) (mo_many : Int32) (mo_bits : Int32) (res : Bool × Int32 × Int32 × Int32) (hf : f_X6_asks n x1 x2 mo_thrown mo_rows mo_size mo_start mo_many = some res) : fr_Ci l yX6_asks wsX6_asks ({ frames := 2, cells := 0, slots := 0, locals := 43 }) D [(cI, .int)] [.ref q_mo, .int x1, .int x2] [(q_mo, .inr (6, [.int mo_thrown, .int mo_rows, .ref q_mv, .int mo_size, .ref q_me, .int mo_price, .int mo_queries, .ref q_mk, .ref q_ma, .ref q_mb, .ref q_mw, .int mo_start, .int mo_many, .int mo_bits, .ref q_mx]))] (pr_b res.1) [(q_mo, .inr (6, [.int res.2.1, .int mo_rows, .ref q_mv, .int mo_size, .ref q_me, .int mo_price, .int mo_queries, .ref q_mk, .ref q_ma, .ref q_mb, .ref q_mw, .int res.2.2.1, .int res.2.2.2, .int mo_bits, .ref q_mx]))] := by
  refine fr_open_i (cc := cX6_asks) (maxL := 3) (ret := some .boolean) (by decide +kernel) rfl (Nat.le_of_ble_eq_true rfl) ⟨.boolean, rfl, pr_b_n _⟩ ?_
  intro p e s m below meth c A Q ls hx hb hml hown hts hA hK hP hD hS hl hret
  have hown : s.vm.findClass RX6 = some m.cls := hown
  have hl : lv_has ls 3 [(0, .ref q_mo), (1, .int x1), (2, .int x2)] := hl
  have hin6 : ∀ w ∈ u_ws RX6 TX6 15, w ∈ wsX6_asks := fun _ h9 => List.mem_cons_of_mem _ (List.mem_append_right _ h9)
  unfold f_X6_asks at hf
  refine lv_aload_n hx hb dX6_asks_0 rfl (lv_at hl 0 rfl) ?_
  refine lv_aload_n hx hb dX6_asks_1 rfl (lv_at hl 0 rfl) ?_
  refine lv_iload_n hx hb dX6_asks_2 rfl (lv_at hl 1 rfl) ?_
  obtain ⟨u17, hu17, hf⟩ := pr_bd hf
  refine fr_iV (As := [.int x1]) ⟨hx, hb, hml, hown, hts⟩ hK hP hD hS hA (c_X6_isSegment l D cI q_mo q_mv q_me q_mk q_ma q_mb q_mw q_mx n x1 mo_thrown mo_rows mo_size mo_price mo_queries mo_start mo_many mo_bits u17 hu17) (cwV 1 hts gX6_asks_X6_isSegment rfl rfl rfl (by decide +kernel) ⟨Nat.le_of_ble_eq_true rfl, Nat.le_of_ble_eq_true rfl⟩) [] [0] [] rfl rfl (by decide) (by decide) (by decide) 0 rfl rfl rfl rfl hl.1 (Nat.le_of_ble_eq_true rfl) dX6_asks_3 ⟨Nat.zero_le _, Nat.zero_le _⟩ rfl (fun H locs hP hD hS => ?_)
  have hP : va_P D vwCl [(q_mo, .inr (6, [.int mo_thrown, .int mo_rows, .ref q_mv, .int mo_size, .ref q_me, .int mo_price, .int mo_queries, .ref q_mk, .ref q_ma, .ref q_mb, .ref q_mw, .int mo_start, .int mo_many, .int mo_bits, .ref q_mx]))] H := hP
  have hD : va_D A [(q_mo, .inr (6, [.int mo_thrown, .int mo_rows, .ref q_mv, .int mo_size, .ref q_me, .int mo_price, .int mo_queries, .ref q_mk, .ref q_ma, .ref q_mb, .ref q_mw, .int mo_start, .int mo_many, .int mo_bits, .ref q_mx]))] := hD
  refine lv_if_eq (tgt := 23) hx hb dX6_asks_6 (by decide) (fun c18 => ?_) (fun c18 => ?_)
  · have hf := pr_pos hf c18
    refine lv_iconst (v := 1) hx hb dX6_asks_23 (by decide) ?_
    refine va_put (D := D) (ci := 6) (v := .int 1) (ty := .int) (C := RX6) (T := TX6) (N := 15) hx hb hts hin6 tyX6 tyX6_ok nmX6 hown hK hP hD hS 0 rfl rfl 0 (by decide) (hts (.fieldLink RX6 38 "ColumnChooserModel" "thrown" "I") (List.mem_of_getElem? (i := 1) rfl)) (fun _ h9 => h9) rfl (by decide +kernel) rfl rfl (Nat.le_of_ble_eq_true rfl) dX6_asks_24 (fun H locs hP hD hS => ?_)
    have hP : va_P D vwCl [(q_mo, .inr (6, [.int 1, .int mo_rows, .ref q_mv, .int mo_size, .ref q_me, .int mo_price, .int mo_queries, .ref q_mk, .ref q_ma, .ref q_mb, .ref q_mw, .int mo_start, .int mo_many, .int mo_bits, .ref q_mx]))] H := hP
    have hD : va_D A [(q_mo, .inr (6, [.int 1, .int mo_rows, .ref q_mv, .int mo_size, .ref q_me, .int mo_price, .int mo_queries, .ref q_mk, .ref q_ma, .ref q_mb, .ref q_mw, .int mo_start, .int mo_many, .int mo_bits, .ref q_mx]))] := hD
    refine lv_aload_n hx hb dX6_asks_27 rfl (lv_at hl 0 rfl) ?_
    refine va_get (D := D) (ci := 6) (v := .int 1) (C := RX6) (T := TX6) (N := 15) hx hb hts hin6 hown hK hP 0 rfl rfl 0 (by decide) (hts (.fieldLink RX6 38 "ColumnChooserModel" "thrown" "I") (List.mem_of_getElem? (i := 1) rfl)) (fun _ h9 => h9) rfl dX6_asks_28 ?_
    refine lv_if_ne (tgt := 43) hx hb dX6_asks_31 (by decide) (fun c19 => ?_) (fun c19 => ?_)
    · have hf := pr_neg hf c19
      refine lv_aload_n hx hb dX6_asks_43 rfl (lv_at hl 0 rfl) ?_
      refine va_get (D := D) (ci := 6) (v := .int 1) (C := RX6) (T := TX6) (N := 15) hx hb hts hin6 hown hK hP 0 rfl rfl 0 (by decide) (hts (.fieldLink RX6 38 "ColumnChooserModel" "thrown" "I") (List.mem_of_getElem? (i := 1) rfl)) (fun _ h9 => h9) rfl dX6_asks_44 ?_
      refine lv_if_ne (tgt := 54) hx hb dX6_asks_47 (by decide) (fun c20 => ?_) (fun c20 => ?_)
      · have hf := pr_neg hf c20
        refine lv_iconst (v := 0) hx hb dX6_asks_54 (by decide) ?_
        obtain rfl := Option.some.inj hf
        exact hret _ _ _ _ dX6_asks_55 (hP.sub [0] rfl) (hD.sub [0] (by decide) rfl) hS
      · have hf := pr_pos hf c20
        refine lv_iconst (v := 1) hx hb dX6_asks_50 (by decide) ?_
        refine lv_goto (tgt := 55) hx hb dX6_asks_51 (by decide) ?_
        obtain rfl := Option.some.inj hf
        exact hret _ _ _ _ dX6_asks_55 (hP.sub [0] rfl) (hD.sub [0] (by decide) rfl) hS
    · have hf := pr_pos hf c19
      refine lv_aload_n hx hb dX6_asks_34 rfl (lv_at hl 0 rfl) ?_
      refine lv_iload_n hx hb dX6_asks_35 rfl (lv_at hl 1 rfl) ?_
      refine lv_aload_n hx hb dX6_asks_36 rfl (lv_at hl 0 rfl) ?_
      refine va_get (D := D) (ci := 6) (v := .int mo_size) (C := RX6) (T := TX6) (N := 15) hx hb hts hin6 hown hK hP 0 rfl rfl 3 (by decide) (hts (.fieldLink RX6 13 "ColumnChooserModel" "size" "I") (List.mem_of_getElem? (i := 2) rfl)) (fun _ h9 => h9) rfl dX6_asks_37 ?_
      obtain ⟨u21, hu21, hf⟩ := pr_bd hf
      refine fr_vV (As := [.int x1, .int mo_size]) ⟨hx, hb, hml, hown, hts⟩ hK hP hD hS hA (c_X6_choose l D cI q_mo q_mv q_me q_mk q_ma q_mb q_mw q_mx n x1 mo_size 1 mo_rows mo_size mo_price mo_queries mo_start mo_many mo_bits u21 hu21) (cwV 2 hts gX6_asks_X6_choose rfl rfl rfl (by decide +kernel) ⟨Nat.le_of_ble_eq_true rfl, Nat.le_of_ble_eq_true rfl⟩) [] [0] [] rfl rfl (by decide) (by decide) (by decide) 0 rfl rfl rfl rfl hl.1 (Nat.le_of_ble_eq_true rfl) dX6_asks_40 ⟨Nat.zero_le _, Nat.zero_le _⟩ rfl (fun H locs hP hD hS => ?_)
      have hP : va_P D vwCl [(q_mo, .inr (6, [.int 1, .int mo_rows, .ref q_mv, .int mo_size, .ref q_me, .int mo_price, .int mo_queries, .ref q_mk, .ref q_ma, .ref q_mb, .ref q_mw, .int u21.1, .int u21.2, .int mo_bits, .ref q_mx]))] H := hP
      have hD : va_D A [(q_mo, .inr (6, [.int 1, .int mo_rows, .ref q_mv, .int mo_size, .ref q_me, .int mo_price, .int mo_queries, .ref q_mk, .ref q_ma, .ref q_mb, .ref q_mw, .int u21.1, .int u21.2, .int mo_bits, .ref q_mx]))] := hD
      refine lv_aload_n hx hb dX6_asks_43 rfl (lv_at hl 0 rfl) ?_
      refine va_get (D := D) (ci := 6) (v := .int 1) (C := RX6) (T := TX6) (N := 15) hx hb hts hin6 hown hK hP 0 rfl rfl 0 (by decide) (hts (.fieldLink RX6 38 "ColumnChooserModel" "thrown" "I") (List.mem_of_getElem? (i := 1) rfl)) (fun _ h9 => h9) rfl dX6_asks_44 ?_
      refine lv_if_ne (tgt := 54) hx hb dX6_asks_47 (by decide) (fun c22 => ?_) (fun c22 => ?_)
      · have hf := pr_neg hf c22
        refine lv_iconst (v := 0) hx hb dX6_asks_54 (by decide) ?_
        obtain rfl := Option.some.inj hf
        exact hret _ _ _ _ dX6_asks_55 (hP.sub [0] rfl) (hD.sub [0] (by decide) rfl) hS
      · have hf := pr_pos hf c22
        refine lv_iconst (v := 1) hx hb dX6_asks_50 (by decide) ?_
        refine lv_goto (tgt := 55) hx hb dX6_asks_51 (by decide) ?_
        obtain rfl := Option.some.inj hf
        exact hret _ _ _ _ dX6_asks_55 (hP.sub [0] rfl) (hD.sub [0] (by decide) rfl) hS
  · have hf := pr_neg hf c18
    refine lv_iload_n hx hb dX6_asks_9 rfl (lv_at hl 2 rfl) ?_
    refine lv_i2l hx hb dX6_asks_10 rfl ?_
    refine lv_iconst (v := 0) hx hb dX6_asks_11 (by decide) ?_
    refine lv_iconst (v := 5) hx hb dX6_asks_12 (by decide) ?_
    obtain ⟨u23, hu23, hf⟩ := pr_bd hf
    refine fr_iS (As := [.long x2.toInt64, .int 0, .int 5]) ⟨hx, hb, hml, hown, hts⟩ hK hP hD hS hA (c_X6_isIn l D cI n x2.toInt64 0 5 u23 hu23) (va_cwS 3 hts gX6_asks_X6_isIn rfl rfl rfl (by decide +kernel) ⟨Nat.le_of_ble_eq_true rfl, Nat.le_of_ble_eq_true rfl⟩) [(q_mo, .inr (6, [.int mo_thrown, .int mo_rows, .ref q_mv, .int mo_size, .ref q_me, .int mo_price, .int mo_queries, .ref q_mk, .ref q_ma, .ref q_mb, .ref q_mw, .int mo_start, .int mo_many, .int mo_bits, .ref q_mx]))] [] [0] rfl rfl (by decide) (by decide) (by decide) rfl hl.1 (Nat.le_of_ble_eq_true rfl) dX6_asks_13 ⟨Nat.zero_le _, Nat.zero_le _⟩ rfl (fun H locs hP hD hS => ?_)
    have hP : va_P D vwCl [(q_mo, .inr (6, [.int mo_thrown, .int mo_rows, .ref q_mv, .int mo_size, .ref q_me, .int mo_price, .int mo_queries, .ref q_mk, .ref q_ma, .ref q_mb, .ref q_mw, .int mo_start, .int mo_many, .int mo_bits, .ref q_mx]))] H := hP
    have hD : va_D A [(q_mo, .inr (6, [.int mo_thrown, .int mo_rows, .ref q_mv, .int mo_size, .ref q_me, .int mo_price, .int mo_queries, .ref q_mk, .ref q_ma, .ref q_mb, .ref q_mw, .int mo_start, .int mo_many, .int mo_bits, .ref q_mx]))] := hD
    refine lv_if_eq (tgt := 23) hx hb dX6_asks_16 (by decide) (fun c24 => ?_) (fun c24 => ?_)
    · have hf := pr_pos hf c24
      refine lv_iconst (v := 1) hx hb dX6_asks_23 (by decide) ?_
      refine va_put (D := D) (ci := 6) (v := .int 1) (ty := .int) (C := RX6) (T := TX6) (N := 15) hx hb hts hin6 tyX6 tyX6_ok nmX6 hown hK hP hD hS 0 rfl rfl 0 (by decide) (hts (.fieldLink RX6 38 "ColumnChooserModel" "thrown" "I") (List.mem_of_getElem? (i := 1) rfl)) (fun _ h9 => h9) rfl (by decide +kernel) rfl rfl (Nat.le_of_ble_eq_true rfl) dX6_asks_24 (fun H locs hP hD hS => ?_)
      have hP : va_P D vwCl [(q_mo, .inr (6, [.int 1, .int mo_rows, .ref q_mv, .int mo_size, .ref q_me, .int mo_price, .int mo_queries, .ref q_mk, .ref q_ma, .ref q_mb, .ref q_mw, .int mo_start, .int mo_many, .int mo_bits, .ref q_mx]))] H := hP
      have hD : va_D A [(q_mo, .inr (6, [.int 1, .int mo_rows, .ref q_mv, .int mo_size, .ref q_me, .int mo_price, .int mo_queries, .ref q_mk, .ref q_ma, .ref q_mb, .ref q_mw, .int mo_start, .int mo_many, .int mo_bits, .ref q_mx]))] := hD
      refine lv_aload_n hx hb dX6_asks_27 rfl (lv_at hl 0 rfl) ?_
      refine va_get (D := D) (ci := 6) (v := .int 1) (C := RX6) (T := TX6) (N := 15) hx hb hts hin6 hown hK hP 0 rfl rfl 0 (by decide) (hts (.fieldLink RX6 38 "ColumnChooserModel" "thrown" "I") (List.mem_of_getElem? (i := 1) rfl)) (fun _ h9 => h9) rfl dX6_asks_28 ?_
      refine lv_if_ne (tgt := 43) hx hb dX6_asks_31 (by decide) (fun c25 => ?_) (fun c25 => ?_)
      · have hf := pr_neg hf c25
        refine lv_aload_n hx hb dX6_asks_43 rfl (lv_at hl 0 rfl) ?_
        refine va_get (D := D) (ci := 6) (v := .int 1) (C := RX6) (T := TX6) (N := 15) hx hb hts hin6 hown hK hP 0 rfl rfl 0 (by decide) (hts (.fieldLink RX6 38 "ColumnChooserModel" "thrown" "I") (List.mem_of_getElem? (i := 1) rfl)) (fun _ h9 => h9) rfl dX6_asks_44 ?_
        refine lv_if_ne (tgt := 54) hx hb dX6_asks_47 (by decide) (fun c26 => ?_) (fun c26 => ?_)
        · have hf := pr_neg hf c26
          refine lv_iconst (v := 0) hx hb dX6_asks_54 (by decide) ?_
          obtain rfl := Option.some.inj hf
          exact hret _ _ _ _ dX6_asks_55 (hP.sub [0] rfl) (hD.sub [0] (by decide) rfl) hS
        · have hf := pr_pos hf c26
          refine lv_iconst (v := 1) hx hb dX6_asks_50 (by decide) ?_
          refine lv_goto (tgt := 55) hx hb dX6_asks_51 (by decide) ?_
          obtain rfl := Option.some.inj hf
          exact hret _ _ _ _ dX6_asks_55 (hP.sub [0] rfl) (hD.sub [0] (by decide) rfl) hS
      · have hf := pr_pos hf c25
        refine lv_aload_n hx hb dX6_asks_34 rfl (lv_at hl 0 rfl) ?_
        refine lv_iload_n hx hb dX6_asks_35 rfl (lv_at hl 1 rfl) ?_
        refine lv_aload_n hx hb dX6_asks_36 rfl (lv_at hl 0 rfl) ?_
        refine va_get (D := D) (ci := 6) (v := .int mo_size) (C := RX6) (T := TX6) (N := 15) hx hb hts hin6 hown hK hP 0 rfl rfl 3 (by decide) (hts (.fieldLink RX6 13 "ColumnChooserModel" "size" "I") (List.mem_of_getElem? (i := 2) rfl)) (fun _ h9 => h9) rfl dX6_asks_37 ?_
        obtain ⟨u27, hu27, hf⟩ := pr_bd hf
        refine fr_vV (As := [.int x1, .int mo_size]) ⟨hx, hb, hml, hown, hts⟩ hK hP hD hS hA (c_X6_choose l D cI q_mo q_mv q_me q_mk q_ma q_mb q_mw q_mx n x1 mo_size 1 mo_rows mo_size mo_price mo_queries mo_start mo_many mo_bits u27 hu27) (cwV 2 hts gX6_asks_X6_choose rfl rfl rfl (by decide +kernel) ⟨Nat.le_of_ble_eq_true rfl, Nat.le_of_ble_eq_true rfl⟩) [] [0] [] rfl rfl (by decide) (by decide) (by decide) 0 rfl rfl rfl rfl hl.1 (Nat.le_of_ble_eq_true rfl) dX6_asks_40 ⟨Nat.zero_le _, Nat.zero_le _⟩ rfl (fun H locs hP hD hS => ?_)
        have hP : va_P D vwCl [(q_mo, .inr (6, [.int 1, .int mo_rows, .ref q_mv, .int mo_size, .ref q_me, .int mo_price, .int mo_queries, .ref q_mk, .ref q_ma, .ref q_mb, .ref q_mw, .int u27.1, .int u27.2, .int mo_bits, .ref q_mx]))] H := hP
        have hD : va_D A [(q_mo, .inr (6, [.int 1, .int mo_rows, .ref q_mv, .int mo_size, .ref q_me, .int mo_price, .int mo_queries, .ref q_mk, .ref q_ma, .ref q_mb, .ref q_mw, .int u27.1, .int u27.2, .int mo_bits, .ref q_mx]))] := hD
        refine lv_aload_n hx hb dX6_asks_43 rfl (lv_at hl 0 rfl) ?_
        refine va_get (D := D) (ci := 6) (v := .int 1) (C := RX6) (T := TX6) (N := 15) hx hb hts hin6 hown hK hP 0 rfl rfl 0 (by decide) (hts (.fieldLink RX6 38 "ColumnChooserModel" "thrown" "I") (List.mem_of_getElem? (i := 1) rfl)) (fun _ h9 => h9) rfl dX6_asks_44 ?_
        refine lv_if_ne (tgt := 54) hx hb dX6_asks_47 (by decide) (fun c28 => ?_) (fun c28 => ?_)
        · have hf := pr_neg hf c28
          refine lv_iconst (v := 0) hx hb dX6_asks_54 (by decide) ?_
          obtain rfl := Option.some.inj hf
          exact hret _ _ _ _ dX6_asks_55 (hP.sub [0] rfl) (hD.sub [0] (by decide) rfl) hS
        · have hf := pr_pos hf c28
          refine lv_iconst (v := 1) hx hb dX6_asks_50 (by decide) ?_
          refine lv_goto (tgt := 55) hx hb dX6_asks_51 (by decide) ?_
          obtain rfl := Option.some.inj hf
          exact hret _ _ _ _ dX6_asks_55 (hP.sub [0] rfl) (hD.sub [0] (by decide) rfl) hS
    · have hf := pr_neg hf c24
      refine lv_iconst (v := 0) hx hb dX6_asks_19 (by decide) ?_
      refine lv_goto (tgt := 24) hx hb dX6_asks_20 (by decide) ?_
      refine va_put (D := D) (ci := 6) (v := .int 0) (ty := .int) (C := RX6) (T := TX6) (N := 15) hx hb hts hin6 tyX6 tyX6_ok nmX6 hown hK hP hD hS 0 rfl rfl 0 (by decide) (hts (.fieldLink RX6 38 "ColumnChooserModel" "thrown" "I") (List.mem_of_getElem? (i := 1) rfl)) (fun _ h9 => h9) rfl (by decide +kernel) rfl rfl (Nat.le_of_ble_eq_true rfl) dX6_asks_24 (fun H locs hP hD hS => ?_)
      have hP : va_P D vwCl [(q_mo, .inr (6, [.int 0, .int mo_rows, .ref q_mv, .int mo_size, .ref q_me, .int mo_price, .int mo_queries, .ref q_mk, .ref q_ma, .ref q_mb, .ref q_mw, .int mo_start, .int mo_many, .int mo_bits, .ref q_mx]))] H := hP
      have hD : va_D A [(q_mo, .inr (6, [.int 0, .int mo_rows, .ref q_mv, .int mo_size, .ref q_me, .int mo_price, .int mo_queries, .ref q_mk, .ref q_ma, .ref q_mb, .ref q_mw, .int mo_start, .int mo_many, .int mo_bits, .ref q_mx]))] := hD
      refine lv_aload_n hx hb dX6_asks_27 rfl (lv_at hl 0 rfl) ?_
      refine va_get (D := D) (ci := 6) (v := .int 0) (C := RX6) (T := TX6) (N := 15) hx hb hts hin6 hown hK hP 0 rfl rfl 0 (by decide) (hts (.fieldLink RX6 38 "ColumnChooserModel" "thrown" "I") (List.mem_of_getElem? (i := 1) rfl)) (fun _ h9 => h9) rfl dX6_asks_28 ?_
      refine lv_if_ne (tgt := 43) hx hb dX6_asks_31 (by decide) (fun c29 => ?_) (fun c29 => ?_)
      · have hf := pr_neg hf c29
        refine lv_aload_n hx hb dX6_asks_43 rfl (lv_at hl 0 rfl) ?_
        refine va_get (D := D) (ci := 6) (v := .int 0) (C := RX6) (T := TX6) (N := 15) hx hb hts hin6 hown hK hP 0 rfl rfl 0 (by decide) (hts (.fieldLink RX6 38 "ColumnChooserModel" "thrown" "I") (List.mem_of_getElem? (i := 1) rfl)) (fun _ h9 => h9) rfl dX6_asks_44 ?_
        refine lv_if_ne (tgt := 54) hx hb dX6_asks_47 (by decide) (fun c30 => ?_) (fun c30 => ?_)
        · have hf := pr_neg hf c30
          refine lv_iconst (v := 0) hx hb dX6_asks_54 (by decide) ?_
          obtain rfl := Option.some.inj hf
          exact hret _ _ _ _ dX6_asks_55 (hP.sub [0] rfl) (hD.sub [0] (by decide) rfl) hS
        · have hf := pr_pos hf c30
          refine lv_iconst (v := 1) hx hb dX6_asks_50 (by decide) ?_
          refine lv_goto (tgt := 55) hx hb dX6_asks_51 (by decide) ?_
          obtain rfl := Option.some.inj hf
          exact hret _ _ _ _ dX6_asks_55 (hP.sub [0] rfl) (hD.sub [0] (by decide) rfl) hS
      · have hf := pr_pos hf c29
        refine lv_aload_n hx hb dX6_asks_34 rfl (lv_at hl 0 rfl) ?_
        refine lv_iload_n hx hb dX6_asks_35 rfl (lv_at hl 1 rfl) ?_
        refine lv_aload_n hx hb dX6_asks_36 rfl (lv_at hl 0 rfl) ?_
        refine va_get (D := D) (ci := 6) (v := .int mo_size) (C := RX6) (T := TX6) (N := 15) hx hb hts hin6 hown hK hP 0 rfl rfl 3 (by decide) (hts (.fieldLink RX6 13 "ColumnChooserModel" "size" "I") (List.mem_of_getElem? (i := 2) rfl)) (fun _ h9 => h9) rfl dX6_asks_37 ?_
        obtain ⟨u31, hu31, hf⟩ := pr_bd hf
        refine fr_vV (As := [.int x1, .int mo_size]) ⟨hx, hb, hml, hown, hts⟩ hK hP hD hS hA (c_X6_choose l D cI q_mo q_mv q_me q_mk q_ma q_mb q_mw q_mx n x1 mo_size 0 mo_rows mo_size mo_price mo_queries mo_start mo_many mo_bits u31 hu31) (cwV 2 hts gX6_asks_X6_choose rfl rfl rfl (by decide +kernel) ⟨Nat.le_of_ble_eq_true rfl, Nat.le_of_ble_eq_true rfl⟩) [] [0] [] rfl rfl (by decide) (by decide) (by decide) 0 rfl rfl rfl rfl hl.1 (Nat.le_of_ble_eq_true rfl) dX6_asks_40 ⟨Nat.zero_le _, Nat.zero_le _⟩ rfl (fun H locs hP hD hS => ?_)
        have hP : va_P D vwCl [(q_mo, .inr (6, [.int 0, .int mo_rows, .ref q_mv, .int mo_size, .ref q_me, .int mo_price, .int mo_queries, .ref q_mk, .ref q_ma, .ref q_mb, .ref q_mw, .int u31.1, .int u31.2, .int mo_bits, .ref q_mx]))] H := hP
        have hD : va_D A [(q_mo, .inr (6, [.int 0, .int mo_rows, .ref q_mv, .int mo_size, .ref q_me, .int mo_price, .int mo_queries, .ref q_mk, .ref q_ma, .ref q_mb, .ref q_mw, .int u31.1, .int u31.2, .int mo_bits, .ref q_mx]))] := hD
        refine lv_aload_n hx hb dX6_asks_43 rfl (lv_at hl 0 rfl) ?_
        refine va_get (D := D) (ci := 6) (v := .int 0) (C := RX6) (T := TX6) (N := 15) hx hb hts hin6 hown hK hP 0 rfl rfl 0 (by decide) (hts (.fieldLink RX6 38 "ColumnChooserModel" "thrown" "I") (List.mem_of_getElem? (i := 1) rfl)) (fun _ h9 => h9) rfl dX6_asks_44 ?_
        refine lv_if_ne (tgt := 54) hx hb dX6_asks_47 (by decide) (fun c32 => ?_) (fun c32 => ?_)
        · have hf := pr_neg hf c32
          refine lv_iconst (v := 0) hx hb dX6_asks_54 (by decide) ?_
          obtain rfl := Option.some.inj hf
          exact hret _ _ _ _ dX6_asks_55 (hP.sub [0] rfl) (hD.sub [0] (by decide) rfl) hS
        · have hf := pr_pos hf c32
          refine lv_iconst (v := 1) hx hb dX6_asks_50 (by decide) ?_
          refine lv_goto (tgt := 55) hx hb dX6_asks_51 (by decide) ?_
          obtain rfl := Option.some.inj hf
          exact hret _ _ _ _ dX6_asks_55 (hP.sub [0] rfl) (hD.sub [0] (by decide) rfl) hS
set_option maxHeartbeats 4000000 in
set_option maxRecDepth 100000 in
theorem c_X6_sizeWith (l : Launch) (D : va_G) (cI : ClassId) (q_mo q_mv q_me q_mk q_ma q_mb q_mw q_mx : Nat) (n : Nat) (x1 : Int32) (x2 : Int32) (mo_thrown : Int32) (mo_rows : Int32) (mo_size : Int32) (mo_price : Int32) (mo_queries : Int32) (mo_start : Int32) (mo_many : Int32) (mo_bits : Int32) (mv : (Nat → Int32)) (res : Int32 × Int32 × Int32 × Int32) (hf : f_X6_sizeWith n x1 x2 mo_thrown mo_rows mo_size mo_start mo_many mv = some res) : fr_Ci l yX6_sizeWith wsX6_sizeWith ({ frames := 4, cells := 0, slots := 0, locals := 87 }) D [(cI, .int)] [.ref q_mo, .int x1, .int x2] [(q_mo, .inr (6, [.int mo_thrown, .int mo_rows, .ref q_mv, .int mo_size, .ref q_me, .int mo_price, .int mo_queries, .ref q_mk, .ref q_ma, .ref q_mb, .ref q_mw, .int mo_start, .int mo_many, .int mo_bits, .ref q_mx])), (q_mv, .inl (cI, 96, .inl mv))] res.1 [(q_mo, .inr (6, [.int res.2.1, .int mo_rows, .ref q_mv, .int mo_size, .ref q_me, .int mo_price, .int mo_queries, .ref q_mk, .ref q_ma, .ref q_mb, .ref q_mw, .int res.2.2.1, .int res.2.2.2, .int mo_bits, .ref q_mx])), (q_mv, .inl (cI, 96, .inl mv))] := by
  refine fr_open_i (cc := cX6_sizeWith) (maxL := 3) (ret := some .int) (by decide +kernel) rfl (Nat.le_of_ble_eq_true rfl) ⟨.int, rfl, vp_nar_int _⟩ ?_
  intro p e s m below meth c A Q ls hx hb hml hown hts hA hK hP hD hS hl hret
  have hown : s.vm.findClass RX6 = some m.cls := hown
  have hl : lv_has ls 3 [(0, .ref q_mo), (1, .int x1), (2, .int x2)] := hl
  unfold f_X6_sizeWith at hf
  refine lv_aload_n hx hb dX6_sizeWith_0 rfl (lv_at hl 0 rfl) ?_
  refine lv_iload_n hx hb dX6_sizeWith_1 rfl (lv_at hl 1 rfl) ?_
  refine lv_iload_n hx hb dX6_sizeWith_2 rfl (lv_at hl 2 rfl) ?_
  obtain ⟨u6, hu6, hf⟩ := pr_bd hf
  refine fr_iV (As := [.int x1, .int x2]) ⟨hx, hb, hml, hown, hts⟩ hK hP hD hS hA (c_X6_asks l D cI q_mo q_mv q_me q_mk q_ma q_mb q_mw q_mx n x1 x2 mo_thrown mo_rows mo_size mo_price mo_queries mo_start mo_many mo_bits u6 hu6) (cwV 2 hts gX6_sizeWith_X6_asks rfl rfl rfl (by decide +kernel) ⟨Nat.le_of_ble_eq_true rfl, Nat.le_of_ble_eq_true rfl⟩) [(q_mv, .inl (cI, 96, .inl mv))] [0] [1] rfl rfl (by decide) (by decide) (by decide) 0 rfl rfl rfl rfl hl.1 (Nat.le_of_ble_eq_true rfl) dX6_sizeWith_3 ⟨Nat.zero_le _, Nat.zero_le _⟩ rfl (fun H locs hP hD hS => ?_)
  have hP : va_P D vwCl [(q_mv, .inl (cI, 96, .inl mv)), (q_mo, .inr (6, [.int u6.2.1, .int mo_rows, .ref q_mv, .int mo_size, .ref q_me, .int mo_price, .int mo_queries, .ref q_mk, .ref q_ma, .ref q_mb, .ref q_mw, .int u6.2.2.1, .int u6.2.2.2, .int mo_bits, .ref q_mx]))] H := hP
  have hD : va_D A [(q_mv, .inl (cI, 96, .inl mv)), (q_mo, .inr (6, [.int u6.2.1, .int mo_rows, .ref q_mv, .int mo_size, .ref q_me, .int mo_price, .int mo_queries, .ref q_mk, .ref q_ma, .ref q_mb, .ref q_mw, .int u6.2.2.1, .int u6.2.2.2, .int mo_bits, .ref q_mx]))] := hD
  refine lv_if_ne (tgt := 11) hx hb dX6_sizeWith_6 (by decide) (fun c7 => ?_) (fun c7 => ?_)
  · have hf := pr_neg hf c7
    refine lv_aload_n hx hb dX6_sizeWith_11 rfl (lv_at hl 0 rfl) ?_
    refine lv_iload_n hx hb dX6_sizeWith_12 rfl (lv_at hl 2 rfl) ?_
    obtain ⟨u8, hu8, hf⟩ := pr_bd hf
    refine fr_iV (As := [.int x2]) ⟨hx, hb, hml, hown, hts⟩ hK hP hD hS hA (c_X6_isPossible l D cI q_mo q_mv q_me q_mk q_ma q_mb q_mw q_mx n x2 u6.2.1 mo_rows mo_size mo_price mo_queries u6.2.2.1 u6.2.2.2 mo_bits mv u8 hu8) (cwV 1 hts gX6_sizeWith_X6_isPossible rfl rfl rfl (by decide +kernel) ⟨Nat.le_of_ble_eq_true rfl, Nat.le_of_ble_eq_true rfl⟩) [] [1, 0] [] rfl rfl (by decide) (by decide) (by decide) 0 rfl rfl rfl rfl hl.1 (Nat.le_of_ble_eq_true rfl) dX6_sizeWith_13 ⟨Nat.zero_le _, Nat.zero_le _⟩ rfl (fun H locs hP hD hS => ?_)
    have hP : va_P D vwCl [(q_mo, .inr (6, [.int u6.2.1, .int mo_rows, .ref q_mv, .int mo_size, .ref q_me, .int mo_price, .int mo_queries, .ref q_mk, .ref q_ma, .ref q_mb, .ref q_mw, .int u6.2.2.1, .int u6.2.2.2, .int mo_bits, .ref q_mx])), (q_mv, .inl (cI, 96, .inl mv))] H := hP
    have hD : va_D A [(q_mo, .inr (6, [.int u6.2.1, .int mo_rows, .ref q_mv, .int mo_size, .ref q_me, .int mo_price, .int mo_queries, .ref q_mk, .ref q_ma, .ref q_mb, .ref q_mw, .int u6.2.2.1, .int u6.2.2.2, .int mo_bits, .ref q_mx])), (q_mv, .inl (cI, 96, .inl mv))] := hD
    refine lv_if_eq (tgt := 27) hx hb dX6_sizeWith_16 (by decide) (fun c9 => ?_) (fun c9 => ?_)
    · have hf := pr_pos hf c9
      refine lv_iconst (v := -1) hx hb dX6_sizeWith_27 (by decide) ?_
      obtain rfl := Option.some.inj hf
      exact hret _ _ _ _ dX6_sizeWith_28 (hP.sub [0, 1] rfl) (hD.sub [0, 1] (by decide) rfl) hS
    · have hf := pr_neg hf c9
      refine lv_aload_n hx hb dX6_sizeWith_19 rfl (lv_at hl 0 rfl) ?_
      refine lv_iload_n hx hb dX6_sizeWith_20 rfl (lv_at hl 2 rfl) ?_
      obtain ⟨u10, hu10, hf⟩ := pr_bd hf
      refine fr_iV (As := [.int x2]) ⟨hx, hb, hml, hown, hts⟩ hK hP hD hS hA (c_X6_sizeOf l D cI q_mo q_mv q_me q_mk q_ma q_mb q_mw q_mx n x2 u6.2.1 mo_rows mo_size mo_price mo_queries u6.2.2.1 u6.2.2.2 mo_bits mv u10 hu10) (cwV 1 hts gX6_sizeWith_X6_sizeOf rfl rfl rfl (by decide +kernel) ⟨Nat.le_of_ble_eq_true rfl, Nat.le_of_ble_eq_true rfl⟩) [] [0, 1] [] rfl rfl (by decide) (by decide) (by decide) 0 rfl rfl rfl rfl hl.1 (Nat.le_of_ble_eq_true rfl) dX6_sizeWith_21 ⟨Nat.zero_le _, Nat.zero_le _⟩ rfl (fun H locs hP hD hS => ?_)
      have hP : va_P D vwCl [(q_mo, .inr (6, [.int u6.2.1, .int mo_rows, .ref q_mv, .int mo_size, .ref q_me, .int mo_price, .int mo_queries, .ref q_mk, .ref q_ma, .ref q_mb, .ref q_mw, .int u6.2.2.1, .int u6.2.2.2, .int mo_bits, .ref q_mx])), (q_mv, .inl (cI, 96, .inl mv))] H := hP
      have hD : va_D A [(q_mo, .inr (6, [.int u6.2.1, .int mo_rows, .ref q_mv, .int mo_size, .ref q_me, .int mo_price, .int mo_queries, .ref q_mk, .ref q_ma, .ref q_mb, .ref q_mw, .int u6.2.2.1, .int u6.2.2.2, .int mo_bits, .ref q_mx])), (q_mv, .inl (cI, 96, .inl mv))] := hD
      refine lv_goto (tgt := 28) hx hb dX6_sizeWith_24 (by decide) ?_
      obtain rfl := Option.some.inj hf
      exact hret _ _ _ _ dX6_sizeWith_28 (hP.sub [0, 1] rfl) (hD.sub [0, 1] (by decide) rfl) hS
  · have hf := pr_pos hf c7
    refine lv_iconst (v := 0) hx hb dX6_sizeWith_9 (by decide) ?_
    obtain rfl := Option.some.inj hf
    exact hret _ _ _ _ dX6_sizeWith_10 (hP.sub [1, 0] rfl) (hD.sub [1, 0] (by decide) rfl) hS
set_option maxHeartbeats 4000000 in
set_option maxRecDepth 100000 in
theorem c_X6_costWith (l : Launch) (D : va_G) (cI : ClassId) (q_mo q_mv q_me q_mk q_ma q_mb q_mw q_mx : Nat) (n : Nat) (x1 : Int32) (x2 : Int32) (x3 : Int32) (mo_thrown : Int32) (mo_rows : Int32) (mo_size : Int32) (mo_price : Int32) (mo_queries : Int32) (mo_start : Int32) (mo_many : Int32) (mo_bits : Int32) (mv : (Nat → Int32)) (mk : (Nat → Int32)) (ma : (Nat → Int32)) (mb : (Nat → Int32)) (res : Int32 × Int32 × Int32 × Int32) (hf : f_X6_costWith n x1 x2 x3 mo_thrown mo_rows mo_size mo_queries mo_start mo_many mv mk ma mb = some res) : fr_Ci l yX6_costWith wsX6_costWith ({ frames := 5, cells := 0, slots := 0, locals := 114 }) D [(cI, .int)] [.ref q_mo, .int x1, .int x2, .int x3] [(q_mo, .inr (6, [.int mo_thrown, .int mo_rows, .ref q_mv, .int mo_size, .ref q_me, .int mo_price, .int mo_queries, .ref q_mk, .ref q_ma, .ref q_mb, .ref q_mw, .int mo_start, .int mo_many, .int mo_bits, .ref q_mx])), (q_mv, .inl (cI, 96, .inl mv)), (q_mk, .inl (cI, 20, .inl mk)), (q_ma, .inl (cI, 20, .inl ma)), (q_mb, .inl (cI, 20, .inl mb))] res.1 [(q_mo, .inr (6, [.int res.2.1, .int mo_rows, .ref q_mv, .int mo_size, .ref q_me, .int mo_price, .int mo_queries, .ref q_mk, .ref q_ma, .ref q_mb, .ref q_mw, .int res.2.2.1, .int res.2.2.2, .int mo_bits, .ref q_mx])), (q_mv, .inl (cI, 96, .inl mv)), (q_mk, .inl (cI, 20, .inl mk)), (q_ma, .inl (cI, 20, .inl ma)), (q_mb, .inl (cI, 20, .inl mb))] := by
  refine fr_open_i (cc := cX6_costWith) (maxL := 4) (ret := some .int) (by decide +kernel) rfl (Nat.le_of_ble_eq_true rfl) ⟨.int, rfl, vp_nar_int _⟩ ?_
  intro p e s m below meth c A Q ls hx hb hml hown hts hA hK hP hD hS hl hret
  have hown : s.vm.findClass RX6 = some m.cls := hown
  have hl : lv_has ls 4 [(0, .ref q_mo), (1, .int x1), (2, .int x2), (3, .int x3)] := hl
  have hin6 : ∀ w ∈ u_ws RX6 TX6 15, w ∈ wsX6_costWith := fun _ h9 => List.mem_cons_of_mem _ (List.mem_append_right _ h9)
  unfold f_X6_costWith at hf
  refine lv_aload_n hx hb dX6_costWith_0 rfl (lv_at hl 0 rfl) ?_
  refine lv_iload_n hx hb dX6_costWith_1 rfl (lv_at hl 2 rfl) ?_
  refine lv_iload_n hx hb dX6_costWith_2 rfl (lv_at hl 3 rfl) ?_
  obtain ⟨u11, hu11, hf⟩ := pr_bd hf
  refine fr_iV (As := [.int x2, .int x3]) ⟨hx, hb, hml, hown, hts⟩ hK hP hD hS hA (c_X6_asks l D cI q_mo q_mv q_me q_mk q_ma q_mb q_mw q_mx n x2 x3 mo_thrown mo_rows mo_size mo_price mo_queries mo_start mo_many mo_bits u11 hu11) (cwV 2 hts gX6_costWith_X6_asks rfl rfl rfl (by decide +kernel) ⟨Nat.le_of_ble_eq_true rfl, Nat.le_of_ble_eq_true rfl⟩) [(q_mv, .inl (cI, 96, .inl mv)), (q_mk, .inl (cI, 20, .inl mk)), (q_ma, .inl (cI, 20, .inl ma)), (q_mb, .inl (cI, 20, .inl mb))] [0] [1, 2, 3, 4] rfl rfl (by decide) (by decide) (by decide) 0 rfl rfl rfl rfl hl.1 (Nat.le_of_ble_eq_true rfl) dX6_costWith_3 ⟨Nat.zero_le _, Nat.zero_le _⟩ rfl (fun H locs hP hD hS => ?_)
  have hP : va_P D vwCl [(q_mv, .inl (cI, 96, .inl mv)), (q_mk, .inl (cI, 20, .inl mk)), (q_ma, .inl (cI, 20, .inl ma)), (q_mb, .inl (cI, 20, .inl mb)), (q_mo, .inr (6, [.int u11.2.1, .int mo_rows, .ref q_mv, .int mo_size, .ref q_me, .int mo_price, .int mo_queries, .ref q_mk, .ref q_ma, .ref q_mb, .ref q_mw, .int u11.2.2.1, .int u11.2.2.2, .int mo_bits, .ref q_mx]))] H := hP
  have hD : va_D A [(q_mv, .inl (cI, 96, .inl mv)), (q_mk, .inl (cI, 20, .inl mk)), (q_ma, .inl (cI, 20, .inl ma)), (q_mb, .inl (cI, 20, .inl mb)), (q_mo, .inr (6, [.int u11.2.1, .int mo_rows, .ref q_mv, .int mo_size, .ref q_me, .int mo_price, .int mo_queries, .ref q_mk, .ref q_ma, .ref q_mb, .ref q_mw, .int u11.2.2.1, .int u11.2.2.2, .int mo_bits, .ref q_mx]))] := hD
  refine lv_if_eq (tgt := 21) hx hb dX6_costWith_6 (by decide) (fun c12 => ?_) (fun c12 => ?_)
  · have hf := pr_pos hf c12
    refine lv_aload_n hx hb dX6_costWith_21 rfl (lv_at hl 0 rfl) ?_
    refine lv_iconst (v := 1) hx hb dX6_costWith_22 (by decide) ?_
    obtain ⟨u13, hu13, hf⟩ := pr_bd hf
    refine fr_iV (As := [.int 1]) ⟨hx, hb, hml, hown, hts⟩ hK hP hD hS hA (c_X6_fail l D cI q_mo q_mv q_me q_mk q_ma q_mb q_mw q_mx n 1 u11.2.1 mo_rows mo_size mo_price mo_queries u11.2.2.1 u11.2.2.2 mo_bits u13 hu13) (cwV 1 hts gX6_costWith_X6_fail rfl rfl rfl (by decide +kernel) ⟨Nat.le_of_ble_eq_true rfl, Nat.le_of_ble_eq_true rfl⟩) [(q_mv, .inl (cI, 96, .inl mv)), (q_mk, .inl (cI, 20, .inl mk)), (q_ma, .inl (cI, 20, .inl ma)), (q_mb, .inl (cI, 20, .inl mb))] [4] [0, 1, 2, 3] rfl rfl (by decide) (by decide) (by decide) 0 rfl rfl rfl rfl hl.1 (Nat.le_of_ble_eq_true rfl) dX6_costWith_23 ⟨Nat.zero_le _, Nat.zero_le _⟩ rfl (fun H locs hP hD hS => ?_)
    have hP : va_P D vwCl [(q_mv, .inl (cI, 96, .inl mv)), (q_mk, .inl (cI, 20, .inl mk)), (q_ma, .inl (cI, 20, .inl ma)), (q_mb, .inl (cI, 20, .inl mb)), (q_mo, .inr (6, [.int u13.2, .int mo_rows, .ref q_mv, .int mo_size, .ref q_me, .int mo_price, .int mo_queries, .ref q_mk, .ref q_ma, .ref q_mb, .ref q_mw, .int u11.2.2.1, .int u11.2.2.2, .int mo_bits, .ref q_mx]))] H := hP
    have hD : va_D A [(q_mv, .inl (cI, 96, .inl mv)), (q_mk, .inl (cI, 20, .inl mk)), (q_ma, .inl (cI, 20, .inl ma)), (q_mb, .inl (cI, 20, .inl mb)), (q_mo, .inr (6, [.int u13.2, .int mo_rows, .ref q_mv, .int mo_size, .ref q_me, .int mo_price, .int mo_queries, .ref q_mk, .ref q_ma, .ref q_mb, .ref q_mw, .int u11.2.2.1, .int u11.2.2.2, .int mo_bits, .ref q_mx]))] := hD
    obtain rfl := Option.some.inj hf
    exact hret _ _ _ _ dX6_costWith_26 (hP.sub [4, 0, 1, 2, 3] rfl) (hD.sub [4, 0, 1, 2, 3] (by decide) rfl) hS
  · have hf := pr_neg hf c12
    refine lv_iload_n hx hb dX6_costWith_9 rfl (lv_at hl 1 rfl) ?_
    refine lv_if_lt (tgt := 21) hx hb dX6_costWith_10 (by decide) (fun c14 => ?_) (fun c14 => ?_)
    · have hf := pr_pos hf c14
      refine lv_aload_n hx hb dX6_costWith_21 rfl (lv_at hl 0 rfl) ?_
      refine lv_iconst (v := 1) hx hb dX6_costWith_22 (by decide) ?_
      obtain ⟨u15, hu15, hf⟩ := pr_bd hf
      refine fr_iV (As := [.int 1]) ⟨hx, hb, hml, hown, hts⟩ hK hP hD hS hA (c_X6_fail l D cI q_mo q_mv q_me q_mk q_ma q_mb q_mw q_mx n 1 u11.2.1 mo_rows mo_size mo_price mo_queries u11.2.2.1 u11.2.2.2 mo_bits u15 hu15) (cwV 1 hts gX6_costWith_X6_fail rfl rfl rfl (by decide +kernel) ⟨Nat.le_of_ble_eq_true rfl, Nat.le_of_ble_eq_true rfl⟩) [(q_mv, .inl (cI, 96, .inl mv)), (q_mk, .inl (cI, 20, .inl mk)), (q_ma, .inl (cI, 20, .inl ma)), (q_mb, .inl (cI, 20, .inl mb))] [4] [0, 1, 2, 3] rfl rfl (by decide) (by decide) (by decide) 0 rfl rfl rfl rfl hl.1 (Nat.le_of_ble_eq_true rfl) dX6_costWith_23 ⟨Nat.zero_le _, Nat.zero_le _⟩ rfl (fun H locs hP hD hS => ?_)
      have hP : va_P D vwCl [(q_mv, .inl (cI, 96, .inl mv)), (q_mk, .inl (cI, 20, .inl mk)), (q_ma, .inl (cI, 20, .inl ma)), (q_mb, .inl (cI, 20, .inl mb)), (q_mo, .inr (6, [.int u15.2, .int mo_rows, .ref q_mv, .int mo_size, .ref q_me, .int mo_price, .int mo_queries, .ref q_mk, .ref q_ma, .ref q_mb, .ref q_mw, .int u11.2.2.1, .int u11.2.2.2, .int mo_bits, .ref q_mx]))] H := hP
      have hD : va_D A [(q_mv, .inl (cI, 96, .inl mv)), (q_mk, .inl (cI, 20, .inl mk)), (q_ma, .inl (cI, 20, .inl ma)), (q_mb, .inl (cI, 20, .inl mb)), (q_mo, .inr (6, [.int u15.2, .int mo_rows, .ref q_mv, .int mo_size, .ref q_me, .int mo_price, .int mo_queries, .ref q_mk, .ref q_ma, .ref q_mb, .ref q_mw, .int u11.2.2.1, .int u11.2.2.2, .int mo_bits, .ref q_mx]))] := hD
      obtain rfl := Option.some.inj hf
      exact hret _ _ _ _ dX6_costWith_26 (hP.sub [4, 0, 1, 2, 3] rfl) (hD.sub [4, 0, 1, 2, 3] (by decide) rfl) hS
    · have hf := pr_neg hf c14
      refine lv_iload_n hx hb dX6_costWith_13 rfl (lv_at hl 1 rfl) ?_
      refine lv_aload_n hx hb dX6_costWith_14 rfl (lv_at hl 0 rfl) ?_
      refine va_get (D := D) (ci := 6) (v := .int mo_queries) (C := RX6) (T := TX6) (N := 15) hx hb hts hin6 hown hK hP 4 rfl rfl 6 (by decide) (hts (.fieldLink RX6 65 "ColumnChooserModel" "queries" "I") (List.mem_of_getElem? (i := 1) rfl)) (fun _ h9 => h9) rfl dX6_costWith_15 ?_
      refine lv_icmp_lt (tgt := 27) hx hb dX6_costWith_18 (by decide) (fun c16 => ?_) (fun c16 => ?_)
      · have hf := pr_pos hf c16
        refine lv_aload_n hx hb dX6_costWith_27 rfl (lv_at hl 0 rfl) ?_
        refine lv_iload_n hx hb dX6_costWith_28 rfl (lv_at hl 3 rfl) ?_
        obtain ⟨u17, hu17, hf⟩ := pr_bd hf
        refine fr_iV (As := [.int x3]) ⟨hx, hb, hml, hown, hts⟩ hK hP hD hS hA (c_X6_isPossible l D cI q_mo q_mv q_me q_mk q_ma q_mb q_mw q_mx n x3 u11.2.1 mo_rows mo_size mo_price mo_queries u11.2.2.1 u11.2.2.2 mo_bits mv u17 hu17) (cwV 1 hts gX6_costWith_X6_isPossible rfl rfl rfl (by decide +kernel) ⟨Nat.le_of_ble_eq_true rfl, Nat.le_of_ble_eq_true rfl⟩) [(q_mk, .inl (cI, 20, .inl mk)), (q_ma, .inl (cI, 20, .inl ma)), (q_mb, .inl (cI, 20, .inl mb))] [4, 0] [1, 2, 3] rfl rfl (by decide) (by decide) (by decide) 0 rfl rfl rfl rfl hl.1 (Nat.le_of_ble_eq_true rfl) dX6_costWith_29 ⟨Nat.zero_le _, Nat.zero_le _⟩ rfl (fun H locs hP hD hS => ?_)
        have hP : va_P D vwCl [(q_mk, .inl (cI, 20, .inl mk)), (q_ma, .inl (cI, 20, .inl ma)), (q_mb, .inl (cI, 20, .inl mb)), (q_mo, .inr (6, [.int u11.2.1, .int mo_rows, .ref q_mv, .int mo_size, .ref q_me, .int mo_price, .int mo_queries, .ref q_mk, .ref q_ma, .ref q_mb, .ref q_mw, .int u11.2.2.1, .int u11.2.2.2, .int mo_bits, .ref q_mx])), (q_mv, .inl (cI, 96, .inl mv))] H := hP
        have hD : va_D A [(q_mk, .inl (cI, 20, .inl mk)), (q_ma, .inl (cI, 20, .inl ma)), (q_mb, .inl (cI, 20, .inl mb)), (q_mo, .inr (6, [.int u11.2.1, .int mo_rows, .ref q_mv, .int mo_size, .ref q_me, .int mo_price, .int mo_queries, .ref q_mk, .ref q_ma, .ref q_mb, .ref q_mw, .int u11.2.2.1, .int u11.2.2.2, .int mo_bits, .ref q_mx])), (q_mv, .inl (cI, 96, .inl mv))] := hD
        refine lv_if_eq (tgt := 44) hx hb dX6_costWith_32 (by decide) (fun c18 => ?_) (fun c18 => ?_)
        · have hf := pr_pos hf c18
          refine lv_iconst (v := -1) hx hb dX6_costWith_44 (by decide) ?_
          obtain rfl := Option.some.inj hf
          exact hret _ _ _ _ dX6_costWith_45 (hP.sub [3, 4, 0, 1, 2] rfl) (hD.sub [3, 4, 0, 1, 2] (by decide) rfl) hS
        · have hf := pr_neg hf c18
          refine lv_aload_n hx hb dX6_costWith_35 rfl (lv_at hl 0 rfl) ?_
          refine lv_iload_n hx hb dX6_costWith_36 rfl (lv_at hl 1 rfl) ?_
          refine lv_iload_n hx hb dX6_costWith_37 rfl (lv_at hl 3 rfl) ?_
          obtain ⟨u19, hu19, hf⟩ := pr_bd hf
          refine fr_iV (As := [.int x1, .int x3]) ⟨hx, hb, hml, hown, hts⟩ hK hP hD hS hA (c_X6_costOf l D cI q_mo q_mv q_me q_mk q_ma q_mb q_mw q_mx n x1 x3 u11.2.1 mo_rows mo_size mo_price mo_queries u11.2.2.1 u11.2.2.2 mo_bits mv mk ma mb u19 hu19) (cwV 2 hts gX6_costWith_X6_costOf rfl rfl rfl (by decide +kernel) ⟨Nat.le_of_ble_eq_true rfl, Nat.le_of_ble_eq_true rfl⟩) [] [3, 4, 0, 1, 2] [] rfl rfl (by decide) (by decide) (by decide) 0 rfl rfl rfl rfl hl.1 (Nat.le_of_ble_eq_true rfl) dX6_costWith_38 ⟨Nat.zero_le _, Nat.zero_le _⟩ rfl (fun H locs hP hD hS => ?_)
          have hP : va_P D vwCl [(q_mo, .inr (6, [.int u11.2.1, .int mo_rows, .ref q_mv, .int mo_size, .ref q_me, .int mo_price, .int mo_queries, .ref q_mk, .ref q_ma, .ref q_mb, .ref q_mw, .int u11.2.2.1, .int u11.2.2.2, .int mo_bits, .ref q_mx])), (q_mv, .inl (cI, 96, .inl mv)), (q_mk, .inl (cI, 20, .inl mk)), (q_ma, .inl (cI, 20, .inl ma)), (q_mb, .inl (cI, 20, .inl mb))] H := hP
          have hD : va_D A [(q_mo, .inr (6, [.int u11.2.1, .int mo_rows, .ref q_mv, .int mo_size, .ref q_me, .int mo_price, .int mo_queries, .ref q_mk, .ref q_ma, .ref q_mb, .ref q_mw, .int u11.2.2.1, .int u11.2.2.2, .int mo_bits, .ref q_mx])), (q_mv, .inl (cI, 96, .inl mv)), (q_mk, .inl (cI, 20, .inl mk)), (q_ma, .inl (cI, 20, .inl ma)), (q_mb, .inl (cI, 20, .inl mb))] := hD
          refine lv_goto (tgt := 45) hx hb dX6_costWith_41 (by decide) ?_
          obtain rfl := Option.some.inj hf
          exact hret _ _ _ _ dX6_costWith_45 (hP.sub [0, 1, 2, 3, 4] rfl) (hD.sub [0, 1, 2, 3, 4] (by decide) rfl) hS
      · have hf := pr_neg hf c16
        refine lv_aload_n hx hb dX6_costWith_21 rfl (lv_at hl 0 rfl) ?_
        refine lv_iconst (v := 1) hx hb dX6_costWith_22 (by decide) ?_
        obtain ⟨u20, hu20, hf⟩ := pr_bd hf
        refine fr_iV (As := [.int 1]) ⟨hx, hb, hml, hown, hts⟩ hK hP hD hS hA (c_X6_fail l D cI q_mo q_mv q_me q_mk q_ma q_mb q_mw q_mx n 1 u11.2.1 mo_rows mo_size mo_price mo_queries u11.2.2.1 u11.2.2.2 mo_bits u20 hu20) (cwV 1 hts gX6_costWith_X6_fail rfl rfl rfl (by decide +kernel) ⟨Nat.le_of_ble_eq_true rfl, Nat.le_of_ble_eq_true rfl⟩) [(q_mv, .inl (cI, 96, .inl mv)), (q_mk, .inl (cI, 20, .inl mk)), (q_ma, .inl (cI, 20, .inl ma)), (q_mb, .inl (cI, 20, .inl mb))] [4] [0, 1, 2, 3] rfl rfl (by decide) (by decide) (by decide) 0 rfl rfl rfl rfl hl.1 (Nat.le_of_ble_eq_true rfl) dX6_costWith_23 ⟨Nat.zero_le _, Nat.zero_le _⟩ rfl (fun H locs hP hD hS => ?_)
        have hP : va_P D vwCl [(q_mv, .inl (cI, 96, .inl mv)), (q_mk, .inl (cI, 20, .inl mk)), (q_ma, .inl (cI, 20, .inl ma)), (q_mb, .inl (cI, 20, .inl mb)), (q_mo, .inr (6, [.int u20.2, .int mo_rows, .ref q_mv, .int mo_size, .ref q_me, .int mo_price, .int mo_queries, .ref q_mk, .ref q_ma, .ref q_mb, .ref q_mw, .int u11.2.2.1, .int u11.2.2.2, .int mo_bits, .ref q_mx]))] H := hP
        have hD : va_D A [(q_mv, .inl (cI, 96, .inl mv)), (q_mk, .inl (cI, 20, .inl mk)), (q_ma, .inl (cI, 20, .inl ma)), (q_mb, .inl (cI, 20, .inl mb)), (q_mo, .inr (6, [.int u20.2, .int mo_rows, .ref q_mv, .int mo_size, .ref q_me, .int mo_price, .int mo_queries, .ref q_mk, .ref q_ma, .ref q_mb, .ref q_mw, .int u11.2.2.1, .int u11.2.2.2, .int mo_bits, .ref q_mx]))] := hD
        obtain rfl := Option.some.inj hf
        exact hret _ _ _ _ dX6_costWith_26 (hP.sub [4, 0, 1, 2, 3] rfl) (hD.sub [4, 0, 1, 2, 3] (by decide) rfl) hS
set_option maxHeartbeats 4000000 in
set_option maxRecDepth 100000 in
theorem c_X6_scoreWith (l : Launch) (D : va_G) (cI : ClassId) (q_mo q_mv q_me q_mk q_ma q_mb q_mw q_mx : Nat) (n : Nat) (x1 : Int32) (x2 : Int32) (mo_thrown : Int32) (mo_rows : Int32) (mo_size : Int32) (mo_price : Int32) (mo_queries : Int32) (mo_start : Int32) (mo_many : Int32) (mo_bits : Int32) (mv : (Nat → Int32)) (mk : (Nat → Int32)) (ma : (Nat → Int32)) (mb : (Nat → Int32)) (mw : (Nat → Int32)) (res : Int32 × Int32 × Int32 × Int32) (hf : f_X6_scoreWith n x1 x2 mo_thrown mo_rows mo_size mo_price mo_queries mo_start mo_many mv mk ma mb mw = some res) : fr_Ci l yX6_scoreWith wsX6_scoreWith ({ frames := 6, cells := 0, slots := 0, locals := 137 }) D [(cI, .int)] [.ref q_mo, .int x1, .int x2] [(q_mo, .inr (6, [.int mo_thrown, .int mo_rows, .ref q_mv, .int mo_size, .ref q_me, .int mo_price, .int mo_queries, .ref q_mk, .ref q_ma, .ref q_mb, .ref q_mw, .int mo_start, .int mo_many, .int mo_bits, .ref q_mx])), (q_mv, .inl (cI, 96, .inl mv)), (q_mk, .inl (cI, 20, .inl mk)), (q_ma, .inl (cI, 20, .inl ma)), (q_mb, .inl (cI, 20, .inl mb)), (q_mw, .inl (cI, 20, .inl mw))] res.1 [(q_mo, .inr (6, [.int res.2.1, .int mo_rows, .ref q_mv, .int mo_size, .ref q_me, .int mo_price, .int mo_queries, .ref q_mk, .ref q_ma, .ref q_mb, .ref q_mw, .int res.2.2.1, .int res.2.2.2, .int mo_bits, .ref q_mx])), (q_mv, .inl (cI, 96, .inl mv)), (q_mk, .inl (cI, 20, .inl mk)), (q_ma, .inl (cI, 20, .inl ma)), (q_mb, .inl (cI, 20, .inl mb)), (q_mw, .inl (cI, 20, .inl mw))] := by
  refine fr_open_i (cc := cX6_scoreWith) (maxL := 3) (ret := some .int) (by decide +kernel) rfl (Nat.le_of_ble_eq_true rfl) ⟨.int, rfl, vp_nar_int _⟩ ?_
  intro p e s m below meth c A Q ls hx hb hml hown hts hA hK hP hD hS hl hret
  have hown : s.vm.findClass RX6 = some m.cls := hown
  have hl : lv_has ls 3 [(0, .ref q_mo), (1, .int x1), (2, .int x2)] := hl
  unfold f_X6_scoreWith at hf
  refine lv_aload_n hx hb dX6_scoreWith_0 rfl (lv_at hl 0 rfl) ?_
  refine lv_iload_n hx hb dX6_scoreWith_1 rfl (lv_at hl 1 rfl) ?_
  refine lv_iload_n hx hb dX6_scoreWith_2 rfl (lv_at hl 2 rfl) ?_
  obtain ⟨u6, hu6, hf⟩ := pr_bd hf
  refine fr_iV (As := [.int x1, .int x2]) ⟨hx, hb, hml, hown, hts⟩ hK hP hD hS hA (c_X6_asks l D cI q_mo q_mv q_me q_mk q_ma q_mb q_mw q_mx n x1 x2 mo_thrown mo_rows mo_size mo_price mo_queries mo_start mo_many mo_bits u6 hu6) (cwV 2 hts gX6_scoreWith_X6_asks rfl rfl rfl (by decide +kernel) ⟨Nat.le_of_ble_eq_true rfl, Nat.le_of_ble_eq_true rfl⟩) [(q_mv, .inl (cI, 96, .inl mv)), (q_mk, .inl (cI, 20, .inl mk)), (q_ma, .inl (cI, 20, .inl ma)), (q_mb, .inl (cI, 20, .inl mb)), (q_mw, .inl (cI, 20, .inl mw))] [0] [1, 2, 3, 4, 5] rfl rfl (by decide) (by decide) (by decide) 0 rfl rfl rfl rfl hl.1 (Nat.le_of_ble_eq_true rfl) dX6_scoreWith_3 ⟨Nat.zero_le _, Nat.zero_le _⟩ rfl (fun H locs hP hD hS => ?_)
  have hP : va_P D vwCl [(q_mv, .inl (cI, 96, .inl mv)), (q_mk, .inl (cI, 20, .inl mk)), (q_ma, .inl (cI, 20, .inl ma)), (q_mb, .inl (cI, 20, .inl mb)), (q_mw, .inl (cI, 20, .inl mw)), (q_mo, .inr (6, [.int u6.2.1, .int mo_rows, .ref q_mv, .int mo_size, .ref q_me, .int mo_price, .int mo_queries, .ref q_mk, .ref q_ma, .ref q_mb, .ref q_mw, .int u6.2.2.1, .int u6.2.2.2, .int mo_bits, .ref q_mx]))] H := hP
  have hD : va_D A [(q_mv, .inl (cI, 96, .inl mv)), (q_mk, .inl (cI, 20, .inl mk)), (q_ma, .inl (cI, 20, .inl ma)), (q_mb, .inl (cI, 20, .inl mb)), (q_mw, .inl (cI, 20, .inl mw)), (q_mo, .inr (6, [.int u6.2.1, .int mo_rows, .ref q_mv, .int mo_size, .ref q_me, .int mo_price, .int mo_queries, .ref q_mk, .ref q_ma, .ref q_mb, .ref q_mw, .int u6.2.2.1, .int u6.2.2.2, .int mo_bits, .ref q_mx]))] := hD
  refine lv_if_ne (tgt := 11) hx hb dX6_scoreWith_6 (by decide) (fun c7 => ?_) (fun c7 => ?_)
  · have hf := pr_neg hf c7
    refine lv_aload_n hx hb dX6_scoreWith_11 rfl (lv_at hl 0 rfl) ?_
    refine lv_iload_n hx hb dX6_scoreWith_12 rfl (lv_at hl 2 rfl) ?_
    obtain ⟨u8, hu8, hf⟩ := pr_bd hf
    refine fr_iV (As := [.int x2]) ⟨hx, hb, hml, hown, hts⟩ hK hP hD hS hA (c_X6_isPossible l D cI q_mo q_mv q_me q_mk q_ma q_mb q_mw q_mx n x2 u6.2.1 mo_rows mo_size mo_price mo_queries u6.2.2.1 u6.2.2.2 mo_bits mv u8 hu8) (cwV 1 hts gX6_scoreWith_X6_isPossible rfl rfl rfl (by decide +kernel) ⟨Nat.le_of_ble_eq_true rfl, Nat.le_of_ble_eq_true rfl⟩) [(q_mk, .inl (cI, 20, .inl mk)), (q_ma, .inl (cI, 20, .inl ma)), (q_mb, .inl (cI, 20, .inl mb)), (q_mw, .inl (cI, 20, .inl mw))] [5, 0] [1, 2, 3, 4] rfl rfl (by decide) (by decide) (by decide) 0 rfl rfl rfl rfl hl.1 (Nat.le_of_ble_eq_true rfl) dX6_scoreWith_13 ⟨Nat.zero_le _, Nat.zero_le _⟩ rfl (fun H locs hP hD hS => ?_)
    have hP : va_P D vwCl [(q_mk, .inl (cI, 20, .inl mk)), (q_ma, .inl (cI, 20, .inl ma)), (q_mb, .inl (cI, 20, .inl mb)), (q_mw, .inl (cI, 20, .inl mw)), (q_mo, .inr (6, [.int u6.2.1, .int mo_rows, .ref q_mv, .int mo_size, .ref q_me, .int mo_price, .int mo_queries, .ref q_mk, .ref q_ma, .ref q_mb, .ref q_mw, .int u6.2.2.1, .int u6.2.2.2, .int mo_bits, .ref q_mx])), (q_mv, .inl (cI, 96, .inl mv))] H := hP
    have hD : va_D A [(q_mk, .inl (cI, 20, .inl mk)), (q_ma, .inl (cI, 20, .inl ma)), (q_mb, .inl (cI, 20, .inl mb)), (q_mw, .inl (cI, 20, .inl mw)), (q_mo, .inr (6, [.int u6.2.1, .int mo_rows, .ref q_mv, .int mo_size, .ref q_me, .int mo_price, .int mo_queries, .ref q_mk, .ref q_ma, .ref q_mb, .ref q_mw, .int u6.2.2.1, .int u6.2.2.2, .int mo_bits, .ref q_mx])), (q_mv, .inl (cI, 96, .inl mv))] := hD
    refine lv_if_eq (tgt := 27) hx hb dX6_scoreWith_16 (by decide) (fun c9 => ?_) (fun c9 => ?_)
    · have hf := pr_pos hf c9
      refine lv_iconst (v := -1) hx hb dX6_scoreWith_27 (by decide) ?_
      obtain rfl := Option.some.inj hf
      exact hret _ _ _ _ dX6_scoreWith_28 (hP.sub [4, 5, 0, 1, 2, 3] rfl) (hD.sub [4, 5, 0, 1, 2, 3] (by decide) rfl) hS
    · have hf := pr_neg hf c9
      refine lv_aload_n hx hb dX6_scoreWith_19 rfl (lv_at hl 0 rfl) ?_
      refine lv_iload_n hx hb dX6_scoreWith_20 rfl (lv_at hl 2 rfl) ?_
      obtain ⟨u10, hu10, hf⟩ := pr_bd hf
      refine fr_iV (As := [.int x2]) ⟨hx, hb, hml, hown, hts⟩ hK hP hD hS hA (c_X6_scoreOf l D cI q_mo q_mv q_me q_mk q_ma q_mb q_mw q_mx n x2 u6.2.1 mo_rows mo_size mo_price mo_queries u6.2.2.1 u6.2.2.2 mo_bits mv mk ma mb mw u10 hu10) (cwV 1 hts gX6_scoreWith_X6_scoreOf rfl rfl rfl (by decide +kernel) ⟨Nat.le_of_ble_eq_true rfl, Nat.le_of_ble_eq_true rfl⟩) [] [4, 5, 0, 1, 2, 3] [] rfl rfl (by decide) (by decide) (by decide) 0 rfl rfl rfl rfl hl.1 (Nat.le_of_ble_eq_true rfl) dX6_scoreWith_21 ⟨Nat.zero_le _, Nat.zero_le _⟩ rfl (fun H locs hP hD hS => ?_)
      have hP : va_P D vwCl [(q_mo, .inr (6, [.int u6.2.1, .int mo_rows, .ref q_mv, .int mo_size, .ref q_me, .int mo_price, .int mo_queries, .ref q_mk, .ref q_ma, .ref q_mb, .ref q_mw, .int u6.2.2.1, .int u6.2.2.2, .int mo_bits, .ref q_mx])), (q_mv, .inl (cI, 96, .inl mv)), (q_mk, .inl (cI, 20, .inl mk)), (q_ma, .inl (cI, 20, .inl ma)), (q_mb, .inl (cI, 20, .inl mb)), (q_mw, .inl (cI, 20, .inl mw))] H := hP
      have hD : va_D A [(q_mo, .inr (6, [.int u6.2.1, .int mo_rows, .ref q_mv, .int mo_size, .ref q_me, .int mo_price, .int mo_queries, .ref q_mk, .ref q_ma, .ref q_mb, .ref q_mw, .int u6.2.2.1, .int u6.2.2.2, .int mo_bits, .ref q_mx])), (q_mv, .inl (cI, 96, .inl mv)), (q_mk, .inl (cI, 20, .inl mk)), (q_ma, .inl (cI, 20, .inl ma)), (q_mb, .inl (cI, 20, .inl mb)), (q_mw, .inl (cI, 20, .inl mw))] := hD
      refine lv_goto (tgt := 28) hx hb dX6_scoreWith_24 (by decide) ?_
      obtain rfl := Option.some.inj hf
      exact hret _ _ _ _ dX6_scoreWith_28 (hP.sub [0, 1, 2, 3, 4, 5] rfl) (hD.sub [0, 1, 2, 3, 4, 5] (by decide) rfl) hS
  · have hf := pr_pos hf c7
    refine lv_iconst (v := 0) hx hb dX6_scoreWith_9 (by decide) ?_
    obtain rfl := Option.some.inj hf
    exact hret _ _ _ _ dX6_scoreWith_10 (hP.sub [5, 0, 1, 2, 3, 4] rfl) (hD.sub [5, 0, 1, 2, 3, 4] (by decide) rfl) hS
set_option maxHeartbeats 4000000 in
set_option maxRecDepth 100000 in
theorem c_X6_choose_ (l : Launch) (D : va_G) (cI : ClassId) (q_mo q_mv q_me q_mk q_ma q_mb q_mw q_mx : Nat) (n : Nat) (mo_thrown : Int32) (mo_rows : Int32) (mo_size : Int32) (mo_price : Int32) (mo_queries : Int32) (mo_start : Int32) (mo_many : Int32) (mo_bits : Int32) (mv : (Nat → Int32)) (me : (Nat → Int32)) (mk : (Nat → Int32)) (ma : (Nat → Int32)) (mb : (Nat → Int32)) (mw : (Nat → Int32)) (res : Int32 × Int32 × Int32 × Int32 × (Nat → Int32)) (hf : f_X6_choose_ n mo_thrown mo_rows mo_size mo_price mo_queries mo_start mo_many mv me mk ma mb mw = some res) : fr_Ci l yX6_choose_ wsX6_choose_ ({ frames := 7, cells := 0, slots := 0, locals := 159 }) D [(cI, .int)] [.ref q_mo] [(q_mo, .inr (6, [.int mo_thrown, .int mo_rows, .ref q_mv, .int mo_size, .ref q_me, .int mo_price, .int mo_queries, .ref q_mk, .ref q_ma, .ref q_mb, .ref q_mw, .int mo_start, .int mo_many, .int mo_bits, .ref q_mx])), (q_mv, .inl (cI, 96, .inl mv)), (q_me, .inl (cI, 96, .inl me)), (q_mk, .inl (cI, 20, .inl mk)), (q_ma, .inl (cI, 20, .inl ma)), (q_mb, .inl (cI, 20, .inl mb)), (q_mw, .inl (cI, 20, .inl mw))] res.1 [(q_mo, .inr (6, [.int res.2.1, .int mo_rows, .ref q_mv, .int mo_size, .ref q_me, .int mo_price, .int mo_queries, .ref q_mk, .ref q_ma, .ref q_mb, .ref q_mw, .int res.2.2.1, .int res.2.2.2.1, .int mo_bits, .ref q_mx])), (q_mv, .inl (cI, 96, .inl mv)), (q_me, .inl (cI, 96, .inl res.2.2.2.2)), (q_mk, .inl (cI, 20, .inl mk)), (q_ma, .inl (cI, 20, .inl ma)), (q_mb, .inl (cI, 20, .inl mb)), (q_mw, .inl (cI, 20, .inl mw))] := by
  refine fr_open_i (cc := cX6_choose_) (maxL := 4) (ret := some .int) (by decide +kernel) rfl (Nat.le_of_ble_eq_true rfl) ⟨.int, rfl, vp_nar_int _⟩ ?_
  intro p e s m below meth c A Q ls hx hb hml hown hts hA hK hP hD hS hl hret
  have hown : s.vm.findClass RX6 = some m.cls := hown
  have hl : lv_has ls 4 [(0, .ref q_mo)] := hl
  have hin6 : ∀ w ∈ u_ws RX6 TX6 15, w ∈ wsX6_choose_ := fun _ h9 => List.mem_cons_of_mem _ (List.mem_append_right _ h9)
  have k_9 : ∀ (n : Nat), (∀ (z1 : Int32) (z2 : Int32) (mo_thrown : Int32) (mo_start : Int32) (mo_many : Int32) (me : (Nat → Int32)) (H : Heap) (locs : List Loc) (ls : Array Slot), f_X6_choose__9 n z1 z2 mo_thrown mo_rows mo_size mo_price mo_queries mo_start mo_many mv me mk ma mb mw = some res → va_P D vwCl [(q_mo, .inr (6, [.int mo_thrown, .int mo_rows, .ref q_mv, .int mo_size, .ref q_me, .int mo_price, .int mo_queries, .ref q_mk, .ref q_ma, .ref q_mb, .ref q_mw, .int mo_start, .int mo_many, .int mo_bits, .ref q_mx])), (q_mv, .inl (cI, 96, .inl mv)), (q_me, .inl (cI, 96, .inl me)), (q_mk, .inl (cI, 20, .inl mk)), (q_ma, .inl (cI, 20, .inl ma)), (q_mb, .inl (cI, 20, .inl mb)), (q_mw, .inl (cI, 20, .inl mw))] H → va_D A [(q_mo, .inr (6, [.int mo_thrown, .int mo_rows, .ref q_mv, .int mo_size, .ref q_me, .int mo_price, .int mo_queries, .ref q_mk, .ref q_ma, .ref q_mb, .ref q_mw, .int mo_start, .int mo_many, .int mo_bits, .ref q_mx])), (q_mv, .inl (cI, 96, .inl mv)), (q_me, .inl (cI, 96, .inl me)), (q_mk, .inl (cI, 20, .inl mk)), (q_ma, .inl (cI, 20, .inl ma)), (q_mb, .inl (cI, 20, .inl mb)), (q_mw, .inl (cI, 20, .inl mw))] → va_S A s.heap H locs → lv_has ls 4 [(0, .ref q_mo), (1, .int z1), (2, .int z2)] → W p l e ({ frames := 7, cells := 0, slots := 0, locals := 159 }) s m ([.ref q_mo] : List Value).toArray below meth c H locs 0 0 Q (F0 m 9 ls [])) := by
    intro n
    induction n with
    | zero =>
      intro z1 z2 mo_thrown mo_start mo_many me H locs ls hf hP hD hS hl
      exact absurd (show (none : Option (Int32 × Int32 × Int32 × Int32 × (Nat → Int32))) = some res from hf) (by simp)
    | succ n ih =>
      intro z1 z2 mo_thrown mo_start mo_many me H locs ls hf hP hD hS hl
      have hf : f_X6_choose__9_s (f_X6_choose__9 n) n z1 z2 mo_thrown mo_rows mo_size mo_price mo_queries mo_start mo_many mv me mk ma mb mw = some res := hf
      unfold f_X6_choose__9_s at hf
      refine lv_iload_n hx hb dX6_choose__9 rfl (lv_at hl 2 rfl) ?_
      refine lv_aload_n hx hb dX6_choose__10 rfl (lv_at hl 0 rfl) ?_
      refine lv_aload_n hx hb dX6_choose__11 rfl (lv_at hl 0 rfl) ?_
      refine va_get (D := D) (ci := 6) (v := .int mo_size) (C := RX6) (T := TX6) (N := 15) hx hb hts hin6 hown hK hP 0 rfl rfl 3 (by decide) (hts (.fieldLink RX6 13 "ColumnChooserModel" "size" "I") (List.mem_of_getElem? (i := 2) rfl)) (fun _ h9 => h9) rfl dX6_choose__12 ?_
      obtain ⟨u9, hu9, hf⟩ := pr_bd hf
      refine fr_iV (As := [.int mo_size]) ⟨hx, hb, hml, hown, hts⟩ hK hP hD hS hA (c_X6_segments l D cI q_mo q_mv q_me q_mk q_ma q_mb q_mw q_mx n mo_size mo_thrown mo_rows mo_size mo_price mo_queries mo_start mo_many mo_bits u9 hu9) (cwV 1 hts gX6_choose__X6_segments rfl rfl rfl (by decide +kernel) ⟨Nat.le_of_ble_eq_true rfl, Nat.le_of_ble_eq_true rfl⟩) [(q_mv, .inl (cI, 96, .inl mv)), (q_me, .inl (cI, 96, .inl me)), (q_mk, .inl (cI, 20, .inl mk)), (q_ma, .inl (cI, 20, .inl ma)), (q_mb, .inl (cI, 20, .inl mb)), (q_mw, .inl (cI, 20, .inl mw))] [0] [1, 2, 3, 4, 5, 6] rfl rfl (by decide) (by decide) (by decide) 0 rfl rfl rfl rfl hl.1 (Nat.le_of_ble_eq_true rfl) dX6_choose__15 ⟨Nat.zero_le _, Nat.zero_le _⟩ rfl (fun H locs hP hD hS => ?_)
      have hP : va_P D vwCl [(q_mv, .inl (cI, 96, .inl mv)), (q_me, .inl (cI, 96, .inl me)), (q_mk, .inl (cI, 20, .inl mk)), (q_ma, .inl (cI, 20, .inl ma)), (q_mb, .inl (cI, 20, .inl mb)), (q_mw, .inl (cI, 20, .inl mw)), (q_mo, .inr (6, [.int mo_thrown, .int mo_rows, .ref q_mv, .int mo_size, .ref q_me, .int mo_price, .int mo_queries, .ref q_mk, .ref q_ma, .ref q_mb, .ref q_mw, .int mo_start, .int mo_many, .int mo_bits, .ref q_mx]))] H := hP
      have hD : va_D A [(q_mv, .inl (cI, 96, .inl mv)), (q_me, .inl (cI, 96, .inl me)), (q_mk, .inl (cI, 20, .inl mk)), (q_ma, .inl (cI, 20, .inl ma)), (q_mb, .inl (cI, 20, .inl mb)), (q_mw, .inl (cI, 20, .inl mw)), (q_mo, .inr (6, [.int mo_thrown, .int mo_rows, .ref q_mv, .int mo_size, .ref q_me, .int mo_price, .int mo_queries, .ref q_mk, .ref q_ma, .ref q_mb, .ref q_mw, .int mo_start, .int mo_many, .int mo_bits, .ref q_mx]))] := hD
      refine lv_icmp_ge (tgt := 66) hx hb dX6_choose__18 (by decide) (fun c10 => ?_) (fun c10 => ?_)
      · have hf := pr_pos hf c10
        refine lv_iload_n hx hb dX6_choose__66 rfl (lv_at hl 1 rfl) ?_
        obtain rfl := Option.some.inj hf
        exact hret _ _ _ _ dX6_choose__67 (hP.sub [6, 0, 1, 2, 3, 4, 5] rfl) (hD.sub [6, 0, 1, 2, 3, 4, 5] (by decide) rfl) hS
      · have hf := pr_neg hf c10
        refine lv_aload_n hx hb dX6_choose__21 rfl (lv_at hl 0 rfl) ?_
        refine lv_iload_n hx hb dX6_choose__22 rfl (lv_at hl 2 rfl) ?_
        refine lv_aload_n hx hb dX6_choose__23 rfl (lv_at hl 0 rfl) ?_
        refine va_get (D := D) (ci := 6) (v := .int mo_size) (C := RX6) (T := TX6) (N := 15) hx hb hts hin6 hown hK hP 6 rfl rfl 3 (by decide) (hts (.fieldLink RX6 13 "ColumnChooserModel" "size" "I") (List.mem_of_getElem? (i := 2) rfl)) (fun _ h9 => h9) rfl dX6_choose__24 ?_
        obtain ⟨u11, hu11, hf⟩ := pr_bd hf
        refine fr_vV (As := [.int z2, .int mo_size]) ⟨hx, hb, hml, hown, hts⟩ hK hP hD hS hA (c_X6_choose l D cI q_mo q_mv q_me q_mk q_ma q_mb q_mw q_mx n z2 mo_size mo_thrown mo_rows mo_size mo_price mo_queries mo_start mo_many mo_bits u11 hu11) (cwV 2 hts gX6_choose__X6_choose rfl rfl rfl (by decide +kernel) ⟨Nat.le_of_ble_eq_true rfl, Nat.le_of_ble_eq_true rfl⟩) [(q_mv, .inl (cI, 96, .inl mv)), (q_me, .inl (cI, 96, .inl me)), (q_mk, .inl (cI, 20, .inl mk)), (q_ma, .inl (cI, 20, .inl ma)), (q_mb, .inl (cI, 20, .inl mb)), (q_mw, .inl (cI, 20, .inl mw))] [6] [0, 1, 2, 3, 4, 5] rfl rfl (by decide) (by decide) (by decide) 0 rfl rfl rfl rfl hl.1 (Nat.le_of_ble_eq_true rfl) dX6_choose__27 ⟨Nat.zero_le _, Nat.zero_le _⟩ rfl (fun H locs hP hD hS => ?_)
        have hP : va_P D vwCl [(q_mv, .inl (cI, 96, .inl mv)), (q_me, .inl (cI, 96, .inl me)), (q_mk, .inl (cI, 20, .inl mk)), (q_ma, .inl (cI, 20, .inl ma)), (q_mb, .inl (cI, 20, .inl mb)), (q_mw, .inl (cI, 20, .inl mw)), (q_mo, .inr (6, [.int mo_thrown, .int mo_rows, .ref q_mv, .int mo_size, .ref q_me, .int mo_price, .int mo_queries, .ref q_mk, .ref q_ma, .ref q_mb, .ref q_mw, .int u11.1, .int u11.2, .int mo_bits, .ref q_mx]))] H := hP
        have hD : va_D A [(q_mv, .inl (cI, 96, .inl mv)), (q_me, .inl (cI, 96, .inl me)), (q_mk, .inl (cI, 20, .inl mk)), (q_ma, .inl (cI, 20, .inl ma)), (q_mb, .inl (cI, 20, .inl mb)), (q_mw, .inl (cI, 20, .inl mw)), (q_mo, .inr (6, [.int mo_thrown, .int mo_rows, .ref q_mv, .int mo_size, .ref q_me, .int mo_price, .int mo_queries, .ref q_mk, .ref q_ma, .ref q_mb, .ref q_mw, .int u11.1, .int u11.2, .int mo_bits, .ref q_mx]))] := hD
        refine lv_aload_n hx hb dX6_choose__30 rfl (lv_at hl 0 rfl) ?_
        obtain ⟨u12, hu12, hf⟩ := pr_bd hf
        refine fr_iV (As := []) ⟨hx, hb, hml, hown, hts⟩ hK hP hD hS hA (c_X6_best l D cI q_mo q_mv q_me q_mk q_ma q_mb q_mw q_mx n mo_thrown mo_rows mo_size mo_price mo_queries u11.1 u11.2 mo_bits mv mk ma mb mw u12 hu12) (cwV 0 hts gX6_choose__X6_best rfl rfl rfl (by decide +kernel) ⟨Nat.le_of_ble_eq_true rfl, Nat.le_of_ble_eq_true rfl⟩) [(q_me, .inl (cI, 96, .inl me))] [6, 0, 2, 3, 4, 5] [1] rfl rfl (by decide) (by decide) (by decide) 0 rfl rfl rfl rfl hl.1 (Nat.le_of_ble_eq_true rfl) dX6_choose__31 ⟨Nat.zero_le _, Nat.zero_le _⟩ rfl (fun H locs hP hD hS => ?_)
        have hP : va_P D vwCl [(q_me, .inl (cI, 96, .inl me)), (q_mo, .inr (6, [.int mo_thrown, .int mo_rows, .ref q_mv, .int mo_size, .ref q_me, .int mo_price, .int mo_queries, .ref q_mk, .ref q_ma, .ref q_mb, .ref q_mw, .int u11.1, .int u11.2, .int mo_bits, .ref q_mx])), (q_mv, .inl (cI, 96, .inl mv)), (q_mk, .inl (cI, 20, .inl mk)), (q_ma, .inl (cI, 20, .inl ma)), (q_mb, .inl (cI, 20, .inl mb)), (q_mw, .inl (cI, 20, .inl mw))] H := hP
        have hD : va_D A [(q_me, .inl (cI, 96, .inl me)), (q_mo, .inr (6, [.int mo_thrown, .int mo_rows, .ref q_mv, .int mo_size, .ref q_me, .int mo_price, .int mo_queries, .ref q_mk, .ref q_ma, .ref q_mb, .ref q_mw, .int u11.1, .int u11.2, .int mo_bits, .ref q_mx])), (q_mv, .inl (cI, 96, .inl mv)), (q_mk, .inl (cI, 20, .inl mk)), (q_ma, .inl (cI, 20, .inl ma)), (q_mb, .inl (cI, 20, .inl mb)), (q_mw, .inl (cI, 20, .inl mw))] := hD
        refine lv_istore_n (lv' := [(3, .int u12), (0, .ref q_mo), (1, .int z1), (2, .int z2)]) hx hb dX6_choose__34 rfl hl (by decide) rfl (fun ls hl => ?_)
        refine lv_iload_n hx hb dX6_choose__35 rfl (lv_at hl 2 rfl) ?_
        refine lv_iload_n hx hb dX6_choose__36 rfl (lv_at hl 0 rfl) ?_
        refine lv_aload_n hx hb dX6_choose__37 rfl (lv_at hl 1 rfl) ?_
        refine va_get (D := D) (ci := 6) (v := .ref q_me) (C := RX6) (T := TX6) (N := 15) hx hb hts hin6 hown hK hP 1 rfl rfl 4 (by decide) (hts (.fieldLink RX6 17 "ColumnChooserModel" "encodings" "[I") (List.mem_of_getElem? (i := 3) rfl)) (fun _ h9 => h9) rfl dX6_choose__38 ?_
        refine lv_iload_n hx hb dX6_choose__41 rfl (lv_at hl 3 rfl) ?_
        obtain ⟨v13, hv13, hf⟩ := pr_bd hf
        refine fr_rd hx hb hK hP 0 0 rfl rfl hv13 dX6_choose__42 ?_
        refine lv_icmp_ne (tgt := 50) hx hb dX6_choose__43 (by decide) (fun c14 => ?_) (fun c14 => ?_)
        · have hf := pr_neg hf c14
          refine lv_iconst (v := 1) hx hb dX6_choose__50 (by decide) ?_
          refine lv_iadd hx hb dX6_choose__51 ?_
          refine lv_istore_n (lv' := [(1, .int (z1 + 1)), (3, .int u12), (0, .ref q_mo), (2, .int z2)]) hx hb dX6_choose__52 rfl hl (by decide) rfl (fun ls hl => ?_)
          refine lv_aload_n hx hb dX6_choose__53 rfl (lv_at hl 2 rfl) ?_
          refine va_get (D := D) (ci := 6) (v := .ref q_me) (C := RX6) (T := TX6) (N := 15) hx hb hts hin6 hown hK hP 1 rfl rfl 4 (by decide) (hts (.fieldLink RX6 17 "ColumnChooserModel" "encodings" "[I") (List.mem_of_getElem? (i := 3) rfl)) (fun _ h9 => h9) rfl dX6_choose__54 ?_
          refine lv_iload_n hx hb dX6_choose__57 rfl (lv_at hl 3 rfl) ?_
          refine lv_iload_n hx hb dX6_choose__58 rfl (lv_at hl 1 rfl) ?_
          obtain ⟨v15, hv15, hf⟩ := pr_bd hf
          refine fr_wr hx hb hK hP hD hS 0 0 rfl rfl hv15 dX6_choose__59 (fun H locs hP hD hS => ?_)
          have hP : va_P D vwCl [(q_me, .inl (cI, 96, .inl v15)), (q_mo, .inr (6, [.int mo_thrown, .int mo_rows, .ref q_mv, .int mo_size, .ref q_me, .int mo_price, .int mo_queries, .ref q_mk, .ref q_ma, .ref q_mb, .ref q_mw, .int u11.1, .int u11.2, .int mo_bits, .ref q_mx])), (q_mv, .inl (cI, 96, .inl mv)), (q_mk, .inl (cI, 20, .inl mk)), (q_ma, .inl (cI, 20, .inl ma)), (q_mb, .inl (cI, 20, .inl mb)), (q_mw, .inl (cI, 20, .inl mw))] H := hP
          have hD : va_D A [(q_me, .inl (cI, 96, .inl v15)), (q_mo, .inr (6, [.int mo_thrown, .int mo_rows, .ref q_mv, .int mo_size, .ref q_me, .int mo_price, .int mo_queries, .ref q_mk, .ref q_ma, .ref q_mb, .ref q_mw, .int u11.1, .int u11.2, .int mo_bits, .ref q_mx])), (q_mv, .inl (cI, 96, .inl mv)), (q_mk, .inl (cI, 20, .inl mk)), (q_ma, .inl (cI, 20, .inl ma)), (q_mb, .inl (cI, 20, .inl mb)), (q_mw, .inl (cI, 20, .inl mw))] := hD
          refine lv_iinc (v := (z2 + 1)) (lv' := [(2, .int (z2 + 1)), (1, .int (z1 + 1)), (3, .int u12), (0, .ref q_mo)]) hx hb dX6_choose__60 hl (k := 3) rfl rfl (by decide) rfl (fun ls hl => ?_)
          refine lv_goto (tgt := 9) hx hb dX6_choose__63 (by decide) ?_
          exact ih _ _ _ _ _ _ _ _ ls hf (hP.sub [1, 2, 0, 3, 4, 5, 6] rfl) (hD.sub [1, 2, 0, 3, 4, 5, 6] (by decide) rfl) hS (lv_sub hl [3, 1, 0] rfl)
        · have hf := pr_pos hf c14
          refine lv_iconst (v := 0) hx hb dX6_choose__46 (by decide) ?_
          refine lv_goto (tgt := 51) hx hb dX6_choose__47 (by decide) ?_
          refine lv_iadd hx hb dX6_choose__51 ?_
          refine lv_istore_n (lv' := [(1, .int (z1 + 0)), (3, .int u12), (0, .ref q_mo), (2, .int z2)]) hx hb dX6_choose__52 rfl hl (by decide) rfl (fun ls hl => ?_)
          refine lv_aload_n hx hb dX6_choose__53 rfl (lv_at hl 2 rfl) ?_
          refine va_get (D := D) (ci := 6) (v := .ref q_me) (C := RX6) (T := TX6) (N := 15) hx hb hts hin6 hown hK hP 1 rfl rfl 4 (by decide) (hts (.fieldLink RX6 17 "ColumnChooserModel" "encodings" "[I") (List.mem_of_getElem? (i := 3) rfl)) (fun _ h9 => h9) rfl dX6_choose__54 ?_
          refine lv_iload_n hx hb dX6_choose__57 rfl (lv_at hl 3 rfl) ?_
          refine lv_iload_n hx hb dX6_choose__58 rfl (lv_at hl 1 rfl) ?_
          obtain ⟨v16, hv16, hf⟩ := pr_bd hf
          refine fr_wr hx hb hK hP hD hS 0 0 rfl rfl hv16 dX6_choose__59 (fun H locs hP hD hS => ?_)
          have hP : va_P D vwCl [(q_me, .inl (cI, 96, .inl v16)), (q_mo, .inr (6, [.int mo_thrown, .int mo_rows, .ref q_mv, .int mo_size, .ref q_me, .int mo_price, .int mo_queries, .ref q_mk, .ref q_ma, .ref q_mb, .ref q_mw, .int u11.1, .int u11.2, .int mo_bits, .ref q_mx])), (q_mv, .inl (cI, 96, .inl mv)), (q_mk, .inl (cI, 20, .inl mk)), (q_ma, .inl (cI, 20, .inl ma)), (q_mb, .inl (cI, 20, .inl mb)), (q_mw, .inl (cI, 20, .inl mw))] H := hP
          have hD : va_D A [(q_me, .inl (cI, 96, .inl v16)), (q_mo, .inr (6, [.int mo_thrown, .int mo_rows, .ref q_mv, .int mo_size, .ref q_me, .int mo_price, .int mo_queries, .ref q_mk, .ref q_ma, .ref q_mb, .ref q_mw, .int u11.1, .int u11.2, .int mo_bits, .ref q_mx])), (q_mv, .inl (cI, 96, .inl mv)), (q_mk, .inl (cI, 20, .inl mk)), (q_ma, .inl (cI, 20, .inl ma)), (q_mb, .inl (cI, 20, .inl mb)), (q_mw, .inl (cI, 20, .inl mw))] := hD
          refine lv_iinc (v := (z2 + 1)) (lv' := [(2, .int (z2 + 1)), (1, .int (z1 + 0)), (3, .int u12), (0, .ref q_mo)]) hx hb dX6_choose__60 hl (k := 3) rfl rfl (by decide) rfl (fun ls hl => ?_)
          refine lv_goto (tgt := 9) hx hb dX6_choose__63 (by decide) ?_
          exact ih _ _ _ _ _ _ _ _ ls hf (hP.sub [1, 2, 0, 3, 4, 5, 6] rfl) (hD.sub [1, 2, 0, 3, 4, 5, 6] (by decide) rfl) hS (lv_sub hl [3, 1, 0] rfl)
  unfold f_X6_choose_ at hf
  refine lv_aload_n hx hb dX6_choose__0 rfl (lv_at hl 0 rfl) ?_
  refine lv_iconst (v := 0) hx hb dX6_choose__1 (by decide) ?_
  refine va_put (D := D) (ci := 6) (v := .int 0) (ty := .int) (C := RX6) (T := TX6) (N := 15) hx hb hts hin6 tyX6 tyX6_ok nmX6 hown hK hP hD hS 0 rfl rfl 0 (by decide) (hts (.fieldLink RX6 38 "ColumnChooserModel" "thrown" "I") (List.mem_of_getElem? (i := 1) rfl)) (fun _ h9 => h9) rfl (by decide +kernel) rfl rfl (Nat.le_of_ble_eq_true rfl) dX6_choose__2 (fun H locs hP hD hS => ?_)
  have hP : va_P D vwCl [(q_mo, .inr (6, [.int 0, .int mo_rows, .ref q_mv, .int mo_size, .ref q_me, .int mo_price, .int mo_queries, .ref q_mk, .ref q_ma, .ref q_mb, .ref q_mw, .int mo_start, .int mo_many, .int mo_bits, .ref q_mx])), (q_mv, .inl (cI, 96, .inl mv)), (q_me, .inl (cI, 96, .inl me)), (q_mk, .inl (cI, 20, .inl mk)), (q_ma, .inl (cI, 20, .inl ma)), (q_mb, .inl (cI, 20, .inl mb)), (q_mw, .inl (cI, 20, .inl mw))] H := hP
  have hD : va_D A [(q_mo, .inr (6, [.int 0, .int mo_rows, .ref q_mv, .int mo_size, .ref q_me, .int mo_price, .int mo_queries, .ref q_mk, .ref q_ma, .ref q_mb, .ref q_mw, .int mo_start, .int mo_many, .int mo_bits, .ref q_mx])), (q_mv, .inl (cI, 96, .inl mv)), (q_me, .inl (cI, 96, .inl me)), (q_mk, .inl (cI, 20, .inl mk)), (q_ma, .inl (cI, 20, .inl ma)), (q_mb, .inl (cI, 20, .inl mb)), (q_mw, .inl (cI, 20, .inl mw))] := hD
  refine lv_iconst (v := 0) hx hb dX6_choose__5 (by decide) ?_
  refine lv_istore_n (lv' := [(1, .int 0), (0, .ref q_mo)]) hx hb dX6_choose__6 rfl hl (by decide) rfl (fun ls hl => ?_)
  refine lv_iconst (v := 0) hx hb dX6_choose__7 (by decide) ?_
  refine lv_istore_n (lv' := [(2, .int 0), (1, .int 0), (0, .ref q_mo)]) hx hb dX6_choose__8 rfl hl (by decide) rfl (fun ls hl => ?_)
  exact k_9 n _ _ _ _ _ _ _ _ ls hf (hP.sub [0, 1, 2, 3, 4, 5, 6] rfl) (hD.sub [0, 1, 2, 3, 4, 5, 6] (by decide) rfl) hS (lv_sub hl [2, 1, 0] rfl)
set_option maxHeartbeats 4000000 in
set_option maxRecDepth 100000 in
theorem c_X6_use (l : Launch) (D : va_G) (cI : ClassId) (q_mo q_mv q_me q_mk q_ma q_mb q_mw q_mx : Nat) (n : Nat) (x1 : Int32) (x2 : Int32) (mo_thrown : Int32) (mo_rows : Int32) (mo_size : Int32) (mo_price : Int32) (mo_queries : Int32) (mo_start : Int32) (mo_many : Int32) (mo_bits : Int32) (mv : (Nat → Int32)) (me : (Nat → Int32)) (res : Int32 × Int32 × Int32 × Int32 × (Nat → Int32)) (hf : f_X6_use n x1 x2 mo_thrown mo_rows mo_size mo_start mo_many mv me = some res) : fr_Ci l yX6_use wsX6_use ({ frames := 4, cells := 0, slots := 0, locals := 86 }) D [(cI, .int)] [.ref q_mo, .int x1, .int x2] [(q_mo, .inr (6, [.int mo_thrown, .int mo_rows, .ref q_mv, .int mo_size, .ref q_me, .int mo_price, .int mo_queries, .ref q_mk, .ref q_ma, .ref q_mb, .ref q_mw, .int mo_start, .int mo_many, .int mo_bits, .ref q_mx])), (q_mv, .inl (cI, 96, .inl mv)), (q_me, .inl (cI, 96, .inl me))] res.1 [(q_mo, .inr (6, [.int res.2.1, .int mo_rows, .ref q_mv, .int mo_size, .ref q_me, .int mo_price, .int mo_queries, .ref q_mk, .ref q_ma, .ref q_mb, .ref q_mw, .int res.2.2.1, .int res.2.2.2.1, .int mo_bits, .ref q_mx])), (q_mv, .inl (cI, 96, .inl mv)), (q_me, .inl (cI, 96, .inl res.2.2.2.2))] := by
  refine fr_open_i (cc := cX6_use) (maxL := 4) (ret := some .int) (by decide +kernel) rfl (Nat.le_of_ble_eq_true rfl) ⟨.int, rfl, vp_nar_int _⟩ ?_
  intro p e s m below meth c A Q ls hx hb hml hown hts hA hK hP hD hS hl hret
  have hown : s.vm.findClass RX6 = some m.cls := hown
  have hl : lv_has ls 4 [(0, .ref q_mo), (1, .int x1), (2, .int x2)] := hl
  have hin6 : ∀ w ∈ u_ws RX6 TX6 15, w ∈ wsX6_use := fun _ h9 => List.mem_cons_of_mem _ (List.mem_append_right _ h9)
  unfold f_X6_use at hf
  refine lv_aload_n hx hb dX6_use_0 rfl (lv_at hl 0 rfl) ?_
  refine lv_iload_n hx hb dX6_use_1 rfl (lv_at hl 1 rfl) ?_
  refine lv_iload_n hx hb dX6_use_2 rfl (lv_at hl 2 rfl) ?_
  obtain ⟨u8, hu8, hf⟩ := pr_bd hf
  refine fr_iV (As := [.int x1, .int x2]) ⟨hx, hb, hml, hown, hts⟩ hK hP hD hS hA (c_X6_asks l D cI q_mo q_mv q_me q_mk q_ma q_mb q_mw q_mx n x1 x2 mo_thrown mo_rows mo_size mo_price mo_queries mo_start mo_many mo_bits u8 hu8) (cwV 2 hts gX6_use_X6_asks rfl rfl rfl (by decide +kernel) ⟨Nat.le_of_ble_eq_true rfl, Nat.le_of_ble_eq_true rfl⟩) [(q_mv, .inl (cI, 96, .inl mv)), (q_me, .inl (cI, 96, .inl me))] [0] [1, 2] rfl rfl (by decide) (by decide) (by decide) 0 rfl rfl rfl rfl hl.1 (Nat.le_of_ble_eq_true rfl) dX6_use_3 ⟨Nat.zero_le _, Nat.zero_le _⟩ rfl (fun H locs hP hD hS => ?_)
  have hP : va_P D vwCl [(q_mv, .inl (cI, 96, .inl mv)), (q_me, .inl (cI, 96, .inl me)), (q_mo, .inr (6, [.int u8.2.1, .int mo_rows, .ref q_mv, .int mo_size, .ref q_me, .int mo_price, .int mo_queries, .ref q_mk, .ref q_ma, .ref q_mb, .ref q_mw, .int u8.2.2.1, .int u8.2.2.2, .int mo_bits, .ref q_mx]))] H := hP
  have hD : va_D A [(q_mv, .inl (cI, 96, .inl mv)), (q_me, .inl (cI, 96, .inl me)), (q_mo, .inr (6, [.int u8.2.1, .int mo_rows, .ref q_mv, .int mo_size, .ref q_me, .int mo_price, .int mo_queries, .ref q_mk, .ref q_ma, .ref q_mb, .ref q_mw, .int u8.2.2.1, .int u8.2.2.2, .int mo_bits, .ref q_mx]))] := hD
  refine lv_if_ne (tgt := 11) hx hb dX6_use_6 (by decide) (fun c9 => ?_) (fun c9 => ?_)
  · have hf := pr_neg hf c9
    refine lv_aload_n hx hb dX6_use_11 rfl (lv_at hl 0 rfl) ?_
    refine lv_iload_n hx hb dX6_use_12 rfl (lv_at hl 2 rfl) ?_
    obtain ⟨u10, hu10, hf⟩ := pr_bd hf
    refine fr_iV (As := [.int x2]) ⟨hx, hb, hml, hown, hts⟩ hK hP hD hS hA (c_X6_isPossible l D cI q_mo q_mv q_me q_mk q_ma q_mb q_mw q_mx n x2 u8.2.1 mo_rows mo_size mo_price mo_queries u8.2.2.1 u8.2.2.2 mo_bits mv u10 hu10) (cwV 1 hts gX6_use_X6_isPossible rfl rfl rfl (by decide +kernel) ⟨Nat.le_of_ble_eq_true rfl, Nat.le_of_ble_eq_true rfl⟩) [(q_me, .inl (cI, 96, .inl me))] [2, 0] [1] rfl rfl (by decide) (by decide) (by decide) 0 rfl rfl rfl rfl hl.1 (Nat.le_of_ble_eq_true rfl) dX6_use_13 ⟨Nat.zero_le _, Nat.zero_le _⟩ rfl (fun H locs hP hD hS => ?_)
    have hP : va_P D vwCl [(q_me, .inl (cI, 96, .inl me)), (q_mo, .inr (6, [.int u8.2.1, .int mo_rows, .ref q_mv, .int mo_size, .ref q_me, .int mo_price, .int mo_queries, .ref q_mk, .ref q_ma, .ref q_mb, .ref q_mw, .int u8.2.2.1, .int u8.2.2.2, .int mo_bits, .ref q_mx])), (q_mv, .inl (cI, 96, .inl mv))] H := hP
    have hD : va_D A [(q_me, .inl (cI, 96, .inl me)), (q_mo, .inr (6, [.int u8.2.1, .int mo_rows, .ref q_mv, .int mo_size, .ref q_me, .int mo_price, .int mo_queries, .ref q_mk, .ref q_ma, .ref q_mb, .ref q_mw, .int u8.2.2.1, .int u8.2.2.2, .int mo_bits, .ref q_mx])), (q_mv, .inl (cI, 96, .inl mv))] := hD
    refine lv_if_ne (tgt := 25) hx hb dX6_use_16 (by decide) (fun c11 => ?_) (fun c11 => ?_)
    · have hf := pr_neg hf c11
      refine lv_aload_n hx hb dX6_use_25 rfl (lv_at hl 0 rfl) ?_
      refine va_get (D := D) (ci := 6) (v := .ref q_me) (C := RX6) (T := TX6) (N := 15) hx hb hts hin6 hown hK hP 1 rfl rfl 4 (by decide) (hts (.fieldLink RX6 17 "ColumnChooserModel" "encodings" "[I") (List.mem_of_getElem? (i := 1) rfl)) (fun _ h9 => h9) rfl dX6_use_26 ?_
      refine lv_iload_n hx hb dX6_use_29 rfl (lv_at hl 1 rfl) ?_
      obtain ⟨v12, hv12, hf⟩ := pr_bd hf
      refine fr_rd hx hb hK hP 0 0 rfl rfl hv12 dX6_use_30 ?_
      refine lv_istore_n (lv' := [(3, .int v12), (0, .ref q_mo), (1, .int x1), (2, .int x2)]) hx hb dX6_use_31 rfl hl (by decide) rfl (fun ls hl => ?_)
      refine lv_aload_n hx hb dX6_use_32 rfl (lv_at hl 1 rfl) ?_
      refine va_get (D := D) (ci := 6) (v := .ref q_me) (C := RX6) (T := TX6) (N := 15) hx hb hts hin6 hown hK hP 1 rfl rfl 4 (by decide) (hts (.fieldLink RX6 17 "ColumnChooserModel" "encodings" "[I") (List.mem_of_getElem? (i := 1) rfl)) (fun _ h9 => h9) rfl dX6_use_33 ?_
      refine lv_iload_n hx hb dX6_use_36 rfl (lv_at hl 2 rfl) ?_
      refine lv_iload_n hx hb dX6_use_37 rfl (lv_at hl 3 rfl) ?_
      obtain ⟨v13, hv13, hf⟩ := pr_bd hf
      refine fr_wr hx hb hK hP hD hS 0 0 rfl rfl hv13 dX6_use_38 (fun H locs hP hD hS => ?_)
      have hP : va_P D vwCl [(q_me, .inl (cI, 96, .inl v13)), (q_mo, .inr (6, [.int u8.2.1, .int mo_rows, .ref q_mv, .int mo_size, .ref q_me, .int mo_price, .int mo_queries, .ref q_mk, .ref q_ma, .ref q_mb, .ref q_mw, .int u8.2.2.1, .int u8.2.2.2, .int mo_bits, .ref q_mx])), (q_mv, .inl (cI, 96, .inl mv))] H := hP
      have hD : va_D A [(q_me, .inl (cI, 96, .inl v13)), (q_mo, .inr (6, [.int u8.2.1, .int mo_rows, .ref q_mv, .int mo_size, .ref q_me, .int mo_price, .int mo_queries, .ref q_mk, .ref q_ma, .ref q_mb, .ref q_mw, .int u8.2.2.1, .int u8.2.2.2, .int mo_bits, .ref q_mx])), (q_mv, .inl (cI, 96, .inl mv))] := hD
      refine lv_iload_n hx hb dX6_use_39 rfl (lv_at hl 0 rfl) ?_
      obtain rfl := Option.some.inj hf
      exact hret _ _ _ _ dX6_use_40 (hP.sub [1, 2, 0] rfl) (hD.sub [1, 2, 0] (by decide) rfl) hS
    · have hf := pr_pos hf c11
      refine lv_aload_n hx hb dX6_use_19 rfl (lv_at hl 0 rfl) ?_
      refine lv_iconst (v := 2) hx hb dX6_use_20 (by decide) ?_
      obtain ⟨u14, hu14, hf⟩ := pr_bd hf
      refine fr_iV (As := [.int 2]) ⟨hx, hb, hml, hown, hts⟩ hK hP hD hS hA (c_X6_fail l D cI q_mo q_mv q_me q_mk q_ma q_mb q_mw q_mx n 2 u8.2.1 mo_rows mo_size mo_price mo_queries u8.2.2.1 u8.2.2.2 mo_bits u14 hu14) (cwV 1 hts gX6_use_X6_fail rfl rfl rfl (by decide +kernel) ⟨Nat.le_of_ble_eq_true rfl, Nat.le_of_ble_eq_true rfl⟩) [(q_me, .inl (cI, 96, .inl me)), (q_mv, .inl (cI, 96, .inl mv))] [1] [0, 2] rfl rfl (by decide) (by decide) (by decide) 0 rfl rfl rfl rfl hl.1 (Nat.le_of_ble_eq_true rfl) dX6_use_21 ⟨Nat.zero_le _, Nat.zero_le _⟩ rfl (fun H locs hP hD hS => ?_)
      have hP : va_P D vwCl [(q_me, .inl (cI, 96, .inl me)), (q_mv, .inl (cI, 96, .inl mv)), (q_mo, .inr (6, [.int u14.2, .int mo_rows, .ref q_mv, .int mo_size, .ref q_me, .int mo_price, .int mo_queries, .ref q_mk, .ref q_ma, .ref q_mb, .ref q_mw, .int u8.2.2.1, .int u8.2.2.2, .int mo_bits, .ref q_mx]))] H := hP
      have hD : va_D A [(q_me, .inl (cI, 96, .inl me)), (q_mv, .inl (cI, 96, .inl mv)), (q_mo, .inr (6, [.int u14.2, .int mo_rows, .ref q_mv, .int mo_size, .ref q_me, .int mo_price, .int mo_queries, .ref q_mk, .ref q_ma, .ref q_mb, .ref q_mw, .int u8.2.2.1, .int u8.2.2.2, .int mo_bits, .ref q_mx]))] := hD
      obtain rfl := Option.some.inj hf
      exact hret _ _ _ _ dX6_use_24 (hP.sub [2, 1, 0] rfl) (hD.sub [2, 1, 0] (by decide) rfl) hS
  · have hf := pr_pos hf c9
    refine lv_iconst (v := 0) hx hb dX6_use_9 (by decide) ?_
    obtain rfl := Option.some.inj hf
    exact hret _ _ _ _ dX6_use_10 (hP.sub [2, 0, 1] rfl) (hD.sub [2, 0, 1] (by decide) rfl) hS
set_option maxHeartbeats 4000000 in
set_option maxRecDepth 100000 in
theorem c_X6_encoding (l : Launch) (D : va_G) (cI : ClassId) (q_mo q_mv q_me q_mk q_ma q_mb q_mw q_mx : Nat) (n : Nat) (x1 : Int32) (mo_thrown : Int32) (mo_rows : Int32) (mo_size : Int32) (mo_price : Int32) (mo_queries : Int32) (mo_start : Int32) (mo_many : Int32) (mo_bits : Int32) (me : (Nat → Int32)) (res : Int32 × Int32 × Int32 × Int32) (hf : f_X6_encoding n x1 mo_thrown mo_rows mo_size mo_start mo_many me = some res) : fr_Ci l yX6_encoding wsX6_encoding ({ frames := 3, cells := 0, slots := 0, locals := 65 }) D [(cI, .int)] [.ref q_mo, .int x1] [(q_mo, .inr (6, [.int mo_thrown, .int mo_rows, .ref q_mv, .int mo_size, .ref q_me, .int mo_price, .int mo_queries, .ref q_mk, .ref q_ma, .ref q_mb, .ref q_mw, .int mo_start, .int mo_many, .int mo_bits, .ref q_mx])), (q_me, .inl (cI, 96, .inl me))] res.1 [(q_mo, .inr (6, [.int res.2.1, .int mo_rows, .ref q_mv, .int mo_size, .ref q_me, .int mo_price, .int mo_queries, .ref q_mk, .ref q_ma, .ref q_mb, .ref q_mw, .int res.2.2.1, .int res.2.2.2, .int mo_bits, .ref q_mx])), (q_me, .inl (cI, 96, .inl me))] := by
  refine fr_open_i (cc := cX6_encoding) (maxL := 2) (ret := some .int) (by decide +kernel) rfl (Nat.le_of_ble_eq_true rfl) ⟨.int, rfl, vp_nar_int _⟩ ?_
  intro p e s m below meth c A Q ls hx hb hml hown hts hA hK hP hD hS hl hret
  have hown : s.vm.findClass RX6 = some m.cls := hown
  have hl : lv_has ls 2 [(0, .ref q_mo), (1, .int x1)] := hl
  have hin6 : ∀ w ∈ u_ws RX6 TX6 15, w ∈ wsX6_encoding := fun _ h9 => List.mem_cons_of_mem _ (List.mem_append_right _ h9)
  unfold f_X6_encoding at hf
  refine lv_aload_n hx hb dX6_encoding_0 rfl (lv_at hl 0 rfl) ?_
  refine lv_iload_n hx hb dX6_encoding_1 rfl (lv_at hl 1 rfl) ?_
  refine lv_iconst (v := 0) hx hb dX6_encoding_2 (by decide) ?_
  obtain ⟨u4, hu4, hf⟩ := pr_bd hf
  refine fr_iV (As := [.int x1, .int 0]) ⟨hx, hb, hml, hown, hts⟩ hK hP hD hS hA (c_X6_asks l D cI q_mo q_mv q_me q_mk q_ma q_mb q_mw q_mx n x1 0 mo_thrown mo_rows mo_size mo_price mo_queries mo_start mo_many mo_bits u4 hu4) (cwV 2 hts gX6_encoding_X6_asks rfl rfl rfl (by decide +kernel) ⟨Nat.le_of_ble_eq_true rfl, Nat.le_of_ble_eq_true rfl⟩) [(q_me, .inl (cI, 96, .inl me))] [0] [1] rfl rfl (by decide) (by decide) (by decide) 0 rfl rfl rfl rfl hl.1 (Nat.le_of_ble_eq_true rfl) dX6_encoding_3 ⟨Nat.zero_le _, Nat.zero_le _⟩ rfl (fun H locs hP hD hS => ?_)
  have hP : va_P D vwCl [(q_me, .inl (cI, 96, .inl me)), (q_mo, .inr (6, [.int u4.2.1, .int mo_rows, .ref q_mv, .int mo_size, .ref q_me, .int mo_price, .int mo_queries, .ref q_mk, .ref q_ma, .ref q_mb, .ref q_mw, .int u4.2.2.1, .int u4.2.2.2, .int mo_bits, .ref q_mx]))] H := hP
  have hD : va_D A [(q_me, .inl (cI, 96, .inl me)), (q_mo, .inr (6, [.int u4.2.1, .int mo_rows, .ref q_mv, .int mo_size, .ref q_me, .int mo_price, .int mo_queries, .ref q_mk, .ref q_ma, .ref q_mb, .ref q_mw, .int u4.2.2.1, .int u4.2.2.2, .int mo_bits, .ref q_mx]))] := hD
  refine lv_if_eq (tgt := 18) hx hb dX6_encoding_6 (by decide) (fun c5 => ?_) (fun c5 => ?_)
  · have hf := pr_pos hf c5
    refine lv_iconst (v := 0) hx hb dX6_encoding_18 (by decide) ?_
    obtain rfl := Option.some.inj hf
    exact hret _ _ _ _ dX6_encoding_19 (hP.sub [1, 0] rfl) (hD.sub [1, 0] (by decide) rfl) hS
  · have hf := pr_neg hf c5
    refine lv_aload_n hx hb dX6_encoding_9 rfl (lv_at hl 0 rfl) ?_
    refine va_get (D := D) (ci := 6) (v := .ref q_me) (C := RX6) (T := TX6) (N := 15) hx hb hts hin6 hown hK hP 1 rfl rfl 4 (by decide) (hts (.fieldLink RX6 17 "ColumnChooserModel" "encodings" "[I") (List.mem_of_getElem? (i := 1) rfl)) (fun _ h9 => h9) rfl dX6_encoding_10 ?_
    refine lv_iload_n hx hb dX6_encoding_13 rfl (lv_at hl 1 rfl) ?_
    obtain ⟨v6, hv6, hf⟩ := pr_bd hf
    refine fr_rd hx hb hK hP 0 0 rfl rfl hv6 dX6_encoding_14 ?_
    refine lv_goto (tgt := 19) hx hb dX6_encoding_15 (by decide) ?_
    obtain rfl := Option.some.inj hf
    exact hret _ _ _ _ dX6_encoding_19 (hP.sub [1, 0] rfl) (hD.sub [1, 0] (by decide) rfl) hS
set_option maxHeartbeats 4000000 in
set_option maxRecDepth 100000 in
theorem c_X6_put (l : Launch) (D : va_G) (cI : ClassId) (q_mo q_mv q_me q_mk q_ma q_mb q_mw q_mx : Nat) (n : Nat) (x1 : Int32) (x2 : Int32) (mo_thrown : Int32) (mo_rows : Int32) (mo_size : Int32) (mo_price : Int32) (mo_queries : Int32) (mo_start : Int32) (mo_many : Int32) (mo_bits : Int32) (mx : (Nat → Int32)) (res : Int32 × (Nat → Int32)) (hf : f_X6_put n x1 x2 mo_bits mx = some res) : fr_Cv l yX6_put wsX6_put ({ frames := 0, cells := 0, slots := 0, locals := 0 }) D [(cI, .int)] [.ref q_mo, .int x1, .int x2] [(q_mo, .inr (6, [.int mo_thrown, .int mo_rows, .ref q_mv, .int mo_size, .ref q_me, .int mo_price, .int mo_queries, .ref q_mk, .ref q_ma, .ref q_mb, .ref q_mw, .int mo_start, .int mo_many, .int mo_bits, .ref q_mx])), (q_mx, .inl (cI, 2000, .inl mx))] [(q_mo, .inr (6, [.int mo_thrown, .int mo_rows, .ref q_mv, .int mo_size, .ref q_me, .int mo_price, .int mo_queries, .ref q_mk, .ref q_ma, .ref q_mb, .ref q_mw, .int mo_start, .int mo_many, .int res.1, .ref q_mx])), (q_mx, .inl (cI, 2000, .inl res.2))] := by
  refine fr_open_v (cc := cX6_put) (maxL := 4) (by decide +kernel) rfl (Nat.le_of_ble_eq_true rfl) ?_
  intro p e s m below meth c A Q ls hx hb hml hown hts hA hK hP hD hS hl hret
  have hown : s.vm.findClass RX6 = some m.cls := hown
  have hl : lv_has ls 4 [(0, .ref q_mo), (1, .int x1), (2, .int x2)] := hl
  have hin6 : ∀ w ∈ u_ws RX6 TX6 15, w ∈ wsX6_put := fun _ h9 => List.mem_cons_of_mem _ (List.mem_append_right _ h9)
  have k_4 : ∀ (n : Nat), (∀ (z1 : Int32) (z3 : Int32) (mo_bits : Int32) (mx : (Nat → Int32)) (H : Heap) (locs : List Loc) (ls : Array Slot), f_X6_put_4 n z1 z3 mo_bits mx = some res → va_P D vwCl [(q_mo, .inr (6, [.int mo_thrown, .int mo_rows, .ref q_mv, .int mo_size, .ref q_me, .int mo_price, .int mo_queries, .ref q_mk, .ref q_ma, .ref q_mb, .ref q_mw, .int mo_start, .int mo_many, .int mo_bits, .ref q_mx])), (q_mx, .inl (cI, 2000, .inl mx))] H → va_D A [(q_mo, .inr (6, [.int mo_thrown, .int mo_rows, .ref q_mv, .int mo_size, .ref q_me, .int mo_price, .int mo_queries, .ref q_mk, .ref q_ma, .ref q_mb, .ref q_mw, .int mo_start, .int mo_many, .int mo_bits, .ref q_mx])), (q_mx, .inl (cI, 2000, .inl mx))] → va_S A s.heap H locs → lv_has ls 4 [(0, .ref q_mo), (1, .int z1), (3, .int z3)] → W p l e ({ frames := 0, cells := 0, slots := 0, locals := 0 }) s m ([.ref q_mo, .int x1, .int x2] : List Value).toArray below meth c H locs 0 0 Q (F0 m 4 ls [])) := by
    intro n
    induction n with
    | zero =>
      intro z1 z3 mo_bits mx H locs ls hf hP hD hS hl
      exact absurd (show (none : Option (Int32 × (Nat → Int32))) = some res from hf) (by simp)
    | succ n ih =>
      intro z1 z3 mo_bits mx H locs ls hf hP hD hS hl
      have hf : f_X6_put_4_s (f_X6_put_4 n) n z1 z3 mo_bits mx = some res := hf
      unfold f_X6_put_4_s at hf
      refine lv_iload_n hx hb dX6_put_4 rfl (lv_at hl 2 rfl) ?_
      refine lv_if_lt (tgt := 38) hx hb dX6_put_5 (by decide) (fun c3 => ?_) (fun c3 => ?_)
      · have hf := pr_pos hf c3
        obtain rfl := Option.some.inj hf
        exact hret _ _ _ _ dX6_put_38 (hP.sub [0, 1] rfl) (hD.sub [0, 1] (by decide) rfl) hS
      · have hf := pr_neg hf c3
        refine lv_aload_n hx hb dX6_put_8 rfl (lv_at hl 0 rfl) ?_
        refine va_get (D := D) (ci := 6) (v := .ref q_mx) (C := RX6) (T := TX6) (N := 15) hx hb hts hin6 hown hK hP 0 rfl rfl 14 (by decide) (hts (.fieldLink RX6 35 "ColumnChooserModel" "bit" "[I") (List.mem_of_getElem? (i := 1) rfl)) (fun _ h9 => h9) rfl dX6_put_9 ?_
        refine lv_aload_n hx hb dX6_put_12 rfl (lv_at hl 0 rfl) ?_
        refine va_get (D := D) (ci := 6) (v := .int mo_bits) (C := RX6) (T := TX6) (N := 15) hx hb hts hin6 hown hK hP 0 rfl rfl 13 (by decide) (hts (.fieldLink RX6 155 "ColumnChooserModel" "bits" "I") (List.mem_of_getElem? (i := 2) rfl)) (fun _ h9 => h9) rfl dX6_put_13 ?_
        refine lv_iload_n hx hb dX6_put_16 rfl (lv_at hl 1 rfl) ?_
        refine lv_iload_n hx hb dX6_put_17 rfl (lv_at hl 2 rfl) ?_
        refine lv_ishr hx hb dX6_put_18 ?_
        refine lv_iconst (v := 1) hx hb dX6_put_19 (by decide) ?_
        refine lv_iand hx hb dX6_put_20 ?_
        obtain ⟨v4, hv4, hf⟩ := pr_bd hf
        refine fr_wr hx hb hK hP hD hS 1 0 rfl rfl hv4 dX6_put_21 (fun H locs hP hD hS => ?_)
        have hP : va_P D vwCl [(q_mo, .inr (6, [.int mo_thrown, .int mo_rows, .ref q_mv, .int mo_size, .ref q_me, .int mo_price, .int mo_queries, .ref q_mk, .ref q_ma, .ref q_mb, .ref q_mw, .int mo_start, .int mo_many, .int mo_bits, .ref q_mx])), (q_mx, .inl (cI, 2000, .inl v4))] H := hP
        have hD : va_D A [(q_mo, .inr (6, [.int mo_thrown, .int mo_rows, .ref q_mv, .int mo_size, .ref q_me, .int mo_price, .int mo_queries, .ref q_mk, .ref q_ma, .ref q_mb, .ref q_mw, .int mo_start, .int mo_many, .int mo_bits, .ref q_mx])), (q_mx, .inl (cI, 2000, .inl v4))] := hD
        refine lv_aload_n hx hb dX6_put_22 rfl (lv_at hl 0 rfl) ?_
        refine lv_dup hx hb dX6_put_23 rfl ?_
        refine va_get (D := D) (ci := 6) (v := .int mo_bits) (C := RX6) (T := TX6) (N := 15) hx hb hts hin6 hown hK hP 0 rfl rfl 13 (by decide) (hts (.fieldLink RX6 155 "ColumnChooserModel" "bits" "I") (List.mem_of_getElem? (i := 2) rfl)) (fun _ h9 => h9) rfl dX6_put_24 ?_
        refine lv_iconst (v := 1) hx hb dX6_put_27 (by decide) ?_
        refine lv_iadd hx hb dX6_put_28 ?_
        refine va_put (D := D) (ci := 6) (v := .int (mo_bits + 1)) (ty := .int) (C := RX6) (T := TX6) (N := 15) hx hb hts hin6 tyX6 tyX6_ok nmX6 hown hK hP hD hS 0 rfl rfl 13 (by decide) (hts (.fieldLink RX6 155 "ColumnChooserModel" "bits" "I") (List.mem_of_getElem? (i := 2) rfl)) (fun _ h9 => h9) rfl (by decide +kernel) rfl rfl (Nat.le_of_ble_eq_true rfl) dX6_put_29 (fun H locs hP hD hS => ?_)
        have hP : va_P D vwCl [(q_mo, .inr (6, [.int mo_thrown, .int mo_rows, .ref q_mv, .int mo_size, .ref q_me, .int mo_price, .int mo_queries, .ref q_mk, .ref q_ma, .ref q_mb, .ref q_mw, .int mo_start, .int mo_many, .int (mo_bits + 1), .ref q_mx])), (q_mx, .inl (cI, 2000, .inl v4))] H := hP
        have hD : va_D A [(q_mo, .inr (6, [.int mo_thrown, .int mo_rows, .ref q_mv, .int mo_size, .ref q_me, .int mo_price, .int mo_queries, .ref q_mk, .ref q_ma, .ref q_mb, .ref q_mw, .int mo_start, .int mo_many, .int (mo_bits + 1), .ref q_mx])), (q_mx, .inl (cI, 2000, .inl v4))] := hD
        refine lv_iinc (v := (z3 + (-1))) (lv' := [(3, .int (z3 + (-1))), (0, .ref q_mo), (1, .int z1)]) hx hb dX6_put_32 hl (k := 2) rfl rfl (by decide) rfl (fun ls hl => ?_)
        refine lv_goto (tgt := 4) hx hb dX6_put_35 (by decide) ?_
        exact ih _ _ _ _ _ _ ls hf (hP.sub [0, 1] rfl) (hD.sub [0, 1] (by decide) rfl) hS (lv_sub hl [1, 2, 0] rfl)
  unfold f_X6_put at hf
  refine lv_iload_n hx hb dX6_put_0 rfl (lv_at hl 2 rfl) ?_
  refine lv_iconst (v := 1) hx hb dX6_put_1 (by decide) ?_
  refine lv_isub hx hb dX6_put_2 ?_
  refine lv_istore_n (lv' := [(3, .int (x2 - 1)), (0, .ref q_mo), (1, .int x1), (2, .int x2)]) hx hb dX6_put_3 rfl hl (by decide) rfl (fun ls hl => ?_)
  exact k_4 n _ _ _ _ _ _ ls hf (hP.sub [0, 1] rfl) (hD.sub [0, 1] (by decide) rfl) hS (lv_sub hl [1, 2, 0] rfl)
set_option maxHeartbeats 4000000 in
set_option maxRecDepth 100000 in
theorem c_X6_putValue (l : Launch) (D : va_G) (cI : ClassId) (q_mo q_mv q_me q_mk q_ma q_mb q_mw q_mx : Nat) (n : Nat) (x1 : Int32) (mo_thrown : Int32) (mo_rows : Int32) (mo_size : Int32) (mo_price : Int32) (mo_queries : Int32) (mo_start : Int32) (mo_many : Int32) (mo_bits : Int32) (mx : (Nat → Int32)) (res : Int32 × (Nat → Int32)) (hf : f_X6_putValue n x1 mo_bits mx = some res) : fr_Cv l yX6_putValue wsX6_putValue ({ frames := 1, cells := 0, slots := 0, locals := 23 }) D [(cI, .int)] [.ref q_mo, .int x1] [(q_mo, .inr (6, [.int mo_thrown, .int mo_rows, .ref q_mv, .int mo_size, .ref q_me, .int mo_price, .int mo_queries, .ref q_mk, .ref q_ma, .ref q_mb, .ref q_mw, .int mo_start, .int mo_many, .int mo_bits, .ref q_mx])), (q_mx, .inl (cI, 2000, .inl mx))] [(q_mo, .inr (6, [.int mo_thrown, .int mo_rows, .ref q_mv, .int mo_size, .ref q_me, .int mo_price, .int mo_queries, .ref q_mk, .ref q_ma, .ref q_mb, .ref q_mw, .int mo_start, .int mo_many, .int res.1, .ref q_mx])), (q_mx, .inl (cI, 2000, .inl res.2))] := by
  refine fr_open_v (cc := cX6_putValue) (maxL := 2) (by decide +kernel) rfl (Nat.le_of_ble_eq_true rfl) ?_
  intro p e s m below meth c A Q ls hx hb hml hown hts hA hK hP hD hS hl hret
  have hown : s.vm.findClass RX6 = some m.cls := hown
  have hl : lv_has ls 2 [(0, .ref q_mo), (1, .int x1)] := hl
  unfold f_X6_putValue at hf
  refine lv_aload_n hx hb dX6_putValue_0 rfl (lv_at hl 0 rfl) ?_
  refine lv_iload_n hx hb dX6_putValue_1 rfl (lv_at hl 1 rfl) ?_
  refine lv_ldc (v := 131072) hx hb hown (hts (.constant RX6 158 (131072)) (List.mem_of_getElem? (i := 1) rfl)) dX6_putValue_2 ?_
  refine lv_iadd hx hb dX6_putValue_4 ?_
  refine lv_bipush (v := 18) hx hb dX6_putValue_5 (by decide) ?_
  obtain ⟨u2, hu2, hf⟩ := pr_bd hf
  refine fr_vV (As := [.int (x1 + 131072), .int 18]) ⟨hx, hb, hml, hown, hts⟩ hK hP hD hS hA (c_X6_put l D cI q_mo q_mv q_me q_mk q_ma q_mb q_mw q_mx n (x1 + 131072) 18 mo_thrown mo_rows mo_size mo_price mo_queries mo_start mo_many mo_bits mx u2 hu2) (cwV 2 hts gX6_putValue_X6_put rfl rfl rfl (by decide +kernel) ⟨Nat.le_of_ble_eq_true rfl, Nat.le_of_ble_eq_true rfl⟩) [] [0, 1] [] rfl rfl (by decide) (by decide) (by decide) 0 rfl rfl rfl rfl hl.1 (Nat.le_of_ble_eq_true rfl) dX6_putValue_7 ⟨Nat.zero_le _, Nat.zero_le _⟩ rfl (fun H locs hP hD hS => ?_)
  have hP : va_P D vwCl [(q_mo, .inr (6, [.int mo_thrown, .int mo_rows, .ref q_mv, .int mo_size, .ref q_me, .int mo_price, .int mo_queries, .ref q_mk, .ref q_ma, .ref q_mb, .ref q_mw, .int mo_start, .int mo_many, .int u2.1, .ref q_mx])), (q_mx, .inl (cI, 2000, .inl u2.2))] H := hP
  have hD : va_D A [(q_mo, .inr (6, [.int mo_thrown, .int mo_rows, .ref q_mv, .int mo_size, .ref q_me, .int mo_price, .int mo_queries, .ref q_mk, .ref q_ma, .ref q_mb, .ref q_mw, .int mo_start, .int mo_many, .int u2.1, .ref q_mx])), (q_mx, .inl (cI, 2000, .inl u2.2))] := hD
  obtain rfl := Option.some.inj hf
  exact hret _ _ _ _ dX6_putValue_10 (hP.sub [0, 1] rfl) (hD.sub [0, 1] (by decide) rfl) hS
set_option maxHeartbeats 4000000 in
set_option maxRecDepth 100000 in
theorem c_X6_writeRuns (l : Launch) (D : va_G) (cI : ClassId) (q_mo q_mv q_me q_mk q_ma q_mb q_mw q_mx : Nat) (n : Nat) (mo_thrown : Int32) (mo_rows : Int32) (mo_size : Int32) (mo_price : Int32) (mo_queries : Int32) (mo_start : Int32) (mo_many : Int32) (mo_bits : Int32) (mv : (Nat → Int32)) (mx : (Nat → Int32)) (res : Int32 × (Nat → Int32)) (hf : f_X6_writeRuns n mo_start mo_many mo_bits mv mx = some res) : fr_Cv l yX6_writeRuns wsX6_writeRuns ({ frames := 2, cells := 0, slots := 0, locals := 44 }) D [(cI, .int)] [.ref q_mo] [(q_mo, .inr (6, [.int mo_thrown, .int mo_rows, .ref q_mv, .int mo_size, .ref q_me, .int mo_price, .int mo_queries, .ref q_mk, .ref q_ma, .ref q_mb, .ref q_mw, .int mo_start, .int mo_many, .int mo_bits, .ref q_mx])), (q_mv, .inl (cI, 96, .inl mv)), (q_mx, .inl (cI, 2000, .inl mx))] [(q_mo, .inr (6, [.int mo_thrown, .int mo_rows, .ref q_mv, .int mo_size, .ref q_me, .int mo_price, .int mo_queries, .ref q_mk, .ref q_ma, .ref q_mb, .ref q_mw, .int mo_start, .int mo_many, .int res.1, .ref q_mx])), (q_mv, .inl (cI, 96, .inl mv)), (q_mx, .inl (cI, 2000, .inl res.2))] := by
  refine fr_open_v (cc := cX6_writeRuns) (maxL := 3) (by decide +kernel) rfl (Nat.le_of_ble_eq_true rfl) ?_
  intro p e s m below meth c A Q ls hx hb hml hown hts hA hK hP hD hS hl hret
  have hown : s.vm.findClass RX6 = some m.cls := hown
  have hl : lv_has ls 3 [(0, .ref q_mo)] := hl
  have hin6 : ∀ w ∈ u_ws RX6 TX6 15, w ∈ wsX6_writeRuns := fun _ h9 => List.mem_cons_of_mem _ (List.mem_append_right _ h9)
  have k_4 : ∀ (n : Nat), (∀ (z1 : Int32) (z2 : Int32) (mo_bits : Int32) (mx : (Nat → Int32)) (H : Heap) (locs : List Loc) (ls : Array Slot), f_X6_writeRuns_4 n z1 z2 mo_start mo_many mo_bits mv mx = some res → va_P D vwCl [(q_mo, .inr (6, [.int mo_thrown, .int mo_rows, .ref q_mv, .int mo_size, .ref q_me, .int mo_price, .int mo_queries, .ref q_mk, .ref q_ma, .ref q_mb, .ref q_mw, .int mo_start, .int mo_many, .int mo_bits, .ref q_mx])), (q_mv, .inl (cI, 96, .inl mv)), (q_mx, .inl (cI, 2000, .inl mx))] H → va_D A [(q_mo, .inr (6, [.int mo_thrown, .int mo_rows, .ref q_mv, .int mo_size, .ref q_me, .int mo_price, .int mo_queries, .ref q_mk, .ref q_ma, .ref q_mb, .ref q_mw, .int mo_start, .int mo_many, .int mo_bits, .ref q_mx])), (q_mv, .inl (cI, 96, .inl mv)), (q_mx, .inl (cI, 2000, .inl mx))] → va_S A s.heap H locs → lv_has ls 3 [(0, .ref q_mo), (1, .int z1), (2, .int z2)] → W p l e ({ frames := 2, cells := 0, slots := 0, locals := 44 }) s m ([.ref q_mo] : List Value).toArray below meth c H locs 0 0 Q (F0 m 4 ls [])) := by
    intro n
    induction n with
    | zero =>
      intro z1 z2 mo_bits mx H locs ls hf hP hD hS hl
      exact absurd (show (none : Option (Int32 × (Nat → Int32))) = some res from hf) (by simp)
    | succ n ih =>
      intro z1 z2 mo_bits mx H locs ls hf hP hD hS hl
      have hf : f_X6_writeRuns_4_s (f_X6_writeRuns_4 n) n z1 z2 mo_start mo_many mo_bits mv mx = some res := hf
      unfold f_X6_writeRuns_4_s at hf
      refine lv_iload_n hx hb dX6_writeRuns_4 rfl (lv_at hl 2 rfl) ?_
      refine lv_aload_n hx hb dX6_writeRuns_5 rfl (lv_at hl 0 rfl) ?_
      refine va_get (D := D) (ci := 6) (v := .int mo_many) (C := RX6) (T := TX6) (N := 15) hx hb hts hin6 hown hK hP 0 rfl rfl 12 (by decide) (hts (.fieldLink RX6 77 "ColumnChooserModel" "many" "I") (List.mem_of_getElem? (i := 1) rfl)) (fun _ h9 => h9) rfl dX6_writeRuns_6 ?_
      refine lv_icmp_ge (tgt := 62) hx hb dX6_writeRuns_9 (by decide) (fun c11 => ?_) (fun c11 => ?_)
      · have hf := pr_pos hf c11
        obtain rfl := Option.some.inj hf
        exact hret _ _ _ _ dX6_writeRuns_62 (hP.sub [0, 1, 2] rfl) (hD.sub [0, 1, 2] (by decide) rfl) hS
      · have hf := pr_neg hf c11
        refine lv_iinc (v := (z1 + 1)) (lv' := [(1, .int (z1 + 1)), (0, .ref q_mo), (2, .int z2)]) hx hb dX6_writeRuns_12 hl (k := 1) rfl rfl (by decide) rfl (fun ls hl => ?_)
        refine lv_iload_n hx hb dX6_writeRuns_15 rfl (lv_at hl 2 rfl) ?_
        refine lv_iconst (v := 1) hx hb dX6_writeRuns_16 (by decide) ?_
        refine lv_iadd hx hb dX6_writeRuns_17 ?_
        refine lv_aload_n hx hb dX6_writeRuns_18 rfl (lv_at hl 1 rfl) ?_
        refine va_get (D := D) (ci := 6) (v := .int mo_many) (C := RX6) (T := TX6) (N := 15) hx hb hts hin6 hown hK hP 0 rfl rfl 12 (by decide) (hts (.fieldLink RX6 77 "ColumnChooserModel" "many" "I") (List.mem_of_getElem? (i := 1) rfl)) (fun _ h9 => h9) rfl dX6_writeRuns_19 ?_
        refine lv_icmp_ge (tgt := 38) hx hb dX6_writeRuns_22 (by decide) (fun c12 => ?_) (fun c12 => ?_)
        · have hf := pr_pos hf c12
          refine lv_aload_n hx hb dX6_writeRuns_38 rfl (lv_at hl 1 rfl) ?_
          refine lv_aload_n hx hb dX6_writeRuns_39 rfl (lv_at hl 1 rfl) ?_
          refine lv_iload_n hx hb dX6_writeRuns_40 rfl (lv_at hl 2 rfl) ?_
          obtain ⟨u13, hu13, hf⟩ := pr_bd hf
          refine fr_iV (As := [.int z2]) ⟨hx, hb, hml, hown, hts⟩ hK hP hD hS hA (c_X6_at l D cI q_mo q_mv q_me q_mk q_ma q_mb q_mw q_mx n z2 mo_thrown mo_rows mo_size mo_price mo_queries mo_start mo_many mo_bits mv u13 hu13) (cwV 1 hts gX6_writeRuns_X6_at rfl rfl rfl (by decide +kernel) ⟨Nat.le_of_ble_eq_true rfl, Nat.le_of_ble_eq_true rfl⟩) [(q_mx, .inl (cI, 2000, .inl mx))] [0, 1] [2] rfl rfl (by decide) (by decide) (by decide) 0 rfl rfl rfl rfl hl.1 (Nat.le_of_ble_eq_true rfl) dX6_writeRuns_41 ⟨Nat.zero_le _, Nat.zero_le _⟩ rfl (fun H locs hP hD hS => ?_)
          have hP : va_P D vwCl [(q_mx, .inl (cI, 2000, .inl mx)), (q_mo, .inr (6, [.int mo_thrown, .int mo_rows, .ref q_mv, .int mo_size, .ref q_me, .int mo_price, .int mo_queries, .ref q_mk, .ref q_ma, .ref q_mb, .ref q_mw, .int mo_start, .int mo_many, .int mo_bits, .ref q_mx])), (q_mv, .inl (cI, 96, .inl mv))] H := hP
          have hD : va_D A [(q_mx, .inl (cI, 2000, .inl mx)), (q_mo, .inr (6, [.int mo_thrown, .int mo_rows, .ref q_mv, .int mo_size, .ref q_me, .int mo_price, .int mo_queries, .ref q_mk, .ref q_ma, .ref q_mb, .ref q_mw, .int mo_start, .int mo_many, .int mo_bits, .ref q_mx])), (q_mv, .inl (cI, 96, .inl mv))] := hD
          obtain ⟨u14, hu14, hf⟩ := pr_bd hf
          refine fr_vV (As := [.int u13]) ⟨hx, hb, hml, hown, hts⟩ hK hP hD hS hA (c_X6_putValue l D cI q_mo q_mv q_me q_mk q_ma q_mb q_mw q_mx n u13 mo_thrown mo_rows mo_size mo_price mo_queries mo_start mo_many mo_bits mx u14 hu14) (cwV 1 hts gX6_writeRuns_X6_putValue rfl rfl rfl (by decide +kernel) ⟨Nat.le_of_ble_eq_true rfl, Nat.le_of_ble_eq_true rfl⟩) [(q_mv, .inl (cI, 96, .inl mv))] [1, 0] [2] rfl rfl (by decide) (by decide) (by decide) 0 rfl rfl rfl rfl hl.1 (Nat.le_of_ble_eq_true rfl) dX6_writeRuns_44 ⟨Nat.zero_le _, Nat.zero_le _⟩ rfl (fun H locs hP hD hS => ?_)
          have hP : va_P D vwCl [(q_mv, .inl (cI, 96, .inl mv)), (q_mo, .inr (6, [.int mo_thrown, .int mo_rows, .ref q_mv, .int mo_size, .ref q_me, .int mo_price, .int mo_queries, .ref q_mk, .ref q_ma, .ref q_mb, .ref q_mw, .int mo_start, .int mo_many, .int u14.1, .ref q_mx])), (q_mx, .inl (cI, 2000, .inl u14.2))] H := hP
          have hD : va_D A [(q_mv, .inl (cI, 96, .inl mv)), (q_mo, .inr (6, [.int mo_thrown, .int mo_rows, .ref q_mv, .int mo_size, .ref q_me, .int mo_price, .int mo_queries, .ref q_mk, .ref q_ma, .ref q_mb, .ref q_mw, .int mo_start, .int mo_many, .int u14.1, .ref q_mx])), (q_mx, .inl (cI, 2000, .inl u14.2))] := hD
          refine lv_aload_n hx hb dX6_writeRuns_47 rfl (lv_at hl 1 rfl) ?_
          refine lv_iload_n hx hb dX6_writeRuns_48 rfl (lv_at hl 0 rfl) ?_
          refine lv_bipush (v := 6) hx hb dX6_writeRuns_49 (by decide) ?_
          obtain ⟨u15, hu15, hf⟩ := pr_bd hf
          refine fr_vV (As := [.int (z1 + 1), .int 6]) ⟨hx, hb, hml, hown, hts⟩ hK hP hD hS hA (c_X6_put l D cI q_mo q_mv q_me q_mk q_ma q_mb q_mw q_mx n (z1 + 1) 6 mo_thrown mo_rows mo_size mo_price mo_queries mo_start mo_many u14.1 u14.2 u15 hu15) (cwV 2 hts gX6_writeRuns_X6_put rfl rfl rfl (by decide +kernel) ⟨Nat.le_of_ble_eq_true rfl, Nat.le_of_ble_eq_true rfl⟩) [(q_mv, .inl (cI, 96, .inl mv))] [1, 2] [0] rfl rfl (by decide) (by decide) (by decide) 0 rfl rfl rfl rfl hl.1 (Nat.le_of_ble_eq_true rfl) dX6_writeRuns_51 ⟨Nat.zero_le _, Nat.zero_le _⟩ rfl (fun H locs hP hD hS => ?_)
          have hP : va_P D vwCl [(q_mv, .inl (cI, 96, .inl mv)), (q_mo, .inr (6, [.int mo_thrown, .int mo_rows, .ref q_mv, .int mo_size, .ref q_me, .int mo_price, .int mo_queries, .ref q_mk, .ref q_ma, .ref q_mb, .ref q_mw, .int mo_start, .int mo_many, .int u15.1, .ref q_mx])), (q_mx, .inl (cI, 2000, .inl u15.2))] H := hP
          have hD : va_D A [(q_mv, .inl (cI, 96, .inl mv)), (q_mo, .inr (6, [.int mo_thrown, .int mo_rows, .ref q_mv, .int mo_size, .ref q_me, .int mo_price, .int mo_queries, .ref q_mk, .ref q_ma, .ref q_mb, .ref q_mw, .int mo_start, .int mo_many, .int u15.1, .ref q_mx])), (q_mx, .inl (cI, 2000, .inl u15.2))] := hD
          refine lv_iconst (v := 0) hx hb dX6_writeRuns_54 (by decide) ?_
          refine lv_istore_n (lv' := [(1, .int 0), (0, .ref q_mo), (2, .int z2)]) hx hb dX6_writeRuns_55 rfl hl (by decide) rfl (fun ls hl => ?_)
          refine lv_iinc (v := (z2 + 1)) (lv' := [(2, .int (z2 + 1)), (1, .int 0), (0, .ref q_mo)]) hx hb dX6_writeRuns_56 hl (k := 2) rfl rfl (by decide) rfl (fun ls hl => ?_)
          refine lv_goto (tgt := 4) hx hb dX6_writeRuns_59 (by decide) ?_
          exact ih _ _ _ _ _ _ ls hf (hP.sub [1, 0, 2] rfl) (hD.sub [1, 0, 2] (by decide) rfl) hS (lv_sub hl [2, 1, 0] rfl)
        · have hf := pr_neg hf c12
          refine lv_aload_n hx hb dX6_writeRuns_25 rfl (lv_at hl 1 rfl) ?_
          refine lv_iload_n hx hb dX6_writeRuns_26 rfl (lv_at hl 2 rfl) ?_
          refine lv_iconst (v := 1) hx hb dX6_writeRuns_27 (by decide) ?_
          refine lv_iadd hx hb dX6_writeRuns_28 ?_
          obtain ⟨u16, hu16, hf⟩ := pr_bd hf
          refine fr_iV (As := [.int (z2 + 1)]) ⟨hx, hb, hml, hown, hts⟩ hK hP hD hS hA (c_X6_isNewRun l D cI q_mo q_mv q_me q_mk q_ma q_mb q_mw q_mx n (z2 + 1) mo_thrown mo_rows mo_size mo_price mo_queries mo_start mo_many mo_bits mv u16 hu16) (cwV 1 hts gX6_writeRuns_X6_isNewRun rfl rfl rfl (by decide +kernel) ⟨Nat.le_of_ble_eq_true rfl, Nat.le_of_ble_eq_true rfl⟩) [(q_mx, .inl (cI, 2000, .inl mx))] [0, 1] [2] rfl rfl (by decide) (by decide) (by decide) 0 rfl rfl rfl rfl hl.1 (Nat.le_of_ble_eq_true rfl) dX6_writeRuns_29 ⟨Nat.zero_le _, Nat.zero_le _⟩ rfl (fun H locs hP hD hS => ?_)
          have hP : va_P D vwCl [(q_mx, .inl (cI, 2000, .inl mx)), (q_mo, .inr (6, [.int mo_thrown, .int mo_rows, .ref q_mv, .int mo_size, .ref q_me, .int mo_price, .int mo_queries, .ref q_mk, .ref q_ma, .ref q_mb, .ref q_mw, .int mo_start, .int mo_many, .int mo_bits, .ref q_mx])), (q_mv, .inl (cI, 96, .inl mv))] H := hP
          have hD : va_D A [(q_mx, .inl (cI, 2000, .inl mx)), (q_mo, .inr (6, [.int mo_thrown, .int mo_rows, .ref q_mv, .int mo_size, .ref q_me, .int mo_price, .int mo_queries, .ref q_mk, .ref q_ma, .ref q_mb, .ref q_mw, .int mo_start, .int mo_many, .int mo_bits, .ref q_mx])), (q_mv, .inl (cI, 96, .inl mv))] := hD
          refine lv_if_ne (tgt := 38) hx hb dX6_writeRuns_32 (by decide) (fun c17 => ?_) (fun c17 => ?_)
          · have hf := pr_neg hf c17
            refine lv_aload_n hx hb dX6_writeRuns_38 rfl (lv_at hl 1 rfl) ?_
            refine lv_aload_n hx hb dX6_writeRuns_39 rfl (lv_at hl 1 rfl) ?_
            refine lv_iload_n hx hb dX6_writeRuns_40 rfl (lv_at hl 2 rfl) ?_
            obtain ⟨u18, hu18, hf⟩ := pr_bd hf
            refine fr_iV (As := [.int z2]) ⟨hx, hb, hml, hown, hts⟩ hK hP hD hS hA (c_X6_at l D cI q_mo q_mv q_me q_mk q_ma q_mb q_mw q_mx n z2 mo_thrown mo_rows mo_size mo_price mo_queries mo_start mo_many mo_bits mv u18 hu18) (cwV 1 hts gX6_writeRuns_X6_at rfl rfl rfl (by decide +kernel) ⟨Nat.le_of_ble_eq_true rfl, Nat.le_of_ble_eq_true rfl⟩) [(q_mx, .inl (cI, 2000, .inl mx))] [1, 2] [0] rfl rfl (by decide) (by decide) (by decide) 0 rfl rfl rfl rfl hl.1 (Nat.le_of_ble_eq_true rfl) dX6_writeRuns_41 ⟨Nat.zero_le _, Nat.zero_le _⟩ rfl (fun H locs hP hD hS => ?_)
            have hP : va_P D vwCl [(q_mx, .inl (cI, 2000, .inl mx)), (q_mo, .inr (6, [.int mo_thrown, .int mo_rows, .ref q_mv, .int mo_size, .ref q_me, .int mo_price, .int mo_queries, .ref q_mk, .ref q_ma, .ref q_mb, .ref q_mw, .int mo_start, .int mo_many, .int mo_bits, .ref q_mx])), (q_mv, .inl (cI, 96, .inl mv))] H := hP
            have hD : va_D A [(q_mx, .inl (cI, 2000, .inl mx)), (q_mo, .inr (6, [.int mo_thrown, .int mo_rows, .ref q_mv, .int mo_size, .ref q_me, .int mo_price, .int mo_queries, .ref q_mk, .ref q_ma, .ref q_mb, .ref q_mw, .int mo_start, .int mo_many, .int mo_bits, .ref q_mx])), (q_mv, .inl (cI, 96, .inl mv))] := hD
            obtain ⟨u19, hu19, hf⟩ := pr_bd hf
            refine fr_vV (As := [.int u18]) ⟨hx, hb, hml, hown, hts⟩ hK hP hD hS hA (c_X6_putValue l D cI q_mo q_mv q_me q_mk q_ma q_mb q_mw q_mx n u18 mo_thrown mo_rows mo_size mo_price mo_queries mo_start mo_many mo_bits mx u19 hu19) (cwV 1 hts gX6_writeRuns_X6_putValue rfl rfl rfl (by decide +kernel) ⟨Nat.le_of_ble_eq_true rfl, Nat.le_of_ble_eq_true rfl⟩) [(q_mv, .inl (cI, 96, .inl mv))] [1, 0] [2] rfl rfl (by decide) (by decide) (by decide) 0 rfl rfl rfl rfl hl.1 (Nat.le_of_ble_eq_true rfl) dX6_writeRuns_44 ⟨Nat.zero_le _, Nat.zero_le _⟩ rfl (fun H locs hP hD hS => ?_)
            have hP : va_P D vwCl [(q_mv, .inl (cI, 96, .inl mv)), (q_mo, .inr (6, [.int mo_thrown, .int mo_rows, .ref q_mv, .int mo_size, .ref q_me, .int mo_price, .int mo_queries, .ref q_mk, .ref q_ma, .ref q_mb, .ref q_mw, .int mo_start, .int mo_many, .int u19.1, .ref q_mx])), (q_mx, .inl (cI, 2000, .inl u19.2))] H := hP
            have hD : va_D A [(q_mv, .inl (cI, 96, .inl mv)), (q_mo, .inr (6, [.int mo_thrown, .int mo_rows, .ref q_mv, .int mo_size, .ref q_me, .int mo_price, .int mo_queries, .ref q_mk, .ref q_ma, .ref q_mb, .ref q_mw, .int mo_start, .int mo_many, .int u19.1, .ref q_mx])), (q_mx, .inl (cI, 2000, .inl u19.2))] := hD
            refine lv_aload_n hx hb dX6_writeRuns_47 rfl (lv_at hl 1 rfl) ?_
            refine lv_iload_n hx hb dX6_writeRuns_48 rfl (lv_at hl 0 rfl) ?_
            refine lv_bipush (v := 6) hx hb dX6_writeRuns_49 (by decide) ?_
            obtain ⟨u20, hu20, hf⟩ := pr_bd hf
            refine fr_vV (As := [.int (z1 + 1), .int 6]) ⟨hx, hb, hml, hown, hts⟩ hK hP hD hS hA (c_X6_put l D cI q_mo q_mv q_me q_mk q_ma q_mb q_mw q_mx n (z1 + 1) 6 mo_thrown mo_rows mo_size mo_price mo_queries mo_start mo_many u19.1 u19.2 u20 hu20) (cwV 2 hts gX6_writeRuns_X6_put rfl rfl rfl (by decide +kernel) ⟨Nat.le_of_ble_eq_true rfl, Nat.le_of_ble_eq_true rfl⟩) [(q_mv, .inl (cI, 96, .inl mv))] [1, 2] [0] rfl rfl (by decide) (by decide) (by decide) 0 rfl rfl rfl rfl hl.1 (Nat.le_of_ble_eq_true rfl) dX6_writeRuns_51 ⟨Nat.zero_le _, Nat.zero_le _⟩ rfl (fun H locs hP hD hS => ?_)
            have hP : va_P D vwCl [(q_mv, .inl (cI, 96, .inl mv)), (q_mo, .inr (6, [.int mo_thrown, .int mo_rows, .ref q_mv, .int mo_size, .ref q_me, .int mo_price, .int mo_queries, .ref q_mk, .ref q_ma, .ref q_mb, .ref q_mw, .int mo_start, .int mo_many, .int u20.1, .ref q_mx])), (q_mx, .inl (cI, 2000, .inl u20.2))] H := hP
            have hD : va_D A [(q_mv, .inl (cI, 96, .inl mv)), (q_mo, .inr (6, [.int mo_thrown, .int mo_rows, .ref q_mv, .int mo_size, .ref q_me, .int mo_price, .int mo_queries, .ref q_mk, .ref q_ma, .ref q_mb, .ref q_mw, .int mo_start, .int mo_many, .int u20.1, .ref q_mx])), (q_mx, .inl (cI, 2000, .inl u20.2))] := hD
            refine lv_iconst (v := 0) hx hb dX6_writeRuns_54 (by decide) ?_
            refine lv_istore_n (lv' := [(1, .int 0), (0, .ref q_mo), (2, .int z2)]) hx hb dX6_writeRuns_55 rfl hl (by decide) rfl (fun ls hl => ?_)
            refine lv_iinc (v := (z2 + 1)) (lv' := [(2, .int (z2 + 1)), (1, .int 0), (0, .ref q_mo)]) hx hb dX6_writeRuns_56 hl (k := 2) rfl rfl (by decide) rfl (fun ls hl => ?_)
            refine lv_goto (tgt := 4) hx hb dX6_writeRuns_59 (by decide) ?_
            exact ih _ _ _ _ _ _ ls hf (hP.sub [1, 0, 2] rfl) (hD.sub [1, 0, 2] (by decide) rfl) hS (lv_sub hl [2, 1, 0] rfl)
          · have hf := pr_pos hf c17
            refine lv_goto (tgt := 56) hx hb dX6_writeRuns_35 (by decide) ?_
            refine lv_iinc (v := (z2 + 1)) (lv' := [(2, .int (z2 + 1)), (1, .int (z1 + 1)), (0, .ref q_mo)]) hx hb dX6_writeRuns_56 hl (k := 2) rfl rfl (by decide) rfl (fun ls hl => ?_)
            refine lv_goto (tgt := 4) hx hb dX6_writeRuns_59 (by decide) ?_
            exact ih _ _ _ _ _ _ ls hf (hP.sub [1, 2, 0] rfl) (hD.sub [1, 2, 0] (by decide) rfl) hS (lv_sub hl [2, 1, 0] rfl)
  unfold f_X6_writeRuns at hf
  refine lv_iconst (v := 0) hx hb dX6_writeRuns_0 (by decide) ?_
  refine lv_istore_n (lv' := [(1, .int 0), (0, .ref q_mo)]) hx hb dX6_writeRuns_1 rfl hl (by decide) rfl (fun ls hl => ?_)
  refine lv_iconst (v := 0) hx hb dX6_writeRuns_2 (by decide) ?_
  refine lv_istore_n (lv' := [(2, .int 0), (1, .int 0), (0, .ref q_mo)]) hx hb dX6_writeRuns_3 rfl hl (by decide) rfl (fun ls hl => ?_)
  exact k_4 n _ _ _ _ _ _ ls hf (hP.sub [0, 1, 2] rfl) (hD.sub [0, 1, 2] (by decide) rfl) hS (lv_sub hl [2, 1, 0] rfl)
set_option maxHeartbeats 4000000 in
set_option maxRecDepth 100000 in
theorem c_X6_writeDictionary (l : Launch) (D : va_G) (cI : ClassId) (q_mo q_mv q_me q_mk q_ma q_mb q_mw q_mx : Nat) (n : Nat) (mo_thrown : Int32) (mo_rows : Int32) (mo_size : Int32) (mo_price : Int32) (mo_queries : Int32) (mo_start : Int32) (mo_many : Int32) (mo_bits : Int32) (mv : (Nat → Int32)) (mx : (Nat → Int32)) (res : Int32 × (Nat → Int32)) (hf : f_X6_writeDictionary n mo_start mo_many mo_bits mv mx = some res) : fr_Cv l yX6_writeDictionary wsX6_writeDictionary ({ frames := 3, cells := 0, slots := 0, locals := 66 }) D [(cI, .int)] [.ref q_mo] [(q_mo, .inr (6, [.int mo_thrown, .int mo_rows, .ref q_mv, .int mo_size, .ref q_me, .int mo_price, .int mo_queries, .ref q_mk, .ref q_ma, .ref q_mb, .ref q_mw, .int mo_start, .int mo_many, .int mo_bits, .ref q_mx])), (q_mv, .inl (cI, 96, .inl mv)), (q_mx, .inl (cI, 2000, .inl mx))] [(q_mo, .inr (6, [.int mo_thrown, .int mo_rows, .ref q_mv, .int mo_size, .ref q_me, .int mo_price, .int mo_queries, .ref q_mk, .ref q_ma, .ref q_mb, .ref q_mw, .int mo_start, .int mo_many, .int res.1, .ref q_mx])), (q_mv, .inl (cI, 96, .inl mv)), (q_mx, .inl (cI, 2000, .inl res.2))] := by
  refine fr_open_v (cc := cX6_writeDictionary) (maxL := 4) (by decide +kernel) rfl (Nat.le_of_ble_eq_true rfl) ?_
  intro p e s m below meth c A Q ls hx hb hml hown hts hA hK hP hD hS hl hret
  have hown : s.vm.findClass RX6 = some m.cls := hown
  have hl : lv_has ls 4 [(0, .ref q_mo)] := hl
  have hin6 : ∀ w ∈ u_ws RX6 TX6 15, w ∈ wsX6_writeDictionary := fun _ h9 => List.mem_cons_of_mem _ (List.mem_append_right _ h9)
  have k_57 : ∀ (n : Nat), (∀ (z1 : Int32) (z2 : Int32) (mo_bits : Int32) (mx : (Nat → Int32)) (H : Heap) (locs : List Loc) (ls : Array Slot), f_X6_writeDictionary_57 n z1 z2 mo_start mo_many mo_bits mv mx = some res → va_P D vwCl [(q_mo, .inr (6, [.int mo_thrown, .int mo_rows, .ref q_mv, .int mo_size, .ref q_me, .int mo_price, .int mo_queries, .ref q_mk, .ref q_ma, .ref q_mb, .ref q_mw, .int mo_start, .int mo_many, .int mo_bits, .ref q_mx])), (q_mv, .inl (cI, 96, .inl mv)), (q_mx, .inl (cI, 2000, .inl mx))] H → va_D A [(q_mo, .inr (6, [.int mo_thrown, .int mo_rows, .ref q_mv, .int mo_size, .ref q_me, .int mo_price, .int mo_queries, .ref q_mk, .ref q_ma, .ref q_mb, .ref q_mw, .int mo_start, .int mo_many, .int mo_bits, .ref q_mx])), (q_mv, .inl (cI, 96, .inl mv)), (q_mx, .inl (cI, 2000, .inl mx))] → va_S A s.heap H locs → lv_has ls 4 [(0, .ref q_mo), (1, .int z1), (2, .int z2)] → W p l e ({ frames := 3, cells := 0, slots := 0, locals := 66 }) s m ([.ref q_mo] : List Value).toArray below meth c H locs 0 0 Q (F0 m 57 ls [])) := by
    intro n
    induction n with
    | zero =>
      intro z1 z2 mo_bits mx H locs ls hf hP hD hS hl
      exact absurd (show (none : Option (Int32 × (Nat → Int32))) = some res from hf) (by simp)
    | succ n ih =>
      intro z1 z2 mo_bits mx H locs ls hf hP hD hS hl
      have hf : f_X6_writeDictionary_57_s (f_X6_writeDictionary_57 n) n z1 z2 mo_start mo_many mo_bits mv mx = some res := hf
      unfold f_X6_writeDictionary_57_s at hf
      refine lv_iload_n hx hb dX6_writeDictionary_57 rfl (lv_at hl 2 rfl) ?_
      refine lv_aload_n hx hb dX6_writeDictionary_58 rfl (lv_at hl 0 rfl) ?_
      refine va_get (D := D) (ci := 6) (v := .int mo_many) (C := RX6) (T := TX6) (N := 15) hx hb hts hin6 hown hK hP 0 rfl rfl 12 (by decide) (hts (.fieldLink RX6 77 "ColumnChooserModel" "many" "I") (List.mem_of_getElem? (i := 1) rfl)) (fun _ h9 => h9) rfl dX6_writeDictionary_59 ?_
      refine lv_icmp_ge (tgt := 91) hx hb dX6_writeDictionary_62 (by decide) (fun c14 => ?_) (fun c14 => ?_)
      · have hf := pr_pos hf c14
        obtain rfl := Option.some.inj hf
        exact hret _ _ _ _ dX6_writeDictionary_91 (hP.sub [0, 1, 2] rfl) (hD.sub [0, 1, 2] (by decide) rfl) hS
      · have hf := pr_neg hf c14
        refine lv_aload_n hx hb dX6_writeDictionary_65 rfl (lv_at hl 0 rfl) ?_
        refine lv_aload_n hx hb dX6_writeDictionary_66 rfl (lv_at hl 0 rfl) ?_
        refine lv_aload_n hx hb dX6_writeDictionary_67 rfl (lv_at hl 0 rfl) ?_
        refine lv_iload_n hx hb dX6_writeDictionary_68 rfl (lv_at hl 2 rfl) ?_
        obtain ⟨u15, hu15, hf⟩ := pr_bd hf
        refine fr_iV (As := [.int z2]) ⟨hx, hb, hml, hown, hts⟩ hK hP hD hS hA (c_X6_at l D cI q_mo q_mv q_me q_mk q_ma q_mb q_mw q_mx n z2 mo_thrown mo_rows mo_size mo_price mo_queries mo_start mo_many mo_bits mv u15 hu15) (cwV 1 hts gX6_writeDictionary_X6_at rfl rfl rfl (by decide +kernel) ⟨Nat.le_of_ble_eq_true rfl, Nat.le_of_ble_eq_true rfl⟩) [(q_mx, .inl (cI, 2000, .inl mx))] [0, 1] [2] rfl rfl (by decide) (by decide) (by decide) 0 rfl rfl rfl rfl hl.1 (Nat.le_of_ble_eq_true rfl) dX6_writeDictionary_69 ⟨Nat.zero_le _, Nat.zero_le _⟩ rfl (fun H locs hP hD hS => ?_)
        have hP : va_P D vwCl [(q_mx, .inl (cI, 2000, .inl mx)), (q_mo, .inr (6, [.int mo_thrown, .int mo_rows, .ref q_mv, .int mo_size, .ref q_me, .int mo_price, .int mo_queries, .ref q_mk, .ref q_ma, .ref q_mb, .ref q_mw, .int mo_start, .int mo_many, .int mo_bits, .ref q_mx])), (q_mv, .inl (cI, 96, .inl mv))] H := hP
        have hD : va_D A [(q_mx, .inl (cI, 2000, .inl mx)), (q_mo, .inr (6, [.int mo_thrown, .int mo_rows, .ref q_mv, .int mo_size, .ref q_me, .int mo_price, .int mo_queries, .ref q_mk, .ref q_ma, .ref q_mb, .ref q_mw, .int mo_start, .int mo_many, .int mo_bits, .ref q_mx])), (q_mv, .inl (cI, 96, .inl mv))] := hD
        obtain ⟨u16, hu16, hf⟩ := pr_bd hf
        refine fr_iV (As := [.int u15]) ⟨hx, hb, hml, hown, hts⟩ hK hP hD hS hA (c_X6_differentBelow l D cI q_mo q_mv q_me q_mk q_ma q_mb q_mw q_mx n u15 mo_thrown mo_rows mo_size mo_price mo_queries mo_start mo_many mo_bits mv u16 hu16) (cwV 1 hts gX6_writeDictionary_X6_differentBelow rfl rfl rfl (by decide +kernel) ⟨Nat.le_of_ble_eq_true rfl, Nat.le_of_ble_eq_true rfl⟩) [(q_mx, .inl (cI, 2000, .inl mx))] [1, 2] [0] rfl rfl (by decide) (by decide) (by decide) 0 rfl rfl rfl rfl hl.1 (Nat.le_of_ble_eq_true rfl) dX6_writeDictionary_72 ⟨Nat.zero_le _, Nat.zero_le _⟩ rfl (fun H locs hP hD hS => ?_)
        have hP : va_P D vwCl [(q_mx, .inl (cI, 2000, .inl mx)), (q_mo, .inr (6, [.int mo_thrown, .int mo_rows, .ref q_mv, .int mo_size, .ref q_me, .int mo_price, .int mo_queries, .ref q_mk, .ref q_ma, .ref q_mb, .ref q_mw, .int mo_start, .int mo_many, .int mo_bits, .ref q_mx])), (q_mv, .inl (cI, 96, .inl mv))] H := hP
        have hD : va_D A [(q_mx, .inl (cI, 2000, .inl mx)), (q_mo, .inr (6, [.int mo_thrown, .int mo_rows, .ref q_mv, .int mo_size, .ref q_me, .int mo_price, .int mo_queries, .ref q_mk, .ref q_ma, .ref q_mb, .ref q_mw, .int mo_start, .int mo_many, .int mo_bits, .ref q_mx])), (q_mv, .inl (cI, 96, .inl mv))] := hD
        refine lv_iload_n hx hb dX6_writeDictionary_75 rfl (lv_at hl 1 rfl) ?_
        refine lv_iconst (v := 1) hx hb dX6_writeDictionary_76 (by decide) ?_
        refine lv_isub hx hb dX6_writeDictionary_77 ?_
        refine lv_i2l hx hb dX6_writeDictionary_78 rfl ?_
        obtain ⟨u17, hu17, hf⟩ := pr_bd hf
        refine fr_iS (As := [.long (z1 - 1).toInt64]) ⟨hx, hb, hml, hown, hts⟩ hK hP hD hS hA (c_X6_width l D cI n ((z1 - 1).toInt64) u17 hu17) (va_cwS 1 hts gX6_writeDictionary_X6_width rfl rfl rfl (by decide +kernel) ⟨Nat.le_of_ble_eq_true rfl, Nat.le_of_ble_eq_true rfl⟩) [(q_mx, .inl (cI, 2000, .inl mx)), (q_mo, .inr (6, [.int mo_thrown, .int mo_rows, .ref q_mv, .int mo_size, .ref q_me, .int mo_price, .int mo_queries, .ref q_mk, .ref q_ma, .ref q_mb, .ref q_mw, .int mo_start, .int mo_many, .int mo_bits, .ref q_mx])), (q_mv, .inl (cI, 96, .inl mv))] [] [0, 1, 2] rfl rfl (by decide) (by decide) (by decide) rfl hl.1 (Nat.le_of_ble_eq_true rfl) dX6_writeDictionary_79 ⟨Nat.zero_le _, Nat.zero_le _⟩ rfl (fun H locs hP hD hS => ?_)
        have hP : va_P D vwCl [(q_mx, .inl (cI, 2000, .inl mx)), (q_mo, .inr (6, [.int mo_thrown, .int mo_rows, .ref q_mv, .int mo_size, .ref q_me, .int mo_price, .int mo_queries, .ref q_mk, .ref q_ma, .ref q_mb, .ref q_mw, .int mo_start, .int mo_many, .int mo_bits, .ref q_mx])), (q_mv, .inl (cI, 96, .inl mv))] H := hP
        have hD : va_D A [(q_mx, .inl (cI, 2000, .inl mx)), (q_mo, .inr (6, [.int mo_thrown, .int mo_rows, .ref q_mv, .int mo_size, .ref q_me, .int mo_price, .int mo_queries, .ref q_mk, .ref q_ma, .ref q_mb, .ref q_mw, .int mo_start, .int mo_many, .int mo_bits, .ref q_mx])), (q_mv, .inl (cI, 96, .inl mv))] := hD
        obtain ⟨u18, hu18, hf⟩ := pr_bd hf
        refine fr_vV (As := [.int u16, .int u17]) ⟨hx, hb, hml, hown, hts⟩ hK hP hD hS hA (c_X6_put l D cI q_mo q_mv q_me q_mk q_ma q_mb q_mw q_mx n u16 u17 mo_thrown mo_rows mo_size mo_price mo_queries mo_start mo_many mo_bits mx u18 hu18) (cwV 2 hts gX6_writeDictionary_X6_put rfl rfl rfl (by decide +kernel) ⟨Nat.le_of_ble_eq_true rfl, Nat.le_of_ble_eq_true rfl⟩) [(q_mv, .inl (cI, 96, .inl mv))] [1, 0] [2] rfl rfl (by decide) (by decide) (by decide) 0 rfl rfl rfl rfl hl.1 (Nat.le_of_ble_eq_true rfl) dX6_writeDictionary_82 ⟨Nat.zero_le _, Nat.zero_le _⟩ rfl (fun H locs hP hD hS => ?_)
        have hP : va_P D vwCl [(q_mv, .inl (cI, 96, .inl mv)), (q_mo, .inr (6, [.int mo_thrown, .int mo_rows, .ref q_mv, .int mo_size, .ref q_me, .int mo_price, .int mo_queries, .ref q_mk, .ref q_ma, .ref q_mb, .ref q_mw, .int mo_start, .int mo_many, .int u18.1, .ref q_mx])), (q_mx, .inl (cI, 2000, .inl u18.2))] H := hP
        have hD : va_D A [(q_mv, .inl (cI, 96, .inl mv)), (q_mo, .inr (6, [.int mo_thrown, .int mo_rows, .ref q_mv, .int mo_size, .ref q_me, .int mo_price, .int mo_queries, .ref q_mk, .ref q_ma, .ref q_mb, .ref q_mw, .int mo_start, .int mo_many, .int u18.1, .ref q_mx])), (q_mx, .inl (cI, 2000, .inl u18.2))] := hD
        refine lv_iinc (v := (z2 + 1)) (lv' := [(2, .int (z2 + 1)), (0, .ref q_mo), (1, .int z1)]) hx hb dX6_writeDictionary_85 hl (k := 2) rfl rfl (by decide) rfl (fun ls hl => ?_)
        refine lv_goto (tgt := 57) hx hb dX6_writeDictionary_88 (by decide) ?_
        exact ih _ _ _ _ _ _ ls hf (hP.sub [1, 0, 2] rfl) (hD.sub [1, 0, 2] (by decide) rfl) hS (lv_sub hl [1, 2, 0] rfl)
  have k_14 : ∀ (n : Nat), (∀ (z1 : Int32) (z2 : Int32) (z3 : Int32) (mo_bits : Int32) (mx : (Nat → Int32)) (H : Heap) (locs : List Loc) (ls : Array Slot), f_X6_writeDictionary_14 n 14 z1 z2 z3 mo_start mo_many mo_bits mv mx = some res → va_P D vwCl [(q_mo, .inr (6, [.int mo_thrown, .int mo_rows, .ref q_mv, .int mo_size, .ref q_me, .int mo_price, .int mo_queries, .ref q_mk, .ref q_ma, .ref q_mb, .ref q_mw, .int mo_start, .int mo_many, .int mo_bits, .ref q_mx])), (q_mv, .inl (cI, 96, .inl mv)), (q_mx, .inl (cI, 2000, .inl mx))] H → va_D A [(q_mo, .inr (6, [.int mo_thrown, .int mo_rows, .ref q_mv, .int mo_size, .ref q_me, .int mo_price, .int mo_queries, .ref q_mk, .ref q_ma, .ref q_mb, .ref q_mw, .int mo_start, .int mo_many, .int mo_bits, .ref q_mx])), (q_mv, .inl (cI, 96, .inl mv)), (q_mx, .inl (cI, 2000, .inl mx))] → va_S A s.heap H locs → lv_has ls 4 [(0, .ref q_mo), (1, .int z1), (2, .int z2)] → W p l e ({ frames := 3, cells := 0, slots := 0, locals := 66 }) s m ([.ref q_mo] : List Value).toArray below meth c H locs 0 0 Q (F0 m 14 ls [])) ∧ (∀ (z1 : Int32) (z2 : Int32) (z3 : Int32) (mo_bits : Int32) (mx : (Nat → Int32)) (H : Heap) (locs : List Loc) (ls : Array Slot), f_X6_writeDictionary_14 n 21 z1 z2 z3 mo_start mo_many mo_bits mv mx = some res → va_P D vwCl [(q_mo, .inr (6, [.int mo_thrown, .int mo_rows, .ref q_mv, .int mo_size, .ref q_me, .int mo_price, .int mo_queries, .ref q_mk, .ref q_ma, .ref q_mb, .ref q_mw, .int mo_start, .int mo_many, .int mo_bits, .ref q_mx])), (q_mv, .inl (cI, 96, .inl mv)), (q_mx, .inl (cI, 2000, .inl mx))] H → va_D A [(q_mo, .inr (6, [.int mo_thrown, .int mo_rows, .ref q_mv, .int mo_size, .ref q_me, .int mo_price, .int mo_queries, .ref q_mk, .ref q_ma, .ref q_mb, .ref q_mw, .int mo_start, .int mo_many, .int mo_bits, .ref q_mx])), (q_mv, .inl (cI, 96, .inl mv)), (q_mx, .inl (cI, 2000, .inl mx))] → va_S A s.heap H locs → lv_has ls 4 [(0, .ref q_mo), (1, .int z1), (2, .int z2), (3, .int z3)] → W p l e ({ frames := 3, cells := 0, slots := 0, locals := 66 }) s m ([.ref q_mo] : List Value).toArray below meth c H locs 0 0 Q (F0 m 21 ls [])) := by
    intro n
    induction n with
    | zero =>
      refine ⟨?_, ?_⟩
      · intro z1 z2 z3 mo_bits mx H locs ls hf hP hD hS hl
        exact absurd (show (none : Option (Int32 × (Nat → Int32))) = some res from hf) (by simp)
      · intro z1 z2 z3 mo_bits mx H locs ls hf hP hD hS hl
        exact absurd (show (none : Option (Int32 × (Nat → Int32))) = some res from hf) (by simp)
    | succ n ih =>
      refine ⟨?_, ?_⟩
      · intro z1 z2 z3 mo_bits mx H locs ls hf hP hD hS hl
        have hf : f_X6_writeDictionary_14_s (f_X6_writeDictionary_14 n) n 14 z1 z2 z3 mo_start mo_many mo_bits mv mx = some res := hf
        unfold f_X6_writeDictionary_14_s at hf
        have hf := pr_pos hf rfl
        refine lv_iload_n hx hb dX6_writeDictionary_14 rfl (lv_at hl 2 rfl) ?_
        refine lv_iload_n hx hb dX6_writeDictionary_15 rfl (lv_at hl 1 rfl) ?_
        refine lv_icmp_ge (tgt := 55) hx hb dX6_writeDictionary_16 (by decide) (fun c19 => ?_) (fun c19 => ?_)
        · have hf := pr_pos hf c19
          refine lv_iconst (v := 0) hx hb dX6_writeDictionary_55 (by decide) ?_
          refine lv_istore_n (lv' := [(2, .int 0), (0, .ref q_mo), (1, .int z1)]) hx hb dX6_writeDictionary_56 rfl hl (by decide) rfl (fun ls hl => ?_)
          exact k_57 n _ _ _ _ _ _ ls hf (hP.sub [0, 1, 2] rfl) (hD.sub [0, 1, 2] (by decide) rfl) hS (lv_sub hl [1, 2, 0] rfl)
        · have hf := pr_neg hf c19
          refine lv_iconst (v := 0) hx hb dX6_writeDictionary_19 (by decide) ?_
          refine lv_istore_n (lv' := [(3, .int 0), (0, .ref q_mo), (1, .int z1), (2, .int z2)]) hx hb dX6_writeDictionary_20 rfl hl (by decide) rfl (fun ls hl => ?_)
          exact ih.2 _ _ _ _ _ _ _ ls hf (hP.sub [0, 1, 2] rfl) (hD.sub [0, 1, 2] (by decide) rfl) hS (lv_sub hl [1, 2, 3, 0] rfl)
      · intro z1 z2 z3 mo_bits mx H locs ls hf hP hD hS hl
        have hf : f_X6_writeDictionary_14_s (f_X6_writeDictionary_14 n) n 21 z1 z2 z3 mo_start mo_many mo_bits mv mx = some res := hf
        unfold f_X6_writeDictionary_14_s at hf
        have hf := pr_neg hf (by decide)
        refine lv_aload_n hx hb dX6_writeDictionary_21 rfl (lv_at hl 0 rfl) ?_
        refine lv_aload_n hx hb dX6_writeDictionary_22 rfl (lv_at hl 0 rfl) ?_
        refine lv_iload_n hx hb dX6_writeDictionary_23 rfl (lv_at hl 3 rfl) ?_
        obtain ⟨u20, hu20, hf⟩ := pr_bd hf
        refine fr_iV (As := [.int z3]) ⟨hx, hb, hml, hown, hts⟩ hK hP hD hS hA (c_X6_at l D cI q_mo q_mv q_me q_mk q_ma q_mb q_mw q_mx n z3 mo_thrown mo_rows mo_size mo_price mo_queries mo_start mo_many mo_bits mv u20 hu20) (cwV 1 hts gX6_writeDictionary_X6_at rfl rfl rfl (by decide +kernel) ⟨Nat.le_of_ble_eq_true rfl, Nat.le_of_ble_eq_true rfl⟩) [(q_mx, .inl (cI, 2000, .inl mx))] [0, 1] [2] rfl rfl (by decide) (by decide) (by decide) 0 rfl rfl rfl rfl hl.1 (Nat.le_of_ble_eq_true rfl) dX6_writeDictionary_24 ⟨Nat.zero_le _, Nat.zero_le _⟩ rfl (fun H locs hP hD hS => ?_)
        have hP : va_P D vwCl [(q_mx, .inl (cI, 2000, .inl mx)), (q_mo, .inr (6, [.int mo_thrown, .int mo_rows, .ref q_mv, .int mo_size, .ref q_me, .int mo_price, .int mo_queries, .ref q_mk, .ref q_ma, .ref q_mb, .ref q_mw, .int mo_start, .int mo_many, .int mo_bits, .ref q_mx])), (q_mv, .inl (cI, 96, .inl mv))] H := hP
        have hD : va_D A [(q_mx, .inl (cI, 2000, .inl mx)), (q_mo, .inr (6, [.int mo_thrown, .int mo_rows, .ref q_mv, .int mo_size, .ref q_me, .int mo_price, .int mo_queries, .ref q_mk, .ref q_ma, .ref q_mb, .ref q_mw, .int mo_start, .int mo_many, .int mo_bits, .ref q_mx])), (q_mv, .inl (cI, 96, .inl mv))] := hD
        obtain ⟨u21, hu21, hf⟩ := pr_bd hf
        refine fr_iV (As := [.int u20]) ⟨hx, hb, hml, hown, hts⟩ hK hP hD hS hA (c_X6_differentBelow l D cI q_mo q_mv q_me q_mk q_ma q_mb q_mw q_mx n u20 mo_thrown mo_rows mo_size mo_price mo_queries mo_start mo_many mo_bits mv u21 hu21) (cwV 1 hts gX6_writeDictionary_X6_differentBelow rfl rfl rfl (by decide +kernel) ⟨Nat.le_of_ble_eq_true rfl, Nat.le_of_ble_eq_true rfl⟩) [(q_mx, .inl (cI, 2000, .inl mx))] [1, 2] [0] rfl rfl (by decide) (by decide) (by decide) 0 rfl rfl rfl rfl hl.1 (Nat.le_of_ble_eq_true rfl) dX6_writeDictionary_27 ⟨Nat.zero_le _, Nat.zero_le _⟩ rfl (fun H locs hP hD hS => ?_)
        have hP : va_P D vwCl [(q_mx, .inl (cI, 2000, .inl mx)), (q_mo, .inr (6, [.int mo_thrown, .int mo_rows, .ref q_mv, .int mo_size, .ref q_me, .int mo_price, .int mo_queries, .ref q_mk, .ref q_ma, .ref q_mb, .ref q_mw, .int mo_start, .int mo_many, .int mo_bits, .ref q_mx])), (q_mv, .inl (cI, 96, .inl mv))] H := hP
        have hD : va_D A [(q_mx, .inl (cI, 2000, .inl mx)), (q_mo, .inr (6, [.int mo_thrown, .int mo_rows, .ref q_mv, .int mo_size, .ref q_me, .int mo_price, .int mo_queries, .ref q_mk, .ref q_ma, .ref q_mb, .ref q_mw, .int mo_start, .int mo_many, .int mo_bits, .ref q_mx])), (q_mv, .inl (cI, 96, .inl mv))] := hD
        refine lv_iload_n hx hb dX6_writeDictionary_30 rfl (lv_at hl 2 rfl) ?_
        refine lv_icmp_eq (tgt := 40) hx hb dX6_writeDictionary_31 (by decide) (fun c22 => ?_) (fun c22 => ?_)
        · have hf := pr_pos hf c22
          refine lv_aload_n hx hb dX6_writeDictionary_40 rfl (lv_at hl 0 rfl) ?_
          refine lv_aload_n hx hb dX6_writeDictionary_41 rfl (lv_at hl 0 rfl) ?_
          refine lv_iload_n hx hb dX6_writeDictionary_42 rfl (lv_at hl 3 rfl) ?_
          obtain ⟨u23, hu23, hf⟩ := pr_bd hf
          refine fr_iV (As := [.int z3]) ⟨hx, hb, hml, hown, hts⟩ hK hP hD hS hA (c_X6_at l D cI q_mo q_mv q_me q_mk q_ma q_mb q_mw q_mx n z3 mo_thrown mo_rows mo_size mo_price mo_queries mo_start mo_many mo_bits mv u23 hu23) (cwV 1 hts gX6_writeDictionary_X6_at rfl rfl rfl (by decide +kernel) ⟨Nat.le_of_ble_eq_true rfl, Nat.le_of_ble_eq_true rfl⟩) [(q_mx, .inl (cI, 2000, .inl mx))] [1, 2] [0] rfl rfl (by decide) (by decide) (by decide) 0 rfl rfl rfl rfl hl.1 (Nat.le_of_ble_eq_true rfl) dX6_writeDictionary_43 ⟨Nat.zero_le _, Nat.zero_le _⟩ rfl (fun H locs hP hD hS => ?_)
          have hP : va_P D vwCl [(q_mx, .inl (cI, 2000, .inl mx)), (q_mo, .inr (6, [.int mo_thrown, .int mo_rows, .ref q_mv, .int mo_size, .ref q_me, .int mo_price, .int mo_queries, .ref q_mk, .ref q_ma, .ref q_mb, .ref q_mw, .int mo_start, .int mo_many, .int mo_bits, .ref q_mx])), (q_mv, .inl (cI, 96, .inl mv))] H := hP
          have hD : va_D A [(q_mx, .inl (cI, 2000, .inl mx)), (q_mo, .inr (6, [.int mo_thrown, .int mo_rows, .ref q_mv, .int mo_size, .ref q_me, .int mo_price, .int mo_queries, .ref q_mk, .ref q_ma, .ref q_mb, .ref q_mw, .int mo_start, .int mo_many, .int mo_bits, .ref q_mx])), (q_mv, .inl (cI, 96, .inl mv))] := hD
          obtain ⟨u24, hu24, hf⟩ := pr_bd hf
          refine fr_vV (As := [.int u23]) ⟨hx, hb, hml, hown, hts⟩ hK hP hD hS hA (c_X6_putValue l D cI q_mo q_mv q_me q_mk q_ma q_mb q_mw q_mx n u23 mo_thrown mo_rows mo_size mo_price mo_queries mo_start mo_many mo_bits mx u24 hu24) (cwV 1 hts gX6_writeDictionary_X6_putValue rfl rfl rfl (by decide +kernel) ⟨Nat.le_of_ble_eq_true rfl, Nat.le_of_ble_eq_true rfl⟩) [(q_mv, .inl (cI, 96, .inl mv))] [1, 0] [2] rfl rfl (by decide) (by decide) (by decide) 0 rfl rfl rfl rfl hl.1 (Nat.le_of_ble_eq_true rfl) dX6_writeDictionary_46 ⟨Nat.zero_le _, Nat.zero_le _⟩ rfl (fun H locs hP hD hS => ?_)
          have hP : va_P D vwCl [(q_mv, .inl (cI, 96, .inl mv)), (q_mo, .inr (6, [.int mo_thrown, .int mo_rows, .ref q_mv, .int mo_size, .ref q_me, .int mo_price, .int mo_queries, .ref q_mk, .ref q_ma, .ref q_mb, .ref q_mw, .int mo_start, .int mo_many, .int u24.1, .ref q_mx])), (q_mx, .inl (cI, 2000, .inl u24.2))] H := hP
          have hD : va_D A [(q_mv, .inl (cI, 96, .inl mv)), (q_mo, .inr (6, [.int mo_thrown, .int mo_rows, .ref q_mv, .int mo_size, .ref q_me, .int mo_price, .int mo_queries, .ref q_mk, .ref q_ma, .ref q_mb, .ref q_mw, .int mo_start, .int mo_many, .int u24.1, .ref q_mx])), (q_mx, .inl (cI, 2000, .inl u24.2))] := hD
          refine lv_iinc (v := (z2 + 1)) (lv' := [(2, .int (z2 + 1)), (0, .ref q_mo), (1, .int z1), (3, .int z3)]) hx hb dX6_writeDictionary_49 hl (k := 2) rfl rfl (by decide) rfl (fun ls hl => ?_)
          refine lv_goto (tgt := 14) hx hb dX6_writeDictionary_52 (by decide) ?_
          exact ih.1 _ _ _ _ _ _ _ ls hf (hP.sub [1, 0, 2] rfl) (hD.sub [1, 0, 2] (by decide) rfl) hS (lv_sub hl [1, 2, 0] rfl)
        · have hf := pr_neg hf c22
          refine lv_iinc (v := (z3 + 1)) (lv' := [(3, .int (z3 + 1)), (0, .ref q_mo), (1, .int z1), (2, .int z2)]) hx hb dX6_writeDictionary_34 hl (k := 3) rfl rfl (by decide) rfl (fun ls hl => ?_)
          refine lv_goto (tgt := 21) hx hb dX6_writeDictionary_37 (by decide) ?_
          exact ih.2 _ _ _ _ _ _ _ ls hf (hP.sub [1, 2, 0] rfl) (hD.sub [1, 2, 0] (by decide) rfl) hS (lv_sub hl [1, 2, 3, 0] rfl)
  unfold f_X6_writeDictionary at hf
  refine lv_aload_n hx hb dX6_writeDictionary_0 rfl (lv_at hl 0 rfl) ?_
  obtain ⟨u25, hu25, hf⟩ := pr_bd hf
  refine fr_iV (As := []) ⟨hx, hb, hml, hown, hts⟩ hK hP hD hS hA (c_X6_different l D cI q_mo q_mv q_me q_mk q_ma q_mb q_mw q_mx n mo_thrown mo_rows mo_size mo_price mo_queries mo_start mo_many mo_bits mv u25 hu25) (cwV 0 hts gX6_writeDictionary_X6_different rfl rfl rfl (by decide +kernel) ⟨Nat.le_of_ble_eq_true rfl, Nat.le_of_ble_eq_true rfl⟩) [(q_mx, .inl (cI, 2000, .inl mx))] [0, 1] [2] rfl rfl (by decide) (by decide) (by decide) 0 rfl rfl rfl rfl hl.1 (Nat.le_of_ble_eq_true rfl) dX6_writeDictionary_1 ⟨Nat.zero_le _, Nat.zero_le _⟩ rfl (fun H locs hP hD hS => ?_)
  have hP : va_P D vwCl [(q_mx, .inl (cI, 2000, .inl mx)), (q_mo, .inr (6, [.int mo_thrown, .int mo_rows, .ref q_mv, .int mo_size, .ref q_me, .int mo_price, .int mo_queries, .ref q_mk, .ref q_ma, .ref q_mb, .ref q_mw, .int mo_start, .int mo_many, .int mo_bits, .ref q_mx])), (q_mv, .inl (cI, 96, .inl mv))] H := hP
  have hD : va_D A [(q_mx, .inl (cI, 2000, .inl mx)), (q_mo, .inr (6, [.int mo_thrown, .int mo_rows, .ref q_mv, .int mo_size, .ref q_me, .int mo_price, .int mo_queries, .ref q_mk, .ref q_ma, .ref q_mb, .ref q_mw, .int mo_start, .int mo_many, .int mo_bits, .ref q_mx])), (q_mv, .inl (cI, 96, .inl mv))] := hD
  refine lv_istore_n (lv' := [(1, .int u25), (0, .ref q_mo)]) hx hb dX6_writeDictionary_4 rfl hl (by decide) rfl (fun ls hl => ?_)
  refine lv_aload_n hx hb dX6_writeDictionary_5 rfl (lv_at hl 1 rfl) ?_
  refine lv_iload_n hx hb dX6_writeDictionary_6 rfl (lv_at hl 0 rfl) ?_
  refine lv_bipush (v := 6) hx hb dX6_writeDictionary_7 (by decide) ?_
  obtain ⟨u26, hu26, hf⟩ := pr_bd hf
  refine fr_vV (As := [.int u25, .int 6]) ⟨hx, hb, hml, hown, hts⟩ hK hP hD hS hA (c_X6_put l D cI q_mo q_mv q_me q_mk q_ma q_mb q_mw q_mx n u25 6 mo_thrown mo_rows mo_size mo_price mo_queries mo_start mo_many mo_bits mx u26 hu26) (cwV 2 hts gX6_writeDictionary_X6_put rfl rfl rfl (by decide +kernel) ⟨Nat.le_of_ble_eq_true rfl, Nat.le_of_ble_eq_true rfl⟩) [(q_mv, .inl (cI, 96, .inl mv))] [1, 0] [2] rfl rfl (by decide) (by decide) (by decide) 0 rfl rfl rfl rfl hl.1 (Nat.le_of_ble_eq_true rfl) dX6_writeDictionary_9 ⟨Nat.zero_le _, Nat.zero_le _⟩ rfl (fun H locs hP hD hS => ?_)
  have hP : va_P D vwCl [(q_mv, .inl (cI, 96, .inl mv)), (q_mo, .inr (6, [.int mo_thrown, .int mo_rows, .ref q_mv, .int mo_size, .ref q_me, .int mo_price, .int mo_queries, .ref q_mk, .ref q_ma, .ref q_mb, .ref q_mw, .int mo_start, .int mo_many, .int u26.1, .ref q_mx])), (q_mx, .inl (cI, 2000, .inl u26.2))] H := hP
  have hD : va_D A [(q_mv, .inl (cI, 96, .inl mv)), (q_mo, .inr (6, [.int mo_thrown, .int mo_rows, .ref q_mv, .int mo_size, .ref q_me, .int mo_price, .int mo_queries, .ref q_mk, .ref q_ma, .ref q_mb, .ref q_mw, .int mo_start, .int mo_many, .int u26.1, .ref q_mx])), (q_mx, .inl (cI, 2000, .inl u26.2))] := hD
  refine lv_iconst (v := 0) hx hb dX6_writeDictionary_12 (by decide) ?_
  refine lv_istore_n (lv' := [(2, .int 0), (1, .int u25), (0, .ref q_mo)]) hx hb dX6_writeDictionary_13 rfl hl (by decide) rfl (fun ls hl => ?_)
  exact (k_14 n).1 _ _ _ _ _ _ _ ls hf (hP.sub [1, 0, 2] rfl) (hD.sub [1, 0, 2] (by decide) rfl) hS (lv_sub hl [2, 1, 0] rfl)
set_option maxHeartbeats 4000000 in
set_option maxRecDepth 100000 in
theorem c_X6_write (l : Launch) (D : va_G) (cI : ClassId) (q_mo q_mv q_me q_mk q_ma q_mb q_mw q_mx : Nat) (n : Nat) (x1 : Int32) (mo_thrown : Int32) (mo_rows : Int32) (mo_size : Int32) (mo_price : Int32) (mo_queries : Int32) (mo_start : Int32) (mo_many : Int32) (mo_bits : Int32) (mv : (Nat → Int32)) (mx : (Nat → Int32)) (res : Int32 × (Nat → Int32)) (hf : f_X6_write n x1 mo_start mo_many mo_bits mv mx = some res) : fr_Cv l yX6_write wsX6_write ({ frames := 4, cells := 0, slots := 0, locals := 89 }) D [(cI, .int)] [.ref q_mo, .int x1] [(q_mo, .inr (6, [.int mo_thrown, .int mo_rows, .ref q_mv, .int mo_size, .ref q_me, .int mo_price, .int mo_queries, .ref q_mk, .ref q_ma, .ref q_mb, .ref q_mw, .int mo_start, .int mo_many, .int mo_bits, .ref q_mx])), (q_mv, .inl (cI, 96, .inl mv)), (q_mx, .inl (cI, 2000, .inl mx))] [(q_mo, .inr (6, [.int mo_thrown, .int mo_rows, .ref q_mv, .int mo_size, .ref q_me, .int mo_price, .int mo_queries, .ref q_mk, .ref q_ma, .ref q_mb, .ref q_mw, .int mo_start, .int mo_many, .int res.1, .ref q_mx])), (q_mv, .inl (cI, 96, .inl mv)), (q_mx, .inl (cI, 2000, .inl res.2))] := by
  refine fr_open_v (cc := cX6_write) (maxL := 3) (by decide +kernel) rfl (Nat.le_of_ble_eq_true rfl) ?_
  intro p e s m below meth c A Q ls hx hb hml hown hts hA hK hP hD hS hl hret
  have hown : s.vm.findClass RX6 = some m.cls := hown
  have hl : lv_has ls 3 [(0, .ref q_mo), (1, .int x1)] := hl
  have hin6 : ∀ w ∈ u_ws RX6 TX6 15, w ∈ wsX6_write := fun _ h9 => List.mem_cons_of_mem _ (List.mem_append_right _ h9)
  have k_147 : ∀ (n : Nat), (∀ (z2 : Int32) (mo_bits : Int32) (mx : (Nat → Int32)) (H : Heap) (locs : List Loc) (ls : Array Slot), f_X6_write_147 n z2 mo_start mo_many mo_bits mv mx = some res → va_P D vwCl [(q_mo, .inr (6, [.int mo_thrown, .int mo_rows, .ref q_mv, .int mo_size, .ref q_me, .int mo_price, .int mo_queries, .ref q_mk, .ref q_ma, .ref q_mb, .ref q_mw, .int mo_start, .int mo_many, .int mo_bits, .ref q_mx])), (q_mv, .inl (cI, 96, .inl mv)), (q_mx, .inl (cI, 2000, .inl mx))] H → va_D A [(q_mo, .inr (6, [.int mo_thrown, .int mo_rows, .ref q_mv, .int mo_size, .ref q_me, .int mo_price, .int mo_queries, .ref q_mk, .ref q_ma, .ref q_mb, .ref q_mw, .int mo_start, .int mo_many, .int mo_bits, .ref q_mx])), (q_mv, .inl (cI, 96, .inl mv)), (q_mx, .inl (cI, 2000, .inl mx))] → va_S A s.heap H locs → lv_has ls 3 [(0, .ref q_mo), (2, .int z2)] → W p l e ({ frames := 4, cells := 0, slots := 0, locals := 89 }) s m ([.ref q_mo, .int x1] : List Value).toArray below meth c H locs 0 0 Q (F0 m 147 ls [])) := by
    intro n
    induction n with
    | zero =>
      intro z2 mo_bits mx H locs ls hf hP hD hS hl
      exact absurd (show (none : Option (Int32 × (Nat → Int32))) = some res from hf) (by simp)
    | succ n ih =>
      intro z2 mo_bits mx H locs ls hf hP hD hS hl
      have hf : f_X6_write_147_s (f_X6_write_147 n) n z2 mo_start mo_many mo_bits mv mx = some res := hf
      unfold f_X6_write_147_s at hf
      refine lv_iload_n hx hb dX6_write_147 rfl (lv_at hl 1 rfl) ?_
      refine lv_aload_n hx hb dX6_write_148 rfl (lv_at hl 0 rfl) ?_
      refine va_get (D := D) (ci := 6) (v := .int mo_many) (C := RX6) (T := TX6) (N := 15) hx hb hts hin6 hown hK hP 0 rfl rfl 12 (by decide) (hts (.fieldLink RX6 77 "ColumnChooserModel" "many" "I") (List.mem_of_getElem? (i := 2) rfl)) (fun _ h9 => h9) rfl dX6_write_149 ?_
      refine lv_icmp_ge (tgt := 185) hx hb dX6_write_152 (by decide) (fun c57 => ?_) (fun c57 => ?_)
      · have hf := pr_pos hf c57
        obtain rfl := Option.some.inj hf
        exact hret _ _ _ _ dX6_write_185 (hP.sub [0, 1, 2] rfl) (hD.sub [0, 1, 2] (by decide) rfl) hS
      · have hf := pr_neg hf c57
        refine lv_aload_n hx hb dX6_write_155 rfl (lv_at hl 0 rfl) ?_
        refine lv_aload_n hx hb dX6_write_156 rfl (lv_at hl 0 rfl) ?_
        refine lv_iload_n hx hb dX6_write_157 rfl (lv_at hl 1 rfl) ?_
        obtain ⟨u58, hu58, hf⟩ := pr_bd hf
        refine fr_iV (As := [.int z2]) ⟨hx, hb, hml, hown, hts⟩ hK hP hD hS hA (c_X6_at l D cI q_mo q_mv q_me q_mk q_ma q_mb q_mw q_mx n z2 mo_thrown mo_rows mo_size mo_price mo_queries mo_start mo_many mo_bits mv u58 hu58) (cwV 1 hts gX6_write_X6_at rfl rfl rfl (by decide +kernel) ⟨Nat.le_of_ble_eq_true rfl, Nat.le_of_ble_eq_true rfl⟩) [(q_mx, .inl (cI, 2000, .inl mx))] [0, 1] [2] rfl rfl (by decide) (by decide) (by decide) 0 rfl rfl rfl rfl hl.1 (Nat.le_of_ble_eq_true rfl) dX6_write_158 ⟨Nat.zero_le _, Nat.zero_le _⟩ rfl (fun H locs hP hD hS => ?_)
        have hP : va_P D vwCl [(q_mx, .inl (cI, 2000, .inl mx)), (q_mo, .inr (6, [.int mo_thrown, .int mo_rows, .ref q_mv, .int mo_size, .ref q_me, .int mo_price, .int mo_queries, .ref q_mk, .ref q_ma, .ref q_mb, .ref q_mw, .int mo_start, .int mo_many, .int mo_bits, .ref q_mx])), (q_mv, .inl (cI, 96, .inl mv))] H := hP
        have hD : va_D A [(q_mx, .inl (cI, 2000, .inl mx)), (q_mo, .inr (6, [.int mo_thrown, .int mo_rows, .ref q_mv, .int mo_size, .ref q_me, .int mo_price, .int mo_queries, .ref q_mk, .ref q_ma, .ref q_mb, .ref q_mw, .int mo_start, .int mo_many, .int mo_bits, .ref q_mx])), (q_mv, .inl (cI, 96, .inl mv))] := hD
        refine lv_aload_n hx hb dX6_write_161 rfl (lv_at hl 0 rfl) ?_
        refine lv_iload_n hx hb dX6_write_162 rfl (lv_at hl 1 rfl) ?_
        refine lv_iconst (v := 1) hx hb dX6_write_163 (by decide) ?_
        refine lv_isub hx hb dX6_write_164 ?_
        obtain ⟨u59, hu59, hf⟩ := pr_bd hf
        refine fr_iV (As := [.int (z2 - 1)]) ⟨hx, hb, hml, hown, hts⟩ hK hP hD hS hA (c_X6_at l D cI q_mo q_mv q_me q_mk q_ma q_mb q_mw q_mx n (z2 - 1) mo_thrown mo_rows mo_size mo_price mo_queries mo_start mo_many mo_bits mv u59 hu59) (cwV 1 hts gX6_write_X6_at rfl rfl rfl (by decide +kernel) ⟨Nat.le_of_ble_eq_true rfl, Nat.le_of_ble_eq_true rfl⟩) [(q_mx, .inl (cI, 2000, .inl mx))] [1, 2] [0] rfl rfl (by decide) (by decide) (by decide) 0 rfl rfl rfl rfl hl.1 (Nat.le_of_ble_eq_true rfl) dX6_write_165 ⟨Nat.zero_le _, Nat.zero_le _⟩ rfl (fun H locs hP hD hS => ?_)
        have hP : va_P D vwCl [(q_mx, .inl (cI, 2000, .inl mx)), (q_mo, .inr (6, [.int mo_thrown, .int mo_rows, .ref q_mv, .int mo_size, .ref q_me, .int mo_price, .int mo_queries, .ref q_mk, .ref q_ma, .ref q_mb, .ref q_mw, .int mo_start, .int mo_many, .int mo_bits, .ref q_mx])), (q_mv, .inl (cI, 96, .inl mv))] H := hP
        have hD : va_D A [(q_mx, .inl (cI, 2000, .inl mx)), (q_mo, .inr (6, [.int mo_thrown, .int mo_rows, .ref q_mv, .int mo_size, .ref q_me, .int mo_price, .int mo_queries, .ref q_mk, .ref q_ma, .ref q_mb, .ref q_mw, .int mo_start, .int mo_many, .int mo_bits, .ref q_mx])), (q_mv, .inl (cI, 96, .inl mv))] := hD
        refine lv_isub hx hb dX6_write_168 ?_
        obtain ⟨u60, hu60, hf⟩ := pr_bd hf
        refine fr_iS (As := [.int (u58 - u59)]) ⟨hx, hb, hml, hown, hts⟩ hK hP hD hS hA (c_X6_folded l D cI n (u58 - u59) u60 hu60) (va_cwS 1 hts gX6_write_X6_folded rfl rfl rfl (by decide +kernel) ⟨Nat.le_of_ble_eq_true rfl, Nat.le_of_ble_eq_true rfl⟩) [(q_mx, .inl (cI, 2000, .inl mx)), (q_mo, .inr (6, [.int mo_thrown, .int mo_rows, .ref q_mv, .int mo_size, .ref q_me, .int mo_price, .int mo_queries, .ref q_mk, .ref q_ma, .ref q_mb, .ref q_mw, .int mo_start, .int mo_many, .int mo_bits, .ref q_mx])), (q_mv, .inl (cI, 96, .inl mv))] [] [0, 1, 2] rfl rfl (by decide) (by decide) (by decide) rfl hl.1 (Nat.le_of_ble_eq_true rfl) dX6_write_169 ⟨Nat.zero_le _, Nat.zero_le _⟩ rfl (fun H locs hP hD hS => ?_)
        have hP : va_P D vwCl [(q_mx, .inl (cI, 2000, .inl mx)), (q_mo, .inr (6, [.int mo_thrown, .int mo_rows, .ref q_mv, .int mo_size, .ref q_me, .int mo_price, .int mo_queries, .ref q_mk, .ref q_ma, .ref q_mb, .ref q_mw, .int mo_start, .int mo_many, .int mo_bits, .ref q_mx])), (q_mv, .inl (cI, 96, .inl mv))] H := hP
        have hD : va_D A [(q_mx, .inl (cI, 2000, .inl mx)), (q_mo, .inr (6, [.int mo_thrown, .int mo_rows, .ref q_mv, .int mo_size, .ref q_me, .int mo_price, .int mo_queries, .ref q_mk, .ref q_ma, .ref q_mb, .ref q_mw, .int mo_start, .int mo_many, .int mo_bits, .ref q_mx])), (q_mv, .inl (cI, 96, .inl mv))] := hD
        refine lv_aload_n hx hb dX6_write_172 rfl (lv_at hl 0 rfl) ?_
        obtain ⟨u61, hu61, hf⟩ := pr_bd hf
        refine fr_iV (As := []) ⟨hx, hb, hml, hown, hts⟩ hK hP hD hS hA (c_X6_deltaWidth l D cI q_mo q_mv q_me q_mk q_ma q_mb q_mw q_mx n mo_thrown mo_rows mo_size mo_price mo_queries mo_start mo_many mo_bits mv u61 hu61) (cwV 0 hts gX6_write_X6_deltaWidth rfl rfl rfl (by decide +kernel) ⟨Nat.le_of_ble_eq_true rfl, Nat.le_of_ble_eq_true rfl⟩) [(q_mx, .inl (cI, 2000, .inl mx))] [1, 2] [0] rfl rfl (by decide) (by decide) (by decide) 0 rfl rfl rfl rfl hl.1 (Nat.le_of_ble_eq_true rfl) dX6_write_173 ⟨Nat.zero_le _, Nat.zero_le _⟩ rfl (fun H locs hP hD hS => ?_)
        have hP : va_P D vwCl [(q_mx, .inl (cI, 2000, .inl mx)), (q_mo, .inr (6, [.int mo_thrown, .int mo_rows, .ref q_mv, .int mo_size, .ref q_me, .int mo_price, .int mo_queries, .ref q_mk, .ref q_ma, .ref q_mb, .ref q_mw, .int mo_start, .int mo_many, .int mo_bits, .ref q_mx])), (q_mv, .inl (cI, 96, .inl mv))] H := hP
        have hD : va_D A [(q_mx, .inl (cI, 2000, .inl mx)), (q_mo, .inr (6, [.int mo_thrown, .int mo_rows, .ref q_mv, .int mo_size, .ref q_me, .int mo_price, .int mo_queries, .ref q_mk, .ref q_ma, .ref q_mb, .ref q_mw, .int mo_start, .int mo_many, .int mo_bits, .ref q_mx])), (q_mv, .inl (cI, 96, .inl mv))] := hD
        obtain ⟨u62, hu62, hf⟩ := pr_bd hf
        refine fr_vV (As := [.int u60, .int u61]) ⟨hx, hb, hml, hown, hts⟩ hK hP hD hS hA (c_X6_put l D cI q_mo q_mv q_me q_mk q_ma q_mb q_mw q_mx n u60 u61 mo_thrown mo_rows mo_size mo_price mo_queries mo_start mo_many mo_bits mx u62 hu62) (cwV 2 hts gX6_write_X6_put rfl rfl rfl (by decide +kernel) ⟨Nat.le_of_ble_eq_true rfl, Nat.le_of_ble_eq_true rfl⟩) [(q_mv, .inl (cI, 96, .inl mv))] [1, 0] [2] rfl rfl (by decide) (by decide) (by decide) 0 rfl rfl rfl rfl hl.1 (Nat.le_of_ble_eq_true rfl) dX6_write_176 ⟨Nat.zero_le _, Nat.zero_le _⟩ rfl (fun H locs hP hD hS => ?_)
        have hP : va_P D vwCl [(q_mv, .inl (cI, 96, .inl mv)), (q_mo, .inr (6, [.int mo_thrown, .int mo_rows, .ref q_mv, .int mo_size, .ref q_me, .int mo_price, .int mo_queries, .ref q_mk, .ref q_ma, .ref q_mb, .ref q_mw, .int mo_start, .int mo_many, .int u62.1, .ref q_mx])), (q_mx, .inl (cI, 2000, .inl u62.2))] H := hP
        have hD : va_D A [(q_mv, .inl (cI, 96, .inl mv)), (q_mo, .inr (6, [.int mo_thrown, .int mo_rows, .ref q_mv, .int mo_size, .ref q_me, .int mo_price, .int mo_queries, .ref q_mk, .ref q_ma, .ref q_mb, .ref q_mw, .int mo_start, .int mo_many, .int u62.1, .ref q_mx])), (q_mx, .inl (cI, 2000, .inl u62.2))] := hD
        refine lv_iinc (v := (z2 + 1)) (lv' := [(2, .int (z2 + 1)), (0, .ref q_mo)]) hx hb dX6_write_179 hl (k := 1) rfl rfl (by decide) rfl (fun ls hl => ?_)
        refine lv_goto (tgt := 147) hx hb dX6_write_182 (by decide) ?_
        exact ih _ _ _ _ _ ls hf (hP.sub [1, 0, 2] rfl) (hD.sub [1, 0, 2] (by decide) rfl) hS (lv_sub hl [1, 0] rfl)
  have k_90 : ∀ (n : Nat), (∀ (z1 : Int32) (z2 : Int32) (mo_bits : Int32) (mx : (Nat → Int32)) (H : Heap) (locs : List Loc) (ls : Array Slot), f_X6_write_90 n z1 z2 mo_start mo_many mo_bits mv mx = some res → va_P D vwCl [(q_mo, .inr (6, [.int mo_thrown, .int mo_rows, .ref q_mv, .int mo_size, .ref q_me, .int mo_price, .int mo_queries, .ref q_mk, .ref q_ma, .ref q_mb, .ref q_mw, .int mo_start, .int mo_many, .int mo_bits, .ref q_mx])), (q_mv, .inl (cI, 96, .inl mv)), (q_mx, .inl (cI, 2000, .inl mx))] H → va_D A [(q_mo, .inr (6, [.int mo_thrown, .int mo_rows, .ref q_mv, .int mo_size, .ref q_me, .int mo_price, .int mo_queries, .ref q_mk, .ref q_ma, .ref q_mb, .ref q_mw, .int mo_start, .int mo_many, .int mo_bits, .ref q_mx])), (q_mv, .inl (cI, 96, .inl mv)), (q_mx, .inl (cI, 2000, .inl mx))] → va_S A s.heap H locs → lv_has ls 3 [(0, .ref q_mo), (1, .int z1), (2, .int z2)] → W p l e ({ frames := 4, cells := 0, slots := 0, locals := 89 }) s m ([.ref q_mo, .int x1] : List Value).toArray below meth c H locs 0 0 Q (F0 m 90 ls [])) := by
    intro n
    induction n with
    | zero =>
      intro z1 z2 mo_bits mx H locs ls hf hP hD hS hl
      exact absurd (show (none : Option (Int32 × (Nat → Int32))) = some res from hf) (by simp)
    | succ n ih =>
      intro z1 z2 mo_bits mx H locs ls hf hP hD hS hl
      have hf : f_X6_write_90_s (f_X6_write_90 n) n z1 z2 mo_start mo_many mo_bits mv mx = some res := hf
      unfold f_X6_write_90_s at hf
      refine lv_iload_n hx hb dX6_write_90 rfl (lv_at hl 2 rfl) ?_
      refine lv_aload_n hx hb dX6_write_91 rfl (lv_at hl 0 rfl) ?_
      refine va_get (D := D) (ci := 6) (v := .int mo_many) (C := RX6) (T := TX6) (N := 15) hx hb hts hin6 hown hK hP 0 rfl rfl 12 (by decide) (hts (.fieldLink RX6 77 "ColumnChooserModel" "many" "I") (List.mem_of_getElem? (i := 2) rfl)) (fun _ h9 => h9) rfl dX6_write_92 ?_
      refine lv_icmp_ge (tgt := 122) hx hb dX6_write_95 (by decide) (fun c63 => ?_) (fun c63 => ?_)
      · have hf := pr_pos hf c63
        refine lv_iload_n hx hb dX6_write_122 rfl (lv_at hl 1 rfl) ?_
        refine lv_iconst (v := 5) hx hb dX6_write_123 (by decide) ?_
        refine lv_icmp_ne (tgt := 185) hx hb dX6_write_124 (by decide) (fun c64 => ?_) (fun c64 => ?_)
        · have hf := pr_neg hf c64
          obtain rfl := Option.some.inj hf
          exact hret _ _ _ _ dX6_write_185 (hP.sub [0, 1, 2] rfl) (hD.sub [0, 1, 2] (by decide) rfl) hS
        · have hf := pr_pos hf c64
          refine lv_aload_n hx hb dX6_write_127 rfl (lv_at hl 0 rfl) ?_
          refine lv_aload_n hx hb dX6_write_128 rfl (lv_at hl 0 rfl) ?_
          refine lv_iconst (v := 0) hx hb dX6_write_129 (by decide) ?_
          obtain ⟨u65, hu65, hf⟩ := pr_bd hf
          refine fr_iV (As := [.int 0]) ⟨hx, hb, hml, hown, hts⟩ hK hP hD hS hA (c_X6_at l D cI q_mo q_mv q_me q_mk q_ma q_mb q_mw q_mx n 0 mo_thrown mo_rows mo_size mo_price mo_queries mo_start mo_many mo_bits mv u65 hu65) (cwV 1 hts gX6_write_X6_at rfl rfl rfl (by decide +kernel) ⟨Nat.le_of_ble_eq_true rfl, Nat.le_of_ble_eq_true rfl⟩) [(q_mx, .inl (cI, 2000, .inl mx))] [0, 1] [2] rfl rfl (by decide) (by decide) (by decide) 0 rfl rfl rfl rfl hl.1 (Nat.le_of_ble_eq_true rfl) dX6_write_130 ⟨Nat.zero_le _, Nat.zero_le _⟩ rfl (fun H locs hP hD hS => ?_)
          have hP : va_P D vwCl [(q_mx, .inl (cI, 2000, .inl mx)), (q_mo, .inr (6, [.int mo_thrown, .int mo_rows, .ref q_mv, .int mo_size, .ref q_me, .int mo_price, .int mo_queries, .ref q_mk, .ref q_ma, .ref q_mb, .ref q_mw, .int mo_start, .int mo_many, .int mo_bits, .ref q_mx])), (q_mv, .inl (cI, 96, .inl mv))] H := hP
          have hD : va_D A [(q_mx, .inl (cI, 2000, .inl mx)), (q_mo, .inr (6, [.int mo_thrown, .int mo_rows, .ref q_mv, .int mo_size, .ref q_me, .int mo_price, .int mo_queries, .ref q_mk, .ref q_ma, .ref q_mb, .ref q_mw, .int mo_start, .int mo_many, .int mo_bits, .ref q_mx])), (q_mv, .inl (cI, 96, .inl mv))] := hD
          obtain ⟨u66, hu66, hf⟩ := pr_bd hf
          refine fr_vV (As := [.int u65]) ⟨hx, hb, hml, hown, hts⟩ hK hP hD hS hA (c_X6_putValue l D cI q_mo q_mv q_me q_mk q_ma q_mb q_mw q_mx n u65 mo_thrown mo_rows mo_size mo_price mo_queries mo_start mo_many mo_bits mx u66 hu66) (cwV 1 hts gX6_write_X6_putValue rfl rfl rfl (by decide +kernel) ⟨Nat.le_of_ble_eq_true rfl, Nat.le_of_ble_eq_true rfl⟩) [(q_mv, .inl (cI, 96, .inl mv))] [1, 0] [2] rfl rfl (by decide) (by decide) (by decide) 0 rfl rfl rfl rfl hl.1 (Nat.le_of_ble_eq_true rfl) dX6_write_133 ⟨Nat.zero_le _, Nat.zero_le _⟩ rfl (fun H locs hP hD hS => ?_)
          have hP : va_P D vwCl [(q_mv, .inl (cI, 96, .inl mv)), (q_mo, .inr (6, [.int mo_thrown, .int mo_rows, .ref q_mv, .int mo_size, .ref q_me, .int mo_price, .int mo_queries, .ref q_mk, .ref q_ma, .ref q_mb, .ref q_mw, .int mo_start, .int mo_many, .int u66.1, .ref q_mx])), (q_mx, .inl (cI, 2000, .inl u66.2))] H := hP
          have hD : va_D A [(q_mv, .inl (cI, 96, .inl mv)), (q_mo, .inr (6, [.int mo_thrown, .int mo_rows, .ref q_mv, .int mo_size, .ref q_me, .int mo_price, .int mo_queries, .ref q_mk, .ref q_ma, .ref q_mb, .ref q_mw, .int mo_start, .int mo_many, .int u66.1, .ref q_mx])), (q_mx, .inl (cI, 2000, .inl u66.2))] := hD
          refine lv_aload_n hx hb dX6_write_136 rfl (lv_at hl 0 rfl) ?_
          refine lv_aload_n hx hb dX6_write_137 rfl (lv_at hl 0 rfl) ?_
          obtain ⟨u67, hu67, hf⟩ := pr_bd hf
          refine fr_iV (As := []) ⟨hx, hb, hml, hown, hts⟩ hK hP hD hS hA (c_X6_deltaWidth l D cI q_mo q_mv q_me q_mk q_ma q_mb q_mw q_mx n mo_thrown mo_rows mo_size mo_price mo_queries mo_start mo_many u66.1 mv u67 hu67) (cwV 0 hts gX6_write_X6_deltaWidth rfl rfl rfl (by decide +kernel) ⟨Nat.le_of_ble_eq_true rfl, Nat.le_of_ble_eq_true rfl⟩) [(q_mx, .inl (cI, 2000, .inl u66.2))] [1, 0] [2] rfl rfl (by decide) (by decide) (by decide) 0 rfl rfl rfl rfl hl.1 (Nat.le_of_ble_eq_true rfl) dX6_write_138 ⟨Nat.zero_le _, Nat.zero_le _⟩ rfl (fun H locs hP hD hS => ?_)
          have hP : va_P D vwCl [(q_mx, .inl (cI, 2000, .inl u66.2)), (q_mo, .inr (6, [.int mo_thrown, .int mo_rows, .ref q_mv, .int mo_size, .ref q_me, .int mo_price, .int mo_queries, .ref q_mk, .ref q_ma, .ref q_mb, .ref q_mw, .int mo_start, .int mo_many, .int u66.1, .ref q_mx])), (q_mv, .inl (cI, 96, .inl mv))] H := hP
          have hD : va_D A [(q_mx, .inl (cI, 2000, .inl u66.2)), (q_mo, .inr (6, [.int mo_thrown, .int mo_rows, .ref q_mv, .int mo_size, .ref q_me, .int mo_price, .int mo_queries, .ref q_mk, .ref q_ma, .ref q_mb, .ref q_mw, .int mo_start, .int mo_many, .int u66.1, .ref q_mx])), (q_mv, .inl (cI, 96, .inl mv))] := hD
          refine lv_iconst (v := 5) hx hb dX6_write_141 (by decide) ?_
          obtain ⟨u68, hu68, hf⟩ := pr_bd hf
          refine fr_vV (As := [.int u67, .int 5]) ⟨hx, hb, hml, hown, hts⟩ hK hP hD hS hA (c_X6_put l D cI q_mo q_mv q_me q_mk q_ma q_mb q_mw q_mx n u67 5 mo_thrown mo_rows mo_size mo_price mo_queries mo_start mo_many u66.1 u66.2 u68 hu68) (cwV 2 hts gX6_write_X6_put rfl rfl rfl (by decide +kernel) ⟨Nat.le_of_ble_eq_true rfl, Nat.le_of_ble_eq_true rfl⟩) [(q_mv, .inl (cI, 96, .inl mv))] [1, 0] [2] rfl rfl (by decide) (by decide) (by decide) 0 rfl rfl rfl rfl hl.1 (Nat.le_of_ble_eq_true rfl) dX6_write_142 ⟨Nat.zero_le _, Nat.zero_le _⟩ rfl (fun H locs hP hD hS => ?_)
          have hP : va_P D vwCl [(q_mv, .inl (cI, 96, .inl mv)), (q_mo, .inr (6, [.int mo_thrown, .int mo_rows, .ref q_mv, .int mo_size, .ref q_me, .int mo_price, .int mo_queries, .ref q_mk, .ref q_ma, .ref q_mb, .ref q_mw, .int mo_start, .int mo_many, .int u68.1, .ref q_mx])), (q_mx, .inl (cI, 2000, .inl u68.2))] H := hP
          have hD : va_D A [(q_mv, .inl (cI, 96, .inl mv)), (q_mo, .inr (6, [.int mo_thrown, .int mo_rows, .ref q_mv, .int mo_size, .ref q_me, .int mo_price, .int mo_queries, .ref q_mk, .ref q_ma, .ref q_mb, .ref q_mw, .int mo_start, .int mo_many, .int u68.1, .ref q_mx])), (q_mx, .inl (cI, 2000, .inl u68.2))] := hD
          refine lv_iconst (v := 1) hx hb dX6_write_145 (by decide) ?_
          refine lv_istore_n (lv' := [(2, .int 1), (0, .ref q_mo), (1, .int z1)]) hx hb dX6_write_146 rfl hl (by decide) rfl (fun ls hl => ?_)
          exact k_147 n _ _ _ _ _ ls hf (hP.sub [1, 0, 2] rfl) (hD.sub [1, 0, 2] (by decide) rfl) hS (lv_sub hl [1, 0] rfl)
      · have hf := pr_neg hf c63
        refine lv_aload_n hx hb dX6_write_98 rfl (lv_at hl 0 rfl) ?_
        refine lv_aload_n hx hb dX6_write_99 rfl (lv_at hl 0 rfl) ?_
        refine lv_iload_n hx hb dX6_write_100 rfl (lv_at hl 2 rfl) ?_
        obtain ⟨u69, hu69, hf⟩ := pr_bd hf
        refine fr_iV (As := [.int z2]) ⟨hx, hb, hml, hown, hts⟩ hK hP hD hS hA (c_X6_at l D cI q_mo q_mv q_me q_mk q_ma q_mb q_mw q_mx n z2 mo_thrown mo_rows mo_size mo_price mo_queries mo_start mo_many mo_bits mv u69 hu69) (cwV 1 hts gX6_write_X6_at rfl rfl rfl (by decide +kernel) ⟨Nat.le_of_ble_eq_true rfl, Nat.le_of_ble_eq_true rfl⟩) [(q_mx, .inl (cI, 2000, .inl mx))] [0, 1] [2] rfl rfl (by decide) (by decide) (by decide) 0 rfl rfl rfl rfl hl.1 (Nat.le_of_ble_eq_true rfl) dX6_write_101 ⟨Nat.zero_le _, Nat.zero_le _⟩ rfl (fun H locs hP hD hS => ?_)
        have hP : va_P D vwCl [(q_mx, .inl (cI, 2000, .inl mx)), (q_mo, .inr (6, [.int mo_thrown, .int mo_rows, .ref q_mv, .int mo_size, .ref q_me, .int mo_price, .int mo_queries, .ref q_mk, .ref q_ma, .ref q_mb, .ref q_mw, .int mo_start, .int mo_many, .int mo_bits, .ref q_mx])), (q_mv, .inl (cI, 96, .inl mv))] H := hP
        have hD : va_D A [(q_mx, .inl (cI, 2000, .inl mx)), (q_mo, .inr (6, [.int mo_thrown, .int mo_rows, .ref q_mv, .int mo_size, .ref q_me, .int mo_price, .int mo_queries, .ref q_mk, .ref q_ma, .ref q_mb, .ref q_mw, .int mo_start, .int mo_many, .int mo_bits, .ref q_mx])), (q_mv, .inl (cI, 96, .inl mv))] := hD
        refine lv_aload_n hx hb dX6_write_104 rfl (lv_at hl 0 rfl) ?_
        obtain ⟨u70, hu70, hf⟩ := pr_bd hf
        refine fr_iV (As := []) ⟨hx, hb, hml, hown, hts⟩ hK hP hD hS hA (c_X6_least l D cI q_mo q_mv q_me q_mk q_ma q_mb q_mw q_mx n mo_thrown mo_rows mo_size mo_price mo_queries mo_start mo_many mo_bits mv u70 hu70) (cwV 0 hts gX6_write_X6_least rfl rfl rfl (by decide +kernel) ⟨Nat.le_of_ble_eq_true rfl, Nat.le_of_ble_eq_true rfl⟩) [(q_mx, .inl (cI, 2000, .inl mx))] [1, 2] [0] rfl rfl (by decide) (by decide) (by decide) 0 rfl rfl rfl rfl hl.1 (Nat.le_of_ble_eq_true rfl) dX6_write_105 ⟨Nat.zero_le _, Nat.zero_le _⟩ rfl (fun H locs hP hD hS => ?_)
        have hP : va_P D vwCl [(q_mx, .inl (cI, 2000, .inl mx)), (q_mo, .inr (6, [.int mo_thrown, .int mo_rows, .ref q_mv, .int mo_size, .ref q_me, .int mo_price, .int mo_queries, .ref q_mk, .ref q_ma, .ref q_mb, .ref q_mw, .int mo_start, .int mo_many, .int mo_bits, .ref q_mx])), (q_mv, .inl (cI, 96, .inl mv))] H := hP
        have hD : va_D A [(q_mx, .inl (cI, 2000, .inl mx)), (q_mo, .inr (6, [.int mo_thrown, .int mo_rows, .ref q_mv, .int mo_size, .ref q_me, .int mo_price, .int mo_queries, .ref q_mk, .ref q_ma, .ref q_mb, .ref q_mw, .int mo_start, .int mo_many, .int mo_bits, .ref q_mx])), (q_mv, .inl (cI, 96, .inl mv))] := hD
        refine lv_isub hx hb dX6_write_108 ?_
        refine lv_aload_n hx hb dX6_write_109 rfl (lv_at hl 0 rfl) ?_
        obtain ⟨u71, hu71, hf⟩ := pr_bd hf
        refine fr_iV (As := []) ⟨hx, hb, hml, hown, hts⟩ hK hP hD hS hA (c_X6_frameWidth l D cI q_mo q_mv q_me q_mk q_ma q_mb q_mw q_mx n mo_thrown mo_rows mo_size mo_price mo_queries mo_start mo_many mo_bits mv u71 hu71) (cwV 0 hts gX6_write_X6_frameWidth rfl rfl rfl (by decide +kernel) ⟨Nat.le_of_ble_eq_true rfl, Nat.le_of_ble_eq_true rfl⟩) [(q_mx, .inl (cI, 2000, .inl mx))] [1, 2] [0] rfl rfl (by decide) (by decide) (by decide) 0 rfl rfl rfl rfl hl.1 (Nat.le_of_ble_eq_true rfl) dX6_write_110 ⟨Nat.zero_le _, Nat.zero_le _⟩ rfl (fun H locs hP hD hS => ?_)
        have hP : va_P D vwCl [(q_mx, .inl (cI, 2000, .inl mx)), (q_mo, .inr (6, [.int mo_thrown, .int mo_rows, .ref q_mv, .int mo_size, .ref q_me, .int mo_price, .int mo_queries, .ref q_mk, .ref q_ma, .ref q_mb, .ref q_mw, .int mo_start, .int mo_many, .int mo_bits, .ref q_mx])), (q_mv, .inl (cI, 96, .inl mv))] H := hP
        have hD : va_D A [(q_mx, .inl (cI, 2000, .inl mx)), (q_mo, .inr (6, [.int mo_thrown, .int mo_rows, .ref q_mv, .int mo_size, .ref q_me, .int mo_price, .int mo_queries, .ref q_mk, .ref q_ma, .ref q_mb, .ref q_mw, .int mo_start, .int mo_many, .int mo_bits, .ref q_mx])), (q_mv, .inl (cI, 96, .inl mv))] := hD
        obtain ⟨u72, hu72, hf⟩ := pr_bd hf
        refine fr_vV (As := [.int (u69 - u70), .int u71]) ⟨hx, hb, hml, hown, hts⟩ hK hP hD hS hA (c_X6_put l D cI q_mo q_mv q_me q_mk q_ma q_mb q_mw q_mx n (u69 - u70) u71 mo_thrown mo_rows mo_size mo_price mo_queries mo_start mo_many mo_bits mx u72 hu72) (cwV 2 hts gX6_write_X6_put rfl rfl rfl (by decide +kernel) ⟨Nat.le_of_ble_eq_true rfl, Nat.le_of_ble_eq_true rfl⟩) [(q_mv, .inl (cI, 96, .inl mv))] [1, 0] [2] rfl rfl (by decide) (by decide) (by decide) 0 rfl rfl rfl rfl hl.1 (Nat.le_of_ble_eq_true rfl) dX6_write_113 ⟨Nat.zero_le _, Nat.zero_le _⟩ rfl (fun H locs hP hD hS => ?_)
        have hP : va_P D vwCl [(q_mv, .inl (cI, 96, .inl mv)), (q_mo, .inr (6, [.int mo_thrown, .int mo_rows, .ref q_mv, .int mo_size, .ref q_me, .int mo_price, .int mo_queries, .ref q_mk, .ref q_ma, .ref q_mb, .ref q_mw, .int mo_start, .int mo_many, .int u72.1, .ref q_mx])), (q_mx, .inl (cI, 2000, .inl u72.2))] H := hP
        have hD : va_D A [(q_mv, .inl (cI, 96, .inl mv)), (q_mo, .inr (6, [.int mo_thrown, .int mo_rows, .ref q_mv, .int mo_size, .ref q_me, .int mo_price, .int mo_queries, .ref q_mk, .ref q_ma, .ref q_mb, .ref q_mw, .int mo_start, .int mo_many, .int u72.1, .ref q_mx])), (q_mx, .inl (cI, 2000, .inl u72.2))] := hD
        refine lv_iinc (v := (z2 + 1)) (lv' := [(2, .int (z2 + 1)), (0, .ref q_mo), (1, .int z1)]) hx hb dX6_write_116 hl (k := 2) rfl rfl (by decide) rfl (fun ls hl => ?_)
        refine lv_goto (tgt := 90) hx hb dX6_write_119 (by decide) ?_
        exact ih _ _ _ _ _ _ ls hf (hP.sub [1, 0, 2] rfl) (hD.sub [1, 0, 2] (by decide) rfl) hS (lv_sub hl [1, 2, 0] rfl)
  have k_57 : ∀ (n : Nat), (∀ (z1 : Int32) (mo_bits : Int32) (mx : (Nat → Int32)) (H : Heap) (locs : List Loc) (ls : Array Slot), f_X6_write_57 n z1 mo_start mo_many mo_bits mv mx = some res → va_P D vwCl [(q_mo, .inr (6, [.int mo_thrown, .int mo_rows, .ref q_mv, .int mo_size, .ref q_me, .int mo_price, .int mo_queries, .ref q_mk, .ref q_ma, .ref q_mb, .ref q_mw, .int mo_start, .int mo_many, .int mo_bits, .ref q_mx])), (q_mv, .inl (cI, 96, .inl mv)), (q_mx, .inl (cI, 2000, .inl mx))] H → va_D A [(q_mo, .inr (6, [.int mo_thrown, .int mo_rows, .ref q_mv, .int mo_size, .ref q_me, .int mo_price, .int mo_queries, .ref q_mk, .ref q_ma, .ref q_mb, .ref q_mw, .int mo_start, .int mo_many, .int mo_bits, .ref q_mx])), (q_mv, .inl (cI, 96, .inl mv)), (q_mx, .inl (cI, 2000, .inl mx))] → va_S A s.heap H locs → lv_has ls 3 [(0, .ref q_mo), (1, .int z1)] → W p l e ({ frames := 4, cells := 0, slots := 0, locals := 89 }) s m ([.ref q_mo, .int x1] : List Value).toArray below meth c H locs 0 0 Q (F0 m 57 ls [])) := by
    intro n
    intro z1 mo_bits mx H locs ls hf hP hD hS hl
    unfold f_X6_write_57 at hf
    refine lv_iload_n hx hb dX6_write_57 rfl (lv_at hl 1 rfl) ?_
    refine lv_iconst (v := 3) hx hb dX6_write_58 (by decide) ?_
    refine lv_icmp_ne (tgt := 66) hx hb dX6_write_59 (by decide) (fun c73 => ?_) (fun c73 => ?_)
    · have hf := pr_neg hf c73
      refine lv_iload_n hx hb dX6_write_66 rfl (lv_at hl 1 rfl) ?_
      refine lv_iconst (v := 4) hx hb dX6_write_67 (by decide) ?_
      refine lv_icmp_ne (tgt := 122) hx hb dX6_write_68 (by decide) (fun c74 => ?_) (fun c74 => ?_)
      · have hf := pr_neg hf c74
        refine lv_iload_n hx hb dX6_write_122 rfl (lv_at hl 1 rfl) ?_
        refine lv_iconst (v := 5) hx hb dX6_write_123 (by decide) ?_
        refine lv_icmp_ne (tgt := 185) hx hb dX6_write_124 (by decide) (fun c75 => ?_) (fun c75 => ?_)
        · have hf := pr_neg hf c75
          obtain rfl := Option.some.inj hf
          exact hret _ _ _ _ dX6_write_185 (hP.sub [0, 1, 2] rfl) (hD.sub [0, 1, 2] (by decide) rfl) hS
        · have hf := pr_pos hf c75
          refine lv_aload_n hx hb dX6_write_127 rfl (lv_at hl 0 rfl) ?_
          refine lv_aload_n hx hb dX6_write_128 rfl (lv_at hl 0 rfl) ?_
          refine lv_iconst (v := 0) hx hb dX6_write_129 (by decide) ?_
          obtain ⟨u76, hu76, hf⟩ := pr_bd hf
          refine fr_iV (As := [.int 0]) ⟨hx, hb, hml, hown, hts⟩ hK hP hD hS hA (c_X6_at l D cI q_mo q_mv q_me q_mk q_ma q_mb q_mw q_mx n 0 mo_thrown mo_rows mo_size mo_price mo_queries mo_start mo_many mo_bits mv u76 hu76) (cwV 1 hts gX6_write_X6_at rfl rfl rfl (by decide +kernel) ⟨Nat.le_of_ble_eq_true rfl, Nat.le_of_ble_eq_true rfl⟩) [(q_mx, .inl (cI, 2000, .inl mx))] [0, 1] [2] rfl rfl (by decide) (by decide) (by decide) 0 rfl rfl rfl rfl hl.1 (Nat.le_of_ble_eq_true rfl) dX6_write_130 ⟨Nat.zero_le _, Nat.zero_le _⟩ rfl (fun H locs hP hD hS => ?_)
          have hP : va_P D vwCl [(q_mx, .inl (cI, 2000, .inl mx)), (q_mo, .inr (6, [.int mo_thrown, .int mo_rows, .ref q_mv, .int mo_size, .ref q_me, .int mo_price, .int mo_queries, .ref q_mk, .ref q_ma, .ref q_mb, .ref q_mw, .int mo_start, .int mo_many, .int mo_bits, .ref q_mx])), (q_mv, .inl (cI, 96, .inl mv))] H := hP
          have hD : va_D A [(q_mx, .inl (cI, 2000, .inl mx)), (q_mo, .inr (6, [.int mo_thrown, .int mo_rows, .ref q_mv, .int mo_size, .ref q_me, .int mo_price, .int mo_queries, .ref q_mk, .ref q_ma, .ref q_mb, .ref q_mw, .int mo_start, .int mo_many, .int mo_bits, .ref q_mx])), (q_mv, .inl (cI, 96, .inl mv))] := hD
          obtain ⟨u77, hu77, hf⟩ := pr_bd hf
          refine fr_vV (As := [.int u76]) ⟨hx, hb, hml, hown, hts⟩ hK hP hD hS hA (c_X6_putValue l D cI q_mo q_mv q_me q_mk q_ma q_mb q_mw q_mx n u76 mo_thrown mo_rows mo_size mo_price mo_queries mo_start mo_many mo_bits mx u77 hu77) (cwV 1 hts gX6_write_X6_putValue rfl rfl rfl (by decide +kernel) ⟨Nat.le_of_ble_eq_true rfl, Nat.le_of_ble_eq_true rfl⟩) [(q_mv, .inl (cI, 96, .inl mv))] [1, 0] [2] rfl rfl (by decide) (by decide) (by decide) 0 rfl rfl rfl rfl hl.1 (Nat.le_of_ble_eq_true rfl) dX6_write_133 ⟨Nat.zero_le _, Nat.zero_le _⟩ rfl (fun H locs hP hD hS => ?_)
          have hP : va_P D vwCl [(q_mv, .inl (cI, 96, .inl mv)), (q_mo, .inr (6, [.int mo_thrown, .int mo_rows, .ref q_mv, .int mo_size, .ref q_me, .int mo_price, .int mo_queries, .ref q_mk, .ref q_ma, .ref q_mb, .ref q_mw, .int mo_start, .int mo_many, .int u77.1, .ref q_mx])), (q_mx, .inl (cI, 2000, .inl u77.2))] H := hP
          have hD : va_D A [(q_mv, .inl (cI, 96, .inl mv)), (q_mo, .inr (6, [.int mo_thrown, .int mo_rows, .ref q_mv, .int mo_size, .ref q_me, .int mo_price, .int mo_queries, .ref q_mk, .ref q_ma, .ref q_mb, .ref q_mw, .int mo_start, .int mo_many, .int u77.1, .ref q_mx])), (q_mx, .inl (cI, 2000, .inl u77.2))] := hD
          refine lv_aload_n hx hb dX6_write_136 rfl (lv_at hl 0 rfl) ?_
          refine lv_aload_n hx hb dX6_write_137 rfl (lv_at hl 0 rfl) ?_
          obtain ⟨u78, hu78, hf⟩ := pr_bd hf
          refine fr_iV (As := []) ⟨hx, hb, hml, hown, hts⟩ hK hP hD hS hA (c_X6_deltaWidth l D cI q_mo q_mv q_me q_mk q_ma q_mb q_mw q_mx n mo_thrown mo_rows mo_size mo_price mo_queries mo_start mo_many u77.1 mv u78 hu78) (cwV 0 hts gX6_write_X6_deltaWidth rfl rfl rfl (by decide +kernel) ⟨Nat.le_of_ble_eq_true rfl, Nat.le_of_ble_eq_true rfl⟩) [(q_mx, .inl (cI, 2000, .inl u77.2))] [1, 0] [2] rfl rfl (by decide) (by decide) (by decide) 0 rfl rfl rfl rfl hl.1 (Nat.le_of_ble_eq_true rfl) dX6_write_138 ⟨Nat.zero_le _, Nat.zero_le _⟩ rfl (fun H locs hP hD hS => ?_)
          have hP : va_P D vwCl [(q_mx, .inl (cI, 2000, .inl u77.2)), (q_mo, .inr (6, [.int mo_thrown, .int mo_rows, .ref q_mv, .int mo_size, .ref q_me, .int mo_price, .int mo_queries, .ref q_mk, .ref q_ma, .ref q_mb, .ref q_mw, .int mo_start, .int mo_many, .int u77.1, .ref q_mx])), (q_mv, .inl (cI, 96, .inl mv))] H := hP
          have hD : va_D A [(q_mx, .inl (cI, 2000, .inl u77.2)), (q_mo, .inr (6, [.int mo_thrown, .int mo_rows, .ref q_mv, .int mo_size, .ref q_me, .int mo_price, .int mo_queries, .ref q_mk, .ref q_ma, .ref q_mb, .ref q_mw, .int mo_start, .int mo_many, .int u77.1, .ref q_mx])), (q_mv, .inl (cI, 96, .inl mv))] := hD
          refine lv_iconst (v := 5) hx hb dX6_write_141 (by decide) ?_
          obtain ⟨u79, hu79, hf⟩ := pr_bd hf
          refine fr_vV (As := [.int u78, .int 5]) ⟨hx, hb, hml, hown, hts⟩ hK hP hD hS hA (c_X6_put l D cI q_mo q_mv q_me q_mk q_ma q_mb q_mw q_mx n u78 5 mo_thrown mo_rows mo_size mo_price mo_queries mo_start mo_many u77.1 u77.2 u79 hu79) (cwV 2 hts gX6_write_X6_put rfl rfl rfl (by decide +kernel) ⟨Nat.le_of_ble_eq_true rfl, Nat.le_of_ble_eq_true rfl⟩) [(q_mv, .inl (cI, 96, .inl mv))] [1, 0] [2] rfl rfl (by decide) (by decide) (by decide) 0 rfl rfl rfl rfl hl.1 (Nat.le_of_ble_eq_true rfl) dX6_write_142 ⟨Nat.zero_le _, Nat.zero_le _⟩ rfl (fun H locs hP hD hS => ?_)
          have hP : va_P D vwCl [(q_mv, .inl (cI, 96, .inl mv)), (q_mo, .inr (6, [.int mo_thrown, .int mo_rows, .ref q_mv, .int mo_size, .ref q_me, .int mo_price, .int mo_queries, .ref q_mk, .ref q_ma, .ref q_mb, .ref q_mw, .int mo_start, .int mo_many, .int u79.1, .ref q_mx])), (q_mx, .inl (cI, 2000, .inl u79.2))] H := hP
          have hD : va_D A [(q_mv, .inl (cI, 96, .inl mv)), (q_mo, .inr (6, [.int mo_thrown, .int mo_rows, .ref q_mv, .int mo_size, .ref q_me, .int mo_price, .int mo_queries, .ref q_mk, .ref q_ma, .ref q_mb, .ref q_mw, .int mo_start, .int mo_many, .int u79.1, .ref q_mx])), (q_mx, .inl (cI, 2000, .inl u79.2))] := hD
          refine lv_iconst (v := 1) hx hb dX6_write_145 (by decide) ?_
          refine lv_istore_n (lv' := [(2, .int 1), (0, .ref q_mo), (1, .int z1)]) hx hb dX6_write_146 rfl hl (by decide) rfl (fun ls hl => ?_)
          exact k_147 n _ _ _ _ _ ls hf (hP.sub [1, 0, 2] rfl) (hD.sub [1, 0, 2] (by decide) rfl) hS (lv_sub hl [1, 0] rfl)
      · have hf := pr_pos hf c74
        refine lv_aload_n hx hb dX6_write_71 rfl (lv_at hl 0 rfl) ?_
        refine lv_aload_n hx hb dX6_write_72 rfl (lv_at hl 0 rfl) ?_
        obtain ⟨u80, hu80, hf⟩ := pr_bd hf
        refine fr_iV (As := []) ⟨hx, hb, hml, hown, hts⟩ hK hP hD hS hA (c_X6_least l D cI q_mo q_mv q_me q_mk q_ma q_mb q_mw q_mx n mo_thrown mo_rows mo_size mo_price mo_queries mo_start mo_many mo_bits mv u80 hu80) (cwV 0 hts gX6_write_X6_least rfl rfl rfl (by decide +kernel) ⟨Nat.le_of_ble_eq_true rfl, Nat.le_of_ble_eq_true rfl⟩) [(q_mx, .inl (cI, 2000, .inl mx))] [0, 1] [2] rfl rfl (by decide) (by decide) (by decide) 0 rfl rfl rfl rfl hl.1 (Nat.le_of_ble_eq_true rfl) dX6_write_73 ⟨Nat.zero_le _, Nat.zero_le _⟩ rfl (fun H locs hP hD hS => ?_)
        have hP : va_P D vwCl [(q_mx, .inl (cI, 2000, .inl mx)), (q_mo, .inr (6, [.int mo_thrown, .int mo_rows, .ref q_mv, .int mo_size, .ref q_me, .int mo_price, .int mo_queries, .ref q_mk, .ref q_ma, .ref q_mb, .ref q_mw, .int mo_start, .int mo_many, .int mo_bits, .ref q_mx])), (q_mv, .inl (cI, 96, .inl mv))] H := hP
        have hD : va_D A [(q_mx, .inl (cI, 2000, .inl mx)), (q_mo, .inr (6, [.int mo_thrown, .int mo_rows, .ref q_mv, .int mo_size, .ref q_me, .int mo_price, .int mo_queries, .ref q_mk, .ref q_ma, .ref q_mb, .ref q_mw, .int mo_start, .int mo_many, .int mo_bits, .ref q_mx])), (q_mv, .inl (cI, 96, .inl mv))] := hD
        obtain ⟨u81, hu81, hf⟩ := pr_bd hf
        refine fr_vV (As := [.int u80]) ⟨hx, hb, hml, hown, hts⟩ hK hP hD hS hA (c_X6_putValue l D cI q_mo q_mv q_me q_mk q_ma q_mb q_mw q_mx n u80 mo_thrown mo_rows mo_size mo_price mo_queries mo_start mo_many mo_bits mx u81 hu81) (cwV 1 hts gX6_write_X6_putValue rfl rfl rfl (by decide +kernel) ⟨Nat.le_of_ble_eq_true rfl, Nat.le_of_ble_eq_true rfl⟩) [(q_mv, .inl (cI, 96, .inl mv))] [1, 0] [2] rfl rfl (by decide) (by decide) (by decide) 0 rfl rfl rfl rfl hl.1 (Nat.le_of_ble_eq_true rfl) dX6_write_76 ⟨Nat.zero_le _, Nat.zero_le _⟩ rfl (fun H locs hP hD hS => ?_)
        have hP : va_P D vwCl [(q_mv, .inl (cI, 96, .inl mv)), (q_mo, .inr (6, [.int mo_thrown, .int mo_rows, .ref q_mv, .int mo_size, .ref q_me, .int mo_price, .int mo_queries, .ref q_mk, .ref q_ma, .ref q_mb, .ref q_mw, .int mo_start, .int mo_many, .int u81.1, .ref q_mx])), (q_mx, .inl (cI, 2000, .inl u81.2))] H := hP
        have hD : va_D A [(q_mv, .inl (cI, 96, .inl mv)), (q_mo, .inr (6, [.int mo_thrown, .int mo_rows, .ref q_mv, .int mo_size, .ref q_me, .int mo_price, .int mo_queries, .ref q_mk, .ref q_ma, .ref q_mb, .ref q_mw, .int mo_start, .int mo_many, .int u81.1, .ref q_mx])), (q_mx, .inl (cI, 2000, .inl u81.2))] := hD
        refine lv_aload_n hx hb dX6_write_79 rfl (lv_at hl 0 rfl) ?_
        refine lv_aload_n hx hb dX6_write_80 rfl (lv_at hl 0 rfl) ?_
        obtain ⟨u82, hu82, hf⟩ := pr_bd hf
        refine fr_iV (As := []) ⟨hx, hb, hml, hown, hts⟩ hK hP hD hS hA (c_X6_frameWidth l D cI q_mo q_mv q_me q_mk q_ma q_mb q_mw q_mx n mo_thrown mo_rows mo_size mo_price mo_queries mo_start mo_many u81.1 mv u82 hu82) (cwV 0 hts gX6_write_X6_frameWidth rfl rfl rfl (by decide +kernel) ⟨Nat.le_of_ble_eq_true rfl, Nat.le_of_ble_eq_true rfl⟩) [(q_mx, .inl (cI, 2000, .inl u81.2))] [1, 0] [2] rfl rfl (by decide) (by decide) (by decide) 0 rfl rfl rfl rfl hl.1 (Nat.le_of_ble_eq_true rfl) dX6_write_81 ⟨Nat.zero_le _, Nat.zero_le _⟩ rfl (fun H locs hP hD hS => ?_)
        have hP : va_P D vwCl [(q_mx, .inl (cI, 2000, .inl u81.2)), (q_mo, .inr (6, [.int mo_thrown, .int mo_rows, .ref q_mv, .int mo_size, .ref q_me, .int mo_price, .int mo_queries, .ref q_mk, .ref q_ma, .ref q_mb, .ref q_mw, .int mo_start, .int mo_many, .int u81.1, .ref q_mx])), (q_mv, .inl (cI, 96, .inl mv))] H := hP
        have hD : va_D A [(q_mx, .inl (cI, 2000, .inl u81.2)), (q_mo, .inr (6, [.int mo_thrown, .int mo_rows, .ref q_mv, .int mo_size, .ref q_me, .int mo_price, .int mo_queries, .ref q_mk, .ref q_ma, .ref q_mb, .ref q_mw, .int mo_start, .int mo_many, .int u81.1, .ref q_mx])), (q_mv, .inl (cI, 96, .inl mv))] := hD
        refine lv_iconst (v := 5) hx hb dX6_write_84 (by decide) ?_
        obtain ⟨u83, hu83, hf⟩ := pr_bd hf
        refine fr_vV (As := [.int u82, .int 5]) ⟨hx, hb, hml, hown, hts⟩ hK hP hD hS hA (c_X6_put l D cI q_mo q_mv q_me q_mk q_ma q_mb q_mw q_mx n u82 5 mo_thrown mo_rows mo_size mo_price mo_queries mo_start mo_many u81.1 u81.2 u83 hu83) (cwV 2 hts gX6_write_X6_put rfl rfl rfl (by decide +kernel) ⟨Nat.le_of_ble_eq_true rfl, Nat.le_of_ble_eq_true rfl⟩) [(q_mv, .inl (cI, 96, .inl mv))] [1, 0] [2] rfl rfl (by decide) (by decide) (by decide) 0 rfl rfl rfl rfl hl.1 (Nat.le_of_ble_eq_true rfl) dX6_write_85 ⟨Nat.zero_le _, Nat.zero_le _⟩ rfl (fun H locs hP hD hS => ?_)
        have hP : va_P D vwCl [(q_mv, .inl (cI, 96, .inl mv)), (q_mo, .inr (6, [.int mo_thrown, .int mo_rows, .ref q_mv, .int mo_size, .ref q_me, .int mo_price, .int mo_queries, .ref q_mk, .ref q_ma, .ref q_mb, .ref q_mw, .int mo_start, .int mo_many, .int u83.1, .ref q_mx])), (q_mx, .inl (cI, 2000, .inl u83.2))] H := hP
        have hD : va_D A [(q_mv, .inl (cI, 96, .inl mv)), (q_mo, .inr (6, [.int mo_thrown, .int mo_rows, .ref q_mv, .int mo_size, .ref q_me, .int mo_price, .int mo_queries, .ref q_mk, .ref q_ma, .ref q_mb, .ref q_mw, .int mo_start, .int mo_many, .int u83.1, .ref q_mx])), (q_mx, .inl (cI, 2000, .inl u83.2))] := hD
        refine lv_iconst (v := 0) hx hb dX6_write_88 (by decide) ?_
        refine lv_istore_n (lv' := [(2, .int 0), (0, .ref q_mo), (1, .int z1)]) hx hb dX6_write_89 rfl hl (by decide) rfl (fun ls hl => ?_)
        exact k_90 n _ _ _ _ _ _ ls hf (hP.sub [1, 0, 2] rfl) (hD.sub [1, 0, 2] (by decide) rfl) hS (lv_sub hl [1, 2, 0] rfl)
    · have hf := pr_pos hf c73
      refine lv_aload_n hx hb dX6_write_62 rfl (lv_at hl 0 rfl) ?_
      obtain ⟨u84, hu84, hf⟩ := pr_bd hf
      refine fr_vV (As := []) ⟨hx, hb, hml, hown, hts⟩ hK hP hD hS hA (c_X6_writeDictionary l D cI q_mo q_mv q_me q_mk q_ma q_mb q_mw q_mx n mo_thrown mo_rows mo_size mo_price mo_queries mo_start mo_many mo_bits mv mx u84 hu84) (cwV 0 hts gX6_write_X6_writeDictionary rfl rfl rfl (by decide +kernel) ⟨Nat.le_of_ble_eq_true rfl, Nat.le_of_ble_eq_true rfl⟩) [] [0, 1, 2] [] rfl rfl (by decide) (by decide) (by decide) 0 rfl rfl rfl rfl hl.1 (Nat.le_of_ble_eq_true rfl) dX6_write_63 ⟨Nat.zero_le _, Nat.zero_le _⟩ rfl (fun H locs hP hD hS => ?_)
      have hP : va_P D vwCl [(q_mo, .inr (6, [.int mo_thrown, .int mo_rows, .ref q_mv, .int mo_size, .ref q_me, .int mo_price, .int mo_queries, .ref q_mk, .ref q_ma, .ref q_mb, .ref q_mw, .int mo_start, .int mo_many, .int u84.1, .ref q_mx])), (q_mv, .inl (cI, 96, .inl mv)), (q_mx, .inl (cI, 2000, .inl u84.2))] H := hP
      have hD : va_D A [(q_mo, .inr (6, [.int mo_thrown, .int mo_rows, .ref q_mv, .int mo_size, .ref q_me, .int mo_price, .int mo_queries, .ref q_mk, .ref q_ma, .ref q_mb, .ref q_mw, .int mo_start, .int mo_many, .int u84.1, .ref q_mx])), (q_mv, .inl (cI, 96, .inl mv)), (q_mx, .inl (cI, 2000, .inl u84.2))] := hD
      refine lv_iload_n hx hb dX6_write_66 rfl (lv_at hl 1 rfl) ?_
      refine lv_iconst (v := 4) hx hb dX6_write_67 (by decide) ?_
      refine lv_icmp_ne (tgt := 122) hx hb dX6_write_68 (by decide) (fun c85 => ?_) (fun c85 => ?_)
      · have hf := pr_neg hf c85
        refine lv_iload_n hx hb dX6_write_122 rfl (lv_at hl 1 rfl) ?_
        refine lv_iconst (v := 5) hx hb dX6_write_123 (by decide) ?_
        refine lv_icmp_ne (tgt := 185) hx hb dX6_write_124 (by decide) (fun c86 => ?_) (fun c86 => ?_)
        · have hf := pr_neg hf c86
          obtain rfl := Option.some.inj hf
          exact hret _ _ _ _ dX6_write_185 (hP.sub [0, 1, 2] rfl) (hD.sub [0, 1, 2] (by decide) rfl) hS
        · have hf := pr_pos hf c86
          refine lv_aload_n hx hb dX6_write_127 rfl (lv_at hl 0 rfl) ?_
          refine lv_aload_n hx hb dX6_write_128 rfl (lv_at hl 0 rfl) ?_
          refine lv_iconst (v := 0) hx hb dX6_write_129 (by decide) ?_
          obtain ⟨u87, hu87, hf⟩ := pr_bd hf
          refine fr_iV (As := [.int 0]) ⟨hx, hb, hml, hown, hts⟩ hK hP hD hS hA (c_X6_at l D cI q_mo q_mv q_me q_mk q_ma q_mb q_mw q_mx n 0 mo_thrown mo_rows mo_size mo_price mo_queries mo_start mo_many u84.1 mv u87 hu87) (cwV 1 hts gX6_write_X6_at rfl rfl rfl (by decide +kernel) ⟨Nat.le_of_ble_eq_true rfl, Nat.le_of_ble_eq_true rfl⟩) [(q_mx, .inl (cI, 2000, .inl u84.2))] [0, 1] [2] rfl rfl (by decide) (by decide) (by decide) 0 rfl rfl rfl rfl hl.1 (Nat.le_of_ble_eq_true rfl) dX6_write_130 ⟨Nat.zero_le _, Nat.zero_le _⟩ rfl (fun H locs hP hD hS => ?_)
          have hP : va_P D vwCl [(q_mx, .inl (cI, 2000, .inl u84.2)), (q_mo, .inr (6, [.int mo_thrown, .int mo_rows, .ref q_mv, .int mo_size, .ref q_me, .int mo_price, .int mo_queries, .ref q_mk, .ref q_ma, .ref q_mb, .ref q_mw, .int mo_start, .int mo_many, .int u84.1, .ref q_mx])), (q_mv, .inl (cI, 96, .inl mv))] H := hP
          have hD : va_D A [(q_mx, .inl (cI, 2000, .inl u84.2)), (q_mo, .inr (6, [.int mo_thrown, .int mo_rows, .ref q_mv, .int mo_size, .ref q_me, .int mo_price, .int mo_queries, .ref q_mk, .ref q_ma, .ref q_mb, .ref q_mw, .int mo_start, .int mo_many, .int u84.1, .ref q_mx])), (q_mv, .inl (cI, 96, .inl mv))] := hD
          obtain ⟨u88, hu88, hf⟩ := pr_bd hf
          refine fr_vV (As := [.int u87]) ⟨hx, hb, hml, hown, hts⟩ hK hP hD hS hA (c_X6_putValue l D cI q_mo q_mv q_me q_mk q_ma q_mb q_mw q_mx n u87 mo_thrown mo_rows mo_size mo_price mo_queries mo_start mo_many u84.1 u84.2 u88 hu88) (cwV 1 hts gX6_write_X6_putValue rfl rfl rfl (by decide +kernel) ⟨Nat.le_of_ble_eq_true rfl, Nat.le_of_ble_eq_true rfl⟩) [(q_mv, .inl (cI, 96, .inl mv))] [1, 0] [2] rfl rfl (by decide) (by decide) (by decide) 0 rfl rfl rfl rfl hl.1 (Nat.le_of_ble_eq_true rfl) dX6_write_133 ⟨Nat.zero_le _, Nat.zero_le _⟩ rfl (fun H locs hP hD hS => ?_)
          have hP : va_P D vwCl [(q_mv, .inl (cI, 96, .inl mv)), (q_mo, .inr (6, [.int mo_thrown, .int mo_rows, .ref q_mv, .int mo_size, .ref q_me, .int mo_price, .int mo_queries, .ref q_mk, .ref q_ma, .ref q_mb, .ref q_mw, .int mo_start, .int mo_many, .int u88.1, .ref q_mx])), (q_mx, .inl (cI, 2000, .inl u88.2))] H := hP
          have hD : va_D A [(q_mv, .inl (cI, 96, .inl mv)), (q_mo, .inr (6, [.int mo_thrown, .int mo_rows, .ref q_mv, .int mo_size, .ref q_me, .int mo_price, .int mo_queries, .ref q_mk, .ref q_ma, .ref q_mb, .ref q_mw, .int mo_start, .int mo_many, .int u88.1, .ref q_mx])), (q_mx, .inl (cI, 2000, .inl u88.2))] := hD
          refine lv_aload_n hx hb dX6_write_136 rfl (lv_at hl 0 rfl) ?_
          refine lv_aload_n hx hb dX6_write_137 rfl (lv_at hl 0 rfl) ?_
          obtain ⟨u89, hu89, hf⟩ := pr_bd hf
          refine fr_iV (As := []) ⟨hx, hb, hml, hown, hts⟩ hK hP hD hS hA (c_X6_deltaWidth l D cI q_mo q_mv q_me q_mk q_ma q_mb q_mw q_mx n mo_thrown mo_rows mo_size mo_price mo_queries mo_start mo_many u88.1 mv u89 hu89) (cwV 0 hts gX6_write_X6_deltaWidth rfl rfl rfl (by decide +kernel) ⟨Nat.le_of_ble_eq_true rfl, Nat.le_of_ble_eq_true rfl⟩) [(q_mx, .inl (cI, 2000, .inl u88.2))] [1, 0] [2] rfl rfl (by decide) (by decide) (by decide) 0 rfl rfl rfl rfl hl.1 (Nat.le_of_ble_eq_true rfl) dX6_write_138 ⟨Nat.zero_le _, Nat.zero_le _⟩ rfl (fun H locs hP hD hS => ?_)
          have hP : va_P D vwCl [(q_mx, .inl (cI, 2000, .inl u88.2)), (q_mo, .inr (6, [.int mo_thrown, .int mo_rows, .ref q_mv, .int mo_size, .ref q_me, .int mo_price, .int mo_queries, .ref q_mk, .ref q_ma, .ref q_mb, .ref q_mw, .int mo_start, .int mo_many, .int u88.1, .ref q_mx])), (q_mv, .inl (cI, 96, .inl mv))] H := hP
          have hD : va_D A [(q_mx, .inl (cI, 2000, .inl u88.2)), (q_mo, .inr (6, [.int mo_thrown, .int mo_rows, .ref q_mv, .int mo_size, .ref q_me, .int mo_price, .int mo_queries, .ref q_mk, .ref q_ma, .ref q_mb, .ref q_mw, .int mo_start, .int mo_many, .int u88.1, .ref q_mx])), (q_mv, .inl (cI, 96, .inl mv))] := hD
          refine lv_iconst (v := 5) hx hb dX6_write_141 (by decide) ?_
          obtain ⟨u90, hu90, hf⟩ := pr_bd hf
          refine fr_vV (As := [.int u89, .int 5]) ⟨hx, hb, hml, hown, hts⟩ hK hP hD hS hA (c_X6_put l D cI q_mo q_mv q_me q_mk q_ma q_mb q_mw q_mx n u89 5 mo_thrown mo_rows mo_size mo_price mo_queries mo_start mo_many u88.1 u88.2 u90 hu90) (cwV 2 hts gX6_write_X6_put rfl rfl rfl (by decide +kernel) ⟨Nat.le_of_ble_eq_true rfl, Nat.le_of_ble_eq_true rfl⟩) [(q_mv, .inl (cI, 96, .inl mv))] [1, 0] [2] rfl rfl (by decide) (by decide) (by decide) 0 rfl rfl rfl rfl hl.1 (Nat.le_of_ble_eq_true rfl) dX6_write_142 ⟨Nat.zero_le _, Nat.zero_le _⟩ rfl (fun H locs hP hD hS => ?_)
          have hP : va_P D vwCl [(q_mv, .inl (cI, 96, .inl mv)), (q_mo, .inr (6, [.int mo_thrown, .int mo_rows, .ref q_mv, .int mo_size, .ref q_me, .int mo_price, .int mo_queries, .ref q_mk, .ref q_ma, .ref q_mb, .ref q_mw, .int mo_start, .int mo_many, .int u90.1, .ref q_mx])), (q_mx, .inl (cI, 2000, .inl u90.2))] H := hP
          have hD : va_D A [(q_mv, .inl (cI, 96, .inl mv)), (q_mo, .inr (6, [.int mo_thrown, .int mo_rows, .ref q_mv, .int mo_size, .ref q_me, .int mo_price, .int mo_queries, .ref q_mk, .ref q_ma, .ref q_mb, .ref q_mw, .int mo_start, .int mo_many, .int u90.1, .ref q_mx])), (q_mx, .inl (cI, 2000, .inl u90.2))] := hD
          refine lv_iconst (v := 1) hx hb dX6_write_145 (by decide) ?_
          refine lv_istore_n (lv' := [(2, .int 1), (0, .ref q_mo), (1, .int z1)]) hx hb dX6_write_146 rfl hl (by decide) rfl (fun ls hl => ?_)
          exact k_147 n _ _ _ _ _ ls hf (hP.sub [1, 0, 2] rfl) (hD.sub [1, 0, 2] (by decide) rfl) hS (lv_sub hl [1, 0] rfl)
      · have hf := pr_pos hf c85
        refine lv_aload_n hx hb dX6_write_71 rfl (lv_at hl 0 rfl) ?_
        refine lv_aload_n hx hb dX6_write_72 rfl (lv_at hl 0 rfl) ?_
        obtain ⟨u91, hu91, hf⟩ := pr_bd hf
        refine fr_iV (As := []) ⟨hx, hb, hml, hown, hts⟩ hK hP hD hS hA (c_X6_least l D cI q_mo q_mv q_me q_mk q_ma q_mb q_mw q_mx n mo_thrown mo_rows mo_size mo_price mo_queries mo_start mo_many u84.1 mv u91 hu91) (cwV 0 hts gX6_write_X6_least rfl rfl rfl (by decide +kernel) ⟨Nat.le_of_ble_eq_true rfl, Nat.le_of_ble_eq_true rfl⟩) [(q_mx, .inl (cI, 2000, .inl u84.2))] [0, 1] [2] rfl rfl (by decide) (by decide) (by decide) 0 rfl rfl rfl rfl hl.1 (Nat.le_of_ble_eq_true rfl) dX6_write_73 ⟨Nat.zero_le _, Nat.zero_le _⟩ rfl (fun H locs hP hD hS => ?_)
        have hP : va_P D vwCl [(q_mx, .inl (cI, 2000, .inl u84.2)), (q_mo, .inr (6, [.int mo_thrown, .int mo_rows, .ref q_mv, .int mo_size, .ref q_me, .int mo_price, .int mo_queries, .ref q_mk, .ref q_ma, .ref q_mb, .ref q_mw, .int mo_start, .int mo_many, .int u84.1, .ref q_mx])), (q_mv, .inl (cI, 96, .inl mv))] H := hP
        have hD : va_D A [(q_mx, .inl (cI, 2000, .inl u84.2)), (q_mo, .inr (6, [.int mo_thrown, .int mo_rows, .ref q_mv, .int mo_size, .ref q_me, .int mo_price, .int mo_queries, .ref q_mk, .ref q_ma, .ref q_mb, .ref q_mw, .int mo_start, .int mo_many, .int u84.1, .ref q_mx])), (q_mv, .inl (cI, 96, .inl mv))] := hD
        obtain ⟨u92, hu92, hf⟩ := pr_bd hf
        refine fr_vV (As := [.int u91]) ⟨hx, hb, hml, hown, hts⟩ hK hP hD hS hA (c_X6_putValue l D cI q_mo q_mv q_me q_mk q_ma q_mb q_mw q_mx n u91 mo_thrown mo_rows mo_size mo_price mo_queries mo_start mo_many u84.1 u84.2 u92 hu92) (cwV 1 hts gX6_write_X6_putValue rfl rfl rfl (by decide +kernel) ⟨Nat.le_of_ble_eq_true rfl, Nat.le_of_ble_eq_true rfl⟩) [(q_mv, .inl (cI, 96, .inl mv))] [1, 0] [2] rfl rfl (by decide) (by decide) (by decide) 0 rfl rfl rfl rfl hl.1 (Nat.le_of_ble_eq_true rfl) dX6_write_76 ⟨Nat.zero_le _, Nat.zero_le _⟩ rfl (fun H locs hP hD hS => ?_)
        have hP : va_P D vwCl [(q_mv, .inl (cI, 96, .inl mv)), (q_mo, .inr (6, [.int mo_thrown, .int mo_rows, .ref q_mv, .int mo_size, .ref q_me, .int mo_price, .int mo_queries, .ref q_mk, .ref q_ma, .ref q_mb, .ref q_mw, .int mo_start, .int mo_many, .int u92.1, .ref q_mx])), (q_mx, .inl (cI, 2000, .inl u92.2))] H := hP
        have hD : va_D A [(q_mv, .inl (cI, 96, .inl mv)), (q_mo, .inr (6, [.int mo_thrown, .int mo_rows, .ref q_mv, .int mo_size, .ref q_me, .int mo_price, .int mo_queries, .ref q_mk, .ref q_ma, .ref q_mb, .ref q_mw, .int mo_start, .int mo_many, .int u92.1, .ref q_mx])), (q_mx, .inl (cI, 2000, .inl u92.2))] := hD
        refine lv_aload_n hx hb dX6_write_79 rfl (lv_at hl 0 rfl) ?_
        refine lv_aload_n hx hb dX6_write_80 rfl (lv_at hl 0 rfl) ?_
        obtain ⟨u93, hu93, hf⟩ := pr_bd hf
        refine fr_iV (As := []) ⟨hx, hb, hml, hown, hts⟩ hK hP hD hS hA (c_X6_frameWidth l D cI q_mo q_mv q_me q_mk q_ma q_mb q_mw q_mx n mo_thrown mo_rows mo_size mo_price mo_queries mo_start mo_many u92.1 mv u93 hu93) (cwV 0 hts gX6_write_X6_frameWidth rfl rfl rfl (by decide +kernel) ⟨Nat.le_of_ble_eq_true rfl, Nat.le_of_ble_eq_true rfl⟩) [(q_mx, .inl (cI, 2000, .inl u92.2))] [1, 0] [2] rfl rfl (by decide) (by decide) (by decide) 0 rfl rfl rfl rfl hl.1 (Nat.le_of_ble_eq_true rfl) dX6_write_81 ⟨Nat.zero_le _, Nat.zero_le _⟩ rfl (fun H locs hP hD hS => ?_)
        have hP : va_P D vwCl [(q_mx, .inl (cI, 2000, .inl u92.2)), (q_mo, .inr (6, [.int mo_thrown, .int mo_rows, .ref q_mv, .int mo_size, .ref q_me, .int mo_price, .int mo_queries, .ref q_mk, .ref q_ma, .ref q_mb, .ref q_mw, .int mo_start, .int mo_many, .int u92.1, .ref q_mx])), (q_mv, .inl (cI, 96, .inl mv))] H := hP
        have hD : va_D A [(q_mx, .inl (cI, 2000, .inl u92.2)), (q_mo, .inr (6, [.int mo_thrown, .int mo_rows, .ref q_mv, .int mo_size, .ref q_me, .int mo_price, .int mo_queries, .ref q_mk, .ref q_ma, .ref q_mb, .ref q_mw, .int mo_start, .int mo_many, .int u92.1, .ref q_mx])), (q_mv, .inl (cI, 96, .inl mv))] := hD
        refine lv_iconst (v := 5) hx hb dX6_write_84 (by decide) ?_
        obtain ⟨u94, hu94, hf⟩ := pr_bd hf
        refine fr_vV (As := [.int u93, .int 5]) ⟨hx, hb, hml, hown, hts⟩ hK hP hD hS hA (c_X6_put l D cI q_mo q_mv q_me q_mk q_ma q_mb q_mw q_mx n u93 5 mo_thrown mo_rows mo_size mo_price mo_queries mo_start mo_many u92.1 u92.2 u94 hu94) (cwV 2 hts gX6_write_X6_put rfl rfl rfl (by decide +kernel) ⟨Nat.le_of_ble_eq_true rfl, Nat.le_of_ble_eq_true rfl⟩) [(q_mv, .inl (cI, 96, .inl mv))] [1, 0] [2] rfl rfl (by decide) (by decide) (by decide) 0 rfl rfl rfl rfl hl.1 (Nat.le_of_ble_eq_true rfl) dX6_write_85 ⟨Nat.zero_le _, Nat.zero_le _⟩ rfl (fun H locs hP hD hS => ?_)
        have hP : va_P D vwCl [(q_mv, .inl (cI, 96, .inl mv)), (q_mo, .inr (6, [.int mo_thrown, .int mo_rows, .ref q_mv, .int mo_size, .ref q_me, .int mo_price, .int mo_queries, .ref q_mk, .ref q_ma, .ref q_mb, .ref q_mw, .int mo_start, .int mo_many, .int u94.1, .ref q_mx])), (q_mx, .inl (cI, 2000, .inl u94.2))] H := hP
        have hD : va_D A [(q_mv, .inl (cI, 96, .inl mv)), (q_mo, .inr (6, [.int mo_thrown, .int mo_rows, .ref q_mv, .int mo_size, .ref q_me, .int mo_price, .int mo_queries, .ref q_mk, .ref q_ma, .ref q_mb, .ref q_mw, .int mo_start, .int mo_many, .int u94.1, .ref q_mx])), (q_mx, .inl (cI, 2000, .inl u94.2))] := hD
        refine lv_iconst (v := 0) hx hb dX6_write_88 (by decide) ?_
        refine lv_istore_n (lv' := [(2, .int 0), (0, .ref q_mo), (1, .int z1)]) hx hb dX6_write_89 rfl hl (by decide) rfl (fun ls hl => ?_)
        exact k_90 n _ _ _ _ _ _ ls hf (hP.sub [1, 0, 2] rfl) (hD.sub [1, 0, 2] (by decide) rfl) hS (lv_sub hl [1, 2, 0] rfl)
  have k_11 : ∀ (n : Nat), (∀ (z1 : Int32) (z2 : Int32) (mo_bits : Int32) (mx : (Nat → Int32)) (H : Heap) (locs : List Loc) (ls : Array Slot), f_X6_write_11 n z1 z2 mo_start mo_many mo_bits mv mx = some res → va_P D vwCl [(q_mo, .inr (6, [.int mo_thrown, .int mo_rows, .ref q_mv, .int mo_size, .ref q_me, .int mo_price, .int mo_queries, .ref q_mk, .ref q_ma, .ref q_mb, .ref q_mw, .int mo_start, .int mo_many, .int mo_bits, .ref q_mx])), (q_mv, .inl (cI, 96, .inl mv)), (q_mx, .inl (cI, 2000, .inl mx))] H → va_D A [(q_mo, .inr (6, [.int mo_thrown, .int mo_rows, .ref q_mv, .int mo_size, .ref q_me, .int mo_price, .int mo_queries, .ref q_mk, .ref q_ma, .ref q_mb, .ref q_mw, .int mo_start, .int mo_many, .int mo_bits, .ref q_mx])), (q_mv, .inl (cI, 96, .inl mv)), (q_mx, .inl (cI, 2000, .inl mx))] → va_S A s.heap H locs → lv_has ls 3 [(0, .ref q_mo), (1, .int z1), (2, .int z2)] → W p l e ({ frames := 4, cells := 0, slots := 0, locals := 89 }) s m ([.ref q_mo, .int x1] : List Value).toArray below meth c H locs 0 0 Q (F0 m 11 ls [])) := by
    intro n
    induction n with
    | zero =>
      intro z1 z2 mo_bits mx H locs ls hf hP hD hS hl
      exact absurd (show (none : Option (Int32 × (Nat → Int32))) = some res from hf) (by simp)
    | succ n ih =>
      intro z1 z2 mo_bits mx H locs ls hf hP hD hS hl
      have hf : f_X6_write_11_s (f_X6_write_11 n) n z1 z2 mo_start mo_many mo_bits mv mx = some res := hf
      unfold f_X6_write_11_s at hf
      refine lv_iload_n hx hb dX6_write_11 rfl (lv_at hl 2 rfl) ?_
      refine lv_aload_n hx hb dX6_write_12 rfl (lv_at hl 0 rfl) ?_
      refine va_get (D := D) (ci := 6) (v := .int mo_many) (C := RX6) (T := TX6) (N := 15) hx hb hts hin6 hown hK hP 0 rfl rfl 12 (by decide) (hts (.fieldLink RX6 77 "ColumnChooserModel" "many" "I") (List.mem_of_getElem? (i := 2) rfl)) (fun _ h9 => h9) rfl dX6_write_13 ?_
      refine lv_icmp_ge (tgt := 34) hx hb dX6_write_16 (by decide) (fun c95 => ?_) (fun c95 => ?_)
      · have hf := pr_pos hf c95
        refine lv_iload_n hx hb dX6_write_34 rfl (lv_at hl 1 rfl) ?_
        refine lv_iconst (v := 1) hx hb dX6_write_35 (by decide) ?_
        refine lv_icmp_ne (tgt := 48) hx hb dX6_write_36 (by decide) (fun c96 => ?_) (fun c96 => ?_)
        · have hf := pr_neg hf c96
          refine lv_iload_n hx hb dX6_write_48 rfl (lv_at hl 1 rfl) ?_
          refine lv_iconst (v := 2) hx hb dX6_write_49 (by decide) ?_
          refine lv_icmp_ne (tgt := 57) hx hb dX6_write_50 (by decide) (fun c97 => ?_) (fun c97 => ?_)
          · have hf := pr_neg hf c97
            exact k_57 n _ _ _ _ _ ls hf (hP.sub [0, 1, 2] rfl) (hD.sub [0, 1, 2] (by decide) rfl) hS (lv_sub hl [0, 1] rfl)
          · have hf := pr_pos hf c97
            refine lv_aload_n hx hb dX6_write_53 rfl (lv_at hl 0 rfl) ?_
            obtain ⟨u98, hu98, hf⟩ := pr_bd hf
            refine fr_vV (As := []) ⟨hx, hb, hml, hown, hts⟩ hK hP hD hS hA (c_X6_writeRuns l D cI q_mo q_mv q_me q_mk q_ma q_mb q_mw q_mx n mo_thrown mo_rows mo_size mo_price mo_queries mo_start mo_many mo_bits mv mx u98 hu98) (cwV 0 hts gX6_write_X6_writeRuns rfl rfl rfl (by decide +kernel) ⟨Nat.le_of_ble_eq_true rfl, Nat.le_of_ble_eq_true rfl⟩) [] [0, 1, 2] [] rfl rfl (by decide) (by decide) (by decide) 0 rfl rfl rfl rfl hl.1 (Nat.le_of_ble_eq_true rfl) dX6_write_54 ⟨Nat.zero_le _, Nat.zero_le _⟩ rfl (fun H locs hP hD hS => ?_)
            have hP : va_P D vwCl [(q_mo, .inr (6, [.int mo_thrown, .int mo_rows, .ref q_mv, .int mo_size, .ref q_me, .int mo_price, .int mo_queries, .ref q_mk, .ref q_ma, .ref q_mb, .ref q_mw, .int mo_start, .int mo_many, .int u98.1, .ref q_mx])), (q_mv, .inl (cI, 96, .inl mv)), (q_mx, .inl (cI, 2000, .inl u98.2))] H := hP
            have hD : va_D A [(q_mo, .inr (6, [.int mo_thrown, .int mo_rows, .ref q_mv, .int mo_size, .ref q_me, .int mo_price, .int mo_queries, .ref q_mk, .ref q_ma, .ref q_mb, .ref q_mw, .int mo_start, .int mo_many, .int u98.1, .ref q_mx])), (q_mv, .inl (cI, 96, .inl mv)), (q_mx, .inl (cI, 2000, .inl u98.2))] := hD
            exact k_57 n _ _ _ _ _ ls hf (hP.sub [0, 1, 2] rfl) (hD.sub [0, 1, 2] (by decide) rfl) hS (lv_sub hl [0, 1] rfl)
        · have hf := pr_pos hf c96
          refine lv_aload_n hx hb dX6_write_39 rfl (lv_at hl 0 rfl) ?_
          refine lv_aload_n hx hb dX6_write_40 rfl (lv_at hl 0 rfl) ?_
          refine lv_iconst (v := 0) hx hb dX6_write_41 (by decide) ?_
          obtain ⟨u99, hu99, hf⟩ := pr_bd hf
          refine fr_iV (As := [.int 0]) ⟨hx, hb, hml, hown, hts⟩ hK hP hD hS hA (c_X6_at l D cI q_mo q_mv q_me q_mk q_ma q_mb q_mw q_mx n 0 mo_thrown mo_rows mo_size mo_price mo_queries mo_start mo_many mo_bits mv u99 hu99) (cwV 1 hts gX6_write_X6_at rfl rfl rfl (by decide +kernel) ⟨Nat.le_of_ble_eq_true rfl, Nat.le_of_ble_eq_true rfl⟩) [(q_mx, .inl (cI, 2000, .inl mx))] [0, 1] [2] rfl rfl (by decide) (by decide) (by decide) 0 rfl rfl rfl rfl hl.1 (Nat.le_of_ble_eq_true rfl) dX6_write_42 ⟨Nat.zero_le _, Nat.zero_le _⟩ rfl (fun H locs hP hD hS => ?_)
          have hP : va_P D vwCl [(q_mx, .inl (cI, 2000, .inl mx)), (q_mo, .inr (6, [.int mo_thrown, .int mo_rows, .ref q_mv, .int mo_size, .ref q_me, .int mo_price, .int mo_queries, .ref q_mk, .ref q_ma, .ref q_mb, .ref q_mw, .int mo_start, .int mo_many, .int mo_bits, .ref q_mx])), (q_mv, .inl (cI, 96, .inl mv))] H := hP
          have hD : va_D A [(q_mx, .inl (cI, 2000, .inl mx)), (q_mo, .inr (6, [.int mo_thrown, .int mo_rows, .ref q_mv, .int mo_size, .ref q_me, .int mo_price, .int mo_queries, .ref q_mk, .ref q_ma, .ref q_mb, .ref q_mw, .int mo_start, .int mo_many, .int mo_bits, .ref q_mx])), (q_mv, .inl (cI, 96, .inl mv))] := hD
          obtain ⟨u100, hu100, hf⟩ := pr_bd hf
          refine fr_vV (As := [.int u99]) ⟨hx, hb, hml, hown, hts⟩ hK hP hD hS hA (c_X6_putValue l D cI q_mo q_mv q_me q_mk q_ma q_mb q_mw q_mx n u99 mo_thrown mo_rows mo_size mo_price mo_queries mo_start mo_many mo_bits mx u100 hu100) (cwV 1 hts gX6_write_X6_putValue rfl rfl rfl (by decide +kernel) ⟨Nat.le_of_ble_eq_true rfl, Nat.le_of_ble_eq_true rfl⟩) [(q_mv, .inl (cI, 96, .inl mv))] [1, 0] [2] rfl rfl (by decide) (by decide) (by decide) 0 rfl rfl rfl rfl hl.1 (Nat.le_of_ble_eq_true rfl) dX6_write_45 ⟨Nat.zero_le _, Nat.zero_le _⟩ rfl (fun H locs hP hD hS => ?_)
          have hP : va_P D vwCl [(q_mv, .inl (cI, 96, .inl mv)), (q_mo, .inr (6, [.int mo_thrown, .int mo_rows, .ref q_mv, .int mo_size, .ref q_me, .int mo_price, .int mo_queries, .ref q_mk, .ref q_ma, .ref q_mb, .ref q_mw, .int mo_start, .int mo_many, .int u100.1, .ref q_mx])), (q_mx, .inl (cI, 2000, .inl u100.2))] H := hP
          have hD : va_D A [(q_mv, .inl (cI, 96, .inl mv)), (q_mo, .inr (6, [.int mo_thrown, .int mo_rows, .ref q_mv, .int mo_size, .ref q_me, .int mo_price, .int mo_queries, .ref q_mk, .ref q_ma, .ref q_mb, .ref q_mw, .int mo_start, .int mo_many, .int u100.1, .ref q_mx])), (q_mx, .inl (cI, 2000, .inl u100.2))] := hD
          refine lv_iload_n hx hb dX6_write_48 rfl (lv_at hl 1 rfl) ?_
          refine lv_iconst (v := 2) hx hb dX6_write_49 (by decide) ?_
          refine lv_icmp_ne (tgt := 57) hx hb dX6_write_50 (by decide) (fun c101 => ?_) (fun c101 => ?_)
          · have hf := pr_neg hf c101
            exact k_57 n _ _ _ _ _ ls hf (hP.sub [1, 0, 2] rfl) (hD.sub [1, 0, 2] (by decide) rfl) hS (lv_sub hl [0, 1] rfl)
          · have hf := pr_pos hf c101
            refine lv_aload_n hx hb dX6_write_53 rfl (lv_at hl 0 rfl) ?_
            obtain ⟨u102, hu102, hf⟩ := pr_bd hf
            refine fr_vV (As := []) ⟨hx, hb, hml, hown, hts⟩ hK hP hD hS hA (c_X6_writeRuns l D cI q_mo q_mv q_me q_mk q_ma q_mb q_mw q_mx n mo_thrown mo_rows mo_size mo_price mo_queries mo_start mo_many u100.1 mv u100.2 u102 hu102) (cwV 0 hts gX6_write_X6_writeRuns rfl rfl rfl (by decide +kernel) ⟨Nat.le_of_ble_eq_true rfl, Nat.le_of_ble_eq_true rfl⟩) [] [1, 0, 2] [] rfl rfl (by decide) (by decide) (by decide) 0 rfl rfl rfl rfl hl.1 (Nat.le_of_ble_eq_true rfl) dX6_write_54 ⟨Nat.zero_le _, Nat.zero_le _⟩ rfl (fun H locs hP hD hS => ?_)
            have hP : va_P D vwCl [(q_mo, .inr (6, [.int mo_thrown, .int mo_rows, .ref q_mv, .int mo_size, .ref q_me, .int mo_price, .int mo_queries, .ref q_mk, .ref q_ma, .ref q_mb, .ref q_mw, .int mo_start, .int mo_many, .int u102.1, .ref q_mx])), (q_mv, .inl (cI, 96, .inl mv)), (q_mx, .inl (cI, 2000, .inl u102.2))] H := hP
            have hD : va_D A [(q_mo, .inr (6, [.int mo_thrown, .int mo_rows, .ref q_mv, .int mo_size, .ref q_me, .int mo_price, .int mo_queries, .ref q_mk, .ref q_ma, .ref q_mb, .ref q_mw, .int mo_start, .int mo_many, .int u102.1, .ref q_mx])), (q_mv, .inl (cI, 96, .inl mv)), (q_mx, .inl (cI, 2000, .inl u102.2))] := hD
            exact k_57 n _ _ _ _ _ ls hf (hP.sub [0, 1, 2] rfl) (hD.sub [0, 1, 2] (by decide) rfl) hS (lv_sub hl [0, 1] rfl)
      · have hf := pr_neg hf c95
        refine lv_aload_n hx hb dX6_write_19 rfl (lv_at hl 0 rfl) ?_
        refine lv_aload_n hx hb dX6_write_20 rfl (lv_at hl 0 rfl) ?_
        refine lv_iload_n hx hb dX6_write_21 rfl (lv_at hl 2 rfl) ?_
        obtain ⟨u103, hu103, hf⟩ := pr_bd hf
        refine fr_iV (As := [.int z2]) ⟨hx, hb, hml, hown, hts⟩ hK hP hD hS hA (c_X6_at l D cI q_mo q_mv q_me q_mk q_ma q_mb q_mw q_mx n z2 mo_thrown mo_rows mo_size mo_price mo_queries mo_start mo_many mo_bits mv u103 hu103) (cwV 1 hts gX6_write_X6_at rfl rfl rfl (by decide +kernel) ⟨Nat.le_of_ble_eq_true rfl, Nat.le_of_ble_eq_true rfl⟩) [(q_mx, .inl (cI, 2000, .inl mx))] [0, 1] [2] rfl rfl (by decide) (by decide) (by decide) 0 rfl rfl rfl rfl hl.1 (Nat.le_of_ble_eq_true rfl) dX6_write_22 ⟨Nat.zero_le _, Nat.zero_le _⟩ rfl (fun H locs hP hD hS => ?_)
        have hP : va_P D vwCl [(q_mx, .inl (cI, 2000, .inl mx)), (q_mo, .inr (6, [.int mo_thrown, .int mo_rows, .ref q_mv, .int mo_size, .ref q_me, .int mo_price, .int mo_queries, .ref q_mk, .ref q_ma, .ref q_mb, .ref q_mw, .int mo_start, .int mo_many, .int mo_bits, .ref q_mx])), (q_mv, .inl (cI, 96, .inl mv))] H := hP
        have hD : va_D A [(q_mx, .inl (cI, 2000, .inl mx)), (q_mo, .inr (6, [.int mo_thrown, .int mo_rows, .ref q_mv, .int mo_size, .ref q_me, .int mo_price, .int mo_queries, .ref q_mk, .ref q_ma, .ref q_mb, .ref q_mw, .int mo_start, .int mo_many, .int mo_bits, .ref q_mx])), (q_mv, .inl (cI, 96, .inl mv))] := hD
        obtain ⟨u104, hu104, hf⟩ := pr_bd hf
        refine fr_vV (As := [.int u103]) ⟨hx, hb, hml, hown, hts⟩ hK hP hD hS hA (c_X6_putValue l D cI q_mo q_mv q_me q_mk q_ma q_mb q_mw q_mx n u103 mo_thrown mo_rows mo_size mo_price mo_queries mo_start mo_many mo_bits mx u104 hu104) (cwV 1 hts gX6_write_X6_putValue rfl rfl rfl (by decide +kernel) ⟨Nat.le_of_ble_eq_true rfl, Nat.le_of_ble_eq_true rfl⟩) [(q_mv, .inl (cI, 96, .inl mv))] [1, 0] [2] rfl rfl (by decide) (by decide) (by decide) 0 rfl rfl rfl rfl hl.1 (Nat.le_of_ble_eq_true rfl) dX6_write_25 ⟨Nat.zero_le _, Nat.zero_le _⟩ rfl (fun H locs hP hD hS => ?_)
        have hP : va_P D vwCl [(q_mv, .inl (cI, 96, .inl mv)), (q_mo, .inr (6, [.int mo_thrown, .int mo_rows, .ref q_mv, .int mo_size, .ref q_me, .int mo_price, .int mo_queries, .ref q_mk, .ref q_ma, .ref q_mb, .ref q_mw, .int mo_start, .int mo_many, .int u104.1, .ref q_mx])), (q_mx, .inl (cI, 2000, .inl u104.2))] H := hP
        have hD : va_D A [(q_mv, .inl (cI, 96, .inl mv)), (q_mo, .inr (6, [.int mo_thrown, .int mo_rows, .ref q_mv, .int mo_size, .ref q_me, .int mo_price, .int mo_queries, .ref q_mk, .ref q_ma, .ref q_mb, .ref q_mw, .int mo_start, .int mo_many, .int u104.1, .ref q_mx])), (q_mx, .inl (cI, 2000, .inl u104.2))] := hD
        refine lv_iinc (v := (z2 + 1)) (lv' := [(2, .int (z2 + 1)), (0, .ref q_mo), (1, .int z1)]) hx hb dX6_write_28 hl (k := 2) rfl rfl (by decide) rfl (fun ls hl => ?_)
        refine lv_goto (tgt := 11) hx hb dX6_write_31 (by decide) ?_
        exact ih _ _ _ _ _ _ ls hf (hP.sub [1, 0, 2] rfl) (hD.sub [1, 0, 2] (by decide) rfl) hS (lv_sub hl [1, 2, 0] rfl)
  unfold f_X6_write at hf
  refine lv_aload_n hx hb dX6_write_0 rfl (lv_at hl 0 rfl) ?_
  refine lv_iconst (v := 0) hx hb dX6_write_1 (by decide) ?_
  refine va_put (D := D) (ci := 6) (v := .int 0) (ty := .int) (C := RX6) (T := TX6) (N := 15) hx hb hts hin6 tyX6 tyX6_ok nmX6 hown hK hP hD hS 0 rfl rfl 13 (by decide) (hts (.fieldLink RX6 155 "ColumnChooserModel" "bits" "I") (List.mem_of_getElem? (i := 1) rfl)) (fun _ h9 => h9) rfl (by decide +kernel) rfl rfl (Nat.le_of_ble_eq_true rfl) dX6_write_2 (fun H locs hP hD hS => ?_)
  have hP : va_P D vwCl [(q_mo, .inr (6, [.int mo_thrown, .int mo_rows, .ref q_mv, .int mo_size, .ref q_me, .int mo_price, .int mo_queries, .ref q_mk, .ref q_ma, .ref q_mb, .ref q_mw, .int mo_start, .int mo_many, .int 0, .ref q_mx])), (q_mv, .inl (cI, 96, .inl mv)), (q_mx, .inl (cI, 2000, .inl mx))] H := hP
  have hD : va_D A [(q_mo, .inr (6, [.int mo_thrown, .int mo_rows, .ref q_mv, .int mo_size, .ref q_me, .int mo_price, .int mo_queries, .ref q_mk, .ref q_ma, .ref q_mb, .ref q_mw, .int mo_start, .int mo_many, .int 0, .ref q_mx])), (q_mv, .inl (cI, 96, .inl mv)), (q_mx, .inl (cI, 2000, .inl mx))] := hD
  refine lv_iload_n hx hb dX6_write_5 rfl (lv_at hl 1 rfl) ?_
  refine lv_if_ne (tgt := 34) hx hb dX6_write_6 (by decide) (fun c105 => ?_) (fun c105 => ?_)
  · have hf := pr_neg hf c105
    refine lv_iload_n hx hb dX6_write_34 rfl (lv_at hl 1 rfl) ?_
    refine lv_iconst (v := 1) hx hb dX6_write_35 (by decide) ?_
    refine lv_icmp_ne (tgt := 48) hx hb dX6_write_36 (by decide) (fun c106 => ?_) (fun c106 => ?_)
    · have hf := pr_neg hf c106
      refine lv_iload_n hx hb dX6_write_48 rfl (lv_at hl 1 rfl) ?_
      refine lv_iconst (v := 2) hx hb dX6_write_49 (by decide) ?_
      refine lv_icmp_ne (tgt := 57) hx hb dX6_write_50 (by decide) (fun c107 => ?_) (fun c107 => ?_)
      · have hf := pr_neg hf c107
        exact k_57 n _ _ _ _ _ ls hf (hP.sub [0, 1, 2] rfl) (hD.sub [0, 1, 2] (by decide) rfl) hS (lv_sub hl [0, 1] rfl)
      · have hf := pr_pos hf c107
        refine lv_aload_n hx hb dX6_write_53 rfl (lv_at hl 0 rfl) ?_
        obtain ⟨u108, hu108, hf⟩ := pr_bd hf
        refine fr_vV (As := []) ⟨hx, hb, hml, hown, hts⟩ hK hP hD hS hA (c_X6_writeRuns l D cI q_mo q_mv q_me q_mk q_ma q_mb q_mw q_mx n mo_thrown mo_rows mo_size mo_price mo_queries mo_start mo_many 0 mv mx u108 hu108) (cwV 0 hts gX6_write_X6_writeRuns rfl rfl rfl (by decide +kernel) ⟨Nat.le_of_ble_eq_true rfl, Nat.le_of_ble_eq_true rfl⟩) [] [0, 1, 2] [] rfl rfl (by decide) (by decide) (by decide) 0 rfl rfl rfl rfl hl.1 (Nat.le_of_ble_eq_true rfl) dX6_write_54 ⟨Nat.zero_le _, Nat.zero_le _⟩ rfl (fun H locs hP hD hS => ?_)
        have hP : va_P D vwCl [(q_mo, .inr (6, [.int mo_thrown, .int mo_rows, .ref q_mv, .int mo_size, .ref q_me, .int mo_price, .int mo_queries, .ref q_mk, .ref q_ma, .ref q_mb, .ref q_mw, .int mo_start, .int mo_many, .int u108.1, .ref q_mx])), (q_mv, .inl (cI, 96, .inl mv)), (q_mx, .inl (cI, 2000, .inl u108.2))] H := hP
        have hD : va_D A [(q_mo, .inr (6, [.int mo_thrown, .int mo_rows, .ref q_mv, .int mo_size, .ref q_me, .int mo_price, .int mo_queries, .ref q_mk, .ref q_ma, .ref q_mb, .ref q_mw, .int mo_start, .int mo_many, .int u108.1, .ref q_mx])), (q_mv, .inl (cI, 96, .inl mv)), (q_mx, .inl (cI, 2000, .inl u108.2))] := hD
        exact k_57 n _ _ _ _ _ ls hf (hP.sub [0, 1, 2] rfl) (hD.sub [0, 1, 2] (by decide) rfl) hS (lv_sub hl [0, 1] rfl)
    · have hf := pr_pos hf c106
      refine lv_aload_n hx hb dX6_write_39 rfl (lv_at hl 0 rfl) ?_
      refine lv_aload_n hx hb dX6_write_40 rfl (lv_at hl 0 rfl) ?_
      refine lv_iconst (v := 0) hx hb dX6_write_41 (by decide) ?_
      obtain ⟨u109, hu109, hf⟩ := pr_bd hf
      refine fr_iV (As := [.int 0]) ⟨hx, hb, hml, hown, hts⟩ hK hP hD hS hA (c_X6_at l D cI q_mo q_mv q_me q_mk q_ma q_mb q_mw q_mx n 0 mo_thrown mo_rows mo_size mo_price mo_queries mo_start mo_many 0 mv u109 hu109) (cwV 1 hts gX6_write_X6_at rfl rfl rfl (by decide +kernel) ⟨Nat.le_of_ble_eq_true rfl, Nat.le_of_ble_eq_true rfl⟩) [(q_mx, .inl (cI, 2000, .inl mx))] [0, 1] [2] rfl rfl (by decide) (by decide) (by decide) 0 rfl rfl rfl rfl hl.1 (Nat.le_of_ble_eq_true rfl) dX6_write_42 ⟨Nat.zero_le _, Nat.zero_le _⟩ rfl (fun H locs hP hD hS => ?_)
      have hP : va_P D vwCl [(q_mx, .inl (cI, 2000, .inl mx)), (q_mo, .inr (6, [.int mo_thrown, .int mo_rows, .ref q_mv, .int mo_size, .ref q_me, .int mo_price, .int mo_queries, .ref q_mk, .ref q_ma, .ref q_mb, .ref q_mw, .int mo_start, .int mo_many, .int 0, .ref q_mx])), (q_mv, .inl (cI, 96, .inl mv))] H := hP
      have hD : va_D A [(q_mx, .inl (cI, 2000, .inl mx)), (q_mo, .inr (6, [.int mo_thrown, .int mo_rows, .ref q_mv, .int mo_size, .ref q_me, .int mo_price, .int mo_queries, .ref q_mk, .ref q_ma, .ref q_mb, .ref q_mw, .int mo_start, .int mo_many, .int 0, .ref q_mx])), (q_mv, .inl (cI, 96, .inl mv))] := hD
      obtain ⟨u110, hu110, hf⟩ := pr_bd hf
      refine fr_vV (As := [.int u109]) ⟨hx, hb, hml, hown, hts⟩ hK hP hD hS hA (c_X6_putValue l D cI q_mo q_mv q_me q_mk q_ma q_mb q_mw q_mx n u109 mo_thrown mo_rows mo_size mo_price mo_queries mo_start mo_many 0 mx u110 hu110) (cwV 1 hts gX6_write_X6_putValue rfl rfl rfl (by decide +kernel) ⟨Nat.le_of_ble_eq_true rfl, Nat.le_of_ble_eq_true rfl⟩) [(q_mv, .inl (cI, 96, .inl mv))] [1, 0] [2] rfl rfl (by decide) (by decide) (by decide) 0 rfl rfl rfl rfl hl.1 (Nat.le_of_ble_eq_true rfl) dX6_write_45 ⟨Nat.zero_le _, Nat.zero_le _⟩ rfl (fun H locs hP hD hS => ?_)
      have hP : va_P D vwCl [(q_mv, .inl (cI, 96, .inl mv)), (q_mo, .inr (6, [.int mo_thrown, .int mo_rows, .ref q_mv, .int mo_size, .ref q_me, .int mo_price, .int mo_queries, .ref q_mk, .ref q_ma, .ref q_mb, .ref q_mw, .int mo_start, .int mo_many, .int u110.1, .ref q_mx])), (q_mx, .inl (cI, 2000, .inl u110.2))] H := hP
      have hD : va_D A [(q_mv, .inl (cI, 96, .inl mv)), (q_mo, .inr (6, [.int mo_thrown, .int mo_rows, .ref q_mv, .int mo_size, .ref q_me, .int mo_price, .int mo_queries, .ref q_mk, .ref q_ma, .ref q_mb, .ref q_mw, .int mo_start, .int mo_many, .int u110.1, .ref q_mx])), (q_mx, .inl (cI, 2000, .inl u110.2))] := hD
      refine lv_iload_n hx hb dX6_write_48 rfl (lv_at hl 1 rfl) ?_
      refine lv_iconst (v := 2) hx hb dX6_write_49 (by decide) ?_
      refine lv_icmp_ne (tgt := 57) hx hb dX6_write_50 (by decide) (fun c111 => ?_) (fun c111 => ?_)
      · have hf := pr_neg hf c111
        exact k_57 n _ _ _ _ _ ls hf (hP.sub [1, 0, 2] rfl) (hD.sub [1, 0, 2] (by decide) rfl) hS (lv_sub hl [0, 1] rfl)
      · have hf := pr_pos hf c111
        refine lv_aload_n hx hb dX6_write_53 rfl (lv_at hl 0 rfl) ?_
        obtain ⟨u112, hu112, hf⟩ := pr_bd hf
        refine fr_vV (As := []) ⟨hx, hb, hml, hown, hts⟩ hK hP hD hS hA (c_X6_writeRuns l D cI q_mo q_mv q_me q_mk q_ma q_mb q_mw q_mx n mo_thrown mo_rows mo_size mo_price mo_queries mo_start mo_many u110.1 mv u110.2 u112 hu112) (cwV 0 hts gX6_write_X6_writeRuns rfl rfl rfl (by decide +kernel) ⟨Nat.le_of_ble_eq_true rfl, Nat.le_of_ble_eq_true rfl⟩) [] [1, 0, 2] [] rfl rfl (by decide) (by decide) (by decide) 0 rfl rfl rfl rfl hl.1 (Nat.le_of_ble_eq_true rfl) dX6_write_54 ⟨Nat.zero_le _, Nat.zero_le _⟩ rfl (fun H locs hP hD hS => ?_)
        have hP : va_P D vwCl [(q_mo, .inr (6, [.int mo_thrown, .int mo_rows, .ref q_mv, .int mo_size, .ref q_me, .int mo_price, .int mo_queries, .ref q_mk, .ref q_ma, .ref q_mb, .ref q_mw, .int mo_start, .int mo_many, .int u112.1, .ref q_mx])), (q_mv, .inl (cI, 96, .inl mv)), (q_mx, .inl (cI, 2000, .inl u112.2))] H := hP
        have hD : va_D A [(q_mo, .inr (6, [.int mo_thrown, .int mo_rows, .ref q_mv, .int mo_size, .ref q_me, .int mo_price, .int mo_queries, .ref q_mk, .ref q_ma, .ref q_mb, .ref q_mw, .int mo_start, .int mo_many, .int u112.1, .ref q_mx])), (q_mv, .inl (cI, 96, .inl mv)), (q_mx, .inl (cI, 2000, .inl u112.2))] := hD
        exact k_57 n _ _ _ _ _ ls hf (hP.sub [0, 1, 2] rfl) (hD.sub [0, 1, 2] (by decide) rfl) hS (lv_sub hl [0, 1] rfl)
  · have hf := pr_pos hf c105
    refine lv_iconst (v := 0) hx hb dX6_write_9 (by decide) ?_
    refine lv_istore_n (lv' := [(2, .int 0), (0, .ref q_mo), (1, .int x1)]) hx hb dX6_write_10 rfl hl (by decide) rfl (fun ls hl => ?_)
    exact k_11 n _ _ _ _ _ _ ls hf (hP.sub [0, 1, 2] rfl) (hD.sub [0, 1, 2] (by decide) rfl) hS (lv_sub hl [1, 2, 0] rfl)
set_option maxHeartbeats 4000000 in
set_option maxRecDepth 100000 in
theorem c_X6_bitCount (l : Launch) (D : va_G) (cI : ClassId) (q_mo q_mv q_me q_mk q_ma q_mb q_mw q_mx : Nat) (n : Nat) (x1 : Int32) (mo_thrown : Int32) (mo_rows : Int32) (mo_size : Int32) (mo_price : Int32) (mo_queries : Int32) (mo_start : Int32) (mo_many : Int32) (mo_bits : Int32) (mv : (Nat → Int32)) (me : (Nat → Int32)) (res : Int32 × Int32 × Int32 × Int32) (hf : f_X6_bitCount n x1 mo_thrown mo_rows mo_size mo_start mo_many mv me = some res) : fr_Ci l yX6_bitCount wsX6_bitCount ({ frames := 4, cells := 0, slots := 0, locals := 87 }) D [(cI, .int)] [.ref q_mo, .int x1] [(q_mo, .inr (6, [.int mo_thrown, .int mo_rows, .ref q_mv, .int mo_size, .ref q_me, .int mo_price, .int mo_queries, .ref q_mk, .ref q_ma, .ref q_mb, .ref q_mw, .int mo_start, .int mo_many, .int mo_bits, .ref q_mx])), (q_mv, .inl (cI, 96, .inl mv)), (q_me, .inl (cI, 96, .inl me))] res.1 [(q_mo, .inr (6, [.int res.2.1, .int mo_rows, .ref q_mv, .int mo_size, .ref q_me, .int mo_price, .int mo_queries, .ref q_mk, .ref q_ma, .ref q_mb, .ref q_mw, .int res.2.2.1, .int res.2.2.2, .int mo_bits, .ref q_mx])), (q_mv, .inl (cI, 96, .inl mv)), (q_me, .inl (cI, 96, .inl me))] := by
  refine fr_open_i (cc := cX6_bitCount) (maxL := 2) (ret := some .int) (by decide +kernel) rfl (Nat.le_of_ble_eq_true rfl) ⟨.int, rfl, vp_nar_int _⟩ ?_
  intro p e s m below meth c A Q ls hx hb hml hown hts hA hK hP hD hS hl hret
  have hown : s.vm.findClass RX6 = some m.cls := hown
  have hl : lv_has ls 2 [(0, .ref q_mo), (1, .int x1)] := hl
  have hin6 : ∀ w ∈ u_ws RX6 TX6 15, w ∈ wsX6_bitCount := fun _ h9 => List.mem_cons_of_mem _ (List.mem_append_right _ h9)
  unfold f_X6_bitCount at hf
  refine lv_aload_n hx hb dX6_bitCount_0 rfl (lv_at hl 0 rfl) ?_
  refine lv_iload_n hx hb dX6_bitCount_1 rfl (lv_at hl 1 rfl) ?_
  refine lv_iconst (v := 0) hx hb dX6_bitCount_2 (by decide) ?_
  obtain ⟨u5, hu5, hf⟩ := pr_bd hf
  refine fr_iV (As := [.int x1, .int 0]) ⟨hx, hb, hml, hown, hts⟩ hK hP hD hS hA (c_X6_asks l D cI q_mo q_mv q_me q_mk q_ma q_mb q_mw q_mx n x1 0 mo_thrown mo_rows mo_size mo_price mo_queries mo_start mo_many mo_bits u5 hu5) (cwV 2 hts gX6_bitCount_X6_asks rfl rfl rfl (by decide +kernel) ⟨Nat.le_of_ble_eq_true rfl, Nat.le_of_ble_eq_true rfl⟩) [(q_mv, .inl (cI, 96, .inl mv)), (q_me, .inl (cI, 96, .inl me))] [0] [1, 2] rfl rfl (by decide) (by decide) (by decide) 0 rfl rfl rfl rfl hl.1 (Nat.le_of_ble_eq_true rfl) dX6_bitCount_3 ⟨Nat.zero_le _, Nat.zero_le _⟩ rfl (fun H locs hP hD hS => ?_)
  have hP : va_P D vwCl [(q_mv, .inl (cI, 96, .inl mv)), (q_me, .inl (cI, 96, .inl me)), (q_mo, .inr (6, [.int u5.2.1, .int mo_rows, .ref q_mv, .int mo_size, .ref q_me, .int mo_price, .int mo_queries, .ref q_mk, .ref q_ma, .ref q_mb, .ref q_mw, .int u5.2.2.1, .int u5.2.2.2, .int mo_bits, .ref q_mx]))] H := hP
  have hD : va_D A [(q_mv, .inl (cI, 96, .inl mv)), (q_me, .inl (cI, 96, .inl me)), (q_mo, .inr (6, [.int u5.2.1, .int mo_rows, .ref q_mv, .int mo_size, .ref q_me, .int mo_price, .int mo_queries, .ref q_mk, .ref q_ma, .ref q_mb, .ref q_mw, .int u5.2.2.1, .int u5.2.2.2, .int mo_bits, .ref q_mx]))] := hD
  refine lv_if_eq (tgt := 22) hx hb dX6_bitCount_6 (by decide) (fun c6 => ?_) (fun c6 => ?_)
  · have hf := pr_pos hf c6
    refine lv_iconst (v := 0) hx hb dX6_bitCount_22 (by decide) ?_
    obtain rfl := Option.some.inj hf
    exact hret _ _ _ _ dX6_bitCount_23 (hP.sub [2, 0, 1] rfl) (hD.sub [2, 0, 1] (by decide) rfl) hS
  · have hf := pr_neg hf c6
    refine lv_aload_n hx hb dX6_bitCount_9 rfl (lv_at hl 0 rfl) ?_
    refine lv_aload_n hx hb dX6_bitCount_10 rfl (lv_at hl 0 rfl) ?_
    refine va_get (D := D) (ci := 6) (v := .ref q_me) (C := RX6) (T := TX6) (N := 15) hx hb hts hin6 hown hK hP 2 rfl rfl 4 (by decide) (hts (.fieldLink RX6 17 "ColumnChooserModel" "encodings" "[I") (List.mem_of_getElem? (i := 1) rfl)) (fun _ h9 => h9) rfl dX6_bitCount_11 ?_
    refine lv_iload_n hx hb dX6_bitCount_14 rfl (lv_at hl 1 rfl) ?_
    obtain ⟨v7, hv7, hf⟩ := pr_bd hf
    refine fr_rd hx hb hK hP 1 0 rfl rfl hv7 dX6_bitCount_15 ?_
    obtain ⟨u8, hu8, hf⟩ := pr_bd hf
    refine fr_iV (As := [.int v7]) ⟨hx, hb, hml, hown, hts⟩ hK hP hD hS hA (c_X6_sizeOf l D cI q_mo q_mv q_me q_mk q_ma q_mb q_mw q_mx n v7 u5.2.1 mo_rows mo_size mo_price mo_queries u5.2.2.1 u5.2.2.2 mo_bits mv u8 hu8) (cwV 1 hts gX6_bitCount_X6_sizeOf rfl rfl rfl (by decide +kernel) ⟨Nat.le_of_ble_eq_true rfl, Nat.le_of_ble_eq_true rfl⟩) [(q_me, .inl (cI, 96, .inl me))] [2, 0] [1] rfl rfl (by decide) (by decide) (by decide) 0 rfl rfl rfl rfl hl.1 (Nat.le_of_ble_eq_true rfl) dX6_bitCount_16 ⟨Nat.zero_le _, Nat.zero_le _⟩ rfl (fun H locs hP hD hS => ?_)
    have hP : va_P D vwCl [(q_me, .inl (cI, 96, .inl me)), (q_mo, .inr (6, [.int u5.2.1, .int mo_rows, .ref q_mv, .int mo_size, .ref q_me, .int mo_price, .int mo_queries, .ref q_mk, .ref q_ma, .ref q_mb, .ref q_mw, .int u5.2.2.1, .int u5.2.2.2, .int mo_bits, .ref q_mx])), (q_mv, .inl (cI, 96, .inl mv))] H := hP
    have hD : va_D A [(q_me, .inl (cI, 96, .inl me)), (q_mo, .inr (6, [.int u5.2.1, .int mo_rows, .ref q_mv, .int mo_size, .ref q_me, .int mo_price, .int mo_queries, .ref q_mk, .ref q_ma, .ref q_mb, .ref q_mw, .int u5.2.2.1, .int u5.2.2.2, .int mo_bits, .ref q_mx])), (q_mv, .inl (cI, 96, .inl mv))] := hD
    refine lv_goto (tgt := 23) hx hb dX6_bitCount_19 (by decide) ?_
    obtain rfl := Option.some.inj hf
    exact hret _ _ _ _ dX6_bitCount_23 (hP.sub [1, 2, 0] rfl) (hD.sub [1, 2, 0] (by decide) rfl) hS
set_option maxHeartbeats 4000000 in
set_option maxRecDepth 100000 in
theorem c_X6_bit (l : Launch) (D : va_G) (cI : ClassId) (q_mo q_mv q_me q_mk q_ma q_mb q_mw q_mx : Nat) (n : Nat) (x1 : Int32) (x2 : Int32) (mo_thrown : Int32) (mo_rows : Int32) (mo_size : Int32) (mo_price : Int32) (mo_queries : Int32) (mo_start : Int32) (mo_many : Int32) (mo_bits : Int32) (mv : (Nat → Int32)) (me : (Nat → Int32)) (mx : (Nat → Int32)) (res : Int32 × Int32 × Int32 × Int32 × Int32 × (Nat → Int32)) (hf : f_X6_bit n x1 x2 mo_thrown mo_rows mo_size mo_start mo_many mo_bits mv me mx = some res) : fr_Ci l yX6_bit wsX6_bit ({ frames := 5, cells := 0, slots := 0, locals := 111 }) D [(cI, .int)] [.ref q_mo, .int x1, .int x2] [(q_mo, .inr (6, [.int mo_thrown, .int mo_rows, .ref q_mv, .int mo_size, .ref q_me, .int mo_price, .int mo_queries, .ref q_mk, .ref q_ma, .ref q_mb, .ref q_mw, .int mo_start, .int mo_many, .int mo_bits, .ref q_mx])), (q_mv, .inl (cI, 96, .inl mv)), (q_me, .inl (cI, 96, .inl me)), (q_mx, .inl (cI, 2000, .inl mx))] res.1 [(q_mo, .inr (6, [.int res.2.1, .int mo_rows, .ref q_mv, .int mo_size, .ref q_me, .int mo_price, .int mo_queries, .ref q_mk, .ref q_ma, .ref q_mb, .ref q_mw, .int res.2.2.1, .int res.2.2.2.1, .int res.2.2.2.2.1, .ref q_mx])), (q_mv, .inl (cI, 96, .inl mv)), (q_me, .inl (cI, 96, .inl me)), (q_mx, .inl (cI, 2000, .inl res.2.2.2.2.2))] := by
  refine fr_open_i (cc := cX6_bit) (maxL := 3) (ret := some .int) (by decide +kernel) rfl (Nat.le_of_ble_eq_true rfl) ⟨.int, rfl, vp_nar_int _⟩ ?_
  intro p e s m below meth c A Q ls hx hb hml hown hts hA hK hP hD hS hl hret
  have hown : s.vm.findClass RX6 = some m.cls := hown
  have hl : lv_has ls 3 [(0, .ref q_mo), (1, .int x1), (2, .int x2)] := hl
  have hin6 : ∀ w ∈ u_ws RX6 TX6 15, w ∈ wsX6_bit := fun _ h9 => List.mem_cons_of_mem _ (List.mem_append_right _ h9)
  unfold f_X6_bit at hf
  refine lv_aload_n hx hb dX6_bit_0 rfl (lv_at hl 0 rfl) ?_
  refine lv_iload_n hx hb dX6_bit_1 rfl (lv_at hl 1 rfl) ?_
  refine lv_iconst (v := 0) hx hb dX6_bit_2 (by decide) ?_
  obtain ⟨u10, hu10, hf⟩ := pr_bd hf
  refine fr_iV (As := [.int x1, .int 0]) ⟨hx, hb, hml, hown, hts⟩ hK hP hD hS hA (c_X6_asks l D cI q_mo q_mv q_me q_mk q_ma q_mb q_mw q_mx n x1 0 mo_thrown mo_rows mo_size mo_price mo_queries mo_start mo_many mo_bits u10 hu10) (cwV 2 hts gX6_bit_X6_asks rfl rfl rfl (by decide +kernel) ⟨Nat.le_of_ble_eq_true rfl, Nat.le_of_ble_eq_true rfl⟩) [(q_mv, .inl (cI, 96, .inl mv)), (q_me, .inl (cI, 96, .inl me)), (q_mx, .inl (cI, 2000, .inl mx))] [0] [1, 2, 3] rfl rfl (by decide) (by decide) (by decide) 0 rfl rfl rfl rfl hl.1 (Nat.le_of_ble_eq_true rfl) dX6_bit_3 ⟨Nat.zero_le _, Nat.zero_le _⟩ rfl (fun H locs hP hD hS => ?_)
  have hP : va_P D vwCl [(q_mv, .inl (cI, 96, .inl mv)), (q_me, .inl (cI, 96, .inl me)), (q_mx, .inl (cI, 2000, .inl mx)), (q_mo, .inr (6, [.int u10.2.1, .int mo_rows, .ref q_mv, .int mo_size, .ref q_me, .int mo_price, .int mo_queries, .ref q_mk, .ref q_ma, .ref q_mb, .ref q_mw, .int u10.2.2.1, .int u10.2.2.2, .int mo_bits, .ref q_mx]))] H := hP
  have hD : va_D A [(q_mv, .inl (cI, 96, .inl mv)), (q_me, .inl (cI, 96, .inl me)), (q_mx, .inl (cI, 2000, .inl mx)), (q_mo, .inr (6, [.int u10.2.1, .int mo_rows, .ref q_mv, .int mo_size, .ref q_me, .int mo_price, .int mo_queries, .ref q_mk, .ref q_ma, .ref q_mb, .ref q_mw, .int u10.2.2.1, .int u10.2.2.2, .int mo_bits, .ref q_mx]))] := hD
  refine lv_if_ne (tgt := 11) hx hb dX6_bit_6 (by decide) (fun c11 => ?_) (fun c11 => ?_)
  · have hf := pr_neg hf c11
    refine lv_aload_n hx hb dX6_bit_11 rfl (lv_at hl 0 rfl) ?_
    refine lv_aload_n hx hb dX6_bit_12 rfl (lv_at hl 0 rfl) ?_
    refine va_get (D := D) (ci := 6) (v := .ref q_me) (C := RX6) (T := TX6) (N := 15) hx hb hts hin6 hown hK hP 3 rfl rfl 4 (by decide) (hts (.fieldLink RX6 17 "ColumnChooserModel" "encodings" "[I") (List.mem_of_getElem? (i := 1) rfl)) (fun _ h9 => h9) rfl dX6_bit_13 ?_
    refine lv_iload_n hx hb dX6_bit_16 rfl (lv_at hl 1 rfl) ?_
    obtain ⟨v12, hv12, hf⟩ := pr_bd hf
    refine fr_rd hx hb hK hP 1 0 rfl rfl hv12 dX6_bit_17 ?_
    obtain ⟨u13, hu13, hf⟩ := pr_bd hf
    refine fr_vV (As := [.int v12]) ⟨hx, hb, hml, hown, hts⟩ hK hP hD hS hA (c_X6_write l D cI q_mo q_mv q_me q_mk q_ma q_mb q_mw q_mx n v12 u10.2.1 mo_rows mo_size mo_price mo_queries u10.2.2.1 u10.2.2.2 mo_bits mv mx u13 hu13) (cwV 1 hts gX6_bit_X6_write rfl rfl rfl (by decide +kernel) ⟨Nat.le_of_ble_eq_true rfl, Nat.le_of_ble_eq_true rfl⟩) [(q_me, .inl (cI, 96, .inl me))] [3, 0, 2] [1] rfl rfl (by decide) (by decide) (by decide) 0 rfl rfl rfl rfl hl.1 (Nat.le_of_ble_eq_true rfl) dX6_bit_18 ⟨Nat.zero_le _, Nat.zero_le _⟩ rfl (fun H locs hP hD hS => ?_)
    have hP : va_P D vwCl [(q_me, .inl (cI, 96, .inl me)), (q_mo, .inr (6, [.int u10.2.1, .int mo_rows, .ref q_mv, .int mo_size, .ref q_me, .int mo_price, .int mo_queries, .ref q_mk, .ref q_ma, .ref q_mb, .ref q_mw, .int u10.2.2.1, .int u10.2.2.2, .int u13.1, .ref q_mx])), (q_mv, .inl (cI, 96, .inl mv)), (q_mx, .inl (cI, 2000, .inl u13.2))] H := hP
    have hD : va_D A [(q_me, .inl (cI, 96, .inl me)), (q_mo, .inr (6, [.int u10.2.1, .int mo_rows, .ref q_mv, .int mo_size, .ref q_me, .int mo_price, .int mo_queries, .ref q_mk, .ref q_ma, .ref q_mb, .ref q_mw, .int u10.2.2.1, .int u10.2.2.2, .int u13.1, .ref q_mx])), (q_mv, .inl (cI, 96, .inl mv)), (q_mx, .inl (cI, 2000, .inl u13.2))] := hD
    refine lv_iload_n hx hb dX6_bit_21 rfl (lv_at hl 2 rfl) ?_
    refine lv_if_lt (tgt := 42) hx hb dX6_bit_22 (by decide) (fun c14 => ?_) (fun c14 => ?_)
    · have hf := pr_pos hf c14
      refine lv_aload_n hx hb dX6_bit_42 rfl (lv_at hl 0 rfl) ?_
      refine lv_iconst (v := 1) hx hb dX6_bit_43 (by decide) ?_
      obtain ⟨u15, hu15, hf⟩ := pr_bd hf
      refine fr_iV (As := [.int 1]) ⟨hx, hb, hml, hown, hts⟩ hK hP hD hS hA (c_X6_fail l D cI q_mo q_mv q_me q_mk q_ma q_mb q_mw q_mx n 1 u10.2.1 mo_rows mo_size mo_price mo_queries u10.2.2.1 u10.2.2.2 u13.1 u15 hu15) (cwV 1 hts gX6_bit_X6_fail rfl rfl rfl (by decide +kernel) ⟨Nat.le_of_ble_eq_true rfl, Nat.le_of_ble_eq_true rfl⟩) [(q_me, .inl (cI, 96, .inl me)), (q_mv, .inl (cI, 96, .inl mv)), (q_mx, .inl (cI, 2000, .inl u13.2))] [1] [0, 2, 3] rfl rfl (by decide) (by decide) (by decide) 0 rfl rfl rfl rfl hl.1 (Nat.le_of_ble_eq_true rfl) dX6_bit_44 ⟨Nat.zero_le _, Nat.zero_le _⟩ rfl (fun H locs hP hD hS => ?_)
      have hP : va_P D vwCl [(q_me, .inl (cI, 96, .inl me)), (q_mv, .inl (cI, 96, .inl mv)), (q_mx, .inl (cI, 2000, .inl u13.2)), (q_mo, .inr (6, [.int u15.2, .int mo_rows, .ref q_mv, .int mo_size, .ref q_me, .int mo_price, .int mo_queries, .ref q_mk, .ref q_ma, .ref q_mb, .ref q_mw, .int u10.2.2.1, .int u10.2.2.2, .int u13.1, .ref q_mx]))] H := hP
      have hD : va_D A [(q_me, .inl (cI, 96, .inl me)), (q_mv, .inl (cI, 96, .inl mv)), (q_mx, .inl (cI, 2000, .inl u13.2)), (q_mo, .inr (6, [.int u15.2, .int mo_rows, .ref q_mv, .int mo_size, .ref q_me, .int mo_price, .int mo_queries, .ref q_mk, .ref q_ma, .ref q_mb, .ref q_mw, .int u10.2.2.1, .int u10.2.2.2, .int u13.1, .ref q_mx]))] := hD
      obtain rfl := Option.some.inj hf
      exact hret _ _ _ _ dX6_bit_47 (hP.sub [3, 1, 0, 2] rfl) (hD.sub [3, 1, 0, 2] (by decide) rfl) hS
    · have hf := pr_neg hf c14
      refine lv_iload_n hx hb dX6_bit_25 rfl (lv_at hl 2 rfl) ?_
      refine lv_aload_n hx hb dX6_bit_26 rfl (lv_at hl 0 rfl) ?_
      refine va_get (D := D) (ci := 6) (v := .int u13.1) (C := RX6) (T := TX6) (N := 15) hx hb hts hin6 hown hK hP 1 rfl rfl 13 (by decide) (hts (.fieldLink RX6 155 "ColumnChooserModel" "bits" "I") (List.mem_of_getElem? (i := 2) rfl)) (fun _ h9 => h9) rfl dX6_bit_27 ?_
      refine lv_icmp_ge (tgt := 42) hx hb dX6_bit_30 (by decide) (fun c16 => ?_) (fun c16 => ?_)
      · have hf := pr_pos hf c16
        refine lv_aload_n hx hb dX6_bit_42 rfl (lv_at hl 0 rfl) ?_
        refine lv_iconst (v := 1) hx hb dX6_bit_43 (by decide) ?_
        obtain ⟨u17, hu17, hf⟩ := pr_bd hf
        refine fr_iV (As := [.int 1]) ⟨hx, hb, hml, hown, hts⟩ hK hP hD hS hA (c_X6_fail l D cI q_mo q_mv q_me q_mk q_ma q_mb q_mw q_mx n 1 u10.2.1 mo_rows mo_size mo_price mo_queries u10.2.2.1 u10.2.2.2 u13.1 u17 hu17) (cwV 1 hts gX6_bit_X6_fail rfl rfl rfl (by decide +kernel) ⟨Nat.le_of_ble_eq_true rfl, Nat.le_of_ble_eq_true rfl⟩) [(q_me, .inl (cI, 96, .inl me)), (q_mv, .inl (cI, 96, .inl mv)), (q_mx, .inl (cI, 2000, .inl u13.2))] [1] [0, 2, 3] rfl rfl (by decide) (by decide) (by decide) 0 rfl rfl rfl rfl hl.1 (Nat.le_of_ble_eq_true rfl) dX6_bit_44 ⟨Nat.zero_le _, Nat.zero_le _⟩ rfl (fun H locs hP hD hS => ?_)
        have hP : va_P D vwCl [(q_me, .inl (cI, 96, .inl me)), (q_mv, .inl (cI, 96, .inl mv)), (q_mx, .inl (cI, 2000, .inl u13.2)), (q_mo, .inr (6, [.int u17.2, .int mo_rows, .ref q_mv, .int mo_size, .ref q_me, .int mo_price, .int mo_queries, .ref q_mk, .ref q_ma, .ref q_mb, .ref q_mw, .int u10.2.2.1, .int u10.2.2.2, .int u13.1, .ref q_mx]))] H := hP
        have hD : va_D A [(q_me, .inl (cI, 96, .inl me)), (q_mv, .inl (cI, 96, .inl mv)), (q_mx, .inl (cI, 2000, .inl u13.2)), (q_mo, .inr (6, [.int u17.2, .int mo_rows, .ref q_mv, .int mo_size, .ref q_me, .int mo_price, .int mo_queries, .ref q_mk, .ref q_ma, .ref q_mb, .ref q_mw, .int u10.2.2.1, .int u10.2.2.2, .int u13.1, .ref q_mx]))] := hD
        obtain rfl := Option.some.inj hf
        exact hret _ _ _ _ dX6_bit_47 (hP.sub [3, 1, 0, 2] rfl) (hD.sub [3, 1, 0, 2] (by decide) rfl) hS
      · have hf := pr_neg hf c16
        refine lv_aload_n hx hb dX6_bit_33 rfl (lv_at hl 0 rfl) ?_
        refine va_get (D := D) (ci := 6) (v := .ref q_mx) (C := RX6) (T := TX6) (N := 15) hx hb hts hin6 hown hK hP 1 rfl rfl 14 (by decide) (hts (.fieldLink RX6 35 "ColumnChooserModel" "bit" "[I") (List.mem_of_getElem? (i := 3) rfl)) (fun _ h9 => h9) rfl dX6_bit_34 ?_
        refine lv_iload_n hx hb dX6_bit_37 rfl (lv_at hl 2 rfl) ?_
        obtain ⟨v18, hv18, hf⟩ := pr_bd hf
        refine fr_rd hx hb hK hP 3 0 rfl rfl hv18 dX6_bit_38 ?_
        refine lv_goto (tgt := 47) hx hb dX6_bit_39 (by decide) ?_
        obtain rfl := Option.some.inj hf
        exact hret _ _ _ _ dX6_bit_47 (hP.sub [1, 2, 0, 3] rfl) (hD.sub [1, 2, 0, 3] (by decide) rfl) hS
  · have hf := pr_pos hf c11
    refine lv_iconst (v := 0) hx hb dX6_bit_9 (by decide) ?_
    obtain rfl := Option.some.inj hf
    exact hret _ _ _ _ dX6_bit_10 (hP.sub [3, 0, 1, 2] rfl) (hD.sub [3, 0, 1, 2] (by decide) rfl) hS
set_option maxHeartbeats 4000000 in
set_option maxRecDepth 100000 in
theorem c_X6_allBits (l : Launch) (D : va_G) (cI : ClassId) (q_mo q_mv q_me q_mk q_ma q_mb q_mw q_mx : Nat) (n : Nat) (mo_thrown : Int32) (mo_rows : Int32) (mo_size : Int32) (mo_price : Int32) (mo_queries : Int32) (mo_start : Int32) (mo_many : Int32) (mo_bits : Int32) (mv : (Nat → Int32)) (me : (Nat → Int32)) (res : Int32 × Int32 × Int32) (hf : f_X6_allBits n mo_rows mo_size mo_start mo_many mv me = some res) : fr_Ci l yX6_allBits wsX6_allBits ({ frames := 4, cells := 0, slots := 0, locals := 87 }) D [(cI, .int)] [.ref q_mo] [(q_mo, .inr (6, [.int mo_thrown, .int mo_rows, .ref q_mv, .int mo_size, .ref q_me, .int mo_price, .int mo_queries, .ref q_mk, .ref q_ma, .ref q_mb, .ref q_mw, .int mo_start, .int mo_many, .int mo_bits, .ref q_mx])), (q_mv, .inl (cI, 96, .inl mv)), (q_me, .inl (cI, 96, .inl me))] res.1 [(q_mo, .inr (6, [.int mo_thrown, .int mo_rows, .ref q_mv, .int mo_size, .ref q_me, .int mo_price, .int mo_queries, .ref q_mk, .ref q_ma, .ref q_mb, .ref q_mw, .int res.2.1, .int res.2.2, .int mo_bits, .ref q_mx])), (q_mv, .inl (cI, 96, .inl mv)), (q_me, .inl (cI, 96, .inl me))] := by
  refine fr_open_i (cc := cX6_allBits) (maxL := 3) (ret := some .int) (by decide +kernel) rfl (Nat.le_of_ble_eq_true rfl) ⟨.int, rfl, vp_nar_int _⟩ ?_
  intro p e s m below meth c A Q ls hx hb hml hown hts hA hK hP hD hS hl hret
  have hown : s.vm.findClass RX6 = some m.cls := hown
  have hl : lv_has ls 3 [(0, .ref q_mo)] := hl
  have hin6 : ∀ w ∈ u_ws RX6 TX6 15, w ∈ wsX6_allBits := fun _ h9 => List.mem_cons_of_mem _ (List.mem_append_right _ h9)
  have k_4 : ∀ (n : Nat), (∀ (z1 : Int32) (z2 : Int32) (mo_start : Int32) (mo_many : Int32) (H : Heap) (locs : List Loc) (ls : Array Slot), f_X6_allBits_4 n z1 z2 mo_rows mo_size mo_start mo_many mv me = some res → va_P D vwCl [(q_mo, .inr (6, [.int mo_thrown, .int mo_rows, .ref q_mv, .int mo_size, .ref q_me, .int mo_price, .int mo_queries, .ref q_mk, .ref q_ma, .ref q_mb, .ref q_mw, .int mo_start, .int mo_many, .int mo_bits, .ref q_mx])), (q_mv, .inl (cI, 96, .inl mv)), (q_me, .inl (cI, 96, .inl me))] H → va_D A [(q_mo, .inr (6, [.int mo_thrown, .int mo_rows, .ref q_mv, .int mo_size, .ref q_me, .int mo_price, .int mo_queries, .ref q_mk, .ref q_ma, .ref q_mb, .ref q_mw, .int mo_start, .int mo_many, .int mo_bits, .ref q_mx])), (q_mv, .inl (cI, 96, .inl mv)), (q_me, .inl (cI, 96, .inl me))] → va_S A s.heap H locs → lv_has ls 3 [(0, .ref q_mo), (1, .int z1), (2, .int z2)] → W p l e ({ frames := 4, cells := 0, slots := 0, locals := 87 }) s m ([.ref q_mo] : List Value).toArray below meth c H locs 0 0 Q (F0 m 4 ls [])) := by
    intro n
    induction n with
    | zero =>
      intro z1 z2 mo_start mo_many H locs ls hf hP hD hS hl
      exact absurd (show (none : Option (Int32 × Int32 × Int32)) = some res from hf) (by simp)
    | succ n ih =>
      intro z1 z2 mo_start mo_many H locs ls hf hP hD hS hl
      have hf : f_X6_allBits_4_s (f_X6_allBits_4 n) n z1 z2 mo_rows mo_size mo_start mo_many mv me = some res := hf
      unfold f_X6_allBits_4_s at hf
      refine lv_iload_n hx hb dX6_allBits_4 rfl (lv_at hl 2 rfl) ?_
      refine lv_aload_n hx hb dX6_allBits_5 rfl (lv_at hl 0 rfl) ?_
      refine lv_aload_n hx hb dX6_allBits_6 rfl (lv_at hl 0 rfl) ?_
      refine va_get (D := D) (ci := 6) (v := .int mo_size) (C := RX6) (T := TX6) (N := 15) hx hb hts hin6 hown hK hP 0 rfl rfl 3 (by decide) (hts (.fieldLink RX6 13 "ColumnChooserModel" "size" "I") (List.mem_of_getElem? (i := 1) rfl)) (fun _ h9 => h9) rfl dX6_allBits_7 ?_
      obtain ⟨u6, hu6, hf⟩ := pr_bd hf
      refine fr_iV (As := [.int mo_size]) ⟨hx, hb, hml, hown, hts⟩ hK hP hD hS hA (c_X6_segments l D cI q_mo q_mv q_me q_mk q_ma q_mb q_mw q_mx n mo_size mo_thrown mo_rows mo_size mo_price mo_queries mo_start mo_many mo_bits u6 hu6) (cwV 1 hts gX6_allBits_X6_segments rfl rfl rfl (by decide +kernel) ⟨Nat.le_of_ble_eq_true rfl, Nat.le_of_ble_eq_true rfl⟩) [(q_mv, .inl (cI, 96, .inl mv)), (q_me, .inl (cI, 96, .inl me))] [0] [1, 2] rfl rfl (by decide) (by decide) (by decide) 0 rfl rfl rfl rfl hl.1 (Nat.le_of_ble_eq_true rfl) dX6_allBits_10 ⟨Nat.zero_le _, Nat.zero_le _⟩ rfl (fun H locs hP hD hS => ?_)
      have hP : va_P D vwCl [(q_mv, .inl (cI, 96, .inl mv)), (q_me, .inl (cI, 96, .inl me)), (q_mo, .inr (6, [.int mo_thrown, .int mo_rows, .ref q_mv, .int mo_size, .ref q_me, .int mo_price, .int mo_queries, .ref q_mk, .ref q_ma, .ref q_mb, .ref q_mw, .int mo_start, .int mo_many, .int mo_bits, .ref q_mx]))] H := hP
      have hD : va_D A [(q_mv, .inl (cI, 96, .inl mv)), (q_me, .inl (cI, 96, .inl me)), (q_mo, .inr (6, [.int mo_thrown, .int mo_rows, .ref q_mv, .int mo_size, .ref q_me, .int mo_price, .int mo_queries, .ref q_mk, .ref q_ma, .ref q_mb, .ref q_mw, .int mo_start, .int mo_many, .int mo_bits, .ref q_mx]))] := hD
      refine lv_icmp_ge (tgt := 44) hx hb dX6_allBits_13 (by decide) (fun c7 => ?_) (fun c7 => ?_)
      · have hf := pr_pos hf c7
        refine lv_iload_n hx hb dX6_allBits_44 rfl (lv_at hl 1 rfl) ?_
        obtain rfl := Option.some.inj hf
        exact hret _ _ _ _ dX6_allBits_45 (hP.sub [2, 0, 1] rfl) (hD.sub [2, 0, 1] (by decide) rfl) hS
      · have hf := pr_neg hf c7
        refine lv_aload_n hx hb dX6_allBits_16 rfl (lv_at hl 0 rfl) ?_
        refine lv_iload_n hx hb dX6_allBits_17 rfl (lv_at hl 2 rfl) ?_
        refine lv_aload_n hx hb dX6_allBits_18 rfl (lv_at hl 0 rfl) ?_
        refine va_get (D := D) (ci := 6) (v := .int mo_size) (C := RX6) (T := TX6) (N := 15) hx hb hts hin6 hown hK hP 2 rfl rfl 3 (by decide) (hts (.fieldLink RX6 13 "ColumnChooserModel" "size" "I") (List.mem_of_getElem? (i := 1) rfl)) (fun _ h9 => h9) rfl dX6_allBits_19 ?_
        obtain ⟨u8, hu8, hf⟩ := pr_bd hf
        refine fr_vV (As := [.int z2, .int mo_size]) ⟨hx, hb, hml, hown, hts⟩ hK hP hD hS hA (c_X6_choose l D cI q_mo q_mv q_me q_mk q_ma q_mb q_mw q_mx n z2 mo_size mo_thrown mo_rows mo_size mo_price mo_queries mo_start mo_many mo_bits u8 hu8) (cwV 2 hts gX6_allBits_X6_choose rfl rfl rfl (by decide +kernel) ⟨Nat.le_of_ble_eq_true rfl, Nat.le_of_ble_eq_true rfl⟩) [(q_mv, .inl (cI, 96, .inl mv)), (q_me, .inl (cI, 96, .inl me))] [2] [0, 1] rfl rfl (by decide) (by decide) (by decide) 0 rfl rfl rfl rfl hl.1 (Nat.le_of_ble_eq_true rfl) dX6_allBits_22 ⟨Nat.zero_le _, Nat.zero_le _⟩ rfl (fun H locs hP hD hS => ?_)
        have hP : va_P D vwCl [(q_mv, .inl (cI, 96, .inl mv)), (q_me, .inl (cI, 96, .inl me)), (q_mo, .inr (6, [.int mo_thrown, .int mo_rows, .ref q_mv, .int mo_size, .ref q_me, .int mo_price, .int mo_queries, .ref q_mk, .ref q_ma, .ref q_mb, .ref q_mw, .int u8.1, .int u8.2, .int mo_bits, .ref q_mx]))] H := hP
        have hD : va_D A [(q_mv, .inl (cI, 96, .inl mv)), (q_me, .inl (cI, 96, .inl me)), (q_mo, .inr (6, [.int mo_thrown, .int mo_rows, .ref q_mv, .int mo_size, .ref q_me, .int mo_price, .int mo_queries, .ref q_mk, .ref q_ma, .ref q_mb, .ref q_mw, .int u8.1, .int u8.2, .int mo_bits, .ref q_mx]))] := hD
        refine lv_iload_n hx hb dX6_allBits_25 rfl (lv_at hl 1 rfl) ?_
        refine lv_aload_n hx hb dX6_allBits_26 rfl (lv_at hl 0 rfl) ?_
        refine lv_aload_n hx hb dX6_allBits_27 rfl (lv_at hl 0 rfl) ?_
        refine va_get (D := D) (ci := 6) (v := .ref q_me) (C := RX6) (T := TX6) (N := 15) hx hb hts hin6 hown hK hP 2 rfl rfl 4 (by decide) (hts (.fieldLink RX6 17 "ColumnChooserModel" "encodings" "[I") (List.mem_of_getElem? (i := 2) rfl)) (fun _ h9 => h9) rfl dX6_allBits_28 ?_
        refine lv_iload_n hx hb dX6_allBits_31 rfl (lv_at hl 2 rfl) ?_
        obtain ⟨v9, hv9, hf⟩ := pr_bd hf
        refine fr_rd hx hb hK hP 1 0 rfl rfl hv9 dX6_allBits_32 ?_
        obtain ⟨u10, hu10, hf⟩ := pr_bd hf
        refine fr_iV (As := [.int v9]) ⟨hx, hb, hml, hown, hts⟩ hK hP hD hS hA (c_X6_sizeOf l D cI q_mo q_mv q_me q_mk q_ma q_mb q_mw q_mx n v9 mo_thrown mo_rows mo_size mo_price mo_queries u8.1 u8.2 mo_bits mv u10 hu10) (cwV 1 hts gX6_allBits_X6_sizeOf rfl rfl rfl (by decide +kernel) ⟨Nat.le_of_ble_eq_true rfl, Nat.le_of_ble_eq_true rfl⟩) [(q_me, .inl (cI, 96, .inl me))] [2, 0] [1] rfl rfl (by decide) (by decide) (by decide) 0 rfl rfl rfl rfl hl.1 (Nat.le_of_ble_eq_true rfl) dX6_allBits_33 ⟨Nat.zero_le _, Nat.zero_le _⟩ rfl (fun H locs hP hD hS => ?_)
        have hP : va_P D vwCl [(q_me, .inl (cI, 96, .inl me)), (q_mo, .inr (6, [.int mo_thrown, .int mo_rows, .ref q_mv, .int mo_size, .ref q_me, .int mo_price, .int mo_queries, .ref q_mk, .ref q_ma, .ref q_mb, .ref q_mw, .int u8.1, .int u8.2, .int mo_bits, .ref q_mx])), (q_mv, .inl (cI, 96, .inl mv))] H := hP
        have hD : va_D A [(q_me, .inl (cI, 96, .inl me)), (q_mo, .inr (6, [.int mo_thrown, .int mo_rows, .ref q_mv, .int mo_size, .ref q_me, .int mo_price, .int mo_queries, .ref q_mk, .ref q_ma, .ref q_mb, .ref q_mw, .int u8.1, .int u8.2, .int mo_bits, .ref q_mx])), (q_mv, .inl (cI, 96, .inl mv))] := hD
        refine lv_iadd hx hb dX6_allBits_36 ?_
        refine lv_istore_n (lv' := [(1, .int (z1 + u10)), (0, .ref q_mo), (2, .int z2)]) hx hb dX6_allBits_37 rfl hl (by decide) rfl (fun ls hl => ?_)
        refine lv_iinc (v := (z2 + 1)) (lv' := [(2, .int (z2 + 1)), (1, .int (z1 + u10)), (0, .ref q_mo)]) hx hb dX6_allBits_38 hl (k := 2) rfl rfl (by decide) rfl (fun ls hl => ?_)
        refine lv_goto (tgt := 4) hx hb dX6_allBits_41 (by decide) ?_
        exact ih _ _ _ _ _ _ ls hf (hP.sub [1, 2, 0] rfl) (hD.sub [1, 2, 0] (by decide) rfl) hS (lv_sub hl [2, 1, 0] rfl)
  unfold f_X6_allBits at hf
  refine lv_iconst (v := 0) hx hb dX6_allBits_0 (by decide) ?_
  refine lv_istore_n (lv' := [(1, .int 0), (0, .ref q_mo)]) hx hb dX6_allBits_1 rfl hl (by decide) rfl (fun ls hl => ?_)
  refine lv_iconst (v := 0) hx hb dX6_allBits_2 (by decide) ?_
  refine lv_istore_n (lv' := [(2, .int 0), (1, .int 0), (0, .ref q_mo)]) hx hb dX6_allBits_3 rfl hl (by decide) rfl (fun ls hl => ?_)
  exact k_4 n _ _ _ _ _ _ ls hf (hP.sub [0, 1, 2] rfl) (hD.sub [0, 1, 2] (by decide) rfl) hS (lv_sub hl [2, 1, 0] rfl)
set_option maxHeartbeats 4000000 in
set_option maxRecDepth 100000 in
theorem c_X6_size (l : Launch) (D : va_G) (cI : ClassId) (q_mo q_mv q_me q_mk q_ma q_mb q_mw q_mx : Nat) (n : Nat) (mo_thrown : Int32) (mo_rows : Int32) (mo_size : Int32) (mo_price : Int32) (mo_queries : Int32) (mo_start : Int32) (mo_many : Int32) (mo_bits : Int32) (mv : (Nat → Int32)) (me : (Nat → Int32)) (res : Int32 × Int32 × Int32 × Int32) (hf : f_X6_size n mo_thrown mo_rows mo_size mo_start mo_many mv me = some res) : fr_Ci l yX6_size wsX6_size ({ frames := 5, cells := 0, slots := 0, locals := 109 }) D [(cI, .int)] [.ref q_mo] [(q_mo, .inr (6, [.int mo_thrown, .int mo_rows, .ref q_mv, .int mo_size, .ref q_me, .int mo_price, .int mo_queries, .ref q_mk, .ref q_ma, .ref q_mb, .ref q_mw, .int mo_start, .int mo_many, .int mo_bits, .ref q_mx])), (q_mv, .inl (cI, 96, .inl mv)), (q_me, .inl (cI, 96, .inl me))] res.1 [(q_mo, .inr (6, [.int res.2.1, .int mo_rows, .ref q_mv, .int mo_size, .ref q_me, .int mo_price, .int mo_queries, .ref q_mk, .ref q_ma, .ref q_mb, .ref q_mw, .int res.2.2.1, .int res.2.2.2, .int mo_bits, .ref q_mx])), (q_mv, .inl (cI, 96, .inl mv)), (q_me, .inl (cI, 96, .inl me))] := by
  refine fr_open_i (cc := cX6_size) (maxL := 1) (ret := some .int) (by decide +kernel) rfl (Nat.le_of_ble_eq_true rfl) ⟨.int, rfl, vp_nar_int _⟩ ?_
  intro p e s m below meth c A Q ls hx hb hml hown hts hA hK hP hD hS hl hret
  have hown : s.vm.findClass RX6 = some m.cls := hown
  have hl : lv_has ls 1 [(0, .ref q_mo)] := hl
  have hin6 : ∀ w ∈ u_ws RX6 TX6 15, w ∈ wsX6_size := fun _ h9 => List.mem_cons_of_mem _ (List.mem_append_right _ h9)
  unfold f_X6_size at hf
  refine lv_aload_n hx hb dX6_size_0 rfl (lv_at hl 0 rfl) ?_
  refine lv_iconst (v := 0) hx hb dX6_size_1 (by decide) ?_
  refine va_put (D := D) (ci := 6) (v := .int 0) (ty := .int) (C := RX6) (T := TX6) (N := 15) hx hb hts hin6 tyX6 tyX6_ok nmX6 hown hK hP hD hS 0 rfl rfl 0 (by decide) (hts (.fieldLink RX6 38 "ColumnChooserModel" "thrown" "I") (List.mem_of_getElem? (i := 1) rfl)) (fun _ h9 => h9) rfl (by decide +kernel) rfl rfl (Nat.le_of_ble_eq_true rfl) dX6_size_2 (fun H locs hP hD hS => ?_)
  have hP : va_P D vwCl [(q_mo, .inr (6, [.int 0, .int mo_rows, .ref q_mv, .int mo_size, .ref q_me, .int mo_price, .int mo_queries, .ref q_mk, .ref q_ma, .ref q_mb, .ref q_mw, .int mo_start, .int mo_many, .int mo_bits, .ref q_mx])), (q_mv, .inl (cI, 96, .inl mv)), (q_me, .inl (cI, 96, .inl me))] H := hP
  have hD : va_D A [(q_mo, .inr (6, [.int 0, .int mo_rows, .ref q_mv, .int mo_size, .ref q_me, .int mo_price, .int mo_queries, .ref q_mk, .ref q_ma, .ref q_mb, .ref q_mw, .int mo_start, .int mo_many, .int mo_bits, .ref q_mx])), (q_mv, .inl (cI, 96, .inl mv)), (q_me, .inl (cI, 96, .inl me))] := hD
  refine lv_aload_n hx hb dX6_size_5 rfl (lv_at hl 0 rfl) ?_
  obtain ⟨u2, hu2, hf⟩ := pr_bd hf
  refine fr_iV (As := []) ⟨hx, hb, hml, hown, hts⟩ hK hP hD hS hA (c_X6_allBits l D cI q_mo q_mv q_me q_mk q_ma q_mb q_mw q_mx n 0 mo_rows mo_size mo_price mo_queries mo_start mo_many mo_bits mv me u2 hu2) (cwV 0 hts gX6_size_X6_allBits rfl rfl rfl (by decide +kernel) ⟨Nat.le_of_ble_eq_true rfl, Nat.le_of_ble_eq_true rfl⟩) [] [0, 1, 2] [] rfl rfl (by decide) (by decide) (by decide) 0 rfl rfl rfl rfl hl.1 (Nat.le_of_ble_eq_true rfl) dX6_size_6 ⟨Nat.zero_le _, Nat.zero_le _⟩ rfl (fun H locs hP hD hS => ?_)
  have hP : va_P D vwCl [(q_mo, .inr (6, [.int 0, .int mo_rows, .ref q_mv, .int mo_size, .ref q_me, .int mo_price, .int mo_queries, .ref q_mk, .ref q_ma, .ref q_mb, .ref q_mw, .int u2.2.1, .int u2.2.2, .int mo_bits, .ref q_mx])), (q_mv, .inl (cI, 96, .inl mv)), (q_me, .inl (cI, 96, .inl me))] H := hP
  have hD : va_D A [(q_mo, .inr (6, [.int 0, .int mo_rows, .ref q_mv, .int mo_size, .ref q_me, .int mo_price, .int mo_queries, .ref q_mk, .ref q_ma, .ref q_mb, .ref q_mw, .int u2.2.1, .int u2.2.2, .int mo_bits, .ref q_mx])), (q_mv, .inl (cI, 96, .inl mv)), (q_me, .inl (cI, 96, .inl me))] := hD
  obtain rfl := Option.some.inj hf
  exact hret _ _ _ _ dX6_size_9 (hP.sub [0, 1, 2] rfl) (hD.sub [0, 1, 2] (by decide) rfl) hS
set_option maxHeartbeats 4000000 in
set_option maxRecDepth 100000 in
theorem c_X6_score (l : Launch) (D : va_G) (cI : ClassId) (q_mo q_mv q_me q_mk q_ma q_mb q_mw q_mx : Nat) (n : Nat) (mo_thrown : Int32) (mo_rows : Int32) (mo_size : Int32) (mo_price : Int32) (mo_queries : Int32) (mo_start : Int32) (mo_many : Int32) (mo_bits : Int32) (mv : (Nat → Int32)) (me : (Nat → Int32)) (mk : (Nat → Int32)) (ma : (Nat → Int32)) (mb : (Nat → Int32)) (mw : (Nat → Int32)) (res : Int32 × Int32 × Int32 × Int32) (hf : f_X6_score n mo_thrown mo_rows mo_size mo_price mo_queries mo_start mo_many mv me mk ma mb mw = some res) : fr_Ci l yX6_score wsX6_score ({ frames := 6, cells := 0, slots := 0, locals := 137 }) D [(cI, .int)] [.ref q_mo] [(q_mo, .inr (6, [.int mo_thrown, .int mo_rows, .ref q_mv, .int mo_size, .ref q_me, .int mo_price, .int mo_queries, .ref q_mk, .ref q_ma, .ref q_mb, .ref q_mw, .int mo_start, .int mo_many, .int mo_bits, .ref q_mx])), (q_mv, .inl (cI, 96, .inl mv)), (q_me, .inl (cI, 96, .inl me)), (q_mk, .inl (cI, 20, .inl mk)), (q_ma, .inl (cI, 20, .inl ma)), (q_mb, .inl (cI, 20, .inl mb)), (q_mw, .inl (cI, 20, .inl mw))] res.1 [(q_mo, .inr (6, [.int res.2.1, .int mo_rows, .ref q_mv, .int mo_size, .ref q_me, .int mo_price, .int mo_queries, .ref q_mk, .ref q_ma, .ref q_mb, .ref q_mw, .int res.2.2.1, .int res.2.2.2, .int mo_bits, .ref q_mx])), (q_mv, .inl (cI, 96, .inl mv)), (q_me, .inl (cI, 96, .inl me)), (q_mk, .inl (cI, 20, .inl mk)), (q_ma, .inl (cI, 20, .inl ma)), (q_mb, .inl (cI, 20, .inl mb)), (q_mw, .inl (cI, 20, .inl mw))] := by
  refine fr_open_i (cc := cX6_score) (maxL := 3) (ret := some .int) (by decide +kernel) rfl (Nat.le_of_ble_eq_true rfl) ⟨.int, rfl, vp_nar_int _⟩ ?_
  intro p e s m below meth c A Q ls hx hb hml hown hts hA hK hP hD hS hl hret
  have hown : s.vm.findClass RX6 = some m.cls := hown
  have hl : lv_has ls 3 [(0, .ref q_mo)] := hl
  have hin6 : ∀ w ∈ u_ws RX6 TX6 15, w ∈ wsX6_score := fun _ h9 => List.mem_cons_of_mem _ (List.mem_append_right _ h9)
  have k_9 : ∀ (n : Nat), (∀ (z1 : Int32) (z2 : Int32) (mo_thrown : Int32) (mo_start : Int32) (mo_many : Int32) (H : Heap) (locs : List Loc) (ls : Array Slot), f_X6_score_9 n z1 z2 mo_thrown mo_rows mo_size mo_price mo_queries mo_start mo_many mv me mk ma mb mw = some res → va_P D vwCl [(q_mo, .inr (6, [.int mo_thrown, .int mo_rows, .ref q_mv, .int mo_size, .ref q_me, .int mo_price, .int mo_queries, .ref q_mk, .ref q_ma, .ref q_mb, .ref q_mw, .int mo_start, .int mo_many, .int mo_bits, .ref q_mx])), (q_mv, .inl (cI, 96, .inl mv)), (q_me, .inl (cI, 96, .inl me)), (q_mk, .inl (cI, 20, .inl mk)), (q_ma, .inl (cI, 20, .inl ma)), (q_mb, .inl (cI, 20, .inl mb)), (q_mw, .inl (cI, 20, .inl mw))] H → va_D A [(q_mo, .inr (6, [.int mo_thrown, .int mo_rows, .ref q_mv, .int mo_size, .ref q_me, .int mo_price, .int mo_queries, .ref q_mk, .ref q_ma, .ref q_mb, .ref q_mw, .int mo_start, .int mo_many, .int mo_bits, .ref q_mx])), (q_mv, .inl (cI, 96, .inl mv)), (q_me, .inl (cI, 96, .inl me)), (q_mk, .inl (cI, 20, .inl mk)), (q_ma, .inl (cI, 20, .inl ma)), (q_mb, .inl (cI, 20, .inl mb)), (q_mw, .inl (cI, 20, .inl mw))] → va_S A s.heap H locs → lv_has ls 3 [(0, .ref q_mo), (1, .int z1), (2, .int z2)] → W p l e ({ frames := 6, cells := 0, slots := 0, locals := 137 }) s m ([.ref q_mo] : List Value).toArray below meth c H locs 0 0 Q (F0 m 9 ls [])) := by
    intro n
    induction n with
    | zero =>
      intro z1 z2 mo_thrown mo_start mo_many H locs ls hf hP hD hS hl
      exact absurd (show (none : Option (Int32 × Int32 × Int32 × Int32)) = some res from hf) (by simp)
    | succ n ih =>
      intro z1 z2 mo_thrown mo_start mo_many H locs ls hf hP hD hS hl
      have hf : f_X6_score_9_s (f_X6_score_9 n) n z1 z2 mo_thrown mo_rows mo_size mo_price mo_queries mo_start mo_many mv me mk ma mb mw = some res := hf
      unfold f_X6_score_9_s at hf
      refine lv_iload_n hx hb dX6_score_9 rfl (lv_at hl 2 rfl) ?_
      refine lv_aload_n hx hb dX6_score_10 rfl (lv_at hl 0 rfl) ?_
      refine lv_aload_n hx hb dX6_score_11 rfl (lv_at hl 0 rfl) ?_
      refine va_get (D := D) (ci := 6) (v := .int mo_size) (C := RX6) (T := TX6) (N := 15) hx hb hts hin6 hown hK hP 0 rfl rfl 3 (by decide) (hts (.fieldLink RX6 13 "ColumnChooserModel" "size" "I") (List.mem_of_getElem? (i := 2) rfl)) (fun _ h9 => h9) rfl dX6_score_12 ?_
      obtain ⟨u6, hu6, hf⟩ := pr_bd hf
      refine fr_iV (As := [.int mo_size]) ⟨hx, hb, hml, hown, hts⟩ hK hP hD hS hA (c_X6_segments l D cI q_mo q_mv q_me q_mk q_ma q_mb q_mw q_mx n mo_size mo_thrown mo_rows mo_size mo_price mo_queries mo_start mo_many mo_bits u6 hu6) (cwV 1 hts gX6_score_X6_segments rfl rfl rfl (by decide +kernel) ⟨Nat.le_of_ble_eq_true rfl, Nat.le_of_ble_eq_true rfl⟩) [(q_mv, .inl (cI, 96, .inl mv)), (q_me, .inl (cI, 96, .inl me)), (q_mk, .inl (cI, 20, .inl mk)), (q_ma, .inl (cI, 20, .inl ma)), (q_mb, .inl (cI, 20, .inl mb)), (q_mw, .inl (cI, 20, .inl mw))] [0] [1, 2, 3, 4, 5, 6] rfl rfl (by decide) (by decide) (by decide) 0 rfl rfl rfl rfl hl.1 (Nat.le_of_ble_eq_true rfl) dX6_score_15 ⟨Nat.zero_le _, Nat.zero_le _⟩ rfl (fun H locs hP hD hS => ?_)
      have hP : va_P D vwCl [(q_mv, .inl (cI, 96, .inl mv)), (q_me, .inl (cI, 96, .inl me)), (q_mk, .inl (cI, 20, .inl mk)), (q_ma, .inl (cI, 20, .inl ma)), (q_mb, .inl (cI, 20, .inl mb)), (q_mw, .inl (cI, 20, .inl mw)), (q_mo, .inr (6, [.int mo_thrown, .int mo_rows, .ref q_mv, .int mo_size, .ref q_me, .int mo_price, .int mo_queries, .ref q_mk, .ref q_ma, .ref q_mb, .ref q_mw, .int mo_start, .int mo_many, .int mo_bits, .ref q_mx]))] H := hP
      have hD : va_D A [(q_mv, .inl (cI, 96, .inl mv)), (q_me, .inl (cI, 96, .inl me)), (q_mk, .inl (cI, 20, .inl mk)), (q_ma, .inl (cI, 20, .inl ma)), (q_mb, .inl (cI, 20, .inl mb)), (q_mw, .inl (cI, 20, .inl mw)), (q_mo, .inr (6, [.int mo_thrown, .int mo_rows, .ref q_mv, .int mo_size, .ref q_me, .int mo_price, .int mo_queries, .ref q_mk, .ref q_ma, .ref q_mb, .ref q_mw, .int mo_start, .int mo_many, .int mo_bits, .ref q_mx]))] := hD
      refine lv_icmp_ge (tgt := 49) hx hb dX6_score_18 (by decide) (fun c7 => ?_) (fun c7 => ?_)
      · have hf := pr_pos hf c7
        refine lv_iload_n hx hb dX6_score_49 rfl (lv_at hl 1 rfl) ?_
        obtain rfl := Option.some.inj hf
        exact hret _ _ _ _ dX6_score_50 (hP.sub [6, 0, 1, 2, 3, 4, 5] rfl) (hD.sub [6, 0, 1, 2, 3, 4, 5] (by decide) rfl) hS
      · have hf := pr_neg hf c7
        refine lv_aload_n hx hb dX6_score_21 rfl (lv_at hl 0 rfl) ?_
        refine lv_iload_n hx hb dX6_score_22 rfl (lv_at hl 2 rfl) ?_
        refine lv_aload_n hx hb dX6_score_23 rfl (lv_at hl 0 rfl) ?_
        refine va_get (D := D) (ci := 6) (v := .int mo_size) (C := RX6) (T := TX6) (N := 15) hx hb hts hin6 hown hK hP 6 rfl rfl 3 (by decide) (hts (.fieldLink RX6 13 "ColumnChooserModel" "size" "I") (List.mem_of_getElem? (i := 2) rfl)) (fun _ h9 => h9) rfl dX6_score_24 ?_
        obtain ⟨u8, hu8, hf⟩ := pr_bd hf
        refine fr_vV (As := [.int z2, .int mo_size]) ⟨hx, hb, hml, hown, hts⟩ hK hP hD hS hA (c_X6_choose l D cI q_mo q_mv q_me q_mk q_ma q_mb q_mw q_mx n z2 mo_size mo_thrown mo_rows mo_size mo_price mo_queries mo_start mo_many mo_bits u8 hu8) (cwV 2 hts gX6_score_X6_choose rfl rfl rfl (by decide +kernel) ⟨Nat.le_of_ble_eq_true rfl, Nat.le_of_ble_eq_true rfl⟩) [(q_mv, .inl (cI, 96, .inl mv)), (q_me, .inl (cI, 96, .inl me)), (q_mk, .inl (cI, 20, .inl mk)), (q_ma, .inl (cI, 20, .inl ma)), (q_mb, .inl (cI, 20, .inl mb)), (q_mw, .inl (cI, 20, .inl mw))] [6] [0, 1, 2, 3, 4, 5] rfl rfl (by decide) (by decide) (by decide) 0 rfl rfl rfl rfl hl.1 (Nat.le_of_ble_eq_true rfl) dX6_score_27 ⟨Nat.zero_le _, Nat.zero_le _⟩ rfl (fun H locs hP hD hS => ?_)
        have hP : va_P D vwCl [(q_mv, .inl (cI, 96, .inl mv)), (q_me, .inl (cI, 96, .inl me)), (q_mk, .inl (cI, 20, .inl mk)), (q_ma, .inl (cI, 20, .inl ma)), (q_mb, .inl (cI, 20, .inl mb)), (q_mw, .inl (cI, 20, .inl mw)), (q_mo, .inr (6, [.int mo_thrown, .int mo_rows, .ref q_mv, .int mo_size, .ref q_me, .int mo_price, .int mo_queries, .ref q_mk, .ref q_ma, .ref q_mb, .ref q_mw, .int u8.1, .int u8.2, .int mo_bits, .ref q_mx]))] H := hP
        have hD : va_D A [(q_mv, .inl (cI, 96, .inl mv)), (q_me, .inl (cI, 96, .inl me)), (q_mk, .inl (cI, 20, .inl mk)), (q_ma, .inl (cI, 20, .inl ma)), (q_mb, .inl (cI, 20, .inl mb)), (q_mw, .inl (cI, 20, .inl mw)), (q_mo, .inr (6, [.int mo_thrown, .int mo_rows, .ref q_mv, .int mo_size, .ref q_me, .int mo_price, .int mo_queries, .ref q_mk, .ref q_ma, .ref q_mb, .ref q_mw, .int u8.1, .int u8.2, .int mo_bits, .ref q_mx]))] := hD
        refine lv_iload_n hx hb dX6_score_30 rfl (lv_at hl 1 rfl) ?_
        refine lv_aload_n hx hb dX6_score_31 rfl (lv_at hl 0 rfl) ?_
        refine lv_aload_n hx hb dX6_score_32 rfl (lv_at hl 0 rfl) ?_
        refine va_get (D := D) (ci := 6) (v := .ref q_me) (C := RX6) (T := TX6) (N := 15) hx hb hts hin6 hown hK hP 6 rfl rfl 4 (by decide) (hts (.fieldLink RX6 17 "ColumnChooserModel" "encodings" "[I") (List.mem_of_getElem? (i := 3) rfl)) (fun _ h9 => h9) rfl dX6_score_33 ?_
        refine lv_iload_n hx hb dX6_score_36 rfl (lv_at hl 2 rfl) ?_
        obtain ⟨v9, hv9, hf⟩ := pr_bd hf
        refine fr_rd hx hb hK hP 1 0 rfl rfl hv9 dX6_score_37 ?_
        obtain ⟨u10, hu10, hf⟩ := pr_bd hf
        refine fr_iV (As := [.int v9]) ⟨hx, hb, hml, hown, hts⟩ hK hP hD hS hA (c_X6_scoreOf l D cI q_mo q_mv q_me q_mk q_ma q_mb q_mw q_mx n v9 mo_thrown mo_rows mo_size mo_price mo_queries u8.1 u8.2 mo_bits mv mk ma mb mw u10 hu10) (cwV 1 hts gX6_score_X6_scoreOf rfl rfl rfl (by decide +kernel) ⟨Nat.le_of_ble_eq_true rfl, Nat.le_of_ble_eq_true rfl⟩) [(q_me, .inl (cI, 96, .inl me))] [6, 0, 2, 3, 4, 5] [1] rfl rfl (by decide) (by decide) (by decide) 0 rfl rfl rfl rfl hl.1 (Nat.le_of_ble_eq_true rfl) dX6_score_38 ⟨Nat.zero_le _, Nat.zero_le _⟩ rfl (fun H locs hP hD hS => ?_)
        have hP : va_P D vwCl [(q_me, .inl (cI, 96, .inl me)), (q_mo, .inr (6, [.int mo_thrown, .int mo_rows, .ref q_mv, .int mo_size, .ref q_me, .int mo_price, .int mo_queries, .ref q_mk, .ref q_ma, .ref q_mb, .ref q_mw, .int u8.1, .int u8.2, .int mo_bits, .ref q_mx])), (q_mv, .inl (cI, 96, .inl mv)), (q_mk, .inl (cI, 20, .inl mk)), (q_ma, .inl (cI, 20, .inl ma)), (q_mb, .inl (cI, 20, .inl mb)), (q_mw, .inl (cI, 20, .inl mw))] H := hP
        have hD : va_D A [(q_me, .inl (cI, 96, .inl me)), (q_mo, .inr (6, [.int mo_thrown, .int mo_rows, .ref q_mv, .int mo_size, .ref q_me, .int mo_price, .int mo_queries, .ref q_mk, .ref q_ma, .ref q_mb, .ref q_mw, .int u8.1, .int u8.2, .int mo_bits, .ref q_mx])), (q_mv, .inl (cI, 96, .inl mv)), (q_mk, .inl (cI, 20, .inl mk)), (q_ma, .inl (cI, 20, .inl ma)), (q_mb, .inl (cI, 20, .inl mb)), (q_mw, .inl (cI, 20, .inl mw))] := hD
        refine lv_iadd hx hb dX6_score_41 ?_
        refine lv_istore_n (lv' := [(1, .int (z1 + u10)), (0, .ref q_mo), (2, .int z2)]) hx hb dX6_score_42 rfl hl (by decide) rfl (fun ls hl => ?_)
        refine lv_iinc (v := (z2 + 1)) (lv' := [(2, .int (z2 + 1)), (1, .int (z1 + u10)), (0, .ref q_mo)]) hx hb dX6_score_43 hl (k := 2) rfl rfl (by decide) rfl (fun ls hl => ?_)
        refine lv_goto (tgt := 9) hx hb dX6_score_46 (by decide) ?_
        exact ih _ _ _ _ _ _ _ ls hf (hP.sub [1, 2, 0, 3, 4, 5, 6] rfl) (hD.sub [1, 2, 0, 3, 4, 5, 6] (by decide) rfl) hS (lv_sub hl [2, 1, 0] rfl)
  unfold f_X6_score at hf
  refine lv_aload_n hx hb dX6_score_0 rfl (lv_at hl 0 rfl) ?_
  refine lv_iconst (v := 0) hx hb dX6_score_1 (by decide) ?_
  refine va_put (D := D) (ci := 6) (v := .int 0) (ty := .int) (C := RX6) (T := TX6) (N := 15) hx hb hts hin6 tyX6 tyX6_ok nmX6 hown hK hP hD hS 0 rfl rfl 0 (by decide) (hts (.fieldLink RX6 38 "ColumnChooserModel" "thrown" "I") (List.mem_of_getElem? (i := 1) rfl)) (fun _ h9 => h9) rfl (by decide +kernel) rfl rfl (Nat.le_of_ble_eq_true rfl) dX6_score_2 (fun H locs hP hD hS => ?_)
  have hP : va_P D vwCl [(q_mo, .inr (6, [.int 0, .int mo_rows, .ref q_mv, .int mo_size, .ref q_me, .int mo_price, .int mo_queries, .ref q_mk, .ref q_ma, .ref q_mb, .ref q_mw, .int mo_start, .int mo_many, .int mo_bits, .ref q_mx])), (q_mv, .inl (cI, 96, .inl mv)), (q_me, .inl (cI, 96, .inl me)), (q_mk, .inl (cI, 20, .inl mk)), (q_ma, .inl (cI, 20, .inl ma)), (q_mb, .inl (cI, 20, .inl mb)), (q_mw, .inl (cI, 20, .inl mw))] H := hP
  have hD : va_D A [(q_mo, .inr (6, [.int 0, .int mo_rows, .ref q_mv, .int mo_size, .ref q_me, .int mo_price, .int mo_queries, .ref q_mk, .ref q_ma, .ref q_mb, .ref q_mw, .int mo_start, .int mo_many, .int mo_bits, .ref q_mx])), (q_mv, .inl (cI, 96, .inl mv)), (q_me, .inl (cI, 96, .inl me)), (q_mk, .inl (cI, 20, .inl mk)), (q_ma, .inl (cI, 20, .inl ma)), (q_mb, .inl (cI, 20, .inl mb)), (q_mw, .inl (cI, 20, .inl mw))] := hD
  refine lv_iconst (v := 0) hx hb dX6_score_5 (by decide) ?_
  refine lv_istore_n (lv' := [(1, .int 0), (0, .ref q_mo)]) hx hb dX6_score_6 rfl hl (by decide) rfl (fun ls hl => ?_)
  refine lv_iconst (v := 0) hx hb dX6_score_7 (by decide) ?_
  refine lv_istore_n (lv' := [(2, .int 0), (1, .int 0), (0, .ref q_mo)]) hx hb dX6_score_8 rfl hl (by decide) rfl (fun ls hl => ?_)
  exact k_9 n _ _ _ _ _ _ _ ls hf (hP.sub [0, 1, 2, 3, 4, 5, 6] rfl) (hD.sub [0, 1, 2, 3, 4, 5, 6] (by decide) rfl) hS (lv_sub hl [2, 1, 0] rfl)
set_option maxHeartbeats 4000000 in
set_option maxRecDepth 100000 in
theorem c_X6_bestSegmentSize (l : Launch) (D : va_G) (cI : ClassId) (q_mo q_mv q_me q_mk q_ma q_mb q_mw q_mx : Nat) (n : Nat) (mo_thrown : Int32) (mo_rows : Int32) (mo_size : Int32) (mo_price : Int32) (mo_queries : Int32) (mo_start : Int32) (mo_many : Int32) (mo_bits : Int32) (mv : (Nat → Int32)) (mk : (Nat → Int32)) (ma : (Nat → Int32)) (mb : (Nat → Int32)) (mw : (Nat → Int32)) (res : Int32 × Int32 × Int32 × Int32) (hf : f_X6_bestSegmentSize n mo_thrown mo_rows mo_price mo_queries mo_start mo_many mv mk ma mb mw = some res) : fr_Ci l yX6_bestSegmentSize wsX6_bestSegmentSize ({ frames := 7, cells := 0, slots := 0, locals := 159 }) D [(cI, .int)] [.ref q_mo] [(q_mo, .inr (6, [.int mo_thrown, .int mo_rows, .ref q_mv, .int mo_size, .ref q_me, .int mo_price, .int mo_queries, .ref q_mk, .ref q_ma, .ref q_mb, .ref q_mw, .int mo_start, .int mo_many, .int mo_bits, .ref q_mx])), (q_mv, .inl (cI, 96, .inl mv)), (q_mk, .inl (cI, 20, .inl mk)), (q_ma, .inl (cI, 20, .inl ma)), (q_mb, .inl (cI, 20, .inl mb)), (q_mw, .inl (cI, 20, .inl mw))] res.1 [(q_mo, .inr (6, [.int res.2.1, .int mo_rows, .ref q_mv, .int mo_size, .ref q_me, .int mo_price, .int mo_queries, .ref q_mk, .ref q_ma, .ref q_mb, .ref q_mw, .int res.2.2.1, .int res.2.2.2, .int mo_bits, .ref q_mx])), (q_mv, .inl (cI, 96, .inl mv)), (q_mk, .inl (cI, 20, .inl mk)), (q_ma, .inl (cI, 20, .inl ma)), (q_mb, .inl (cI, 20, .inl mb)), (q_mw, .inl (cI, 20, .inl mw))] := by
  refine fr_open_i (cc := cX6_bestSegmentSize) (maxL := 6) (ret := some .int) (by decide +kernel) rfl (Nat.le_of_ble_eq_true rfl) ⟨.int, rfl, vp_nar_int _⟩ ?_
  intro p e s m below meth c A Q ls hx hb hml hown hts hA hK hP hD hS hl hret
  have hown : s.vm.findClass RX6 = some m.cls := hown
  have hl : lv_has ls 6 [(0, .ref q_mo)] := hl
  have hin6 : ∀ w ∈ u_ws RX6 TX6 15, w ∈ wsX6_bestSegmentSize := fun _ h9 => List.mem_cons_of_mem _ (List.mem_append_right _ h9)
  have k_11 : ∀ (n : Nat), (∀ (z1 : Int32) (z2 : Int32) (z3 : Int32) (z4 : Int32) (z5 : Int32) (mo_thrown : Int32) (mo_start : Int32) (mo_many : Int32) (H : Heap) (locs : List Loc) (ls : Array Slot), f_X6_bestSegmentSize_11 n 11 z1 z2 z3 z4 z5 mo_thrown mo_rows mo_price mo_queries mo_start mo_many mv mk ma mb mw = some res → va_P D vwCl [(q_mo, .inr (6, [.int mo_thrown, .int mo_rows, .ref q_mv, .int mo_size, .ref q_me, .int mo_price, .int mo_queries, .ref q_mk, .ref q_ma, .ref q_mb, .ref q_mw, .int mo_start, .int mo_many, .int mo_bits, .ref q_mx])), (q_mv, .inl (cI, 96, .inl mv)), (q_mk, .inl (cI, 20, .inl mk)), (q_ma, .inl (cI, 20, .inl ma)), (q_mb, .inl (cI, 20, .inl mb)), (q_mw, .inl (cI, 20, .inl mw))] H → va_D A [(q_mo, .inr (6, [.int mo_thrown, .int mo_rows, .ref q_mv, .int mo_size, .ref q_me, .int mo_price, .int mo_queries, .ref q_mk, .ref q_ma, .ref q_mb, .ref q_mw, .int mo_start, .int mo_many, .int mo_bits, .ref q_mx])), (q_mv, .inl (cI, 96, .inl mv)), (q_mk, .inl (cI, 20, .inl mk)), (q_ma, .inl (cI, 20, .inl ma)), (q_mb, .inl (cI, 20, .inl mb)), (q_mw, .inl (cI, 20, .inl mw))] → va_S A s.heap H locs → lv_has ls 6 [(0, .ref q_mo), (1, .int z1), (2, .int z2), (3, .int z3)] → W p l e ({ frames := 7, cells := 0, slots := 0, locals := 159 }) s m ([.ref q_mo] : List Value).toArray below meth c H locs 0 0 Q (F0 m 11 ls [])) ∧ (∀ (z1 : Int32) (z2 : Int32) (z3 : Int32) (z4 : Int32) (z5 : Int32) (mo_thrown : Int32) (mo_start : Int32) (mo_many : Int32) (H : Heap) (locs : List Loc) (ls : Array Slot), f_X6_bestSegmentSize_11 n 23 z1 z2 z3 z4 z5 mo_thrown mo_rows mo_price mo_queries mo_start mo_many mv mk ma mb mw = some res → va_P D vwCl [(q_mo, .inr (6, [.int mo_thrown, .int mo_rows, .ref q_mv, .int mo_size, .ref q_me, .int mo_price, .int mo_queries, .ref q_mk, .ref q_ma, .ref q_mb, .ref q_mw, .int mo_start, .int mo_many, .int mo_bits, .ref q_mx])), (q_mv, .inl (cI, 96, .inl mv)), (q_mk, .inl (cI, 20, .inl mk)), (q_ma, .inl (cI, 20, .inl ma)), (q_mb, .inl (cI, 20, .inl mb)), (q_mw, .inl (cI, 20, .inl mw))] H → va_D A [(q_mo, .inr (6, [.int mo_thrown, .int mo_rows, .ref q_mv, .int mo_size, .ref q_me, .int mo_price, .int mo_queries, .ref q_mk, .ref q_ma, .ref q_mb, .ref q_mw, .int mo_start, .int mo_many, .int mo_bits, .ref q_mx])), (q_mv, .inl (cI, 96, .inl mv)), (q_mk, .inl (cI, 20, .inl mk)), (q_ma, .inl (cI, 20, .inl ma)), (q_mb, .inl (cI, 20, .inl mb)), (q_mw, .inl (cI, 20, .inl mw))] → va_S A s.heap H locs → lv_has ls 6 [(0, .ref q_mo), (1, .int z1), (2, .int z2), (3, .int z3), (4, .int z4), (5, .int z5)] → W p l e ({ frames := 7, cells := 0, slots := 0, locals := 159 }) s m ([.ref q_mo] : List Value).toArray below meth c H locs 0 0 Q (F0 m 23 ls [])) := by
    intro n
    induction n with
    | zero =>
      refine ⟨?_, ?_⟩
      · intro z1 z2 z3 z4 z5 mo_thrown mo_start mo_many H locs ls hf hP hD hS hl
        exact absurd (show (none : Option (Int32 × Int32 × Int32 × Int32)) = some res from hf) (by simp)
      · intro z1 z2 z3 z4 z5 mo_thrown mo_start mo_many H locs ls hf hP hD hS hl
        exact absurd (show (none : Option (Int32 × Int32 × Int32 × Int32)) = some res from hf) (by simp)
    | succ n ih =>
      refine ⟨?_, ?_⟩
      · intro z1 z2 z3 z4 z5 mo_thrown mo_start mo_many H locs ls hf hP hD hS hl
        have hf : f_X6_bestSegmentSize_11_s (f_X6_bestSegmentSize_11 n) n 11 z1 z2 z3 z4 z5 mo_thrown mo_rows mo_price mo_queries mo_start mo_many mv mk ma mb mw = some res := hf
        unfold f_X6_bestSegmentSize_11_s at hf
        have hf := pr_pos hf rfl
        refine lv_iload_n hx hb dX6_bestSegmentSize_11 rfl (lv_at hl 3 rfl) ?_
        refine lv_bipush (v := 32) hx hb dX6_bestSegmentSize_12 (by decide) ?_
        refine lv_icmp_gt (tgt := 84) hx hb dX6_bestSegmentSize_14 (by decide) (fun c9 => ?_) (fun c9 => ?_)
        · have hf := pr_pos hf c9
          refine lv_iload_n hx hb dX6_bestSegmentSize_84 rfl (lv_at hl 1 rfl) ?_
          obtain rfl := Option.some.inj hf
          exact hret _ _ _ _ dX6_bestSegmentSize_85 (hP.sub [0, 1, 2, 3, 4, 5] rfl) (hD.sub [0, 1, 2, 3, 4, 5] (by decide) rfl) hS
        · have hf := pr_neg hf c9
          refine lv_iconst (v := 0) hx hb dX6_bestSegmentSize_17 (by decide) ?_
          refine lv_istore (lv' := [(4, .int 0), (0, .ref q_mo), (1, .int z1), (2, .int z2), (3, .int z3)]) hx hb dX6_bestSegmentSize_18 hl (by decide) rfl (fun ls hl => ?_)
          refine lv_iconst (v := 0) hx hb dX6_bestSegmentSize_20 (by decide) ?_
          refine lv_istore (lv' := [(5, .int 0), (4, .int 0), (0, .ref q_mo), (1, .int z1), (2, .int z2), (3, .int z3)]) hx hb dX6_bestSegmentSize_21 hl (by decide) rfl (fun ls hl => ?_)
          exact ih.2 _ _ _ _ _ _ _ _ _ _ ls hf (hP.sub [0, 1, 2, 3, 4, 5] rfl) (hD.sub [0, 1, 2, 3, 4, 5] (by decide) rfl) hS (lv_sub hl [2, 3, 4, 5, 1, 0] rfl)
      · intro z1 z2 z3 z4 z5 mo_thrown mo_start mo_many H locs ls hf hP hD hS hl
        have hf : f_X6_bestSegmentSize_11_s (f_X6_bestSegmentSize_11 n) n 23 z1 z2 z3 z4 z5 mo_thrown mo_rows mo_price mo_queries mo_start mo_many mv mk ma mb mw = some res := hf
        unfold f_X6_bestSegmentSize_11_s at hf
        have hf := pr_neg hf (by decide)
        refine lv_iload hx hb dX6_bestSegmentSize_23 (lv_at hl 5 rfl) ?_
        refine lv_aload_n hx hb dX6_bestSegmentSize_25 rfl (lv_at hl 0 rfl) ?_
        refine lv_iload_n hx hb dX6_bestSegmentSize_26 rfl (lv_at hl 3 rfl) ?_
        obtain ⟨u10, hu10, hf⟩ := pr_bd hf
        refine fr_iV (As := [.int z3]) ⟨hx, hb, hml, hown, hts⟩ hK hP hD hS hA (c_X6_segments l D cI q_mo q_mv q_me q_mk q_ma q_mb q_mw q_mx n z3 mo_thrown mo_rows mo_size mo_price mo_queries mo_start mo_many mo_bits u10 hu10) (cwV 1 hts gX6_bestSegmentSize_X6_segments rfl rfl rfl (by decide +kernel) ⟨Nat.le_of_ble_eq_true rfl, Nat.le_of_ble_eq_true rfl⟩) [(q_mv, .inl (cI, 96, .inl mv)), (q_mk, .inl (cI, 20, .inl mk)), (q_ma, .inl (cI, 20, .inl ma)), (q_mb, .inl (cI, 20, .inl mb)), (q_mw, .inl (cI, 20, .inl mw))] [0] [1, 2, 3, 4, 5] rfl rfl (by decide) (by decide) (by decide) 0 rfl rfl rfl rfl hl.1 (Nat.le_of_ble_eq_true rfl) dX6_bestSegmentSize_27 ⟨Nat.zero_le _, Nat.zero_le _⟩ rfl (fun H locs hP hD hS => ?_)
        have hP : va_P D vwCl [(q_mv, .inl (cI, 96, .inl mv)), (q_mk, .inl (cI, 20, .inl mk)), (q_ma, .inl (cI, 20, .inl ma)), (q_mb, .inl (cI, 20, .inl mb)), (q_mw, .inl (cI, 20, .inl mw)), (q_mo, .inr (6, [.int mo_thrown, .int mo_rows, .ref q_mv, .int mo_size, .ref q_me, .int mo_price, .int mo_queries, .ref q_mk, .ref q_ma, .ref q_mb, .ref q_mw, .int mo_start, .int mo_many, .int mo_bits, .ref q_mx]))] H := hP
        have hD : va_D A [(q_mv, .inl (cI, 96, .inl mv)), (q_mk, .inl (cI, 20, .inl mk)), (q_ma, .inl (cI, 20, .inl ma)), (q_mb, .inl (cI, 20, .inl mb)), (q_mw, .inl (cI, 20, .inl mw)), (q_mo, .inr (6, [.int mo_thrown, .int mo_rows, .ref q_mv, .int mo_size, .ref q_me, .int mo_price, .int mo_queries, .ref q_mk, .ref q_ma, .ref q_mb, .ref q_mw, .int mo_start, .int mo_many, .int mo_bits, .ref q_mx]))] := hD
        refine lv_icmp_ge (tgt := 59) hx hb dX6_bestSegmentSize_30 (by decide) (fun c11 => ?_) (fun c11 => ?_)
        · have hf := pr_pos hf c11
          refine lv_iload_n hx hb dX6_bestSegmentSize_59 rfl (lv_at hl 2 rfl) ?_
          refine lv_iconst (v := -1) hx hb dX6_bestSegmentSize_60 (by decide) ?_
          refine lv_icmp_eq (tgt := 73) hx hb dX6_bestSegmentSize_61 (by decide) (fun c12 => ?_) (fun c12 => ?_)
          · have hf := pr_pos hf c12
            refine lv_iload hx hb dX6_bestSegmentSize_73 (lv_at hl 4 rfl) ?_
            refine lv_istore_n (lv' := [(2, .int z4), (0, .ref q_mo), (1, .int z1), (3, .int z3), (4, .int z4), (5, .int z5)]) hx hb dX6_bestSegmentSize_75 rfl hl (by decide) rfl (fun ls hl => ?_)
            refine lv_iload_n hx hb dX6_bestSegmentSize_76 rfl (lv_at hl 3 rfl) ?_
            refine lv_istore_n (lv' := [(1, .int z3), (2, .int z4), (0, .ref q_mo), (3, .int z3), (4, .int z4), (5, .int z5)]) hx hb dX6_bestSegmentSize_77 rfl hl (by decide) rfl (fun ls hl => ?_)
            refine lv_iinc (v := (z3 + 1)) (lv' := [(3, .int (z3 + 1)), (1, .int z3), (2, .int z4), (0, .ref q_mo), (4, .int z4), (5, .int z5)]) hx hb dX6_bestSegmentSize_78 hl (k := 3) rfl rfl (by decide) rfl (fun ls hl => ?_)
            refine lv_goto (tgt := 11) hx hb dX6_bestSegmentSize_81 (by decide) ?_
            exact ih.1 _ _ _ _ _ _ _ _ _ _ ls hf (hP.sub [5, 0, 1, 2, 3, 4] rfl) (hD.sub [5, 0, 1, 2, 3, 4] (by decide) rfl) hS (lv_sub hl [3, 1, 2, 0] rfl)
          · have hf := pr_neg hf c12
            refine lv_iload hx hb dX6_bestSegmentSize_64 (lv_at hl 4 rfl) ?_
            refine lv_iload_n hx hb dX6_bestSegmentSize_66 rfl (lv_at hl 2 rfl) ?_
            refine lv_icmp_lt (tgt := 73) hx hb dX6_bestSegmentSize_67 (by decide) (fun c13 => ?_) (fun c13 => ?_)
            · have hf := pr_pos hf c13
              refine lv_iload hx hb dX6_bestSegmentSize_73 (lv_at hl 4 rfl) ?_
              refine lv_istore_n (lv' := [(2, .int z4), (0, .ref q_mo), (1, .int z1), (3, .int z3), (4, .int z4), (5, .int z5)]) hx hb dX6_bestSegmentSize_75 rfl hl (by decide) rfl (fun ls hl => ?_)
              refine lv_iload_n hx hb dX6_bestSegmentSize_76 rfl (lv_at hl 3 rfl) ?_
              refine lv_istore_n (lv' := [(1, .int z3), (2, .int z4), (0, .ref q_mo), (3, .int z3), (4, .int z4), (5, .int z5)]) hx hb dX6_bestSegmentSize_77 rfl hl (by decide) rfl (fun ls hl => ?_)
              refine lv_iinc (v := (z3 + 1)) (lv' := [(3, .int (z3 + 1)), (1, .int z3), (2, .int z4), (0, .ref q_mo), (4, .int z4), (5, .int z5)]) hx hb dX6_bestSegmentSize_78 hl (k := 3) rfl rfl (by decide) rfl (fun ls hl => ?_)
              refine lv_goto (tgt := 11) hx hb dX6_bestSegmentSize_81 (by decide) ?_
              exact ih.1 _ _ _ _ _ _ _ _ _ _ ls hf (hP.sub [5, 0, 1, 2, 3, 4] rfl) (hD.sub [5, 0, 1, 2, 3, 4] (by decide) rfl) hS (lv_sub hl [3, 1, 2, 0] rfl)
            · have hf := pr_neg hf c13
              refine lv_goto (tgt := 78) hx hb dX6_bestSegmentSize_70 (by decide) ?_
              refine lv_iinc (v := (z3 + 1)) (lv' := [(3, .int (z3 + 1)), (0, .ref q_mo), (1, .int z1), (2, .int z2), (4, .int z4), (5, .int z5)]) hx hb dX6_bestSegmentSize_78 hl (k := 3) rfl rfl (by decide) rfl (fun ls hl => ?_)
              refine lv_goto (tgt := 11) hx hb dX6_bestSegmentSize_81 (by decide) ?_
              exact ih.1 _ _ _ _ _ _ _ _ _ _ ls hf (hP.sub [5, 0, 1, 2, 3, 4] rfl) (hD.sub [5, 0, 1, 2, 3, 4] (by decide) rfl) hS (lv_sub hl [1, 2, 3, 0] rfl)
        · have hf := pr_neg hf c11
          refine lv_aload_n hx hb dX6_bestSegmentSize_33 rfl (lv_at hl 0 rfl) ?_
          refine lv_iload hx hb dX6_bestSegmentSize_34 (lv_at hl 5 rfl) ?_
          refine lv_iload_n hx hb dX6_bestSegmentSize_36 rfl (lv_at hl 3 rfl) ?_
          obtain ⟨u14, hu14, hf⟩ := pr_bd hf
          refine fr_vV (As := [.int z5, .int z3]) ⟨hx, hb, hml, hown, hts⟩ hK hP hD hS hA (c_X6_choose l D cI q_mo q_mv q_me q_mk q_ma q_mb q_mw q_mx n z5 z3 mo_thrown mo_rows mo_size mo_price mo_queries mo_start mo_many mo_bits u14 hu14) (cwV 2 hts gX6_bestSegmentSize_X6_choose rfl rfl rfl (by decide +kernel) ⟨Nat.le_of_ble_eq_true rfl, Nat.le_of_ble_eq_true rfl⟩) [(q_mv, .inl (cI, 96, .inl mv)), (q_mk, .inl (cI, 20, .inl mk)), (q_ma, .inl (cI, 20, .inl ma)), (q_mb, .inl (cI, 20, .inl mb)), (q_mw, .inl (cI, 20, .inl mw))] [5] [0, 1, 2, 3, 4] rfl rfl (by decide) (by decide) (by decide) 0 rfl rfl rfl rfl hl.1 (Nat.le_of_ble_eq_true rfl) dX6_bestSegmentSize_37 ⟨Nat.zero_le _, Nat.zero_le _⟩ rfl (fun H locs hP hD hS => ?_)
          have hP : va_P D vwCl [(q_mv, .inl (cI, 96, .inl mv)), (q_mk, .inl (cI, 20, .inl mk)), (q_ma, .inl (cI, 20, .inl ma)), (q_mb, .inl (cI, 20, .inl mb)), (q_mw, .inl (cI, 20, .inl mw)), (q_mo, .inr (6, [.int mo_thrown, .int mo_rows, .ref q_mv, .int mo_size, .ref q_me, .int mo_price, .int mo_queries, .ref q_mk, .ref q_ma, .ref q_mb, .ref q_mw, .int u14.1, .int u14.2, .int mo_bits, .ref q_mx]))] H := hP
          have hD : va_D A [(q_mv, .inl (cI, 96, .inl mv)), (q_mk, .inl (cI, 20, .inl mk)), (q_ma, .inl (cI, 20, .inl ma)), (q_mb, .inl (cI, 20, .inl mb)), (q_mw, .inl (cI, 20, .inl mw)), (q_mo, .inr (6, [.int mo_thrown, .int mo_rows, .ref q_mv, .int mo_size, .ref q_me, .int mo_price, .int mo_queries, .ref q_mk, .ref q_ma, .ref q_mb, .ref q_mw, .int u14.1, .int u14.2, .int mo_bits, .ref q_mx]))] := hD
          refine lv_iload hx hb dX6_bestSegmentSize_40 (lv_at hl 4 rfl) ?_
          refine lv_aload_n hx hb dX6_bestSegmentSize_42 rfl (lv_at hl 0 rfl) ?_
          refine lv_aload_n hx hb dX6_bestSegmentSize_43 rfl (lv_at hl 0 rfl) ?_
          obtain ⟨u15, hu15, hf⟩ := pr_bd hf
          refine fr_iV (As := []) ⟨hx, hb, hml, hown, hts⟩ hK hP hD hS hA (c_X6_best l D cI q_mo q_mv q_me q_mk q_ma q_mb q_mw q_mx n mo_thrown mo_rows mo_size mo_price mo_queries u14.1 u14.2 mo_bits mv mk ma mb mw u15 hu15) (cwV 0 hts gX6_bestSegmentSize_X6_best rfl rfl rfl (by decide +kernel) ⟨Nat.le_of_ble_eq_true rfl, Nat.le_of_ble_eq_true rfl⟩) [] [5, 0, 1, 2, 3, 4] [] rfl rfl (by decide) (by decide) (by decide) 0 rfl rfl rfl rfl hl.1 (Nat.le_of_ble_eq_true rfl) dX6_bestSegmentSize_44 ⟨Nat.zero_le _, Nat.zero_le _⟩ rfl (fun H locs hP hD hS => ?_)
          have hP : va_P D vwCl [(q_mo, .inr (6, [.int mo_thrown, .int mo_rows, .ref q_mv, .int mo_size, .ref q_me, .int mo_price, .int mo_queries, .ref q_mk, .ref q_ma, .ref q_mb, .ref q_mw, .int u14.1, .int u14.2, .int mo_bits, .ref q_mx])), (q_mv, .inl (cI, 96, .inl mv)), (q_mk, .inl (cI, 20, .inl mk)), (q_ma, .inl (cI, 20, .inl ma)), (q_mb, .inl (cI, 20, .inl mb)), (q_mw, .inl (cI, 20, .inl mw))] H := hP
          have hD : va_D A [(q_mo, .inr (6, [.int mo_thrown, .int mo_rows, .ref q_mv, .int mo_size, .ref q_me, .int mo_price, .int mo_queries, .ref q_mk, .ref q_ma, .ref q_mb, .ref q_mw, .int u14.1, .int u14.2, .int mo_bits, .ref q_mx])), (q_mv, .inl (cI, 96, .inl mv)), (q_mk, .inl (cI, 20, .inl mk)), (q_ma, .inl (cI, 20, .inl ma)), (q_mb, .inl (cI, 20, .inl mb)), (q_mw, .inl (cI, 20, .inl mw))] := hD
          obtain ⟨u16, hu16, hf⟩ := pr_bd hf
          refine fr_iV (As := [.int u15]) ⟨hx, hb, hml, hown, hts⟩ hK hP hD hS hA (c_X6_scoreOf l D cI q_mo q_mv q_me q_mk q_ma q_mb q_mw q_mx n u15 mo_thrown mo_rows mo_size mo_price mo_queries u14.1 u14.2 mo_bits mv mk ma mb mw u16 hu16) (cwV 1 hts gX6_bestSegmentSize_X6_scoreOf rfl rfl rfl (by decide +kernel) ⟨Nat.le_of_ble_eq_true rfl, Nat.le_of_ble_eq_true rfl⟩) [] [0, 1, 2, 3, 4, 5] [] rfl rfl (by decide) (by decide) (by decide) 0 rfl rfl rfl rfl hl.1 (Nat.le_of_ble_eq_true rfl) dX6_bestSegmentSize_47 ⟨Nat.zero_le _, Nat.zero_le _⟩ rfl (fun H locs hP hD hS => ?_)
          have hP : va_P D vwCl [(q_mo, .inr (6, [.int mo_thrown, .int mo_rows, .ref q_mv, .int mo_size, .ref q_me, .int mo_price, .int mo_queries, .ref q_mk, .ref q_ma, .ref q_mb, .ref q_mw, .int u14.1, .int u14.2, .int mo_bits, .ref q_mx])), (q_mv, .inl (cI, 96, .inl mv)), (q_mk, .inl (cI, 20, .inl mk)), (q_ma, .inl (cI, 20, .inl ma)), (q_mb, .inl (cI, 20, .inl mb)), (q_mw, .inl (cI, 20, .inl mw))] H := hP
          have hD : va_D A [(q_mo, .inr (6, [.int mo_thrown, .int mo_rows, .ref q_mv, .int mo_size, .ref q_me, .int mo_price, .int mo_queries, .ref q_mk, .ref q_ma, .ref q_mb, .ref q_mw, .int u14.1, .int u14.2, .int mo_bits, .ref q_mx])), (q_mv, .inl (cI, 96, .inl mv)), (q_mk, .inl (cI, 20, .inl mk)), (q_ma, .inl (cI, 20, .inl ma)), (q_mb, .inl (cI, 20, .inl mb)), (q_mw, .inl (cI, 20, .inl mw))] := hD
          refine lv_iadd hx hb dX6_bestSegmentSize_50 ?_
          refine lv_istore (lv' := [(4, .int (z4 + u16)), (0, .ref q_mo), (1, .int z1), (2, .int z2), (3, .int z3), (5, .int z5)]) hx hb dX6_bestSegmentSize_51 hl (by decide) rfl (fun ls hl => ?_)
          refine lv_iinc (v := (z5 + 1)) (lv' := [(5, .int (z5 + 1)), (4, .int (z4 + u16)), (0, .ref q_mo), (1, .int z1), (2, .int z2), (3, .int z3)]) hx hb dX6_bestSegmentSize_53 hl (k := 5) rfl rfl (by decide) rfl (fun ls hl => ?_)
          refine lv_goto (tgt := 23) hx hb dX6_bestSegmentSize_56 (by decide) ?_
          exact ih.2 _ _ _ _ _ _ _ _ _ _ ls hf (hP.sub [0, 1, 2, 3, 4, 5] rfl) (hD.sub [0, 1, 2, 3, 4, 5] (by decide) rfl) hS (lv_sub hl [2, 3, 4, 5, 1, 0] rfl)
  unfold f_X6_bestSegmentSize at hf
  refine lv_aload_n hx hb dX6_bestSegmentSize_0 rfl (lv_at hl 0 rfl) ?_
  refine lv_iconst (v := 0) hx hb dX6_bestSegmentSize_1 (by decide) ?_
  refine va_put (D := D) (ci := 6) (v := .int 0) (ty := .int) (C := RX6) (T := TX6) (N := 15) hx hb hts hin6 tyX6 tyX6_ok nmX6 hown hK hP hD hS 0 rfl rfl 0 (by decide) (hts (.fieldLink RX6 38 "ColumnChooserModel" "thrown" "I") (List.mem_of_getElem? (i := 1) rfl)) (fun _ h9 => h9) rfl (by decide +kernel) rfl rfl (Nat.le_of_ble_eq_true rfl) dX6_bestSegmentSize_2 (fun H locs hP hD hS => ?_)
  have hP : va_P D vwCl [(q_mo, .inr (6, [.int 0, .int mo_rows, .ref q_mv, .int mo_size, .ref q_me, .int mo_price, .int mo_queries, .ref q_mk, .ref q_ma, .ref q_mb, .ref q_mw, .int mo_start, .int mo_many, .int mo_bits, .ref q_mx])), (q_mv, .inl (cI, 96, .inl mv)), (q_mk, .inl (cI, 20, .inl mk)), (q_ma, .inl (cI, 20, .inl ma)), (q_mb, .inl (cI, 20, .inl mb)), (q_mw, .inl (cI, 20, .inl mw))] H := hP
  have hD : va_D A [(q_mo, .inr (6, [.int 0, .int mo_rows, .ref q_mv, .int mo_size, .ref q_me, .int mo_price, .int mo_queries, .ref q_mk, .ref q_ma, .ref q_mb, .ref q_mw, .int mo_start, .int mo_many, .int mo_bits, .ref q_mx])), (q_mv, .inl (cI, 96, .inl mv)), (q_mk, .inl (cI, 20, .inl mk)), (q_ma, .inl (cI, 20, .inl ma)), (q_mb, .inl (cI, 20, .inl mb)), (q_mw, .inl (cI, 20, .inl mw))] := hD
  refine lv_iconst (v := 4) hx hb dX6_bestSegmentSize_5 (by decide) ?_
  refine lv_istore_n (lv' := [(1, .int 4), (0, .ref q_mo)]) hx hb dX6_bestSegmentSize_6 rfl hl (by decide) rfl (fun ls hl => ?_)
  refine lv_iconst (v := -1) hx hb dX6_bestSegmentSize_7 (by decide) ?_
  refine lv_istore_n (lv' := [(2, .int (-1)), (1, .int 4), (0, .ref q_mo)]) hx hb dX6_bestSegmentSize_8 rfl hl (by decide) rfl (fun ls hl => ?_)
  refine lv_iconst (v := 4) hx hb dX6_bestSegmentSize_9 (by decide) ?_
  refine lv_istore_n (lv' := [(3, .int 4), (2, .int (-1)), (1, .int 4), (0, .ref q_mo)]) hx hb dX6_bestSegmentSize_10 rfl hl (by decide) rfl (fun ls hl => ?_)
  exact (k_11 n).1 _ _ _ _ _ _ _ _ _ _ ls hf (hP.sub [0, 1, 2, 3, 4, 5] rfl) (hD.sub [0, 1, 2, 3, 4, 5] (by decide) rfl) hS (lv_sub hl [3, 2, 1, 0] rfl)
set_option maxHeartbeats 4000000 in
set_option maxRecDepth 100000 in
theorem c_X6_digest (l : Launch) (D : va_G) (cI : ClassId) (q_mo q_mv q_me q_mk q_ma q_mb q_mw q_mx : Nat) (n : Nat) (mo_thrown : Int32) (mo_rows : Int32) (mo_size : Int32) (mo_price : Int32) (mo_queries : Int32) (mo_start : Int32) (mo_many : Int32) (mo_bits : Int32) (mv : (Nat → Int32)) (me : (Nat → Int32)) (mx : (Nat → Int32)) (res : Int64 × Int32 × Int32 × Int32 × Int32 × (Nat → Int32)) (hf : f_X6_digest n mo_thrown mo_rows mo_size mo_price mo_queries mo_start mo_many mo_bits mv me mx = some res) : fr_Cl l yX6_digest wsX6_digest ({ frames := 5, cells := 0, slots := 0, locals := 111 }) D [(cI, .int)] [.ref q_mo] [(q_mo, .inr (6, [.int mo_thrown, .int mo_rows, .ref q_mv, .int mo_size, .ref q_me, .int mo_price, .int mo_queries, .ref q_mk, .ref q_ma, .ref q_mb, .ref q_mw, .int mo_start, .int mo_many, .int mo_bits, .ref q_mx])), (q_mv, .inl (cI, 96, .inl mv)), (q_me, .inl (cI, 96, .inl me)), (q_mx, .inl (cI, 2000, .inl mx))] res.1 [(q_mo, .inr (6, [.int res.2.1, .int mo_rows, .ref q_mv, .int mo_size, .ref q_me, .int mo_price, .int mo_queries, .ref q_mk, .ref q_ma, .ref q_mb, .ref q_mw, .int res.2.2.1, .int res.2.2.2.1, .int res.2.2.2.2.1, .ref q_mx])), (q_mv, .inl (cI, 96, .inl mv)), (q_me, .inl (cI, 96, .inl me)), (q_mx, .inl (cI, 2000, .inl res.2.2.2.2.2))] := by
  refine fr_open_l (cc := cX6_digest) (maxL := 5) (by decide +kernel) rfl (Nat.le_of_ble_eq_true rfl) ?_
  intro p e s m below meth c A Q ls hx hb hml hown hts hA hK hP hD hS hl hret
  have hown : s.vm.findClass RX6 = some m.cls := hown
  have hl : lv_has ls 5 [(0, .ref q_mo)] := hl
  have hin6 : ∀ w ∈ u_ws RX6 TX6 15, w ∈ wsX6_digest := fun _ h9 => List.mem_cons_of_mem _ (List.mem_append_right _ h9)
  have k_47 : ∀ (n : Nat), (∀ (z1 : Int64) (z3 : Int32) (z4 : Int32) (mo_thrown : Int32) (mo_start : Int32) (mo_many : Int32) (mo_bits : Int32) (mx : (Nat → Int32)) (H : Heap) (locs : List Loc) (ls : Array Slot), f_X6_digest_47 n 47 z1 z3 z4 mo_thrown mo_rows mo_size mo_price mo_queries mo_start mo_many mo_bits mv me mx = some res → va_P D vwCl [(q_mo, .inr (6, [.int mo_thrown, .int mo_rows, .ref q_mv, .int mo_size, .ref q_me, .int mo_price, .int mo_queries, .ref q_mk, .ref q_ma, .ref q_mb, .ref q_mw, .int mo_start, .int mo_many, .int mo_bits, .ref q_mx])), (q_mv, .inl (cI, 96, .inl mv)), (q_me, .inl (cI, 96, .inl me)), (q_mx, .inl (cI, 2000, .inl mx))] H → va_D A [(q_mo, .inr (6, [.int mo_thrown, .int mo_rows, .ref q_mv, .int mo_size, .ref q_me, .int mo_price, .int mo_queries, .ref q_mk, .ref q_ma, .ref q_mb, .ref q_mw, .int mo_start, .int mo_many, .int mo_bits, .ref q_mx])), (q_mv, .inl (cI, 96, .inl mv)), (q_me, .inl (cI, 96, .inl me)), (q_mx, .inl (cI, 2000, .inl mx))] → va_S A s.heap H locs → lv_has ls 5 [(0, .ref q_mo), (1, .long z1), (3, .int z3)] → W p l e ({ frames := 5, cells := 0, slots := 0, locals := 111 }) s m ([.ref q_mo] : List Value).toArray below meth c H locs 0 0 Q (F0 m 47 ls [])) ∧ (∀ (z1 : Int64) (z3 : Int32) (z4 : Int32) (mo_thrown : Int32) (mo_start : Int32) (mo_many : Int32) (mo_bits : Int32) (mx : (Nat → Int32)) (H : Heap) (locs : List Loc) (ls : Array Slot), f_X6_digest_47 n 105 z1 z3 z4 mo_thrown mo_rows mo_size mo_price mo_queries mo_start mo_many mo_bits mv me mx = some res → va_P D vwCl [(q_mo, .inr (6, [.int mo_thrown, .int mo_rows, .ref q_mv, .int mo_size, .ref q_me, .int mo_price, .int mo_queries, .ref q_mk, .ref q_ma, .ref q_mb, .ref q_mw, .int mo_start, .int mo_many, .int mo_bits, .ref q_mx])), (q_mv, .inl (cI, 96, .inl mv)), (q_me, .inl (cI, 96, .inl me)), (q_mx, .inl (cI, 2000, .inl mx))] H → va_D A [(q_mo, .inr (6, [.int mo_thrown, .int mo_rows, .ref q_mv, .int mo_size, .ref q_me, .int mo_price, .int mo_queries, .ref q_mk, .ref q_ma, .ref q_mb, .ref q_mw, .int mo_start, .int mo_many, .int mo_bits, .ref q_mx])), (q_mv, .inl (cI, 96, .inl mv)), (q_me, .inl (cI, 96, .inl me)), (q_mx, .inl (cI, 2000, .inl mx))] → va_S A s.heap H locs → lv_has ls 5 [(0, .ref q_mo), (1, .long z1), (3, .int z3), (4, .int z4)] → W p l e ({ frames := 5, cells := 0, slots := 0, locals := 111 }) s m ([.ref q_mo] : List Value).toArray below meth c H locs 0 0 Q (F0 m 105 ls [])) := by
    intro n
    induction n with
    | zero =>
      refine ⟨?_, ?_⟩
      · intro z1 z3 z4 mo_thrown mo_start mo_many mo_bits mx H locs ls hf hP hD hS hl
        exact absurd (show (none : Option (Int64 × Int32 × Int32 × Int32 × Int32 × (Nat → Int32))) = some res from hf) (by simp)
      · intro z1 z3 z4 mo_thrown mo_start mo_many mo_bits mx H locs ls hf hP hD hS hl
        exact absurd (show (none : Option (Int64 × Int32 × Int32 × Int32 × Int32 × (Nat → Int32))) = some res from hf) (by simp)
    | succ n ih =>
      refine ⟨?_, ?_⟩
      · intro z1 z3 z4 mo_thrown mo_start mo_many mo_bits mx H locs ls hf hP hD hS hl
        have hf : f_X6_digest_47_s (f_X6_digest_47 n) n 47 z1 z3 z4 mo_thrown mo_rows mo_size mo_price mo_queries mo_start mo_many mo_bits mv me mx = some res := hf
        unfold f_X6_digest_47_s at hf
        have hf := pr_pos hf rfl
        refine lv_iload_n hx hb dX6_digest_47 rfl (lv_at hl 2 rfl) ?_
        refine lv_aload_n hx hb dX6_digest_48 rfl (lv_at hl 0 rfl) ?_
        refine lv_aload_n hx hb dX6_digest_49 rfl (lv_at hl 0 rfl) ?_
        refine va_get (D := D) (ci := 6) (v := .int mo_size) (C := RX6) (T := TX6) (N := 15) hx hb hts hin6 hown hK hP 0 rfl rfl 3 (by decide) (hts (.fieldLink RX6 13 "ColumnChooserModel" "size" "I") (List.mem_of_getElem? (i := 5) rfl)) (fun _ h9 => h9) rfl dX6_digest_50 ?_
        obtain ⟨u9, hu9, hf⟩ := pr_bd hf
        refine fr_iV (As := [.int mo_size]) ⟨hx, hb, hml, hown, hts⟩ hK hP hD hS hA (c_X6_segments l D cI q_mo q_mv q_me q_mk q_ma q_mb q_mw q_mx n mo_size mo_thrown mo_rows mo_size mo_price mo_queries mo_start mo_many mo_bits u9 hu9) (cwV 1 hts gX6_digest_X6_segments rfl rfl rfl (by decide +kernel) ⟨Nat.le_of_ble_eq_true rfl, Nat.le_of_ble_eq_true rfl⟩) [(q_mv, .inl (cI, 96, .inl mv)), (q_me, .inl (cI, 96, .inl me)), (q_mx, .inl (cI, 2000, .inl mx))] [0] [1, 2, 3] rfl rfl (by decide) (by decide) (by decide) 0 rfl rfl rfl rfl hl.1 (Nat.le_of_ble_eq_true rfl) dX6_digest_53 ⟨Nat.zero_le _, Nat.zero_le _⟩ rfl (fun H locs hP hD hS => ?_)
        have hP : va_P D vwCl [(q_mv, .inl (cI, 96, .inl mv)), (q_me, .inl (cI, 96, .inl me)), (q_mx, .inl (cI, 2000, .inl mx)), (q_mo, .inr (6, [.int mo_thrown, .int mo_rows, .ref q_mv, .int mo_size, .ref q_me, .int mo_price, .int mo_queries, .ref q_mk, .ref q_ma, .ref q_mb, .ref q_mw, .int mo_start, .int mo_many, .int mo_bits, .ref q_mx]))] H := hP
        have hD : va_D A [(q_mv, .inl (cI, 96, .inl mv)), (q_me, .inl (cI, 96, .inl me)), (q_mx, .inl (cI, 2000, .inl mx)), (q_mo, .inr (6, [.int mo_thrown, .int mo_rows, .ref q_mv, .int mo_size, .ref q_me, .int mo_price, .int mo_queries, .ref q_mk, .ref q_ma, .ref q_mb, .ref q_mw, .int mo_start, .int mo_many, .int mo_bits, .ref q_mx]))] := hD
        refine lv_icmp_ge (tgt := 141) hx hb dX6_digest_56 (by decide) (fun c10 => ?_) (fun c10 => ?_)
        · have hf := pr_pos hf c10
          refine lv_lload_n hx hb dX6_digest_141 rfl (lv_at hl 1 rfl) ?_
          obtain rfl := Option.some.inj hf
          exact hret _ _ _ _ dX6_digest_142 (hP.sub [3, 0, 1, 2] rfl) (hD.sub [3, 0, 1, 2] (by decide) rfl) hS
        · have hf := pr_neg hf c10
          refine lv_aload_n hx hb dX6_digest_59 rfl (lv_at hl 0 rfl) ?_
          refine lv_iload_n hx hb dX6_digest_60 rfl (lv_at hl 2 rfl) ?_
          refine lv_aload_n hx hb dX6_digest_61 rfl (lv_at hl 0 rfl) ?_
          refine va_get (D := D) (ci := 6) (v := .int mo_size) (C := RX6) (T := TX6) (N := 15) hx hb hts hin6 hown hK hP 3 rfl rfl 3 (by decide) (hts (.fieldLink RX6 13 "ColumnChooserModel" "size" "I") (List.mem_of_getElem? (i := 5) rfl)) (fun _ h9 => h9) rfl dX6_digest_62 ?_
          obtain ⟨u11, hu11, hf⟩ := pr_bd hf
          refine fr_vV (As := [.int z3, .int mo_size]) ⟨hx, hb, hml, hown, hts⟩ hK hP hD hS hA (c_X6_choose l D cI q_mo q_mv q_me q_mk q_ma q_mb q_mw q_mx n z3 mo_size mo_thrown mo_rows mo_size mo_price mo_queries mo_start mo_many mo_bits u11 hu11) (cwV 2 hts gX6_digest_X6_choose rfl rfl rfl (by decide +kernel) ⟨Nat.le_of_ble_eq_true rfl, Nat.le_of_ble_eq_true rfl⟩) [(q_mv, .inl (cI, 96, .inl mv)), (q_me, .inl (cI, 96, .inl me)), (q_mx, .inl (cI, 2000, .inl mx))] [3] [0, 1, 2] rfl rfl (by decide) (by decide) (by decide) 0 rfl rfl rfl rfl hl.1 (Nat.le_of_ble_eq_true rfl) dX6_digest_65 ⟨Nat.zero_le _, Nat.zero_le _⟩ rfl (fun H locs hP hD hS => ?_)
          have hP : va_P D vwCl [(q_mv, .inl (cI, 96, .inl mv)), (q_me, .inl (cI, 96, .inl me)), (q_mx, .inl (cI, 2000, .inl mx)), (q_mo, .inr (6, [.int mo_thrown, .int mo_rows, .ref q_mv, .int mo_size, .ref q_me, .int mo_price, .int mo_queries, .ref q_mk, .ref q_ma, .ref q_mb, .ref q_mw, .int u11.1, .int u11.2, .int mo_bits, .ref q_mx]))] H := hP
          have hD : va_D A [(q_mv, .inl (cI, 96, .inl mv)), (q_me, .inl (cI, 96, .inl me)), (q_mx, .inl (cI, 2000, .inl mx)), (q_mo, .inr (6, [.int mo_thrown, .int mo_rows, .ref q_mv, .int mo_size, .ref q_me, .int mo_price, .int mo_queries, .ref q_mk, .ref q_ma, .ref q_mb, .ref q_mw, .int u11.1, .int u11.2, .int mo_bits, .ref q_mx]))] := hD
          refine lv_aload_n hx hb dX6_digest_68 rfl (lv_at hl 0 rfl) ?_
          refine lv_aload_n hx hb dX6_digest_69 rfl (lv_at hl 0 rfl) ?_
          refine va_get (D := D) (ci := 6) (v := .ref q_me) (C := RX6) (T := TX6) (N := 15) hx hb hts hin6 hown hK hP 3 rfl rfl 4 (by decide) (hts (.fieldLink RX6 17 "ColumnChooserModel" "encodings" "[I") (List.mem_of_getElem? (i := 8) rfl)) (fun _ h9 => h9) rfl dX6_digest_70 ?_
          refine lv_iload_n hx hb dX6_digest_73 rfl (lv_at hl 2 rfl) ?_
          obtain ⟨v12, hv12, hf⟩ := pr_bd hf
          refine fr_rd hx hb hK hP 1 0 rfl rfl hv12 dX6_digest_74 ?_
          obtain ⟨u13, hu13, hf⟩ := pr_bd hf
          refine fr_vV (As := [.int v12]) ⟨hx, hb, hml, hown, hts⟩ hK hP hD hS hA (c_X6_write l D cI q_mo q_mv q_me q_mk q_ma q_mb q_mw q_mx n v12 mo_thrown mo_rows mo_size mo_price mo_queries u11.1 u11.2 mo_bits mv mx u13 hu13) (cwV 1 hts gX6_digest_X6_write rfl rfl rfl (by decide +kernel) ⟨Nat.le_of_ble_eq_true rfl, Nat.le_of_ble_eq_true rfl⟩) [(q_me, .inl (cI, 96, .inl me))] [3, 0, 2] [1] rfl rfl (by decide) (by decide) (by decide) 0 rfl rfl rfl rfl hl.1 (Nat.le_of_ble_eq_true rfl) dX6_digest_75 ⟨Nat.zero_le _, Nat.zero_le _⟩ rfl (fun H locs hP hD hS => ?_)
          have hP : va_P D vwCl [(q_me, .inl (cI, 96, .inl me)), (q_mo, .inr (6, [.int mo_thrown, .int mo_rows, .ref q_mv, .int mo_size, .ref q_me, .int mo_price, .int mo_queries, .ref q_mk, .ref q_ma, .ref q_mb, .ref q_mw, .int u11.1, .int u11.2, .int u13.1, .ref q_mx])), (q_mv, .inl (cI, 96, .inl mv)), (q_mx, .inl (cI, 2000, .inl u13.2))] H := hP
          have hD : va_D A [(q_me, .inl (cI, 96, .inl me)), (q_mo, .inr (6, [.int mo_thrown, .int mo_rows, .ref q_mv, .int mo_size, .ref q_me, .int mo_price, .int mo_queries, .ref q_mk, .ref q_ma, .ref q_mb, .ref q_mw, .int u11.1, .int u11.2, .int u13.1, .ref q_mx])), (q_mv, .inl (cI, 96, .inl mv)), (q_mx, .inl (cI, 2000, .inl u13.2))] := hD
          refine lv_lload_n hx hb dX6_digest_78 rfl (lv_at hl 1 rfl) ?_
          refine lv_ldc2 (v := 31) hx hb hown (hts (.constantLong RX6 180 (31)) (List.mem_of_getElem? (i := 4) rfl)) dX6_digest_79 ?_
          refine lv_lmul hx hb dX6_digest_82 ?_
          refine lv_aload_n hx hb dX6_digest_83 rfl (lv_at hl 0 rfl) ?_
          refine va_get (D := D) (ci := 6) (v := .ref q_me) (C := RX6) (T := TX6) (N := 15) hx hb hts hin6 hown hK hP 1 rfl rfl 4 (by decide) (hts (.fieldLink RX6 17 "ColumnChooserModel" "encodings" "[I") (List.mem_of_getElem? (i := 8) rfl)) (fun _ h9 => h9) rfl dX6_digest_84 ?_
          refine lv_iload_n hx hb dX6_digest_87 rfl (lv_at hl 2 rfl) ?_
          obtain ⟨v14, hv14, hf⟩ := pr_bd hf
          refine fr_rd hx hb hK hP 0 0 rfl rfl hv14 dX6_digest_88 ?_
          refine lv_i2l hx hb dX6_digest_89 rfl ?_
          refine lv_ladd hx hb dX6_digest_90 ?_
          refine lv_ldc2 (v := 31) hx hb hown (hts (.constantLong RX6 180 (31)) (List.mem_of_getElem? (i := 4) rfl)) dX6_digest_91 ?_
          refine lv_lmul hx hb dX6_digest_94 ?_
          refine lv_aload_n hx hb dX6_digest_95 rfl (lv_at hl 0 rfl) ?_
          refine va_get (D := D) (ci := 6) (v := .int u13.1) (C := RX6) (T := TX6) (N := 15) hx hb hts hin6 hown hK hP 1 rfl rfl 13 (by decide) (hts (.fieldLink RX6 155 "ColumnChooserModel" "bits" "I") (List.mem_of_getElem? (i := 9) rfl)) (fun _ h9 => h9) rfl dX6_digest_96 ?_
          refine lv_i2l hx hb dX6_digest_99 rfl ?_
          refine lv_ladd hx hb dX6_digest_100 ?_
          refine lv_lstore_n (lv' := [(1, .long ((((z1 * 31) + v14.toInt64) * 31) + u13.1.toInt64)), (0, .ref q_mo), (3, .int z3)]) hx hb dX6_digest_101 rfl hl (by decide) rfl (fun ls hl => ?_)
          refine lv_iconst (v := 0) hx hb dX6_digest_102 (by decide) ?_
          refine lv_istore (lv' := [(4, .int 0), (1, .long ((((z1 * 31) + v14.toInt64) * 31) + u13.1.toInt64)), (0, .ref q_mo), (3, .int z3)]) hx hb dX6_digest_103 hl (by decide) rfl (fun ls hl => ?_)
          exact ih.2 _ _ _ _ _ _ _ _ _ _ ls hf (hP.sub [1, 2, 0, 3] rfl) (hD.sub [1, 2, 0, 3] (by decide) rfl) hS (lv_sub hl [2, 1, 3, 0] rfl)
      · intro z1 z3 z4 mo_thrown mo_start mo_many mo_bits mx H locs ls hf hP hD hS hl
        have hf : f_X6_digest_47_s (f_X6_digest_47 n) n 105 z1 z3 z4 mo_thrown mo_rows mo_size mo_price mo_queries mo_start mo_many mo_bits mv me mx = some res := hf
        unfold f_X6_digest_47_s at hf
        have hf := pr_neg hf (by decide)
        refine lv_iload hx hb dX6_digest_105 (lv_at hl 3 rfl) ?_
        refine lv_aload_n hx hb dX6_digest_107 rfl (lv_at hl 0 rfl) ?_
        refine va_get (D := D) (ci := 6) (v := .int mo_bits) (C := RX6) (T := TX6) (N := 15) hx hb hts hin6 hown hK hP 0 rfl rfl 13 (by decide) (hts (.fieldLink RX6 155 "ColumnChooserModel" "bits" "I") (List.mem_of_getElem? (i := 9) rfl)) (fun _ h9 => h9) rfl dX6_digest_108 ?_
        refine lv_icmp_ge (tgt := 135) hx hb dX6_digest_111 (by decide) (fun c15 => ?_) (fun c15 => ?_)
        · have hf := pr_pos hf c15
          refine lv_iinc (v := (z3 + 1)) (lv' := [(3, .int (z3 + 1)), (0, .ref q_mo), (1, .long z1), (4, .int z4)]) hx hb dX6_digest_135 hl (k := 2) rfl rfl (by decide) rfl (fun ls hl => ?_)
          refine lv_goto (tgt := 47) hx hb dX6_digest_138 (by decide) ?_
          exact ih.1 _ _ _ _ _ _ _ _ _ _ ls hf (hP.sub [0, 1, 2, 3] rfl) (hD.sub [0, 1, 2, 3] (by decide) rfl) hS (lv_sub hl [1, 2, 0] rfl)
        · have hf := pr_neg hf c15
          refine lv_lload_n hx hb dX6_digest_114 rfl (lv_at hl 1 rfl) ?_
          refine lv_ldc2 (v := 31) hx hb hown (hts (.constantLong RX6 180 (31)) (List.mem_of_getElem? (i := 4) rfl)) dX6_digest_115 ?_
          refine lv_lmul hx hb dX6_digest_118 ?_
          refine lv_aload_n hx hb dX6_digest_119 rfl (lv_at hl 0 rfl) ?_
          refine va_get (D := D) (ci := 6) (v := .ref q_mx) (C := RX6) (T := TX6) (N := 15) hx hb hts hin6 hown hK hP 0 rfl rfl 14 (by decide) (hts (.fieldLink RX6 35 "ColumnChooserModel" "bit" "[I") (List.mem_of_getElem? (i := 10) rfl)) (fun _ h9 => h9) rfl dX6_digest_120 ?_
          refine lv_iload hx hb dX6_digest_123 (lv_at hl 3 rfl) ?_
          obtain ⟨v16, hv16, hf⟩ := pr_bd hf
          refine fr_rd hx hb hK hP 3 0 rfl rfl hv16 dX6_digest_125 ?_
          refine lv_i2l hx hb dX6_digest_126 rfl ?_
          refine lv_ladd hx hb dX6_digest_127 ?_
          refine lv_lstore_n (lv' := [(1, .long ((z1 * 31) + v16.toInt64)), (0, .ref q_mo), (3, .int z3), (4, .int z4)]) hx hb dX6_digest_128 rfl hl (by decide) rfl (fun ls hl => ?_)
          refine lv_iinc (v := (z4 + 1)) (lv' := [(4, .int (z4 + 1)), (1, .long ((z1 * 31) + v16.toInt64)), (0, .ref q_mo), (3, .int z3)]) hx hb dX6_digest_129 hl (k := 3) rfl rfl (by decide) rfl (fun ls hl => ?_)
          refine lv_goto (tgt := 105) hx hb dX6_digest_132 (by decide) ?_
          exact ih.2 _ _ _ _ _ _ _ _ _ _ ls hf (hP.sub [0, 1, 2, 3] rfl) (hD.sub [0, 1, 2, 3] (by decide) rfl) hS (lv_sub hl [2, 1, 3, 0] rfl)
  unfold f_X6_digest at hf
  refine lv_aload_n hx hb dX6_digest_0 rfl (lv_at hl 0 rfl) ?_
  refine lv_iconst (v := 0) hx hb dX6_digest_1 (by decide) ?_
  refine va_put (D := D) (ci := 6) (v := .int 0) (ty := .int) (C := RX6) (T := TX6) (N := 15) hx hb hts hin6 tyX6 tyX6_ok nmX6 hown hK hP hD hS 0 rfl rfl 0 (by decide) (hts (.fieldLink RX6 38 "ColumnChooserModel" "thrown" "I") (List.mem_of_getElem? (i := 1) rfl)) (fun _ h9 => h9) rfl (by decide +kernel) rfl rfl (Nat.le_of_ble_eq_true rfl) dX6_digest_2 (fun H locs hP hD hS => ?_)
  have hP : va_P D vwCl [(q_mo, .inr (6, [.int 0, .int mo_rows, .ref q_mv, .int mo_size, .ref q_me, .int mo_price, .int mo_queries, .ref q_mk, .ref q_ma, .ref q_mb, .ref q_mw, .int mo_start, .int mo_many, .int mo_bits, .ref q_mx])), (q_mv, .inl (cI, 96, .inl mv)), (q_me, .inl (cI, 96, .inl me)), (q_mx, .inl (cI, 2000, .inl mx))] H := hP
  have hD : va_D A [(q_mo, .inr (6, [.int 0, .int mo_rows, .ref q_mv, .int mo_size, .ref q_me, .int mo_price, .int mo_queries, .ref q_mk, .ref q_ma, .ref q_mb, .ref q_mw, .int mo_start, .int mo_many, .int mo_bits, .ref q_mx])), (q_mv, .inl (cI, 96, .inl mv)), (q_me, .inl (cI, 96, .inl me)), (q_mx, .inl (cI, 2000, .inl mx))] := hD
  refine lv_ldc2 (v := 3379) hx hb hown (hts (.constantLong RX6 178 (3379)) (List.mem_of_getElem? (i := 2) rfl)) dX6_digest_5 ?_
  refine lv_aload_n hx hb dX6_digest_8 rfl (lv_at hl 0 rfl) ?_
  refine va_get (D := D) (ci := 6) (v := .int mo_rows) (C := RX6) (T := TX6) (N := 15) hx hb hts hin6 hown hK hP 0 rfl rfl 1 (by decide) (hts (.fieldLink RX6 47 "ColumnChooserModel" "rows" "I") (List.mem_of_getElem? (i := 3) rfl)) (fun _ h9 => h9) rfl dX6_digest_9 ?_
  refine lv_i2l hx hb dX6_digest_12 rfl ?_
  refine lv_ladd hx hb dX6_digest_13 ?_
  refine lv_ldc2 (v := 31) hx hb hown (hts (.constantLong RX6 180 (31)) (List.mem_of_getElem? (i := 4) rfl)) dX6_digest_14 ?_
  refine lv_lmul hx hb dX6_digest_17 ?_
  refine lv_aload_n hx hb dX6_digest_18 rfl (lv_at hl 0 rfl) ?_
  refine va_get (D := D) (ci := 6) (v := .int mo_size) (C := RX6) (T := TX6) (N := 15) hx hb hts hin6 hown hK hP 0 rfl rfl 3 (by decide) (hts (.fieldLink RX6 13 "ColumnChooserModel" "size" "I") (List.mem_of_getElem? (i := 5) rfl)) (fun _ h9 => h9) rfl dX6_digest_19 ?_
  refine lv_i2l hx hb dX6_digest_22 rfl ?_
  refine lv_ladd hx hb dX6_digest_23 ?_
  refine lv_ldc2 (v := 31) hx hb hown (hts (.constantLong RX6 180 (31)) (List.mem_of_getElem? (i := 4) rfl)) dX6_digest_24 ?_
  refine lv_lmul hx hb dX6_digest_27 ?_
  refine lv_aload_n hx hb dX6_digest_28 rfl (lv_at hl 0 rfl) ?_
  refine va_get (D := D) (ci := 6) (v := .int mo_price) (C := RX6) (T := TX6) (N := 15) hx hb hts hin6 hown hK hP 0 rfl rfl 5 (by decide) (hts (.fieldLink RX6 20 "ColumnChooserModel" "price" "I") (List.mem_of_getElem? (i := 6) rfl)) (fun _ h9 => h9) rfl dX6_digest_29 ?_
  refine lv_i2l hx hb dX6_digest_32 rfl ?_
  refine lv_ladd hx hb dX6_digest_33 ?_
  refine lv_ldc2 (v := 31) hx hb hown (hts (.constantLong RX6 180 (31)) (List.mem_of_getElem? (i := 4) rfl)) dX6_digest_34 ?_
  refine lv_lmul hx hb dX6_digest_37 ?_
  refine lv_aload_n hx hb dX6_digest_38 rfl (lv_at hl 0 rfl) ?_
  refine va_get (D := D) (ci := 6) (v := .int mo_queries) (C := RX6) (T := TX6) (N := 15) hx hb hts hin6 hown hK hP 0 rfl rfl 6 (by decide) (hts (.fieldLink RX6 65 "ColumnChooserModel" "queries" "I") (List.mem_of_getElem? (i := 7) rfl)) (fun _ h9 => h9) rfl dX6_digest_39 ?_
  refine lv_i2l hx hb dX6_digest_42 rfl ?_
  refine lv_ladd hx hb dX6_digest_43 ?_
  refine lv_lstore_n (lv' := [(1, .long (((((((3379 + mo_rows.toInt64) * 31) + mo_size.toInt64) * 31) + mo_price.toInt64) * 31) + mo_queries.toInt64)), (0, .ref q_mo)]) hx hb dX6_digest_44 rfl hl (by decide) rfl (fun ls hl => ?_)
  refine lv_iconst (v := 0) hx hb dX6_digest_45 (by decide) ?_
  refine lv_istore_n (lv' := [(3, .int 0), (1, .long (((((((3379 + mo_rows.toInt64) * 31) + mo_size.toInt64) * 31) + mo_price.toInt64) * 31) + mo_queries.toInt64)), (0, .ref q_mo)]) hx hb dX6_digest_46 rfl hl (by decide) rfl (fun ls hl => ?_)
  exact (k_47 n).1 _ _ _ _ _ _ _ _ _ _ ls hf (hP.sub [0, 1, 2, 3] rfl) (hD.sub [0, 1, 2, 3] (by decide) rfl) hS (lv_sub hl [2, 1, 0] rfl)
