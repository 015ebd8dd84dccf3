/-! the walks of these methods, printed by my own program (wip/whole/gen.py) -/
set_option maxHeartbeats 4000000 in
set_option maxRecDepth 100000 in
theorem c_X1_writeValue (l : Launch) (D : va_G) (cI : ClassId) (q_bi q_bi_a q_co q_pr q_cd q_li : Nat) (n : Nat) (x1 : Int32) (bi_place : Int32) (bi_a : (Nat → Int32)) (res : Int32 × (Nat → Int32)) (hf : f_X1_writeValue n x1 bi_place bi_a = some res) : fr_Cv l yX1_writeValue wsX1_writeValue ({ frames := 1, cells := 0, slots := 0, locals := 23 }) D [(cI, .int)] [.ref q_cd, .int x1] [(q_bi, .inr (0, [.ref q_bi_a, .int bi_place])), (q_bi_a, .inl (cI, 3072, .inl bi_a)), (q_cd, .inr (1, [.ref q_co, .ref q_pr, .ref q_bi, .ref q_li]))] [(q_bi, .inr (0, [.ref q_bi_a, .int res.1])), (q_bi_a, .inl (cI, 3072, .inl res.2)), (q_cd, .inr (1, [.ref q_co, .ref q_pr, .ref q_bi, .ref q_li]))] := by
  refine fr_open_v (cc := cX1_writeValue) (maxL := 2) (by decide +kernel) rfl (Nat.le_of_ble_eq_true rfl) ?_
  intro p e s m below meth c A Q ls hx hb hml hown hts hA hK hP hD hS hl hret
  have hown : s.vm.findClass RX1 = some m.cls := hown
  have hl : lv_has ls 2 [(0, .ref q_cd), (1, .int x1)] := hl
  have hin1 : ∀ w ∈ u_ws RX1 TX1 4, w ∈ wsX1_writeValue := fun _ h9 => List.mem_cons_of_mem _ (List.mem_append_left _ (List.mem_append_right _ h9))
  unfold f_X1_writeValue at hf
  refine lv_aload_n hx hb dX1_writeValue_0 rfl (lv_at hl 0 rfl) ?_
  refine va_get (D := D) (ci := 1) (v := .ref q_bi) (C := RX1) (T := TX1) (N := 4) hx hb hts hin1 hown hK hP 2 rfl rfl 2 (by decide) (hts (.fieldLink RX1 19 "ColumnChooser$Coder" "bits" "LColumnChooser$Bits;") (List.mem_of_getElem? (i := 1) rfl)) (fun _ h9 => h9) rfl dX1_writeValue_1 ?_
  refine lv_iload_n hx hb dX1_writeValue_4 rfl (lv_at hl 1 rfl) ?_
  refine lv_ldc (v := 131072) hx hb hown (hts (.constant RX1 86 (131072)) (List.mem_of_getElem? (i := 2) rfl)) dX1_writeValue_5 ?_
  refine lv_iadd hx hb dX1_writeValue_7 ?_
  refine lv_bipush (v := 18) hx hb dX1_writeValue_8 (by decide) ?_
  obtain ⟨u2, hu2, hf⟩ := pr_bd hf
  refine fr_vV (As := [.int (x1 + 131072), .int 18]) ⟨hx, hb, hml, hown, hts⟩ hK hP hD hS hA (c_X0_write l D cI q_bi q_bi_a n (x1 + 131072) 18 bi_place bi_a u2 hu2) (cwV 2 hts gX1_writeValue_X0_write rfl rfl rfl (by decide +kernel) ⟨Nat.le_of_ble_eq_true rfl, Nat.le_of_ble_eq_true rfl⟩) [(q_cd, .inr (1, [.ref q_co, .ref q_pr, .ref q_bi, .ref q_li]))] [0, 1] [2] rfl rfl (by decide) (by decide) (by decide) 0 rfl rfl rfl rfl hl.1 (Nat.le_of_ble_eq_true rfl) dX1_writeValue_10 ⟨Nat.zero_le _, Nat.zero_le _⟩ rfl (fun H locs hP hD hS => ?_)
  have hP : va_P D vwCl [(q_cd, .inr (1, [.ref q_co, .ref q_pr, .ref q_bi, .ref q_li])), (q_bi, .inr (0, [.ref q_bi_a, .int u2.1])), (q_bi_a, .inl (cI, 3072, .inl u2.2))] H := hP
  have hD : va_D A [(q_cd, .inr (1, [.ref q_co, .ref q_pr, .ref q_bi, .ref q_li])), (q_bi, .inr (0, [.ref q_bi_a, .int u2.1])), (q_bi_a, .inl (cI, 3072, .inl u2.2))] := hD
  obtain rfl := Option.some.inj hf
  exact hret _ _ _ _ dX1_writeValue_13 (hP.sub [1, 2, 0] rfl) (hD.sub [1, 2, 0] (by decide) rfl) hS
set_option maxHeartbeats 4000000 in
set_option maxRecDepth 100000 in
theorem c_X1_packDelta (l : Launch) (D : va_G) (cI : ClassId) (q_bi q_bi_a q_co q_co_a q_pr q_ru q_di q_cd q_li : Nat) (n : Nat) (x1 : Int32) (x2 : Int32) (bi_place : Int32) (bi_a : (Nat → Int32)) (co_a : (Nat → Int32)) (pr_firstRow : Int32) (pr_many : Int32) (pr_runCount : Int32) (pr_differentCount : Int32) (pr_least : Int32) (pr_indexWidth : Int32) (pr_frameWidth : Int32) (pr_deltaWidth : Int32) (res : Int32 × (Nat → Int32)) (hf : f_X1_packDelta n x1 x2 bi_place bi_a co_a pr_deltaWidth = some res) : fr_Cv l yX1_packDelta wsX1_packDelta ({ frames := 2, cells := 0, slots := 0, locals := 44 }) D [(cI, .int)] [.ref q_cd, .int x1, .int x2] [(q_bi, .inr (0, [.ref q_bi_a, .int bi_place])), (q_bi_a, .inl (cI, 3072, .inl bi_a)), (q_co, .inr (3, [.ref q_co_a])), (q_co_a, .inl (cI, 96, .inl co_a)), (q_pr, .inr (2, [.ref q_co, .ref q_ru, .ref q_di, .int pr_firstRow, .int pr_many, .int pr_runCount, .int pr_differentCount, .int pr_least, .int pr_indexWidth, .int pr_frameWidth, .int pr_deltaWidth])), (q_cd, .inr (1, [.ref q_co, .ref q_pr, .ref q_bi, .ref q_li]))] [(q_bi, .inr (0, [.ref q_bi_a, .int res.1])), (q_bi_a, .inl (cI, 3072, .inl res.2)), (q_co, .inr (3, [.ref q_co_a])), (q_co_a, .inl (cI, 96, .inl co_a)), (q_pr, .inr (2, [.ref q_co, .ref q_ru, .ref q_di, .int pr_firstRow, .int pr_many, .int pr_runCount, .int pr_differentCount, .int pr_least, .int pr_indexWidth, .int pr_frameWidth, .int pr_deltaWidth])), (q_cd, .inr (1, [.ref q_co, .ref q_pr, .ref q_bi, .ref q_li]))] := by
  refine fr_open_v (cc := cX1_packDelta) (maxL := 7) (by decide +kernel) rfl (Nat.le_of_ble_eq_true rfl) ?_
  intro p e s m below meth c A Q ls hx hb hml hown hts hA hK hP hD hS hl hret
  have hown : s.vm.findClass RX1 = some m.cls := hown
  have hl : lv_has ls 7 [(0, .ref q_cd), (1, .int x1), (2, .int x2)] := hl
  have hin1 : ∀ w ∈ u_ws RX1 TX1 4, w ∈ wsX1_packDelta := fun _ h9 => List.mem_cons_of_mem _ (List.mem_append_left _ (List.mem_append_left _ (List.mem_append_left _ (List.mem_append_right _ h9))))
  have k_36 : ∀ (n : Nat), (∀ (z1 : Int32) (z2 : Int32) (z3 : Int32) (z4 : Int32) (z5 : Int32) (bi_place : Int32) (bi_a : (Nat → Int32)) (H : Heap) (locs : List Loc) (ls : Array Slot), f_X1_packDelta_36 n z1 z2 z3 z4 z5 bi_place bi_a co_a pr_deltaWidth = some res → va_P D vwCl [(q_bi, .inr (0, [.ref q_bi_a, .int bi_place])), (q_bi_a, .inl (cI, 3072, .inl bi_a)), (q_co, .inr (3, [.ref q_co_a])), (q_co_a, .inl (cI, 96, .inl co_a)), (q_pr, .inr (2, [.ref q_co, .ref q_ru, .ref q_di, .int pr_firstRow, .int pr_many, .int pr_runCount, .int pr_differentCount, .int pr_least, .int pr_indexWidth, .int pr_frameWidth, .int pr_deltaWidth])), (q_cd, .inr (1, [.ref q_co, .ref q_pr, .ref q_bi, .ref q_li]))] H → va_D A [(q_bi, .inr (0, [.ref q_bi_a, .int bi_place])), (q_bi_a, .inl (cI, 3072, .inl bi_a)), (q_co, .inr (3, [.ref q_co_a])), (q_co_a, .inl (cI, 96, .inl co_a)), (q_pr, .inr (2, [.ref q_co, .ref q_ru, .ref q_di, .int pr_firstRow, .int pr_many, .int pr_runCount, .int pr_differentCount, .int pr_least, .int pr_indexWidth, .int pr_frameWidth, .int pr_deltaWidth])), (q_cd, .inr (1, [.ref q_co, .ref q_pr, .ref q_bi, .ref q_li]))] → va_S A s.heap H locs → lv_has ls 7 [(0, .ref q_cd), (1, .int z1), (2, .int z2), (3, .int z3), (4, .int z4), (5, .int z5)] → W p l e ({ frames := 2, cells := 0, slots := 0, locals := 44 }) s m ([.ref q_cd, .int x1, .int x2] : List Value).toArray below meth c H locs 0 0 Q (F0 m 36 ls [])) := by
    intro n
    induction n with
    | zero =>
      intro z1 z2 z3 z4 z5 bi_place bi_a H locs ls hf hP hD hS hl
      exact absurd (show (none : Option (Int32 × (Nat → Int32))) = some res from hf) (by simp)
    | succ n ih =>
      intro z1 z2 z3 z4 z5 bi_place bi_a H locs ls hf hP hD hS hl
      have hf : f_X1_packDelta_36_s (f_X1_packDelta_36 n) n z1 z2 z3 z4 z5 bi_place bi_a co_a pr_deltaWidth = some res := hf
      unfold f_X1_packDelta_36_s at hf
      refine lv_iload hx hb dX1_packDelta_36 (lv_at hl 5 rfl) ?_
      refine lv_iload_n hx hb dX1_packDelta_38 rfl (lv_at hl 2 rfl) ?_
      refine lv_icmp_ge (tgt := 80) hx hb dX1_packDelta_39 (by decide) (fun c9 => ?_) (fun c9 => ?_)
      · have hf := pr_pos hf c9
        obtain rfl := Option.some.inj hf
        exact hret _ _ _ _ dX1_packDelta_80 (hP.sub [0, 1, 2, 3, 4, 5] rfl) (hD.sub [0, 1, 2, 3, 4, 5] (by decide) rfl) hS
      · have hf := pr_neg hf c9
        refine lv_aload_n hx hb dX1_packDelta_42 rfl (lv_at hl 0 rfl) ?_
        refine va_get (D := D) (ci := 1) (v := .ref q_co) (C := RX1) (T := TX1) (N := 4) hx hb hts hin1 hown hK hP 5 rfl rfl 0 (by decide) (hts (.fieldLink RX1 9 "ColumnChooser$Coder" "column" "LColumnChooser$Row;") (List.mem_of_getElem? (i := 1) rfl)) (fun _ h9 => h9) rfl dX1_packDelta_43 ?_
        refine lv_iload_n hx hb dX1_packDelta_46 rfl (lv_at hl 1 rfl) ?_
        refine lv_iload hx hb dX1_packDelta_47 (lv_at hl 5 rfl) ?_
        refine lv_iadd hx hb dX1_packDelta_49 ?_
        obtain ⟨u10, hu10, hf⟩ := pr_bd hf
        refine fr_iV (As := [.int (z1 + z5)]) ⟨hx, hb, hml, hown, hts⟩ hK hP hD hS hA (c_X3_get l D cI q_co q_co_a 96 n (z1 + z5) co_a u10 hu10) (cwV 1 hts gX1_packDelta_X3_get rfl rfl rfl (by decide +kernel) ⟨Nat.le_of_ble_eq_true rfl, Nat.le_of_ble_eq_true rfl⟩) [(q_bi, .inr (0, [.ref q_bi_a, .int bi_place])), (q_bi_a, .inl (cI, 3072, .inl bi_a)), (q_pr, .inr (2, [.ref q_co, .ref q_ru, .ref q_di, .int pr_firstRow, .int pr_many, .int pr_runCount, .int pr_differentCount, .int pr_least, .int pr_indexWidth, .int pr_frameWidth, .int pr_deltaWidth])), (q_cd, .inr (1, [.ref q_co, .ref q_pr, .ref q_bi, .ref q_li]))] [2, 3] [0, 1, 4, 5] rfl rfl (by decide) (by decide) (by decide) 0 rfl rfl rfl rfl hl.1 (Nat.le_of_ble_eq_true rfl) dX1_packDelta_50 ⟨Nat.zero_le _, Nat.zero_le _⟩ rfl (fun H locs hP hD hS => ?_)
        have hP : va_P D vwCl [(q_bi, .inr (0, [.ref q_bi_a, .int bi_place])), (q_bi_a, .inl (cI, 3072, .inl bi_a)), (q_pr, .inr (2, [.ref q_co, .ref q_ru, .ref q_di, .int pr_firstRow, .int pr_many, .int pr_runCount, .int pr_differentCount, .int pr_least, .int pr_indexWidth, .int pr_frameWidth, .int pr_deltaWidth])), (q_cd, .inr (1, [.ref q_co, .ref q_pr, .ref q_bi, .ref q_li])), (q_co, .inr (3, [.ref q_co_a])), (q_co_a, .inl (cI, 96, .inl co_a))] H := hP
        have hD : va_D A [(q_bi, .inr (0, [.ref q_bi_a, .int bi_place])), (q_bi_a, .inl (cI, 3072, .inl bi_a)), (q_pr, .inr (2, [.ref q_co, .ref q_ru, .ref q_di, .int pr_firstRow, .int pr_many, .int pr_runCount, .int pr_differentCount, .int pr_least, .int pr_indexWidth, .int pr_frameWidth, .int pr_deltaWidth])), (q_cd, .inr (1, [.ref q_co, .ref q_pr, .ref q_bi, .ref q_li])), (q_co, .inr (3, [.ref q_co_a])), (q_co_a, .inl (cI, 96, .inl co_a))] := hD
        refine lv_istore (lv' := [(6, .int u10), (0, .ref q_cd), (1, .int z1), (2, .int z2), (3, .int z3), (4, .int z4), (5, .int z5)]) hx hb dX1_packDelta_53 hl (by decide) rfl (fun ls hl => ?_)
        refine lv_aload_n hx hb dX1_packDelta_55 rfl (lv_at hl 1 rfl) ?_
        refine va_get (D := D) (ci := 1) (v := .ref q_bi) (C := RX1) (T := TX1) (N := 4) hx hb hts hin1 hown hK hP 3 rfl rfl 2 (by decide) (hts (.fieldLink RX1 19 "ColumnChooser$Coder" "bits" "LColumnChooser$Bits;") (List.mem_of_getElem? (i := 3) rfl)) (fun _ h9 => h9) rfl dX1_packDelta_56 ?_
        refine lv_iload hx hb dX1_packDelta_59 (lv_at hl 0 rfl) ?_
        refine lv_iload_n hx hb dX1_packDelta_61 rfl (lv_at hl 4 rfl) ?_
        refine lv_isub hx hb dX1_packDelta_62 ?_
        obtain ⟨u11, hu11, hf⟩ := pr_bd hf
        refine fr_iS (As := [.int (u10 - z3)]) ⟨hx, hb, hml, hown, hts⟩ hK hP hD hS hA (c_X2_fold l D cI n (u10 - z3) u11 hu11) (va_cwS 1 hts gX1_packDelta_X2_fold rfl rfl rfl (by decide +kernel) ⟨Nat.le_of_ble_eq_true rfl, Nat.le_of_ble_eq_true rfl⟩) [(q_bi, .inr (0, [.ref q_bi_a, .int bi_place])), (q_bi_a, .inl (cI, 3072, .inl bi_a)), (q_pr, .inr (2, [.ref q_co, .ref q_ru, .ref q_di, .int pr_firstRow, .int pr_many, .int pr_runCount, .int pr_differentCount, .int pr_least, .int pr_indexWidth, .int pr_frameWidth, .int pr_deltaWidth])), (q_cd, .inr (1, [.ref q_co, .ref q_pr, .ref q_bi, .ref q_li])), (q_co, .inr (3, [.ref q_co_a])), (q_co_a, .inl (cI, 96, .inl co_a))] [] [0, 1, 2, 3, 4, 5] rfl rfl (by decide) (by decide) (by decide) rfl hl.1 (Nat.le_of_ble_eq_true rfl) dX1_packDelta_63 ⟨Nat.zero_le _, Nat.zero_le _⟩ rfl (fun H locs hP hD hS => ?_)
        have hP : va_P D vwCl [(q_bi, .inr (0, [.ref q_bi_a, .int bi_place])), (q_bi_a, .inl (cI, 3072, .inl bi_a)), (q_pr, .inr (2, [.ref q_co, .ref q_ru, .ref q_di, .int pr_firstRow, .int pr_many, .int pr_runCount, .int pr_differentCount, .int pr_least, .int pr_indexWidth, .int pr_frameWidth, .int pr_deltaWidth])), (q_cd, .inr (1, [.ref q_co, .ref q_pr, .ref q_bi, .ref q_li])), (q_co, .inr (3, [.ref q_co_a])), (q_co_a, .inl (cI, 96, .inl co_a))] H := hP
        have hD : va_D A [(q_bi, .inr (0, [.ref q_bi_a, .int bi_place])), (q_bi_a, .inl (cI, 3072, .inl bi_a)), (q_pr, .inr (2, [.ref q_co, .ref q_ru, .ref q_di, .int pr_firstRow, .int pr_many, .int pr_runCount, .int pr_differentCount, .int pr_least, .int pr_indexWidth, .int pr_frameWidth, .int pr_deltaWidth])), (q_cd, .inr (1, [.ref q_co, .ref q_pr, .ref q_bi, .ref q_li])), (q_co, .inr (3, [.ref q_co_a])), (q_co_a, .inl (cI, 96, .inl co_a))] := hD
        refine lv_iload hx hb dX1_packDelta_66 (lv_at hl 5 rfl) ?_
        obtain ⟨u12, hu12, hf⟩ := pr_bd hf
        refine fr_vV (As := [.int u11, .int z4]) ⟨hx, hb, hml, hown, hts⟩ hK hP hD hS hA (c_X0_write l D cI q_bi q_bi_a n u11 z4 bi_place bi_a u12 hu12) (cwV 2 hts gX1_packDelta_X0_write rfl rfl rfl (by decide +kernel) ⟨Nat.le_of_ble_eq_true rfl, Nat.le_of_ble_eq_true rfl⟩) [(q_pr, .inr (2, [.ref q_co, .ref q_ru, .ref q_di, .int pr_firstRow, .int pr_many, .int pr_runCount, .int pr_differentCount, .int pr_least, .int pr_indexWidth, .int pr_frameWidth, .int pr_deltaWidth])), (q_cd, .inr (1, [.ref q_co, .ref q_pr, .ref q_bi, .ref q_li])), (q_co, .inr (3, [.ref q_co_a])), (q_co_a, .inl (cI, 96, .inl co_a))] [0, 1] [2, 3, 4, 5] rfl rfl (by decide) (by decide) (by decide) 0 rfl rfl rfl rfl hl.1 (Nat.le_of_ble_eq_true rfl) dX1_packDelta_68 ⟨Nat.zero_le _, Nat.zero_le _⟩ rfl (fun H locs hP hD hS => ?_)
        have hP : va_P D vwCl [(q_pr, .inr (2, [.ref q_co, .ref q_ru, .ref q_di, .int pr_firstRow, .int pr_many, .int pr_runCount, .int pr_differentCount, .int pr_least, .int pr_indexWidth, .int pr_frameWidth, .int pr_deltaWidth])), (q_cd, .inr (1, [.ref q_co, .ref q_pr, .ref q_bi, .ref q_li])), (q_co, .inr (3, [.ref q_co_a])), (q_co_a, .inl (cI, 96, .inl co_a)), (q_bi, .inr (0, [.ref q_bi_a, .int u12.1])), (q_bi_a, .inl (cI, 3072, .inl u12.2))] H := hP
        have hD : va_D A [(q_pr, .inr (2, [.ref q_co, .ref q_ru, .ref q_di, .int pr_firstRow, .int pr_many, .int pr_runCount, .int pr_differentCount, .int pr_least, .int pr_indexWidth, .int pr_frameWidth, .int pr_deltaWidth])), (q_cd, .inr (1, [.ref q_co, .ref q_pr, .ref q_bi, .ref q_li])), (q_co, .inr (3, [.ref q_co_a])), (q_co_a, .inl (cI, 96, .inl co_a)), (q_bi, .inr (0, [.ref q_bi_a, .int u12.1])), (q_bi_a, .inl (cI, 3072, .inl u12.2))] := hD
        refine lv_iload hx hb dX1_packDelta_71 (lv_at hl 0 rfl) ?_
        refine lv_istore_n (lv' := [(3, .int u10), (6, .int u10), (0, .ref q_cd), (1, .int z1), (2, .int z2), (4, .int z4), (5, .int z5)]) hx hb dX1_packDelta_73 rfl hl (by decide) rfl (fun ls hl => ?_)
        refine lv_iinc (v := (z5 + 1)) (lv' := [(5, .int (z5 + 1)), (3, .int u10), (6, .int u10), (0, .ref q_cd), (1, .int z1), (2, .int z2), (4, .int z4)]) hx hb dX1_packDelta_74 hl (k := 6) rfl rfl (by decide) rfl (fun ls hl => ?_)
        refine lv_goto (tgt := 36) hx hb dX1_packDelta_77 (by decide) ?_
        exact ih _ _ _ _ _ _ _ _ _ ls hf (hP.sub [4, 5, 2, 3, 0, 1] rfl) (hD.sub [4, 5, 2, 3, 0, 1] (by decide) rfl) hS (lv_sub hl [3, 4, 5, 1, 6, 0] rfl)
  unfold f_X1_packDelta at hf
  refine lv_aload_n hx hb dX1_packDelta_0 rfl (lv_at hl 0 rfl) ?_
  refine va_get (D := D) (ci := 1) (v := .ref q_co) (C := RX1) (T := TX1) (N := 4) hx hb hts hin1 hown hK hP 5 rfl rfl 0 (by decide) (hts (.fieldLink RX1 9 "ColumnChooser$Coder" "column" "LColumnChooser$Row;") (List.mem_of_getElem? (i := 1) rfl)) (fun _ h9 => h9) rfl dX1_packDelta_1 ?_
  refine lv_iload_n hx hb dX1_packDelta_4 rfl (lv_at hl 1 rfl) ?_
  obtain ⟨u13, hu13, hf⟩ := pr_bd hf
  refine fr_iV (As := [.int x1]) ⟨hx, hb, hml, hown, hts⟩ hK hP hD hS hA (c_X3_get l D cI q_co q_co_a 96 n x1 co_a u13 hu13) (cwV 1 hts gX1_packDelta_X3_get rfl rfl rfl (by decide +kernel) ⟨Nat.le_of_ble_eq_true rfl, Nat.le_of_ble_eq_true rfl⟩) [(q_bi, .inr (0, [.ref q_bi_a, .int bi_place])), (q_bi_a, .inl (cI, 3072, .inl bi_a)), (q_pr, .inr (2, [.ref q_co, .ref q_ru, .ref q_di, .int pr_firstRow, .int pr_many, .int pr_runCount, .int pr_differentCount, .int pr_least, .int pr_indexWidth, .int pr_frameWidth, .int pr_deltaWidth])), (q_cd, .inr (1, [.ref q_co, .ref q_pr, .ref q_bi, .ref q_li]))] [2, 3] [0, 1, 4, 5] rfl rfl (by decide) (by decide) (by decide) 0 rfl rfl rfl rfl hl.1 (Nat.le_of_ble_eq_true rfl) dX1_packDelta_5 ⟨Nat.zero_le _, Nat.zero_le _⟩ rfl (fun H locs hP hD hS => ?_)
  have hP : va_P D vwCl [(q_bi, .inr (0, [.ref q_bi_a, .int bi_place])), (q_bi_a, .inl (cI, 3072, .inl bi_a)), (q_pr, .inr (2, [.ref q_co, .ref q_ru, .ref q_di, .int pr_firstRow, .int pr_many, .int pr_runCount, .int pr_differentCount, .int pr_least, .int pr_indexWidth, .int pr_frameWidth, .int pr_deltaWidth])), (q_cd, .inr (1, [.ref q_co, .ref q_pr, .ref q_bi, .ref q_li])), (q_co, .inr (3, [.ref q_co_a])), (q_co_a, .inl (cI, 96, .inl co_a))] H := hP
  have hD : va_D A [(q_bi, .inr (0, [.ref q_bi_a, .int bi_place])), (q_bi_a, .inl (cI, 3072, .inl bi_a)), (q_pr, .inr (2, [.ref q_co, .ref q_ru, .ref q_di, .int pr_firstRow, .int pr_many, .int pr_runCount, .int pr_differentCount, .int pr_least, .int pr_indexWidth, .int pr_frameWidth, .int pr_deltaWidth])), (q_cd, .inr (1, [.ref q_co, .ref q_pr, .ref q_bi, .ref q_li])), (q_co, .inr (3, [.ref q_co_a])), (q_co_a, .inl (cI, 96, .inl co_a))] := hD
  refine lv_istore_n (lv' := [(3, .int u13), (0, .ref q_cd), (1, .int x1), (2, .int x2)]) hx hb dX1_packDelta_8 rfl hl (by decide) rfl (fun ls hl => ?_)
  refine lv_aload_n hx hb dX1_packDelta_9 rfl (lv_at hl 1 rfl) ?_
  refine va_get (D := D) (ci := 1) (v := .ref q_pr) (C := RX1) (T := TX1) (N := 4) hx hb hts hin1 hown hK hP 3 rfl rfl 1 (by decide) (hts (.fieldLink RX1 15 "ColumnChooser$Coder" "profile" "LColumnChooser$Profile;") (List.mem_of_getElem? (i := 2) rfl)) (fun _ h9 => h9) rfl dX1_packDelta_10 ?_
  obtain ⟨u14, hu14, hf⟩ := pr_bd hf
  refine fr_iV (As := []) ⟨hx, hb, hml, hown, hts⟩ hK hP hD hS hA (c_X2_deltaWidth l D cI q_co q_pr q_ru q_di n pr_firstRow pr_many pr_runCount pr_differentCount pr_least pr_indexWidth pr_frameWidth pr_deltaWidth u14 hu14) (cwV 0 hts gX1_packDelta_X2_deltaWidth rfl rfl rfl (by decide +kernel) ⟨Nat.le_of_ble_eq_true rfl, Nat.le_of_ble_eq_true rfl⟩) [(q_bi, .inr (0, [.ref q_bi_a, .int bi_place])), (q_bi_a, .inl (cI, 3072, .inl bi_a)), (q_cd, .inr (1, [.ref q_co, .ref q_pr, .ref q_bi, .ref q_li])), (q_co, .inr (3, [.ref q_co_a])), (q_co_a, .inl (cI, 96, .inl co_a))] [2] [0, 1, 3, 4, 5] rfl rfl (by decide) (by decide) (by decide) 0 rfl rfl rfl rfl hl.1 (Nat.le_of_ble_eq_true rfl) dX1_packDelta_13 ⟨Nat.zero_le _, Nat.zero_le _⟩ rfl (fun H locs hP hD hS => ?_)
  have hP : va_P D vwCl [(q_bi, .inr (0, [.ref q_bi_a, .int bi_place])), (q_bi_a, .inl (cI, 3072, .inl bi_a)), (q_cd, .inr (1, [.ref q_co, .ref q_pr, .ref q_bi, .ref q_li])), (q_co, .inr (3, [.ref q_co_a])), (q_co_a, .inl (cI, 96, .inl co_a)), (q_pr, .inr (2, [.ref q_co, .ref q_ru, .ref q_di, .int pr_firstRow, .int pr_many, .int pr_runCount, .int pr_differentCount, .int pr_least, .int pr_indexWidth, .int pr_frameWidth, .int pr_deltaWidth]))] H := hP
  have hD : va_D A [(q_bi, .inr (0, [.ref q_bi_a, .int bi_place])), (q_bi_a, .inl (cI, 3072, .inl bi_a)), (q_cd, .inr (1, [.ref q_co, .ref q_pr, .ref q_bi, .ref q_li])), (q_co, .inr (3, [.ref q_co_a])), (q_co_a, .inl (cI, 96, .inl co_a)), (q_pr, .inr (2, [.ref q_co, .ref q_ru, .ref q_di, .int pr_firstRow, .int pr_many, .int pr_runCount, .int pr_differentCount, .int pr_least, .int pr_indexWidth, .int pr_frameWidth, .int pr_deltaWidth]))] := hD
  refine lv_istore (lv' := [(4, .int u14), (3, .int u13), (0, .ref q_cd), (1, .int x1), (2, .int x2)]) hx hb dX1_packDelta_16 hl (by decide) rfl (fun ls hl => ?_)
  refine lv_aload_n hx hb dX1_packDelta_18 rfl (lv_at hl 2 rfl) ?_
  refine lv_iload_n hx hb dX1_packDelta_19 rfl (lv_at hl 1 rfl) ?_
  obtain ⟨u15, hu15, hf⟩ := pr_bd hf
  refine fr_vV (As := [.int u13]) ⟨hx, hb, hml, hown, hts⟩ hK hP hD hS hA (c_X1_writeValue l D cI q_bi q_bi_a q_co q_pr q_cd q_li n u13 bi_place bi_a u15 hu15) (cwV 1 hts gX1_packDelta_X1_writeValue rfl rfl rfl (by decide +kernel) ⟨Nat.le_of_ble_eq_true rfl, Nat.le_of_ble_eq_true rfl⟩) [(q_co, .inr (3, [.ref q_co_a])), (q_co_a, .inl (cI, 96, .inl co_a)), (q_pr, .inr (2, [.ref q_co, .ref q_ru, .ref q_di, .int pr_firstRow, .int pr_many, .int pr_runCount, .int pr_differentCount, .int pr_least, .int pr_indexWidth, .int pr_frameWidth, .int pr_deltaWidth]))] [0, 1, 2] [3, 4, 5] rfl rfl (by decide) (by decide) (by decide) 2 rfl rfl rfl rfl hl.1 (Nat.le_of_ble_eq_true rfl) dX1_packDelta_20 ⟨Nat.zero_le _, Nat.zero_le _⟩ rfl (fun H locs hP hD hS => ?_)
  have hP : va_P D vwCl [(q_co, .inr (3, [.ref q_co_a])), (q_co_a, .inl (cI, 96, .inl co_a)), (q_pr, .inr (2, [.ref q_co, .ref q_ru, .ref q_di, .int pr_firstRow, .int pr_many, .int pr_runCount, .int pr_differentCount, .int pr_least, .int pr_indexWidth, .int pr_frameWidth, .int pr_deltaWidth])), (q_bi, .inr (0, [.ref q_bi_a, .int u15.1])), (q_bi_a, .inl (cI, 3072, .inl u15.2)), (q_cd, .inr (1, [.ref q_co, .ref q_pr, .ref q_bi, .ref q_li]))] H := hP
  have hD : va_D A [(q_co, .inr (3, [.ref q_co_a])), (q_co_a, .inl (cI, 96, .inl co_a)), (q_pr, .inr (2, [.ref q_co, .ref q_ru, .ref q_di, .int pr_firstRow, .int pr_many, .int pr_runCount, .int pr_differentCount, .int pr_least, .int pr_indexWidth, .int pr_frameWidth, .int pr_deltaWidth])), (q_bi, .inr (0, [.ref q_bi_a, .int u15.1])), (q_bi_a, .inl (cI, 3072, .inl u15.2)), (q_cd, .inr (1, [.ref q_co, .ref q_pr, .ref q_bi, .ref q_li]))] := hD
  refine lv_aload_n hx hb dX1_packDelta_23 rfl (lv_at hl 2 rfl) ?_
  refine va_get (D := D) (ci := 1) (v := .ref q_bi) (C := RX1) (T := TX1) (N := 4) hx hb hts hin1 hown hK hP 5 rfl rfl 2 (by decide) (hts (.fieldLink RX1 19 "ColumnChooser$Coder" "bits" "LColumnChooser$Bits;") (List.mem_of_getElem? (i := 3) rfl)) (fun _ h9 => h9) rfl dX1_packDelta_24 ?_
  refine lv_iload hx hb dX1_packDelta_27 (lv_at hl 0 rfl) ?_
  refine lv_iconst (v := 5) hx hb dX1_packDelta_29 (by decide) ?_
  obtain ⟨u16, hu16, hf⟩ := pr_bd hf
  refine fr_vV (As := [.int u14, .int 5]) ⟨hx, hb, hml, hown, hts⟩ hK hP hD hS hA (c_X0_write l D cI q_bi q_bi_a n u14 5 u15.1 u15.2 u16 hu16) (cwV 2 hts gX1_packDelta_X0_write rfl rfl rfl (by decide +kernel) ⟨Nat.le_of_ble_eq_true rfl, Nat.le_of_ble_eq_true rfl⟩) [(q_co, .inr (3, [.ref q_co_a])), (q_co_a, .inl (cI, 96, .inl co_a)), (q_pr, .inr (2, [.ref q_co, .ref q_ru, .ref q_di, .int pr_firstRow, .int pr_many, .int pr_runCount, .int pr_differentCount, .int pr_least, .int pr_indexWidth, .int pr_frameWidth, .int pr_deltaWidth])), (q_cd, .inr (1, [.ref q_co, .ref q_pr, .ref q_bi, .ref q_li]))] [3, 4] [0, 1, 2, 5] rfl rfl (by decide) (by decide) (by decide) 0 rfl rfl rfl rfl hl.1 (Nat.le_of_ble_eq_true rfl) dX1_packDelta_30 ⟨Nat.zero_le _, Nat.zero_le _⟩ rfl (fun H locs hP hD hS => ?_)
  have hP : va_P D vwCl [(q_co, .inr (3, [.ref q_co_a])), (q_co_a, .inl (cI, 96, .inl co_a)), (q_pr, .inr (2, [.ref q_co, .ref q_ru, .ref q_di, .int pr_firstRow, .int pr_many, .int pr_runCount, .int pr_differentCount, .int pr_least, .int pr_indexWidth, .int pr_frameWidth, .int pr_deltaWidth])), (q_cd, .inr (1, [.ref q_co, .ref q_pr, .ref q_bi, .ref q_li])), (q_bi, .inr (0, [.ref q_bi_a, .int u16.1])), (q_bi_a, .inl (cI, 3072, .inl u16.2))] H := hP
  have hD : va_D A [(q_co, .inr (3, [.ref q_co_a])), (q_co_a, .inl (cI, 96, .inl co_a)), (q_pr, .inr (2, [.ref q_co, .ref q_ru, .ref q_di, .int pr_firstRow, .int pr_many, .int pr_runCount, .int pr_differentCount, .int pr_least, .int pr_indexWidth, .int pr_frameWidth, .int pr_deltaWidth])), (q_cd, .inr (1, [.ref q_co, .ref q_pr, .ref q_bi, .ref q_li])), (q_bi, .inr (0, [.ref q_bi_a, .int u16.1])), (q_bi_a, .inl (cI, 3072, .inl u16.2))] := hD
  refine lv_iconst (v := 1) hx hb dX1_packDelta_33 (by decide) ?_
  refine lv_istore (lv' := [(5, .int 1), (4, .int u14), (3, .int u13), (0, .ref q_cd), (1, .int x1), (2, .int x2)]) hx hb dX1_packDelta_34 hl (by decide) rfl (fun ls hl => ?_)
  exact k_36 n _ _ _ _ _ _ _ _ _ ls hf (hP.sub [4, 5, 0, 1, 2, 3] rfl) (hD.sub [4, 5, 0, 1, 2, 3] (by decide) rfl) hS (lv_sub hl [3, 4, 5, 2, 1, 0] rfl)
set_option maxHeartbeats 4000000 in
set_option maxRecDepth 100000 in
theorem c_X1_packFrame (l : Launch) (D : va_G) (cI : ClassId) (q_bi q_bi_a q_co q_co_a q_pr q_ru q_di q_cd q_li : Nat) (n : Nat) (x1 : Int32) (x2 : Int32) (bi_place : Int32) (bi_a : (Nat → Int32)) (co_a : (Nat → Int32)) (pr_firstRow : Int32) (pr_many : Int32) (pr_runCount : Int32) (pr_differentCount : Int32) (pr_least : Int32) (pr_indexWidth : Int32) (pr_frameWidth : Int32) (pr_deltaWidth : Int32) (res : Int32 × (Nat → Int32)) (hf : f_X1_packFrame n x1 x2 bi_place bi_a co_a pr_least pr_frameWidth = some res) : fr_Cv l yX1_packFrame wsX1_packFrame ({ frames := 2, cells := 0, slots := 0, locals := 44 }) D [(cI, .int)] [.ref q_cd, .int x1, .int x2] [(q_bi, .inr (0, [.ref q_bi_a, .int bi_place])), (q_bi_a, .inl (cI, 3072, .inl bi_a)), (q_co, .inr (3, [.ref q_co_a])), (q_co_a, .inl (cI, 96, .inl co_a)), (q_pr, .inr (2, [.ref q_co, .ref q_ru, .ref q_di, .int pr_firstRow, .int pr_many, .int pr_runCount, .int pr_differentCount, .int pr_least, .int pr_indexWidth, .int pr_frameWidth, .int pr_deltaWidth])), (q_cd, .inr (1, [.ref q_co, .ref q_pr, .ref q_bi, .ref q_li]))] [(q_bi, .inr (0, [.ref q_bi_a, .int res.1])), (q_bi_a, .inl (cI, 3072, .inl res.2)), (q_co, .inr (3, [.ref q_co_a])), (q_co_a, .inl (cI, 96, .inl co_a)), (q_pr, .inr (2, [.ref q_co, .ref q_ru, .ref q_di, .int pr_firstRow, .int pr_many, .int pr_runCount, .int pr_differentCount, .int pr_least, .int pr_indexWidth, .int pr_frameWidth, .int pr_deltaWidth])), (q_cd, .inr (1, [.ref q_co, .ref q_pr, .ref q_bi, .ref q_li]))] := by
  refine fr_open_v (cc := cX1_packFrame) (maxL := 6) (by decide +kernel) rfl (Nat.le_of_ble_eq_true rfl) ?_
  intro p e s m below meth c A Q ls hx hb hml hown hts hA hK hP hD hS hl hret
  have hown : s.vm.findClass RX1 = some m.cls := hown
  have hl : lv_has ls 6 [(0, .ref q_cd), (1, .int x1), (2, .int x2)] := hl
  have hin1 : ∀ w ∈ u_ws RX1 TX1 4, w ∈ wsX1_packFrame := fun _ h9 => List.mem_cons_of_mem _ (List.mem_append_left _ (List.mem_append_left _ (List.mem_append_left _ (List.mem_append_right _ h9))))
  have k_35 : ∀ (n : Nat), (∀ (z1 : Int32) (z2 : Int32) (z3 : Int32) (z4 : Int32) (z5 : Int32) (bi_place : Int32) (bi_a : (Nat → Int32)) (H : Heap) (locs : List Loc) (ls : Array Slot), f_X1_packFrame_35 n z1 z2 z3 z4 z5 bi_place bi_a co_a pr_least pr_frameWidth = some res → va_P D vwCl [(q_bi, .inr (0, [.ref q_bi_a, .int bi_place])), (q_bi_a, .inl (cI, 3072, .inl bi_a)), (q_co, .inr (3, [.ref q_co_a])), (q_co_a, .inl (cI, 96, .inl co_a)), (q_pr, .inr (2, [.ref q_co, .ref q_ru, .ref q_di, .int pr_firstRow, .int pr_many, .int pr_runCount, .int pr_differentCount, .int pr_least, .int pr_indexWidth, .int pr_frameWidth, .int pr_deltaWidth])), (q_cd, .inr (1, [.ref q_co, .ref q_pr, .ref q_bi, .ref q_li]))] H → va_D A [(q_bi, .inr (0, [.ref q_bi_a, .int bi_place])), (q_bi_a, .inl (cI, 3072, .inl bi_a)), (q_co, .inr (3, [.ref q_co_a])), (q_co_a, .inl (cI, 96, .inl co_a)), (q_pr, .inr (2, [.ref q_co, .ref q_ru, .ref q_di, .int pr_firstRow, .int pr_many, .int pr_runCount, .int pr_differentCount, .int pr_least, .int pr_indexWidth, .int pr_frameWidth, .int pr_deltaWidth])), (q_cd, .inr (1, [.ref q_co, .ref q_pr, .ref q_bi, .ref q_li]))] → va_S A s.heap H locs → lv_has ls 6 [(0, .ref q_cd), (1, .int z1), (2, .int z2), (3, .int z3), (4, .int z4), (5, .int z5)] → W p l e ({ frames := 2, cells := 0, slots := 0, locals := 44 }) s m ([.ref q_cd, .int x1, .int x2] : List Value).toArray below meth c H locs 0 0 Q (F0 m 35 ls [])) := by
    intro n
    induction n with
    | zero =>
      intro z1 z2 z3 z4 z5 bi_place bi_a H locs ls hf hP hD hS hl
      exact absurd (show (none : Option (Int32 × (Nat → Int32))) = some res from hf) (by simp)
    | succ n ih =>
      intro z1 z2 z3 z4 z5 bi_place bi_a H locs ls hf hP hD hS hl
      have hf : f_X1_packFrame_35_s (f_X1_packFrame_35 n) n z1 z2 z3 z4 z5 bi_place bi_a co_a pr_least pr_frameWidth = some res := hf
      unfold f_X1_packFrame_35_s at hf
      refine lv_iload hx hb dX1_packFrame_35 (lv_at hl 5 rfl) ?_
      refine lv_iload_n hx hb dX1_packFrame_37 rfl (lv_at hl 2 rfl) ?_
      refine lv_icmp_ge (tgt := 69) hx hb dX1_packFrame_38 (by decide) (fun c8 => ?_) (fun c8 => ?_)
      · have hf := pr_pos hf c8
        obtain rfl := Option.some.inj hf
        exact hret _ _ _ _ dX1_packFrame_69 (hP.sub [0, 1, 2, 3, 4, 5] rfl) (hD.sub [0, 1, 2, 3, 4, 5] (by decide) rfl) hS
      · have hf := pr_neg hf c8
        refine lv_aload_n hx hb dX1_packFrame_41 rfl (lv_at hl 0 rfl) ?_
        refine va_get (D := D) (ci := 1) (v := .ref q_bi) (C := RX1) (T := TX1) (N := 4) hx hb hts hin1 hown hK hP 5 rfl rfl 2 (by decide) (hts (.fieldLink RX1 19 "ColumnChooser$Coder" "bits" "LColumnChooser$Bits;") (List.mem_of_getElem? (i := 2) rfl)) (fun _ h9 => h9) rfl dX1_packFrame_42 ?_
        refine lv_aload_n hx hb dX1_packFrame_45 rfl (lv_at hl 0 rfl) ?_
        refine va_get (D := D) (ci := 1) (v := .ref q_co) (C := RX1) (T := TX1) (N := 4) hx hb hts hin1 hown hK hP 5 rfl rfl 0 (by decide) (hts (.fieldLink RX1 9 "ColumnChooser$Coder" "column" "LColumnChooser$Row;") (List.mem_of_getElem? (i := 3) rfl)) (fun _ h9 => h9) rfl dX1_packFrame_46 ?_
        refine lv_iload_n hx hb dX1_packFrame_49 rfl (lv_at hl 1 rfl) ?_
        refine lv_iload hx hb dX1_packFrame_50 (lv_at hl 5 rfl) ?_
        refine lv_iadd hx hb dX1_packFrame_52 ?_
        obtain ⟨u9, hu9, hf⟩ := pr_bd hf
        refine fr_iV (As := [.int (z1 + z5)]) ⟨hx, hb, hml, hown, hts⟩ hK hP hD hS hA (c_X3_get l D cI q_co q_co_a 96 n (z1 + z5) co_a u9 hu9) (cwV 1 hts gX1_packFrame_X3_get rfl rfl rfl (by decide +kernel) ⟨Nat.le_of_ble_eq_true rfl, Nat.le_of_ble_eq_true rfl⟩) [(q_bi, .inr (0, [.ref q_bi_a, .int bi_place])), (q_bi_a, .inl (cI, 3072, .inl bi_a)), (q_pr, .inr (2, [.ref q_co, .ref q_ru, .ref q_di, .int pr_firstRow, .int pr_many, .int pr_runCount, .int pr_differentCount, .int pr_least, .int pr_indexWidth, .int pr_frameWidth, .int pr_deltaWidth])), (q_cd, .inr (1, [.ref q_co, .ref q_pr, .ref q_bi, .ref q_li]))] [2, 3] [0, 1, 4, 5] rfl rfl (by decide) (by decide) (by decide) 0 rfl rfl rfl rfl hl.1 (Nat.le_of_ble_eq_true rfl) dX1_packFrame_53 ⟨Nat.zero_le _, Nat.zero_le _⟩ rfl (fun H locs hP hD hS => ?_)
        have hP : va_P D vwCl [(q_bi, .inr (0, [.ref q_bi_a, .int bi_place])), (q_bi_a, .inl (cI, 3072, .inl bi_a)), (q_pr, .inr (2, [.ref q_co, .ref q_ru, .ref q_di, .int pr_firstRow, .int pr_many, .int pr_runCount, .int pr_differentCount, .int pr_least, .int pr_indexWidth, .int pr_frameWidth, .int pr_deltaWidth])), (q_cd, .inr (1, [.ref q_co, .ref q_pr, .ref q_bi, .ref q_li])), (q_co, .inr (3, [.ref q_co_a])), (q_co_a, .inl (cI, 96, .inl co_a))] H := hP
        have hD : va_D A [(q_bi, .inr (0, [.ref q_bi_a, .int bi_place])), (q_bi_a, .inl (cI, 3072, .inl bi_a)), (q_pr, .inr (2, [.ref q_co, .ref q_ru, .ref q_di, .int pr_firstRow, .int pr_many, .int pr_runCount, .int pr_differentCount, .int pr_least, .int pr_indexWidth, .int pr_frameWidth, .int pr_deltaWidth])), (q_cd, .inr (1, [.ref q_co, .ref q_pr, .ref q_bi, .ref q_li])), (q_co, .inr (3, [.ref q_co_a])), (q_co_a, .inl (cI, 96, .inl co_a))] := hD
        refine lv_iload_n hx hb dX1_packFrame_56 rfl (lv_at hl 3 rfl) ?_
        refine lv_isub hx hb dX1_packFrame_57 ?_
        refine lv_iload hx hb dX1_packFrame_58 (lv_at hl 4 rfl) ?_
        obtain ⟨u10, hu10, hf⟩ := pr_bd hf
        refine fr_vV (As := [.int (u9 - z3), .int z4]) ⟨hx, hb, hml, hown, hts⟩ hK hP hD hS hA (c_X0_write l D cI q_bi q_bi_a n (u9 - z3) z4 bi_place bi_a u10 hu10) (cwV 2 hts gX1_packFrame_X0_write rfl rfl rfl (by decide +kernel) ⟨Nat.le_of_ble_eq_true rfl, Nat.le_of_ble_eq_true rfl⟩) [(q_pr, .inr (2, [.ref q_co, .ref q_ru, .ref q_di, .int pr_firstRow, .int pr_many, .int pr_runCount, .int pr_differentCount, .int pr_least, .int pr_indexWidth, .int pr_frameWidth, .int pr_deltaWidth])), (q_cd, .inr (1, [.ref q_co, .ref q_pr, .ref q_bi, .ref q_li])), (q_co, .inr (3, [.ref q_co_a])), (q_co_a, .inl (cI, 96, .inl co_a))] [0, 1] [2, 3, 4, 5] rfl rfl (by decide) (by decide) (by decide) 0 rfl rfl rfl rfl hl.1 (Nat.le_of_ble_eq_true rfl) dX1_packFrame_60 ⟨Nat.zero_le _, Nat.zero_le _⟩ rfl (fun H locs hP hD hS => ?_)
        have hP : va_P D vwCl [(q_pr, .inr (2, [.ref q_co, .ref q_ru, .ref q_di, .int pr_firstRow, .int pr_many, .int pr_runCount, .int pr_differentCount, .int pr_least, .int pr_indexWidth, .int pr_frameWidth, .int pr_deltaWidth])), (q_cd, .inr (1, [.ref q_co, .ref q_pr, .ref q_bi, .ref q_li])), (q_co, .inr (3, [.ref q_co_a])), (q_co_a, .inl (cI, 96, .inl co_a)), (q_bi, .inr (0, [.ref q_bi_a, .int u10.1])), (q_bi_a, .inl (cI, 3072, .inl u10.2))] H := hP
        have hD : va_D A [(q_pr, .inr (2, [.ref q_co, .ref q_ru, .ref q_di, .int pr_firstRow, .int pr_many, .int pr_runCount, .int pr_differentCount, .int pr_least, .int pr_indexWidth, .int pr_frameWidth, .int pr_deltaWidth])), (q_cd, .inr (1, [.ref q_co, .ref q_pr, .ref q_bi, .ref q_li])), (q_co, .inr (3, [.ref q_co_a])), (q_co_a, .inl (cI, 96, .inl co_a)), (q_bi, .inr (0, [.ref q_bi_a, .int u10.1])), (q_bi_a, .inl (cI, 3072, .inl u10.2))] := hD
        refine lv_iinc (v := (z5 + 1)) (lv' := [(5, .int (z5 + 1)), (0, .ref q_cd), (1, .int z1), (2, .int z2), (3, .int z3), (4, .int z4)]) hx hb dX1_packFrame_63 hl (k := 5) rfl rfl (by decide) rfl (fun ls hl => ?_)
        refine lv_goto (tgt := 35) hx hb dX1_packFrame_66 (by decide) ?_
        exact ih _ _ _ _ _ _ _ _ _ ls hf (hP.sub [4, 5, 2, 3, 0, 1] rfl) (hD.sub [4, 5, 2, 3, 0, 1] (by decide) rfl) hS (lv_sub hl [1, 2, 3, 4, 5, 0] rfl)
  unfold f_X1_packFrame at hf
  refine lv_aload_n hx hb dX1_packFrame_0 rfl (lv_at hl 0 rfl) ?_
  refine va_get (D := D) (ci := 1) (v := .ref q_pr) (C := RX1) (T := TX1) (N := 4) hx hb hts hin1 hown hK hP 5 rfl rfl 1 (by decide) (hts (.fieldLink RX1 15 "ColumnChooser$Coder" "profile" "LColumnChooser$Profile;") (List.mem_of_getElem? (i := 1) rfl)) (fun _ h9 => h9) rfl dX1_packFrame_1 ?_
  obtain ⟨u11, hu11, hf⟩ := pr_bd hf
  refine fr_iV (As := []) ⟨hx, hb, hml, hown, hts⟩ hK hP hD hS hA (c_X2_least l D cI q_co q_pr q_ru q_di n pr_firstRow pr_many pr_runCount pr_differentCount pr_least pr_indexWidth pr_frameWidth pr_deltaWidth u11 hu11) (cwV 0 hts gX1_packFrame_X2_least rfl rfl rfl (by decide +kernel) ⟨Nat.le_of_ble_eq_true rfl, Nat.le_of_ble_eq_true rfl⟩) [(q_bi, .inr (0, [.ref q_bi_a, .int bi_place])), (q_bi_a, .inl (cI, 3072, .inl bi_a)), (q_co, .inr (3, [.ref q_co_a])), (q_co_a, .inl (cI, 96, .inl co_a)), (q_cd, .inr (1, [.ref q_co, .ref q_pr, .ref q_bi, .ref q_li]))] [4] [0, 1, 2, 3, 5] rfl rfl (by decide) (by decide) (by decide) 0 rfl rfl rfl rfl hl.1 (Nat.le_of_ble_eq_true rfl) dX1_packFrame_4 ⟨Nat.zero_le _, Nat.zero_le _⟩ rfl (fun H locs hP hD hS => ?_)
  have hP : va_P D vwCl [(q_bi, .inr (0, [.ref q_bi_a, .int bi_place])), (q_bi_a, .inl (cI, 3072, .inl bi_a)), (q_co, .inr (3, [.ref q_co_a])), (q_co_a, .inl (cI, 96, .inl co_a)), (q_cd, .inr (1, [.ref q_co, .ref q_pr, .ref q_bi, .ref q_li])), (q_pr, .inr (2, [.ref q_co, .ref q_ru, .ref q_di, .int pr_firstRow, .int pr_many, .int pr_runCount, .int pr_differentCount, .int pr_least, .int pr_indexWidth, .int pr_frameWidth, .int pr_deltaWidth]))] H := hP
  have hD : va_D A [(q_bi, .inr (0, [.ref q_bi_a, .int bi_place])), (q_bi_a, .inl (cI, 3072, .inl bi_a)), (q_co, .inr (3, [.ref q_co_a])), (q_co_a, .inl (cI, 96, .inl co_a)), (q_cd, .inr (1, [.ref q_co, .ref q_pr, .ref q_bi, .ref q_li])), (q_pr, .inr (2, [.ref q_co, .ref q_ru, .ref q_di, .int pr_firstRow, .int pr_many, .int pr_runCount, .int pr_differentCount, .int pr_least, .int pr_indexWidth, .int pr_frameWidth, .int pr_deltaWidth]))] := hD
  refine lv_istore_n (lv' := [(3, .int u11), (0, .ref q_cd), (1, .int x1), (2, .int x2)]) hx hb dX1_packFrame_7 rfl hl (by decide) rfl (fun ls hl => ?_)
  refine lv_aload_n hx hb dX1_packFrame_8 rfl (lv_at hl 1 rfl) ?_
  refine va_get (D := D) (ci := 1) (v := .ref q_pr) (C := RX1) (T := TX1) (N := 4) hx hb hts hin1 hown hK hP 4 rfl rfl 1 (by decide) (hts (.fieldLink RX1 15 "ColumnChooser$Coder" "profile" "LColumnChooser$Profile;") (List.mem_of_getElem? (i := 1) rfl)) (fun _ h9 => h9) rfl dX1_packFrame_9 ?_
  obtain ⟨u12, hu12, hf⟩ := pr_bd hf
  refine fr_iV (As := []) ⟨hx, hb, hml, hown, hts⟩ hK hP hD hS hA (c_X2_frameWidth l D cI q_co q_pr q_ru q_di n pr_firstRow pr_many pr_runCount pr_differentCount pr_least pr_indexWidth pr_frameWidth pr_deltaWidth u12 hu12) (cwV 0 hts gX1_packFrame_X2_frameWidth rfl rfl rfl (by decide +kernel) ⟨Nat.le_of_ble_eq_true rfl, Nat.le_of_ble_eq_true rfl⟩) [(q_bi, .inr (0, [.ref q_bi_a, .int bi_place])), (q_bi_a, .inl (cI, 3072, .inl bi_a)), (q_co, .inr (3, [.ref q_co_a])), (q_co_a, .inl (cI, 96, .inl co_a)), (q_cd, .inr (1, [.ref q_co, .ref q_pr, .ref q_bi, .ref q_li]))] [5] [0, 1, 2, 3, 4] rfl rfl (by decide) (by decide) (by decide) 0 rfl rfl rfl rfl hl.1 (Nat.le_of_ble_eq_true rfl) dX1_packFrame_12 ⟨Nat.zero_le _, Nat.zero_le _⟩ rfl (fun H locs hP hD hS => ?_)
  have hP : va_P D vwCl [(q_bi, .inr (0, [.ref q_bi_a, .int bi_place])), (q_bi_a, .inl (cI, 3072, .inl bi_a)), (q_co, .inr (3, [.ref q_co_a])), (q_co_a, .inl (cI, 96, .inl co_a)), (q_cd, .inr (1, [.ref q_co, .ref q_pr, .ref q_bi, .ref q_li])), (q_pr, .inr (2, [.ref q_co, .ref q_ru, .ref q_di, .int pr_firstRow, .int pr_many, .int pr_runCount, .int pr_differentCount, .int pr_least, .int pr_indexWidth, .int pr_frameWidth, .int pr_deltaWidth]))] H := hP
  have hD : va_D A [(q_bi, .inr (0, [.ref q_bi_a, .int bi_place])), (q_bi_a, .inl (cI, 3072, .inl bi_a)), (q_co, .inr (3, [.ref q_co_a])), (q_co_a, .inl (cI, 96, .inl co_a)), (q_cd, .inr (1, [.ref q_co, .ref q_pr, .ref q_bi, .ref q_li])), (q_pr, .inr (2, [.ref q_co, .ref q_ru, .ref q_di, .int pr_firstRow, .int pr_many, .int pr_runCount, .int pr_differentCount, .int pr_least, .int pr_indexWidth, .int pr_frameWidth, .int pr_deltaWidth]))] := hD
  refine lv_istore (lv' := [(4, .int u12), (3, .int u11), (0, .ref q_cd), (1, .int x1), (2, .int x2)]) hx hb dX1_packFrame_15 hl (by decide) rfl (fun ls hl => ?_)
  refine lv_aload_n hx hb dX1_packFrame_17 rfl (lv_at hl 2 rfl) ?_
  refine lv_iload_n hx hb dX1_packFrame_18 rfl (lv_at hl 1 rfl) ?_
  obtain ⟨u13, hu13, hf⟩ := pr_bd hf
  refine fr_vV (As := [.int u11]) ⟨hx, hb, hml, hown, hts⟩ hK hP hD hS hA (c_X1_writeValue l D cI q_bi q_bi_a q_co q_pr q_cd q_li n u11 bi_place bi_a u13 hu13) (cwV 1 hts gX1_packFrame_X1_writeValue rfl rfl rfl (by decide +kernel) ⟨Nat.le_of_ble_eq_true rfl, Nat.le_of_ble_eq_true rfl⟩) [(q_co, .inr (3, [.ref q_co_a])), (q_co_a, .inl (cI, 96, .inl co_a)), (q_pr, .inr (2, [.ref q_co, .ref q_ru, .ref q_di, .int pr_firstRow, .int pr_many, .int pr_runCount, .int pr_differentCount, .int pr_least, .int pr_indexWidth, .int pr_frameWidth, .int pr_deltaWidth]))] [0, 1, 4] [2, 3, 5] rfl rfl (by decide) (by decide) (by decide) 2 rfl rfl rfl rfl hl.1 (Nat.le_of_ble_eq_true rfl) dX1_packFrame_19 ⟨Nat.zero_le _, Nat.zero_le _⟩ rfl (fun H locs hP hD hS => ?_)
  have hP : va_P D vwCl [(q_co, .inr (3, [.ref q_co_a])), (q_co_a, .inl (cI, 96, .inl co_a)), (q_pr, .inr (2, [.ref q_co, .ref q_ru, .ref q_di, .int pr_firstRow, .int pr_many, .int pr_runCount, .int pr_differentCount, .int pr_least, .int pr_indexWidth, .int pr_frameWidth, .int pr_deltaWidth])), (q_bi, .inr (0, [.ref q_bi_a, .int u13.1])), (q_bi_a, .inl (cI, 3072, .inl u13.2)), (q_cd, .inr (1, [.ref q_co, .ref q_pr, .ref q_bi, .ref q_li]))] H := hP
  have hD : va_D A [(q_co, .inr (3, [.ref q_co_a])), (q_co_a, .inl (cI, 96, .inl co_a)), (q_pr, .inr (2, [.ref q_co, .ref q_ru, .ref q_di, .int pr_firstRow, .int pr_many, .int pr_runCount, .int pr_differentCount, .int pr_least, .int pr_indexWidth, .int pr_frameWidth, .int pr_deltaWidth])), (q_bi, .inr (0, [.ref q_bi_a, .int u13.1])), (q_bi_a, .inl (cI, 3072, .inl u13.2)), (q_cd, .inr (1, [.ref q_co, .ref q_pr, .ref q_bi, .ref q_li]))] := hD
  refine lv_aload_n hx hb dX1_packFrame_22 rfl (lv_at hl 2 rfl) ?_
  refine va_get (D := D) (ci := 1) (v := .ref q_bi) (C := RX1) (T := TX1) (N := 4) hx hb hts hin1 hown hK hP 5 rfl rfl 2 (by decide) (hts (.fieldLink RX1 19 "ColumnChooser$Coder" "bits" "LColumnChooser$Bits;") (List.mem_of_getElem? (i := 2) rfl)) (fun _ h9 => h9) rfl dX1_packFrame_23 ?_
  refine lv_iload hx hb dX1_packFrame_26 (lv_at hl 0 rfl) ?_
  refine lv_iconst (v := 5) hx hb dX1_packFrame_28 (by decide) ?_
  obtain ⟨u14, hu14, hf⟩ := pr_bd hf
  refine fr_vV (As := [.int u12, .int 5]) ⟨hx, hb, hml, hown, hts⟩ hK hP hD hS hA (c_X0_write l D cI q_bi q_bi_a n u12 5 u13.1 u13.2 u14 hu14) (cwV 2 hts gX1_packFrame_X0_write rfl rfl rfl (by decide +kernel) ⟨Nat.le_of_ble_eq_true rfl, Nat.le_of_ble_eq_true rfl⟩) [(q_co, .inr (3, [.ref q_co_a])), (q_co_a, .inl (cI, 96, .inl co_a)), (q_pr, .inr (2, [.ref q_co, .ref q_ru, .ref q_di, .int pr_firstRow, .int pr_many, .int pr_runCount, .int pr_differentCount, .int pr_least, .int pr_indexWidth, .int pr_frameWidth, .int pr_deltaWidth])), (q_cd, .inr (1, [.ref q_co, .ref q_pr, .ref q_bi, .ref q_li]))] [3, 4] [0, 1, 2, 5] rfl rfl (by decide) (by decide) (by decide) 0 rfl rfl rfl rfl hl.1 (Nat.le_of_ble_eq_true rfl) dX1_packFrame_29 ⟨Nat.zero_le _, Nat.zero_le _⟩ rfl (fun H locs hP hD hS => ?_)
  have hP : va_P D vwCl [(q_co, .inr (3, [.ref q_co_a])), (q_co_a, .inl (cI, 96, .inl co_a)), (q_pr, .inr (2, [.ref q_co, .ref q_ru, .ref q_di, .int pr_firstRow, .int pr_many, .int pr_runCount, .int pr_differentCount, .int pr_least, .int pr_indexWidth, .int pr_frameWidth, .int pr_deltaWidth])), (q_cd, .inr (1, [.ref q_co, .ref q_pr, .ref q_bi, .ref q_li])), (q_bi, .inr (0, [.ref q_bi_a, .int u14.1])), (q_bi_a, .inl (cI, 3072, .inl u14.2))] H := hP
  have hD : va_D A [(q_co, .inr (3, [.ref q_co_a])), (q_co_a, .inl (cI, 96, .inl co_a)), (q_pr, .inr (2, [.ref q_co, .ref q_ru, .ref q_di, .int pr_firstRow, .int pr_many, .int pr_runCount, .int pr_differentCount, .int pr_least, .int pr_indexWidth, .int pr_frameWidth, .int pr_deltaWidth])), (q_cd, .inr (1, [.ref q_co, .ref q_pr, .ref q_bi, .ref q_li])), (q_bi, .inr (0, [.ref q_bi_a, .int u14.1])), (q_bi_a, .inl (cI, 3072, .inl u14.2))] := hD
  refine lv_iconst (v := 0) hx hb dX1_packFrame_32 (by decide) ?_
  refine lv_istore (lv' := [(5, .int 0), (4, .int u12), (3, .int u11), (0, .ref q_cd), (1, .int x1), (2, .int x2)]) hx hb dX1_packFrame_33 hl (by decide) rfl (fun ls hl => ?_)
  exact k_35 n _ _ _ _ _ _ _ _ _ ls hf (hP.sub [4, 5, 0, 1, 2, 3] rfl) (hD.sub [4, 5, 0, 1, 2, 3] (by decide) rfl) hS (lv_sub hl [3, 4, 5, 2, 1, 0] rfl)
set_option maxHeartbeats 4000000 in
set_option maxRecDepth 100000 in
theorem c_X1_packDictionary (l : Launch) (D : va_G) (cI : ClassId) (q_bi q_bi_a q_co q_co_a q_pr q_ru q_di q_di_a q_cd q_li : Nat) (n : Nat) (x1 : Int32) (x2 : Int32) (bi_place : Int32) (bi_a : (Nat → Int32)) (co_a : (Nat → Int32)) (pr_firstRow : Int32) (pr_many : Int32) (pr_runCount : Int32) (pr_differentCount : Int32) (pr_least : Int32) (pr_indexWidth : Int32) (pr_frameWidth : Int32) (pr_deltaWidth : Int32) (di_a : (Nat → Int32)) (res : Int32 × (Nat → Int32)) (hf : f_X1_packDictionary n x1 x2 bi_place bi_a co_a pr_differentCount pr_indexWidth di_a = some res) : fr_Cv l yX1_packDictionary wsX1_packDictionary ({ frames := 2, cells := 0, slots := 0, locals := 44 }) D [(cI, .int)] [.ref q_cd, .int x1, .int x2] [(q_bi, .inr (0, [.ref q_bi_a, .int bi_place])), (q_bi_a, .inl (cI, 3072, .inl bi_a)), (q_co, .inr (3, [.ref q_co_a])), (q_co_a, .inl (cI, 96, .inl co_a)), (q_pr, .inr (2, [.ref q_co, .ref q_ru, .ref q_di, .int pr_firstRow, .int pr_many, .int pr_runCount, .int pr_differentCount, .int pr_least, .int pr_indexWidth, .int pr_frameWidth, .int pr_deltaWidth])), (q_di, .inr (3, [.ref q_di_a])), (q_di_a, .inl (cI, 32, .inl di_a)), (q_cd, .inr (1, [.ref q_co, .ref q_pr, .ref q_bi, .ref q_li]))] [(q_bi, .inr (0, [.ref q_bi_a, .int res.1])), (q_bi_a, .inl (cI, 3072, .inl res.2)), (q_co, .inr (3, [.ref q_co_a])), (q_co_a, .inl (cI, 96, .inl co_a)), (q_pr, .inr (2, [.ref q_co, .ref q_ru, .ref q_di, .int pr_firstRow, .int pr_many, .int pr_runCount, .int pr_differentCount, .int pr_least, .int pr_indexWidth, .int pr_frameWidth, .int pr_deltaWidth])), (q_di, .inr (3, [.ref q_di_a])), (q_di_a, .inl (cI, 32, .inl di_a)), (q_cd, .inr (1, [.ref q_co, .ref q_pr, .ref q_bi, .ref q_li]))] := by
  refine fr_open_v (cc := cX1_packDictionary) (maxL := 5) (by decide +kernel) rfl (Nat.le_of_ble_eq_true rfl) ?_
  intro p e s m below meth c A Q ls hx hb hml hown hts hA hK hP hD hS hl hret
  have hown : s.vm.findClass RX1 = some m.cls := hown
  have hl : lv_has ls 5 [(0, .ref q_cd), (1, .int x1), (2, .int x2)] := hl
  have hin1 : ∀ w ∈ u_ws RX1 TX1 4, w ∈ wsX1_packDictionary := fun _ h9 => List.mem_cons_of_mem _ (List.mem_append_left _ (List.mem_append_left _ (List.mem_append_left _ (List.mem_append_right _ h9))))
  have k_49 : ∀ (n : Nat), (∀ (z1 : Int32) (z2 : Int32) (z4 : Int32) (bi_place : Int32) (bi_a : (Nat → Int32)) (H : Heap) (locs : List Loc) (ls : Array Slot), f_X1_packDictionary_49 n z1 z2 z4 bi_place bi_a co_a pr_differentCount pr_indexWidth di_a = some res → va_P D vwCl [(q_bi, .inr (0, [.ref q_bi_a, .int bi_place])), (q_bi_a, .inl (cI, 3072, .inl bi_a)), (q_co, .inr (3, [.ref q_co_a])), (q_co_a, .inl (cI, 96, .inl co_a)), (q_pr, .inr (2, [.ref q_co, .ref q_ru, .ref q_di, .int pr_firstRow, .int pr_many, .int pr_runCount, .int pr_differentCount, .int pr_least, .int pr_indexWidth, .int pr_frameWidth, .int pr_deltaWidth])), (q_di, .inr (3, [.ref q_di_a])), (q_di_a, .inl (cI, 32, .inl di_a)), (q_cd, .inr (1, [.ref q_co, .ref q_pr, .ref q_bi, .ref q_li]))] H → va_D A [(q_bi, .inr (0, [.ref q_bi_a, .int bi_place])), (q_bi_a, .inl (cI, 3072, .inl bi_a)), (q_co, .inr (3, [.ref q_co_a])), (q_co_a, .inl (cI, 96, .inl co_a)), (q_pr, .inr (2, [.ref q_co, .ref q_ru, .ref q_di, .int pr_firstRow, .int pr_many, .int pr_runCount, .int pr_differentCount, .int pr_least, .int pr_indexWidth, .int pr_frameWidth, .int pr_deltaWidth])), (q_di, .inr (3, [.ref q_di_a])), (q_di_a, .inl (cI, 32, .inl di_a)), (q_cd, .inr (1, [.ref q_co, .ref q_pr, .ref q_bi, .ref q_li]))] → va_S A s.heap H locs → lv_has ls 5 [(0, .ref q_cd), (1, .int z1), (2, .int z2), (4, .int z4)] → W p l e ({ frames := 2, cells := 0, slots := 0, locals := 44 }) s m ([.ref q_cd, .int x1, .int x2] : List Value).toArray below meth c H locs 0 0 Q (F0 m 49 ls [])) := by
    intro n
    induction n with
    | zero =>
      intro z1 z2 z4 bi_place bi_a H locs ls hf hP hD hS hl
      exact absurd (show (none : Option (Int32 × (Nat → Int32))) = some res from hf) (by simp)
    | succ n ih =>
      intro z1 z2 z4 bi_place bi_a H locs ls hf hP hD hS hl
      have hf : f_X1_packDictionary_49_s (f_X1_packDictionary_49 n) n z1 z2 z4 bi_place bi_a co_a pr_differentCount pr_indexWidth di_a = some res := hf
      unfold f_X1_packDictionary_49_s at hf
      refine lv_iload hx hb dX1_packDictionary_49 (lv_at hl 3 rfl) ?_
      refine lv_iload_n hx hb dX1_packDictionary_51 rfl (lv_at hl 2 rfl) ?_
      refine lv_icmp_ge (tgt := 93) hx hb dX1_packDictionary_52 (by decide) (fun c11 => ?_) (fun c11 => ?_)
      · have hf := pr_pos hf c11
        obtain rfl := Option.some.inj hf
        exact hret _ _ _ _ dX1_packDictionary_93 (hP.sub [0, 1, 2, 3, 4, 5, 6, 7] rfl) (hD.sub [0, 1, 2, 3, 4, 5, 6, 7] (by decide) rfl) hS
      · have hf := pr_neg hf c11
        refine lv_aload_n hx hb dX1_packDictionary_55 rfl (lv_at hl 0 rfl) ?_
        refine va_get (D := D) (ci := 1) (v := .ref q_bi) (C := RX1) (T := TX1) (N := 4) hx hb hts hin1 hown hK hP 7 rfl rfl 2 (by decide) (hts (.fieldLink RX1 19 "ColumnChooser$Coder" "bits" "LColumnChooser$Bits;") (List.mem_of_getElem? (i := 2) rfl)) (fun _ h9 => h9) rfl dX1_packDictionary_56 ?_
        refine lv_aload_n hx hb dX1_packDictionary_59 rfl (lv_at hl 0 rfl) ?_
        refine va_get (D := D) (ci := 1) (v := .ref q_pr) (C := RX1) (T := TX1) (N := 4) hx hb hts hin1 hown hK hP 7 rfl rfl 1 (by decide) (hts (.fieldLink RX1 15 "ColumnChooser$Coder" "profile" "LColumnChooser$Profile;") (List.mem_of_getElem? (i := 1) rfl)) (fun _ h9 => h9) rfl dX1_packDictionary_60 ?_
        refine lv_aload_n hx hb dX1_packDictionary_63 rfl (lv_at hl 0 rfl) ?_
        refine va_get (D := D) (ci := 1) (v := .ref q_co) (C := RX1) (T := TX1) (N := 4) hx hb hts hin1 hown hK hP 7 rfl rfl 0 (by decide) (hts (.fieldLink RX1 9 "ColumnChooser$Coder" "column" "LColumnChooser$Row;") (List.mem_of_getElem? (i := 3) rfl)) (fun _ h9 => h9) rfl dX1_packDictionary_64 ?_
        refine lv_iload_n hx hb dX1_packDictionary_67 rfl (lv_at hl 1 rfl) ?_
        refine lv_iload hx hb dX1_packDictionary_68 (lv_at hl 3 rfl) ?_
        refine lv_iadd hx hb dX1_packDictionary_70 ?_
        obtain ⟨u12, hu12, hf⟩ := pr_bd hf
        refine fr_iV (As := [.int (z1 + z4)]) ⟨hx, hb, hml, hown, hts⟩ hK hP hD hS hA (c_X3_get l D cI q_co q_co_a 96 n (z1 + z4) co_a u12 hu12) (cwV 1 hts gX1_packDictionary_X3_get rfl rfl rfl (by decide +kernel) ⟨Nat.le_of_ble_eq_true rfl, Nat.le_of_ble_eq_true rfl⟩) [(q_bi, .inr (0, [.ref q_bi_a, .int bi_place])), (q_bi_a, .inl (cI, 3072, .inl bi_a)), (q_pr, .inr (2, [.ref q_co, .ref q_ru, .ref q_di, .int pr_firstRow, .int pr_many, .int pr_runCount, .int pr_differentCount, .int pr_least, .int pr_indexWidth, .int pr_frameWidth, .int pr_deltaWidth])), (q_di, .inr (3, [.ref q_di_a])), (q_di_a, .inl (cI, 32, .inl di_a)), (q_cd, .inr (1, [.ref q_co, .ref q_pr, .ref q_bi, .ref q_li]))] [2, 3] [0, 1, 4, 5, 6, 7] rfl rfl (by decide) (by decide) (by decide) 0 rfl rfl rfl rfl hl.1 (Nat.le_of_ble_eq_true rfl) dX1_packDictionary_71 ⟨Nat.zero_le _, Nat.zero_le _⟩ rfl (fun H locs hP hD hS => ?_)
        have hP : va_P D vwCl [(q_bi, .inr (0, [.ref q_bi_a, .int bi_place])), (q_bi_a, .inl (cI, 3072, .inl bi_a)), (q_pr, .inr (2, [.ref q_co, .ref q_ru, .ref q_di, .int pr_firstRow, .int pr_many, .int pr_runCount, .int pr_differentCount, .int pr_least, .int pr_indexWidth, .int pr_frameWidth, .int pr_deltaWidth])), (q_di, .inr (3, [.ref q_di_a])), (q_di_a, .inl (cI, 32, .inl di_a)), (q_cd, .inr (1, [.ref q_co, .ref q_pr, .ref q_bi, .ref q_li])), (q_co, .inr (3, [.ref q_co_a])), (q_co_a, .inl (cI, 96, .inl co_a))] H := hP
        have hD : va_D A [(q_bi, .inr (0, [.ref q_bi_a, .int bi_place])), (q_bi_a, .inl (cI, 3072, .inl bi_a)), (q_pr, .inr (2, [.ref q_co, .ref q_ru, .ref q_di, .int pr_firstRow, .int pr_many, .int pr_runCount, .int pr_differentCount, .int pr_least, .int pr_indexWidth, .int pr_frameWidth, .int pr_deltaWidth])), (q_di, .inr (3, [.ref q_di_a])), (q_di_a, .inl (cI, 32, .inl di_a)), (q_cd, .inr (1, [.ref q_co, .ref q_pr, .ref q_bi, .ref q_li])), (q_co, .inr (3, [.ref q_co_a])), (q_co_a, .inl (cI, 96, .inl co_a))] := hD
        obtain ⟨u13, hu13, hf⟩ := pr_bd hf
        refine fr_iV (As := [.int u12]) ⟨hx, hb, hml, hown, hts⟩ hK hP hD hS hA (c_X2_indexOf l D cI q_co q_pr q_ru q_di q_di_a n u12 pr_firstRow pr_many pr_runCount pr_differentCount pr_least pr_indexWidth pr_frameWidth pr_deltaWidth di_a u13 hu13) (cwV 1 hts gX1_packDictionary_X2_indexOf rfl rfl rfl (by decide +kernel) ⟨Nat.le_of_ble_eq_true rfl, Nat.le_of_ble_eq_true rfl⟩) [(q_bi, .inr (0, [.ref q_bi_a, .int bi_place])), (q_bi_a, .inl (cI, 3072, .inl bi_a)), (q_cd, .inr (1, [.ref q_co, .ref q_pr, .ref q_bi, .ref q_li])), (q_co, .inr (3, [.ref q_co_a])), (q_co_a, .inl (cI, 96, .inl co_a))] [2, 3, 4] [0, 1, 5, 6, 7] rfl rfl (by decide) (by decide) (by decide) 0 rfl rfl rfl rfl hl.1 (Nat.le_of_ble_eq_true rfl) dX1_packDictionary_74 ⟨Nat.zero_le _, Nat.zero_le _⟩ rfl (fun H locs hP hD hS => ?_)
        have hP : va_P D vwCl [(q_bi, .inr (0, [.ref q_bi_a, .int bi_place])), (q_bi_a, .inl (cI, 3072, .inl bi_a)), (q_cd, .inr (1, [.ref q_co, .ref q_pr, .ref q_bi, .ref q_li])), (q_co, .inr (3, [.ref q_co_a])), (q_co_a, .inl (cI, 96, .inl co_a)), (q_pr, .inr (2, [.ref q_co, .ref q_ru, .ref q_di, .int pr_firstRow, .int pr_many, .int pr_runCount, .int pr_differentCount, .int pr_least, .int pr_indexWidth, .int pr_frameWidth, .int pr_deltaWidth])), (q_di, .inr (3, [.ref q_di_a])), (q_di_a, .inl (cI, 32, .inl di_a))] H := hP
        have hD : va_D A [(q_bi, .inr (0, [.ref q_bi_a, .int bi_place])), (q_bi_a, .inl (cI, 3072, .inl bi_a)), (q_cd, .inr (1, [.ref q_co, .ref q_pr, .ref q_bi, .ref q_li])), (q_co, .inr (3, [.ref q_co_a])), (q_co_a, .inl (cI, 96, .inl co_a)), (q_pr, .inr (2, [.ref q_co, .ref q_ru, .ref q_di, .int pr_firstRow, .int pr_many, .int pr_runCount, .int pr_differentCount, .int pr_least, .int pr_indexWidth, .int pr_frameWidth, .int pr_deltaWidth])), (q_di, .inr (3, [.ref q_di_a])), (q_di_a, .inl (cI, 32, .inl di_a))] := hD
        refine lv_aload_n hx hb dX1_packDictionary_77 rfl (lv_at hl 0 rfl) ?_
        refine va_get (D := D) (ci := 1) (v := .ref q_pr) (C := RX1) (T := TX1) (N := 4) hx hb hts hin1 hown hK hP 2 rfl rfl 1 (by decide) (hts (.fieldLink RX1 15 "ColumnChooser$Coder" "profile" "LColumnChooser$Profile;") (List.mem_of_getElem? (i := 1) rfl)) (fun _ h9 => h9) rfl dX1_packDictionary_78 ?_
        obtain ⟨u14, hu14, hf⟩ := pr_bd hf
        refine fr_iV (As := []) ⟨hx, hb, hml, hown, hts⟩ hK hP hD hS hA (c_X2_indexWidth l D cI q_co q_pr q_ru q_di n pr_firstRow pr_many pr_runCount pr_differentCount pr_least pr_indexWidth pr_frameWidth pr_deltaWidth u14 hu14) (cwV 0 hts gX1_packDictionary_X2_indexWidth rfl rfl rfl (by decide +kernel) ⟨Nat.le_of_ble_eq_true rfl, Nat.le_of_ble_eq_true rfl⟩) [(q_bi, .inr (0, [.ref q_bi_a, .int bi_place])), (q_bi_a, .inl (cI, 3072, .inl bi_a)), (q_cd, .inr (1, [.ref q_co, .ref q_pr, .ref q_bi, .ref q_li])), (q_co, .inr (3, [.ref q_co_a])), (q_co_a, .inl (cI, 96, .inl co_a)), (q_di, .inr (3, [.ref q_di_a])), (q_di_a, .inl (cI, 32, .inl di_a))] [5] [0, 1, 2, 3, 4, 6, 7] rfl rfl (by decide) (by decide) (by decide) 0 rfl rfl rfl rfl hl.1 (Nat.le_of_ble_eq_true rfl) dX1_packDictionary_81 ⟨Nat.zero_le _, Nat.zero_le _⟩ rfl (fun H locs hP hD hS => ?_)
        have hP : va_P D vwCl [(q_bi, .inr (0, [.ref q_bi_a, .int bi_place])), (q_bi_a, .inl (cI, 3072, .inl bi_a)), (q_cd, .inr (1, [.ref q_co, .ref q_pr, .ref q_bi, .ref q_li])), (q_co, .inr (3, [.ref q_co_a])), (q_co_a, .inl (cI, 96, .inl co_a)), (q_di, .inr (3, [.ref q_di_a])), (q_di_a, .inl (cI, 32, .inl di_a)), (q_pr, .inr (2, [.ref q_co, .ref q_ru, .ref q_di, .int pr_firstRow, .int pr_many, .int pr_runCount, .int pr_differentCount, .int pr_least, .int pr_indexWidth, .int pr_frameWidth, .int pr_deltaWidth]))] H := hP
        have hD : va_D A [(q_bi, .inr (0, [.ref q_bi_a, .int bi_place])), (q_bi_a, .inl (cI, 3072, .inl bi_a)), (q_cd, .inr (1, [.ref q_co, .ref q_pr, .ref q_bi, .ref q_li])), (q_co, .inr (3, [.ref q_co_a])), (q_co_a, .inl (cI, 96, .inl co_a)), (q_di, .inr (3, [.ref q_di_a])), (q_di_a, .inl (cI, 32, .inl di_a)), (q_pr, .inr (2, [.ref q_co, .ref q_ru, .ref q_di, .int pr_firstRow, .int pr_many, .int pr_runCount, .int pr_differentCount, .int pr_least, .int pr_indexWidth, .int pr_frameWidth, .int pr_deltaWidth]))] := hD
        obtain ⟨u15, hu15, hf⟩ := pr_bd hf
        refine fr_vV (As := [.int u13, .int u14]) ⟨hx, hb, hml, hown, hts⟩ hK hP hD hS hA (c_X0_write l D cI q_bi q_bi_a n u13 u14 bi_place bi_a u15 hu15) (cwV 2 hts gX1_packDictionary_X0_write rfl rfl rfl (by decide +kernel) ⟨Nat.le_of_ble_eq_true rfl, Nat.le_of_ble_eq_true rfl⟩) [(q_cd, .inr (1, [.ref q_co, .ref q_pr, .ref q_bi, .ref q_li])), (q_co, .inr (3, [.ref q_co_a])), (q_co_a, .inl (cI, 96, .inl co_a)), (q_di, .inr (3, [.ref q_di_a])), (q_di_a, .inl (cI, 32, .inl di_a)), (q_pr, .inr (2, [.ref q_co, .ref q_ru, .ref q_di, .int pr_firstRow, .int pr_many, .int pr_runCount, .int pr_differentCount, .int pr_least, .int pr_indexWidth, .int pr_frameWidth, .int pr_deltaWidth]))] [0, 1] [2, 3, 4, 5, 6, 7] rfl rfl (by decide) (by decide) (by decide) 0 rfl rfl rfl rfl hl.1 (Nat.le_of_ble_eq_true rfl) dX1_packDictionary_84 ⟨Nat.zero_le _, Nat.zero_le _⟩ rfl (fun H locs hP hD hS => ?_)
        have hP : va_P D vwCl [(q_cd, .inr (1, [.ref q_co, .ref q_pr, .ref q_bi, .ref q_li])), (q_co, .inr (3, [.ref q_co_a])), (q_co_a, .inl (cI, 96, .inl co_a)), (q_di, .inr (3, [.ref q_di_a])), (q_di_a, .inl (cI, 32, .inl di_a)), (q_pr, .inr (2, [.ref q_co, .ref q_ru, .ref q_di, .int pr_firstRow, .int pr_many, .int pr_runCount, .int pr_differentCount, .int pr_least, .int pr_indexWidth, .int pr_frameWidth, .int pr_deltaWidth])), (q_bi, .inr (0, [.ref q_bi_a, .int u15.1])), (q_bi_a, .inl (cI, 3072, .inl u15.2))] H := hP
        have hD : va_D A [(q_cd, .inr (1, [.ref q_co, .ref q_pr, .ref q_bi, .ref q_li])), (q_co, .inr (3, [.ref q_co_a])), (q_co_a, .inl (cI, 96, .inl co_a)), (q_di, .inr (3, [.ref q_di_a])), (q_di_a, .inl (cI, 32, .inl di_a)), (q_pr, .inr (2, [.ref q_co, .ref q_ru, .ref q_di, .int pr_firstRow, .int pr_many, .int pr_runCount, .int pr_differentCount, .int pr_least, .int pr_indexWidth, .int pr_frameWidth, .int pr_deltaWidth])), (q_bi, .inr (0, [.ref q_bi_a, .int u15.1])), (q_bi_a, .inl (cI, 3072, .inl u15.2))] := hD
        refine lv_iinc (v := (z4 + 1)) (lv' := [(4, .int (z4 + 1)), (0, .ref q_cd), (1, .int z1), (2, .int z2)]) hx hb dX1_packDictionary_87 hl (k := 3) rfl rfl (by decide) rfl (fun ls hl => ?_)
        refine lv_goto (tgt := 49) hx hb dX1_packDictionary_90 (by decide) ?_
        exact ih _ _ _ _ _ _ _ ls hf (hP.sub [6, 7, 1, 2, 5, 3, 4, 0] rfl) (hD.sub [6, 7, 1, 2, 5, 3, 4, 0] (by decide) rfl) hS (lv_sub hl [1, 2, 3, 0] rfl)
  have k_21 : ∀ (n : Nat), (∀ (z1 : Int32) (z2 : Int32) (z3 : Int32) (z4 : Int32) (bi_place : Int32) (bi_a : (Nat → Int32)) (H : Heap) (locs : List Loc) (ls : Array Slot), f_X1_packDictionary_21 n z1 z2 z3 z4 bi_place bi_a co_a pr_differentCount pr_indexWidth di_a = some res → va_P D vwCl [(q_bi, .inr (0, [.ref q_bi_a, .int bi_place])), (q_bi_a, .inl (cI, 3072, .inl bi_a)), (q_co, .inr (3, [.ref q_co_a])), (q_co_a, .inl (cI, 96, .inl co_a)), (q_pr, .inr (2, [.ref q_co, .ref q_ru, .ref q_di, .int pr_firstRow, .int pr_many, .int pr_runCount, .int pr_differentCount, .int pr_least, .int pr_indexWidth, .int pr_frameWidth, .int pr_deltaWidth])), (q_di, .inr (3, [.ref q_di_a])), (q_di_a, .inl (cI, 32, .inl di_a)), (q_cd, .inr (1, [.ref q_co, .ref q_pr, .ref q_bi, .ref q_li]))] H → va_D A [(q_bi, .inr (0, [.ref q_bi_a, .int bi_place])), (q_bi_a, .inl (cI, 3072, .inl bi_a)), (q_co, .inr (3, [.ref q_co_a])), (q_co_a, .inl (cI, 96, .inl co_a)), (q_pr, .inr (2, [.ref q_co, .ref q_ru, .ref q_di, .int pr_firstRow, .int pr_many, .int pr_runCount, .int pr_differentCount, .int pr_least, .int pr_indexWidth, .int pr_frameWidth, .int pr_deltaWidth])), (q_di, .inr (3, [.ref q_di_a])), (q_di_a, .inl (cI, 32, .inl di_a)), (q_cd, .inr (1, [.ref q_co, .ref q_pr, .ref q_bi, .ref q_li]))] → va_S A s.heap H locs → lv_has ls 5 [(0, .ref q_cd), (1, .int z1), (2, .int z2), (3, .int z3), (4, .int z4)] → W p l e ({ frames := 2, cells := 0, slots := 0, locals := 44 }) s m ([.ref q_cd, .int x1, .int x2] : List Value).toArray below meth c H locs 0 0 Q (F0 m 21 ls [])) := by
    intro n
    induction n with
    | zero =>
      intro z1 z2 z3 z4 bi_place bi_a H locs ls hf hP hD hS hl
      exact absurd (show (none : Option (Int32 × (Nat → Int32))) = some res from hf) (by simp)
    | succ n ih =>
      intro z1 z2 z3 z4 bi_place bi_a H locs ls hf hP hD hS hl
      have hf : f_X1_packDictionary_21_s (f_X1_packDictionary_21 n) n z1 z2 z3 z4 bi_place bi_a co_a pr_differentCount pr_indexWidth di_a = some res := hf
      unfold f_X1_packDictionary_21_s at hf
      refine lv_iload hx hb dX1_packDictionary_21 (lv_at hl 4 rfl) ?_
      refine lv_iload_n hx hb dX1_packDictionary_23 rfl (lv_at hl 3 rfl) ?_
      refine lv_icmp_ge (tgt := 46) hx hb dX1_packDictionary_24 (by decide) (fun c16 => ?_) (fun c16 => ?_)
      · have hf := pr_pos hf c16
        refine lv_iconst (v := 0) hx hb dX1_packDictionary_46 (by decide) ?_
        refine lv_istore (lv' := [(4, .int 0), (0, .ref q_cd), (1, .int z1), (2, .int z2), (3, .int z3)]) hx hb dX1_packDictionary_47 hl (by decide) rfl (fun ls hl => ?_)
        exact k_49 n _ _ _ _ _ _ _ ls hf (hP.sub [0, 1, 2, 3, 4, 5, 6, 7] rfl) (hD.sub [0, 1, 2, 3, 4, 5, 6, 7] (by decide) rfl) hS (lv_sub hl [1, 2, 3, 0] rfl)
      · have hf := pr_neg hf c16
        refine lv_aload_n hx hb dX1_packDictionary_27 rfl (lv_at hl 0 rfl) ?_
        refine lv_aload_n hx hb dX1_packDictionary_28 rfl (lv_at hl 0 rfl) ?_
        refine va_get (D := D) (ci := 1) (v := .ref q_pr) (C := RX1) (T := TX1) (N := 4) hx hb hts hin1 hown hK hP 7 rfl rfl 1 (by decide) (hts (.fieldLink RX1 15 "ColumnChooser$Coder" "profile" "LColumnChooser$Profile;") (List.mem_of_getElem? (i := 1) rfl)) (fun _ h9 => h9) rfl dX1_packDictionary_29 ?_
        refine lv_iload hx hb dX1_packDictionary_32 (lv_at hl 4 rfl) ?_
        obtain ⟨u17, hu17, hf⟩ := pr_bd hf
        refine fr_iV (As := [.int z4]) ⟨hx, hb, hml, hown, hts⟩ hK hP hD hS hA (c_X2_differentAt l D cI q_co q_pr q_ru q_di q_di_a n z4 pr_firstRow pr_many pr_runCount pr_differentCount pr_least pr_indexWidth pr_frameWidth pr_deltaWidth di_a u17 hu17) (cwV 1 hts gX1_packDictionary_X2_differentAt rfl rfl rfl (by decide +kernel) ⟨Nat.le_of_ble_eq_true rfl, Nat.le_of_ble_eq_true rfl⟩) [(q_bi, .inr (0, [.ref q_bi_a, .int bi_place])), (q_bi_a, .inl (cI, 3072, .inl bi_a)), (q_co, .inr (3, [.ref q_co_a])), (q_co_a, .inl (cI, 96, .inl co_a)), (q_cd, .inr (1, [.ref q_co, .ref q_pr, .ref q_bi, .ref q_li]))] [4, 5, 6] [0, 1, 2, 3, 7] rfl rfl (by decide) (by decide) (by decide) 0 rfl rfl rfl rfl hl.1 (Nat.le_of_ble_eq_true rfl) dX1_packDictionary_34 ⟨Nat.zero_le _, Nat.zero_le _⟩ rfl (fun H locs hP hD hS => ?_)
        have hP : va_P D vwCl [(q_bi, .inr (0, [.ref q_bi_a, .int bi_place])), (q_bi_a, .inl (cI, 3072, .inl bi_a)), (q_co, .inr (3, [.ref q_co_a])), (q_co_a, .inl (cI, 96, .inl co_a)), (q_cd, .inr (1, [.ref q_co, .ref q_pr, .ref q_bi, .ref q_li])), (q_pr, .inr (2, [.ref q_co, .ref q_ru, .ref q_di, .int pr_firstRow, .int pr_many, .int pr_runCount, .int pr_differentCount, .int pr_least, .int pr_indexWidth, .int pr_frameWidth, .int pr_deltaWidth])), (q_di, .inr (3, [.ref q_di_a])), (q_di_a, .inl (cI, 32, .inl di_a))] H := hP
        have hD : va_D A [(q_bi, .inr (0, [.ref q_bi_a, .int bi_place])), (q_bi_a, .inl (cI, 3072, .inl bi_a)), (q_co, .inr (3, [.ref q_co_a])), (q_co_a, .inl (cI, 96, .inl co_a)), (q_cd, .inr (1, [.ref q_co, .ref q_pr, .ref q_bi, .ref q_li])), (q_pr, .inr (2, [.ref q_co, .ref q_ru, .ref q_di, .int pr_firstRow, .int pr_many, .int pr_runCount, .int pr_differentCount, .int pr_least, .int pr_indexWidth, .int pr_frameWidth, .int pr_deltaWidth])), (q_di, .inr (3, [.ref q_di_a])), (q_di_a, .inl (cI, 32, .inl di_a))] := hD
        obtain ⟨u18, hu18, hf⟩ := pr_bd hf
        refine fr_vV (As := [.int u17]) ⟨hx, hb, hml, hown, hts⟩ hK hP hD hS hA (c_X1_writeValue l D cI q_bi q_bi_a q_co q_pr q_cd q_li n u17 bi_place bi_a u18 hu18) (cwV 1 hts gX1_packDictionary_X1_writeValue rfl rfl rfl (by decide +kernel) ⟨Nat.le_of_ble_eq_true rfl, Nat.le_of_ble_eq_true rfl⟩) [(q_co, .inr (3, [.ref q_co_a])), (q_co_a, .inl (cI, 96, .inl co_a)), (q_pr, .inr (2, [.ref q_co, .ref q_ru, .ref q_di, .int pr_firstRow, .int pr_many, .int pr_runCount, .int pr_differentCount, .int pr_least, .int pr_indexWidth, .int pr_frameWidth, .int pr_deltaWidth])), (q_di, .inr (3, [.ref q_di_a])), (q_di_a, .inl (cI, 32, .inl di_a))] [0, 1, 4] [2, 3, 5, 6, 7] rfl rfl (by decide) (by decide) (by decide) 2 rfl rfl rfl rfl hl.1 (Nat.le_of_ble_eq_true rfl) dX1_packDictionary_37 ⟨Nat.zero_le _, Nat.zero_le _⟩ rfl (fun H locs hP hD hS => ?_)
        have hP : va_P D vwCl [(q_co, .inr (3, [.ref q_co_a])), (q_co_a, .inl (cI, 96, .inl co_a)), (q_pr, .inr (2, [.ref q_co, .ref q_ru, .ref q_di, .int pr_firstRow, .int pr_many, .int pr_runCount, .int pr_differentCount, .int pr_least, .int pr_indexWidth, .int pr_frameWidth, .int pr_deltaWidth])), (q_di, .inr (3, [.ref q_di_a])), (q_di_a, .inl (cI, 32, .inl di_a)), (q_bi, .inr (0, [.ref q_bi_a, .int u18.1])), (q_bi_a, .inl (cI, 3072, .inl u18.2)), (q_cd, .inr (1, [.ref q_co, .ref q_pr, .ref q_bi, .ref q_li]))] H := hP
        have hD : va_D A [(q_co, .inr (3, [.ref q_co_a])), (q_co_a, .inl (cI, 96, .inl co_a)), (q_pr, .inr (2, [.ref q_co, .ref q_ru, .ref q_di, .int pr_firstRow, .int pr_many, .int pr_runCount, .int pr_differentCount, .int pr_least, .int pr_indexWidth, .int pr_frameWidth, .int pr_deltaWidth])), (q_di, .inr (3, [.ref q_di_a])), (q_di_a, .inl (cI, 32, .inl di_a)), (q_bi, .inr (0, [.ref q_bi_a, .int u18.1])), (q_bi_a, .inl (cI, 3072, .inl u18.2)), (q_cd, .inr (1, [.ref q_co, .ref q_pr, .ref q_bi, .ref q_li]))] := hD
        refine lv_iinc (v := (z4 + 1)) (lv' := [(4, .int (z4 + 1)), (0, .ref q_cd), (1, .int z1), (2, .int z2), (3, .int z3)]) hx hb dX1_packDictionary_40 hl (k := 4) rfl rfl (by decide) rfl (fun ls hl => ?_)
        refine lv_goto (tgt := 21) hx hb dX1_packDictionary_43 (by decide) ?_
        exact ih _ _ _ _ _ _ _ _ ls hf (hP.sub [5, 6, 0, 1, 2, 3, 4, 7] rfl) (hD.sub [5, 6, 0, 1, 2, 3, 4, 7] (by decide) rfl) hS (lv_sub hl [1, 2, 3, 4, 0] rfl)
  unfold f_X1_packDictionary at hf
  refine lv_aload_n hx hb dX1_packDictionary_0 rfl (lv_at hl 0 rfl) ?_
  refine va_get (D := D) (ci := 1) (v := .ref q_pr) (C := RX1) (T := TX1) (N := 4) hx hb hts hin1 hown hK hP 7 rfl rfl 1 (by decide) (hts (.fieldLink RX1 15 "ColumnChooser$Coder" "profile" "LColumnChooser$Profile;") (List.mem_of_getElem? (i := 1) rfl)) (fun _ h9 => h9) rfl dX1_packDictionary_1 ?_
  obtain ⟨u19, hu19, hf⟩ := pr_bd hf
  refine fr_iV (As := []) ⟨hx, hb, hml, hown, hts⟩ hK hP hD hS hA (c_X2_differentCount l D cI q_co q_pr q_ru q_di n pr_firstRow pr_many pr_runCount pr_differentCount pr_least pr_indexWidth pr_frameWidth pr_deltaWidth u19 hu19) (cwV 0 hts gX1_packDictionary_X2_differentCount rfl rfl rfl (by decide +kernel) ⟨Nat.le_of_ble_eq_true rfl, Nat.le_of_ble_eq_true rfl⟩) [(q_bi, .inr (0, [.ref q_bi_a, .int bi_place])), (q_bi_a, .inl (cI, 3072, .inl bi_a)), (q_co, .inr (3, [.ref q_co_a])), (q_co_a, .inl (cI, 96, .inl co_a)), (q_di, .inr (3, [.ref q_di_a])), (q_di_a, .inl (cI, 32, .inl di_a)), (q_cd, .inr (1, [.ref q_co, .ref q_pr, .ref q_bi, .ref q_li]))] [4] [0, 1, 2, 3, 5, 6, 7] rfl rfl (by decide) (by decide) (by decide) 0 rfl rfl rfl rfl hl.1 (Nat.le_of_ble_eq_true rfl) dX1_packDictionary_4 ⟨Nat.zero_le _, Nat.zero_le _⟩ rfl (fun H locs hP hD hS => ?_)
  have hP : va_P D vwCl [(q_bi, .inr (0, [.ref q_bi_a, .int bi_place])), (q_bi_a, .inl (cI, 3072, .inl bi_a)), (q_co, .inr (3, [.ref q_co_a])), (q_co_a, .inl (cI, 96, .inl co_a)), (q_di, .inr (3, [.ref q_di_a])), (q_di_a, .inl (cI, 32, .inl di_a)), (q_cd, .inr (1, [.ref q_co, .ref q_pr, .ref q_bi, .ref q_li])), (q_pr, .inr (2, [.ref q_co, .ref q_ru, .ref q_di, .int pr_firstRow, .int pr_many, .int pr_runCount, .int pr_differentCount, .int pr_least, .int pr_indexWidth, .int pr_frameWidth, .int pr_deltaWidth]))] H := hP
  have hD : va_D A [(q_bi, .inr (0, [.ref q_bi_a, .int bi_place])), (q_bi_a, .inl (cI, 3072, .inl bi_a)), (q_co, .inr (3, [.ref q_co_a])), (q_co_a, .inl (cI, 96, .inl co_a)), (q_di, .inr (3, [.ref q_di_a])), (q_di_a, .inl (cI, 32, .inl di_a)), (q_cd, .inr (1, [.ref q_co, .ref q_pr, .ref q_bi, .ref q_li])), (q_pr, .inr (2, [.ref q_co, .ref q_ru, .ref q_di, .int pr_firstRow, .int pr_many, .int pr_runCount, .int pr_differentCount, .int pr_least, .int pr_indexWidth, .int pr_frameWidth, .int pr_deltaWidth]))] := hD
  refine lv_istore_n (lv' := [(3, .int u19), (0, .ref q_cd), (1, .int x1), (2, .int x2)]) hx hb dX1_packDictionary_7 rfl hl (by decide) rfl (fun ls hl => ?_)
  refine lv_aload_n hx hb dX1_packDictionary_8 rfl (lv_at hl 1 rfl) ?_
  refine va_get (D := D) (ci := 1) (v := .ref q_bi) (C := RX1) (T := TX1) (N := 4) hx hb hts hin1 hown hK hP 6 rfl rfl 2 (by decide) (hts (.fieldLink RX1 19 "ColumnChooser$Coder" "bits" "LColumnChooser$Bits;") (List.mem_of_getElem? (i := 2) rfl)) (fun _ h9 => h9) rfl dX1_packDictionary_9 ?_
  refine lv_iload_n hx hb dX1_packDictionary_12 rfl (lv_at hl 0 rfl) ?_
  refine lv_bipush (v := 6) hx hb dX1_packDictionary_13 (by decide) ?_
  obtain ⟨u20, hu20, hf⟩ := pr_bd hf
  refine fr_vV (As := [.int u19, .int 6]) ⟨hx, hb, hml, hown, hts⟩ hK hP hD hS hA (c_X0_write l D cI q_bi q_bi_a n u19 6 bi_place bi_a u20 hu20) (cwV 2 hts gX1_packDictionary_X0_write rfl rfl rfl (by decide +kernel) ⟨Nat.le_of_ble_eq_true rfl, Nat.le_of_ble_eq_true rfl⟩) [(q_co, .inr (3, [.ref q_co_a])), (q_co_a, .inl (cI, 96, .inl co_a)), (q_di, .inr (3, [.ref q_di_a])), (q_di_a, .inl (cI, 32, .inl di_a)), (q_cd, .inr (1, [.ref q_co, .ref q_pr, .ref q_bi, .ref q_li])), (q_pr, .inr (2, [.ref q_co, .ref q_ru, .ref q_di, .int pr_firstRow, .int pr_many, .int pr_runCount, .int pr_differentCount, .int pr_least, .int pr_indexWidth, .int pr_frameWidth, .int pr_deltaWidth]))] [0, 1] [2, 3, 4, 5, 6, 7] rfl rfl (by decide) (by decide) (by decide) 0 rfl rfl rfl rfl hl.1 (Nat.le_of_ble_eq_true rfl) dX1_packDictionary_15 ⟨Nat.zero_le _, Nat.zero_le _⟩ rfl (fun H locs hP hD hS => ?_)
  have hP : va_P D vwCl [(q_co, .inr (3, [.ref q_co_a])), (q_co_a, .inl (cI, 96, .inl co_a)), (q_di, .inr (3, [.ref q_di_a])), (q_di_a, .inl (cI, 32, .inl di_a)), (q_cd, .inr (1, [.ref q_co, .ref q_pr, .ref q_bi, .ref q_li])), (q_pr, .inr (2, [.ref q_co, .ref q_ru, .ref q_di, .int pr_firstRow, .int pr_many, .int pr_runCount, .int pr_differentCount, .int pr_least, .int pr_indexWidth, .int pr_frameWidth, .int pr_deltaWidth])), (q_bi, .inr (0, [.ref q_bi_a, .int u20.1])), (q_bi_a, .inl (cI, 3072, .inl u20.2))] H := hP
  have hD : va_D A [(q_co, .inr (3, [.ref q_co_a])), (q_co_a, .inl (cI, 96, .inl co_a)), (q_di, .inr (3, [.ref q_di_a])), (q_di_a, .inl (cI, 32, .inl di_a)), (q_cd, .inr (1, [.ref q_co, .ref q_pr, .ref q_bi, .ref q_li])), (q_pr, .inr (2, [.ref q_co, .ref q_ru, .ref q_di, .int pr_firstRow, .int pr_many, .int pr_runCount, .int pr_differentCount, .int pr_least, .int pr_indexWidth, .int pr_frameWidth, .int pr_deltaWidth])), (q_bi, .inr (0, [.ref q_bi_a, .int u20.1])), (q_bi_a, .inl (cI, 3072, .inl u20.2))] := hD
  refine lv_iconst (v := 0) hx hb dX1_packDictionary_18 (by decide) ?_
  refine lv_istore (lv' := [(4, .int 0), (3, .int u19), (0, .ref q_cd), (1, .int x1), (2, .int x2)]) hx hb dX1_packDictionary_19 hl (by decide) rfl (fun ls hl => ?_)
  exact k_21 n _ _ _ _ _ _ _ _ ls hf (hP.sub [6, 7, 0, 1, 5, 2, 3, 4] rfl) (hD.sub [6, 7, 0, 1, 5, 2, 3, 4] (by decide) rfl) hS (lv_sub hl [2, 3, 4, 1, 0] rfl)
set_option maxHeartbeats 4000000 in
set_option maxRecDepth 100000 in
theorem c_X1_packRuns (l : Launch) (D : va_G) (cI : ClassId) (q_bi q_bi_a q_co q_co_a q_pr q_cd q_li : Nat) (n : Nat) (x1 : Int32) (x2 : Int32) (bi_place : Int32) (bi_a : (Nat → Int32)) (co_a : (Nat → Int32)) (res : Int32 × (Nat → Int32)) (hf : f_X1_packRuns n x1 x2 bi_place bi_a co_a = some res) : fr_Cv l yX1_packRuns wsX1_packRuns ({ frames := 2, cells := 0, slots := 0, locals := 44 }) D [(cI, .int)] [.ref q_cd, .int x1, .int x2] [(q_bi, .inr (0, [.ref q_bi_a, .int bi_place])), (q_bi_a, .inl (cI, 3072, .inl bi_a)), (q_co, .inr (3, [.ref q_co_a])), (q_co_a, .inl (cI, 96, .inl co_a)), (q_cd, .inr (1, [.ref q_co, .ref q_pr, .ref q_bi, .ref q_li]))] [(q_bi, .inr (0, [.ref q_bi_a, .int res.1])), (q_bi_a, .inl (cI, 3072, .inl res.2)), (q_co, .inr (3, [.ref q_co_a])), (q_co_a, .inl (cI, 96, .inl co_a)), (q_cd, .inr (1, [.ref q_co, .ref q_pr, .ref q_bi, .ref q_li]))] := by
  refine fr_open_v (cc := cX1_packRuns) (maxL := 6) (by decide +kernel) rfl (Nat.le_of_ble_eq_true rfl) ?_
  intro p e s m below meth c A Q ls hx hb hml hown hts hA hK hP hD hS hl hret
  have hown : s.vm.findClass RX1 = some m.cls := hown
  have hl : lv_has ls 6 [(0, .ref q_cd), (1, .int x1), (2, .int x2)] := hl
  have hin1 : ∀ w ∈ u_ws RX1 TX1 4, w ∈ wsX1_packRuns := fun _ h9 => List.mem_cons_of_mem _ (List.mem_append_left _ (List.mem_append_left _ (List.mem_append_right _ h9)))
  have k_5 : ∀ (n : Nat), (∀ (z1 : Int32) (z2 : Int32) (z3 : Int32) (z4 : Int32) (bi_place : Int32) (bi_a : (Nat → Int32)) (H : Heap) (locs : List Loc) (ls : Array Slot), f_X1_packRuns_5 n z1 z2 z3 z4 bi_place bi_a co_a = some res → va_P D vwCl [(q_bi, .inr (0, [.ref q_bi_a, .int bi_place])), (q_bi_a, .inl (cI, 3072, .inl bi_a)), (q_co, .inr (3, [.ref q_co_a])), (q_co_a, .inl (cI, 96, .inl co_a)), (q_cd, .inr (1, [.ref q_co, .ref q_pr, .ref q_bi, .ref q_li]))] H → va_D A [(q_bi, .inr (0, [.ref q_bi_a, .int bi_place])), (q_bi_a, .inl (cI, 3072, .inl bi_a)), (q_co, .inr (3, [.ref q_co_a])), (q_co_a, .inl (cI, 96, .inl co_a)), (q_cd, .inr (1, [.ref q_co, .ref q_pr, .ref q_bi, .ref q_li]))] → va_S A s.heap H locs → lv_has ls 6 [(0, .ref q_cd), (1, .int z1), (2, .int z2), (3, .int z3), (4, .int z4)] → W p l e ({ frames := 2, cells := 0, slots := 0, locals := 44 }) s m ([.ref q_cd, .int x1, .int x2] : List Value).toArray below meth c H locs 0 0 Q (F0 m 5 ls [])) := by
    intro n
    induction n with
    | zero =>
      intro z1 z2 z3 z4 bi_place bi_a H locs ls hf hP hD hS hl
      exact absurd (show (none : Option (Int32 × (Nat → Int32))) = some res from hf) (by simp)
    | succ n ih =>
      intro z1 z2 z3 z4 bi_place bi_a H locs ls hf hP hD hS hl
      have hf : f_X1_packRuns_5_s (f_X1_packRuns_5 n) n z1 z2 z3 z4 bi_place bi_a co_a = some res := hf
      unfold f_X1_packRuns_5_s at hf
      refine lv_iload hx hb dX1_packRuns_5 (lv_at hl 4 rfl) ?_
      refine lv_iload_n hx hb dX1_packRuns_7 rfl (lv_at hl 2 rfl) ?_
      refine lv_icmp_ge (tgt := 77) hx hb dX1_packRuns_8 (by decide) (fun c10 => ?_) (fun c10 => ?_)
      · have hf := pr_pos hf c10
        obtain rfl := Option.some.inj hf
        exact hret _ _ _ _ dX1_packRuns_77 (hP.sub [0, 1, 2, 3, 4] rfl) (hD.sub [0, 1, 2, 3, 4] (by decide) rfl) hS
      · have hf := pr_neg hf c10
        refine lv_aload_n hx hb dX1_packRuns_11 rfl (lv_at hl 0 rfl) ?_
        refine va_get (D := D) (ci := 1) (v := .ref q_co) (C := RX1) (T := TX1) (N := 4) hx hb hts hin1 hown hK hP 4 rfl rfl 0 (by decide) (hts (.fieldLink RX1 9 "ColumnChooser$Coder" "column" "LColumnChooser$Row;") (List.mem_of_getElem? (i := 1) rfl)) (fun _ h9 => h9) rfl dX1_packRuns_12 ?_
        refine lv_iload_n hx hb dX1_packRuns_15 rfl (lv_at hl 1 rfl) ?_
        refine lv_iload hx hb dX1_packRuns_16 (lv_at hl 4 rfl) ?_
        refine lv_iadd hx hb dX1_packRuns_18 ?_
        obtain ⟨u11, hu11, hf⟩ := pr_bd hf
        refine fr_iV (As := [.int (z1 + z4)]) ⟨hx, hb, hml, hown, hts⟩ hK hP hD hS hA (c_X3_get l D cI q_co q_co_a 96 n (z1 + z4) co_a u11 hu11) (cwV 1 hts gX1_packRuns_X3_get rfl rfl rfl (by decide +kernel) ⟨Nat.le_of_ble_eq_true rfl, Nat.le_of_ble_eq_true rfl⟩) [(q_bi, .inr (0, [.ref q_bi_a, .int bi_place])), (q_bi_a, .inl (cI, 3072, .inl bi_a)), (q_cd, .inr (1, [.ref q_co, .ref q_pr, .ref q_bi, .ref q_li]))] [2, 3] [0, 1, 4] rfl rfl (by decide) (by decide) (by decide) 0 rfl rfl rfl rfl hl.1 (Nat.le_of_ble_eq_true rfl) dX1_packRuns_19 ⟨Nat.zero_le _, Nat.zero_le _⟩ rfl (fun H locs hP hD hS => ?_)
        have hP : va_P D vwCl [(q_bi, .inr (0, [.ref q_bi_a, .int bi_place])), (q_bi_a, .inl (cI, 3072, .inl bi_a)), (q_cd, .inr (1, [.ref q_co, .ref q_pr, .ref q_bi, .ref q_li])), (q_co, .inr (3, [.ref q_co_a])), (q_co_a, .inl (cI, 96, .inl co_a))] H := hP
        have hD : va_D A [(q_bi, .inr (0, [.ref q_bi_a, .int bi_place])), (q_bi_a, .inl (cI, 3072, .inl bi_a)), (q_cd, .inr (1, [.ref q_co, .ref q_pr, .ref q_bi, .ref q_li])), (q_co, .inr (3, [.ref q_co_a])), (q_co_a, .inl (cI, 96, .inl co_a))] := hD
        refine lv_istore (lv' := [(5, .int u11), (0, .ref q_cd), (1, .int z1), (2, .int z2), (3, .int z3), (4, .int z4)]) hx hb dX1_packRuns_22 hl (by decide) rfl (fun ls hl => ?_)
        refine lv_iinc (v := (z3 + 1)) (lv' := [(3, .int (z3 + 1)), (5, .int u11), (0, .ref q_cd), (1, .int z1), (2, .int z2), (4, .int z4)]) hx hb dX1_packRuns_24 hl (k := 4) rfl rfl (by decide) rfl (fun ls hl => ?_)
        refine lv_iload hx hb dX1_packRuns_27 (lv_at hl 5 rfl) ?_
        refine lv_iconst (v := 1) hx hb dX1_packRuns_29 (by decide) ?_
        refine lv_iadd hx hb dX1_packRuns_30 ?_
        refine lv_iload_n hx hb dX1_packRuns_31 rfl (lv_at hl 4 rfl) ?_
        refine lv_icmp_eq (tgt := 53) hx hb dX1_packRuns_32 (by decide) (fun c12 => ?_) (fun c12 => ?_)
        · have hf := pr_pos hf c12
          refine lv_aload_n hx hb dX1_packRuns_53 rfl (lv_at hl 2 rfl) ?_
          refine lv_iload hx hb dX1_packRuns_54 (lv_at hl 1 rfl) ?_
          obtain ⟨u13, hu13, hf⟩ := pr_bd hf
          refine fr_vV (As := [.int u11]) ⟨hx, hb, hml, hown, hts⟩ hK hP hD hS hA (c_X1_writeValue l D cI q_bi q_bi_a q_co q_pr q_cd q_li n u11 bi_place bi_a u13 hu13) (cwV 1 hts gX1_packRuns_X1_writeValue rfl rfl rfl (by decide +kernel) ⟨Nat.le_of_ble_eq_true rfl, Nat.le_of_ble_eq_true rfl⟩) [(q_co, .inr (3, [.ref q_co_a])), (q_co_a, .inl (cI, 96, .inl co_a))] [0, 1, 2] [3, 4] rfl rfl (by decide) (by decide) (by decide) 2 rfl rfl rfl rfl hl.1 (Nat.le_of_ble_eq_true rfl) dX1_packRuns_56 ⟨Nat.zero_le _, Nat.zero_le _⟩ rfl (fun H locs hP hD hS => ?_)
          have hP : va_P D vwCl [(q_co, .inr (3, [.ref q_co_a])), (q_co_a, .inl (cI, 96, .inl co_a)), (q_bi, .inr (0, [.ref q_bi_a, .int u13.1])), (q_bi_a, .inl (cI, 3072, .inl u13.2)), (q_cd, .inr (1, [.ref q_co, .ref q_pr, .ref q_bi, .ref q_li]))] H := hP
          have hD : va_D A [(q_co, .inr (3, [.ref q_co_a])), (q_co_a, .inl (cI, 96, .inl co_a)), (q_bi, .inr (0, [.ref q_bi_a, .int u13.1])), (q_bi_a, .inl (cI, 3072, .inl u13.2)), (q_cd, .inr (1, [.ref q_co, .ref q_pr, .ref q_bi, .ref q_li]))] := hD
          refine lv_aload_n hx hb dX1_packRuns_59 rfl (lv_at hl 2 rfl) ?_
          refine va_get (D := D) (ci := 1) (v := .ref q_bi) (C := RX1) (T := TX1) (N := 4) hx hb hts hin1 hown hK hP 4 rfl rfl 2 (by decide) (hts (.fieldLink RX1 19 "ColumnChooser$Coder" "bits" "LColumnChooser$Bits;") (List.mem_of_getElem? (i := 2) rfl)) (fun _ h9 => h9) rfl dX1_packRuns_60 ?_
          refine lv_iload_n hx hb dX1_packRuns_63 rfl (lv_at hl 0 rfl) ?_
          refine lv_bipush (v := 6) hx hb dX1_packRuns_64 (by decide) ?_
          obtain ⟨u14, hu14, hf⟩ := pr_bd hf
          refine fr_vV (As := [.int (z3 + 1), .int 6]) ⟨hx, hb, hml, hown, hts⟩ hK hP hD hS hA (c_X0_write l D cI q_bi q_bi_a n (z3 + 1) 6 u13.1 u13.2 u14 hu14) (cwV 2 hts gX1_packRuns_X0_write rfl rfl rfl (by decide +kernel) ⟨Nat.le_of_ble_eq_true rfl, Nat.le_of_ble_eq_true rfl⟩) [(q_co, .inr (3, [.ref q_co_a])), (q_co_a, .inl (cI, 96, .inl co_a)), (q_cd, .inr (1, [.ref q_co, .ref q_pr, .ref q_bi, .ref q_li]))] [2, 3] [0, 1, 4] rfl rfl (by decide) (by decide) (by decide) 0 rfl rfl rfl rfl hl.1 (Nat.le_of_ble_eq_true rfl) dX1_packRuns_66 ⟨Nat.zero_le _, Nat.zero_le _⟩ rfl (fun H locs hP hD hS => ?_)
          have hP : va_P D vwCl [(q_co, .inr (3, [.ref q_co_a])), (q_co_a, .inl (cI, 96, .inl co_a)), (q_cd, .inr (1, [.ref q_co, .ref q_pr, .ref q_bi, .ref q_li])), (q_bi, .inr (0, [.ref q_bi_a, .int u14.1])), (q_bi_a, .inl (cI, 3072, .inl u14.2))] H := hP
          have hD : va_D A [(q_co, .inr (3, [.ref q_co_a])), (q_co_a, .inl (cI, 96, .inl co_a)), (q_cd, .inr (1, [.ref q_co, .ref q_pr, .ref q_bi, .ref q_li])), (q_bi, .inr (0, [.ref q_bi_a, .int u14.1])), (q_bi_a, .inl (cI, 3072, .inl u14.2))] := hD
          refine lv_iconst (v := 0) hx hb dX1_packRuns_69 (by decide) ?_
          refine lv_istore_n (lv' := [(3, .int 0), (5, .int u11), (0, .ref q_cd), (1, .int z1), (2, .int z2), (4, .int z4)]) hx hb dX1_packRuns_70 rfl hl (by decide) rfl (fun ls hl => ?_)
          refine lv_iinc (v := (z4 + 1)) (lv' := [(4, .int (z4 + 1)), (3, .int 0), (5, .int u11), (0, .ref q_cd), (1, .int z1), (2, .int z2)]) hx hb dX1_packRuns_71 hl (k := 5) rfl rfl (by decide) rfl (fun ls hl => ?_)
          refine lv_goto (tgt := 5) hx hb dX1_packRuns_74 (by decide) ?_
          exact ih _ _ _ _ _ _ _ _ ls hf (hP.sub [3, 4, 0, 1, 2] rfl) (hD.sub [3, 4, 0, 1, 2] (by decide) rfl) hS (lv_sub hl [3, 4, 5, 1, 0] rfl)
        · have hf := pr_neg hf c12
          refine lv_aload_n hx hb dX1_packRuns_35 rfl (lv_at hl 2 rfl) ?_
          refine va_get (D := D) (ci := 1) (v := .ref q_co) (C := RX1) (T := TX1) (N := 4) hx hb hts hin1 hown hK hP 2 rfl rfl 0 (by decide) (hts (.fieldLink RX1 9 "ColumnChooser$Coder" "column" "LColumnChooser$Row;") (List.mem_of_getElem? (i := 1) rfl)) (fun _ h9 => h9) rfl dX1_packRuns_36 ?_
          refine lv_iload_n hx hb dX1_packRuns_39 rfl (lv_at hl 3 rfl) ?_
          refine lv_iload hx hb dX1_packRuns_40 (lv_at hl 5 rfl) ?_
          refine lv_iadd hx hb dX1_packRuns_42 ?_
          refine lv_iconst (v := 1) hx hb dX1_packRuns_43 (by decide) ?_
          refine lv_iadd hx hb dX1_packRuns_44 ?_
          obtain ⟨u15, hu15, hf⟩ := pr_bd hf
          refine fr_iV (As := [.int ((z1 + z4) + 1)]) ⟨hx, hb, hml, hown, hts⟩ hK hP hD hS hA (c_X3_get l D cI q_co q_co_a 96 n ((z1 + z4) + 1) co_a u15 hu15) (cwV 1 hts gX1_packRuns_X3_get rfl rfl rfl (by decide +kernel) ⟨Nat.le_of_ble_eq_true rfl, Nat.le_of_ble_eq_true rfl⟩) [(q_bi, .inr (0, [.ref q_bi_a, .int bi_place])), (q_bi_a, .inl (cI, 3072, .inl bi_a)), (q_cd, .inr (1, [.ref q_co, .ref q_pr, .ref q_bi, .ref q_li]))] [3, 4] [0, 1, 2] rfl rfl (by decide) (by decide) (by decide) 0 rfl rfl rfl rfl hl.1 (Nat.le_of_ble_eq_true rfl) dX1_packRuns_45 ⟨Nat.zero_le _, Nat.zero_le _⟩ rfl (fun H locs hP hD hS => ?_)
          have hP : va_P D vwCl [(q_bi, .inr (0, [.ref q_bi_a, .int bi_place])), (q_bi_a, .inl (cI, 3072, .inl bi_a)), (q_cd, .inr (1, [.ref q_co, .ref q_pr, .ref q_bi, .ref q_li])), (q_co, .inr (3, [.ref q_co_a])), (q_co_a, .inl (cI, 96, .inl co_a))] H := hP
          have hD : va_D A [(q_bi, .inr (0, [.ref q_bi_a, .int bi_place])), (q_bi_a, .inl (cI, 3072, .inl bi_a)), (q_cd, .inr (1, [.ref q_co, .ref q_pr, .ref q_bi, .ref q_li])), (q_co, .inr (3, [.ref q_co_a])), (q_co_a, .inl (cI, 96, .inl co_a))] := hD
          refine lv_iload hx hb dX1_packRuns_48 (lv_at hl 1 rfl) ?_
          refine lv_icmp_eq (tgt := 71) hx hb dX1_packRuns_50 (by decide) (fun c16 => ?_) (fun c16 => ?_)
          · have hf := pr_pos hf c16
            refine lv_iinc (v := (z4 + 1)) (lv' := [(4, .int (z4 + 1)), (3, .int (z3 + 1)), (5, .int u11), (0, .ref q_cd), (1, .int z1), (2, .int z2)]) hx hb dX1_packRuns_71 hl (k := 5) rfl rfl (by decide) rfl (fun ls hl => ?_)
            refine lv_goto (tgt := 5) hx hb dX1_packRuns_74 (by decide) ?_
            exact ih _ _ _ _ _ _ _ _ ls hf (hP.sub [0, 1, 3, 4, 2] rfl) (hD.sub [0, 1, 3, 4, 2] (by decide) rfl) hS (lv_sub hl [3, 4, 5, 1, 0] rfl)
          · have hf := pr_neg hf c16
            refine lv_aload_n hx hb dX1_packRuns_53 rfl (lv_at hl 2 rfl) ?_
            refine lv_iload hx hb dX1_packRuns_54 (lv_at hl 1 rfl) ?_
            obtain ⟨u17, hu17, hf⟩ := pr_bd hf
            refine fr_vV (As := [.int u11]) ⟨hx, hb, hml, hown, hts⟩ hK hP hD hS hA (c_X1_writeValue l D cI q_bi q_bi_a q_co q_pr q_cd q_li n u11 bi_place bi_a u17 hu17) (cwV 1 hts gX1_packRuns_X1_writeValue rfl rfl rfl (by decide +kernel) ⟨Nat.le_of_ble_eq_true rfl, Nat.le_of_ble_eq_true rfl⟩) [(q_co, .inr (3, [.ref q_co_a])), (q_co_a, .inl (cI, 96, .inl co_a))] [0, 1, 2] [3, 4] rfl rfl (by decide) (by decide) (by decide) 2 rfl rfl rfl rfl hl.1 (Nat.le_of_ble_eq_true rfl) dX1_packRuns_56 ⟨Nat.zero_le _, Nat.zero_le _⟩ rfl (fun H locs hP hD hS => ?_)
            have hP : va_P D vwCl [(q_co, .inr (3, [.ref q_co_a])), (q_co_a, .inl (cI, 96, .inl co_a)), (q_bi, .inr (0, [.ref q_bi_a, .int u17.1])), (q_bi_a, .inl (cI, 3072, .inl u17.2)), (q_cd, .inr (1, [.ref q_co, .ref q_pr, .ref q_bi, .ref q_li]))] H := hP
            have hD : va_D A [(q_co, .inr (3, [.ref q_co_a])), (q_co_a, .inl (cI, 96, .inl co_a)), (q_bi, .inr (0, [.ref q_bi_a, .int u17.1])), (q_bi_a, .inl (cI, 3072, .inl u17.2)), (q_cd, .inr (1, [.ref q_co, .ref q_pr, .ref q_bi, .ref q_li]))] := hD
            refine lv_aload_n hx hb dX1_packRuns_59 rfl (lv_at hl 2 rfl) ?_
            refine va_get (D := D) (ci := 1) (v := .ref q_bi) (C := RX1) (T := TX1) (N := 4) hx hb hts hin1 hown hK hP 4 rfl rfl 2 (by decide) (hts (.fieldLink RX1 19 "ColumnChooser$Coder" "bits" "LColumnChooser$Bits;") (List.mem_of_getElem? (i := 2) rfl)) (fun _ h9 => h9) rfl dX1_packRuns_60 ?_
            refine lv_iload_n hx hb dX1_packRuns_63 rfl (lv_at hl 0 rfl) ?_
            refine lv_bipush (v := 6) hx hb dX1_packRuns_64 (by decide) ?_
            obtain ⟨u18, hu18, hf⟩ := pr_bd hf
            refine fr_vV (As := [.int (z3 + 1), .int 6]) ⟨hx, hb, hml, hown, hts⟩ hK hP hD hS hA (c_X0_write l D cI q_bi q_bi_a n (z3 + 1) 6 u17.1 u17.2 u18 hu18) (cwV 2 hts gX1_packRuns_X0_write rfl rfl rfl (by decide +kernel) ⟨Nat.le_of_ble_eq_true rfl, Nat.le_of_ble_eq_true rfl⟩) [(q_co, .inr (3, [.ref q_co_a])), (q_co_a, .inl (cI, 96, .inl co_a)), (q_cd, .inr (1, [.ref q_co, .ref q_pr, .ref q_bi, .ref q_li]))] [2, 3] [0, 1, 4] rfl rfl (by decide) (by decide) (by decide) 0 rfl rfl rfl rfl hl.1 (Nat.le_of_ble_eq_true rfl) dX1_packRuns_66 ⟨Nat.zero_le _, Nat.zero_le _⟩ rfl (fun H locs hP hD hS => ?_)
            have hP : va_P D vwCl [(q_co, .inr (3, [.ref q_co_a])), (q_co_a, .inl (cI, 96, .inl co_a)), (q_cd, .inr (1, [.ref q_co, .ref q_pr, .ref q_bi, .ref q_li])), (q_bi, .inr (0, [.ref q_bi_a, .int u18.1])), (q_bi_a, .inl (cI, 3072, .inl u18.2))] H := hP
            have hD : va_D A [(q_co, .inr (3, [.ref q_co_a])), (q_co_a, .inl (cI, 96, .inl co_a)), (q_cd, .inr (1, [.ref q_co, .ref q_pr, .ref q_bi, .ref q_li])), (q_bi, .inr (0, [.ref q_bi_a, .int u18.1])), (q_bi_a, .inl (cI, 3072, .inl u18.2))] := hD
            refine lv_iconst (v := 0) hx hb dX1_packRuns_69 (by decide) ?_
            refine lv_istore_n (lv' := [(3, .int 0), (5, .int u11), (0, .ref q_cd), (1, .int z1), (2, .int z2), (4, .int z4)]) hx hb dX1_packRuns_70 rfl hl (by decide) rfl (fun ls hl => ?_)
            refine lv_iinc (v := (z4 + 1)) (lv' := [(4, .int (z4 + 1)), (3, .int 0), (5, .int u11), (0, .ref q_cd), (1, .int z1), (2, .int z2)]) hx hb dX1_packRuns_71 hl (k := 5) rfl rfl (by decide) rfl (fun ls hl => ?_)
            refine lv_goto (tgt := 5) hx hb dX1_packRuns_74 (by decide) ?_
            exact ih _ _ _ _ _ _ _ _ ls hf (hP.sub [3, 4, 0, 1, 2] rfl) (hD.sub [3, 4, 0, 1, 2] (by decide) rfl) hS (lv_sub hl [3, 4, 5, 1, 0] rfl)
  unfold f_X1_packRuns at hf
  refine lv_iconst (v := 0) hx hb dX1_packRuns_0 (by decide) ?_
  refine lv_istore_n (lv' := [(3, .int 0), (0, .ref q_cd), (1, .int x1), (2, .int x2)]) hx hb dX1_packRuns_1 rfl hl (by decide) rfl (fun ls hl => ?_)
  refine lv_iconst (v := 0) hx hb dX1_packRuns_2 (by decide) ?_
  refine lv_istore (lv' := [(4, .int 0), (3, .int 0), (0, .ref q_cd), (1, .int x1), (2, .int x2)]) hx hb dX1_packRuns_3 hl (by decide) rfl (fun ls hl => ?_)
  exact k_5 n _ _ _ _ _ _ _ _ ls hf (hP.sub [0, 1, 2, 3, 4] rfl) (hD.sub [0, 1, 2, 3, 4] (by decide) rfl) hS (lv_sub hl [2, 3, 4, 1, 0] rfl)
set_option maxHeartbeats 4000000 in
set_option maxRecDepth 100000 in
theorem c_X1_packPlain (l : Launch) (D : va_G) (cI : ClassId) (q_bi q_bi_a q_co q_co_a q_pr q_cd q_li : Nat) (n : Nat) (x1 : Int32) (x2 : Int32) (bi_place : Int32) (bi_a : (Nat → Int32)) (co_a : (Nat → Int32)) (res : Int32 × (Nat → Int32)) (hf : f_X1_packPlain n x1 x2 bi_place bi_a co_a = some res) : fr_Cv l yX1_packPlain wsX1_packPlain ({ frames := 2, cells := 0, slots := 0, locals := 44 }) D [(cI, .int)] [.ref q_cd, .int x1, .int x2] [(q_bi, .inr (0, [.ref q_bi_a, .int bi_place])), (q_bi_a, .inl (cI, 3072, .inl bi_a)), (q_co, .inr (3, [.ref q_co_a])), (q_co_a, .inl (cI, 96, .inl co_a)), (q_cd, .inr (1, [.ref q_co, .ref q_pr, .ref q_bi, .ref q_li]))] [(q_bi, .inr (0, [.ref q_bi_a, .int res.1])), (q_bi_a, .inl (cI, 3072, .inl res.2)), (q_co, .inr (3, [.ref q_co_a])), (q_co_a, .inl (cI, 96, .inl co_a)), (q_cd, .inr (1, [.ref q_co, .ref q_pr, .ref q_bi, .ref q_li]))] := by
  refine fr_open_v (cc := cX1_packPlain) (maxL := 4) (by decide +kernel) rfl (Nat.le_of_ble_eq_true rfl) ?_
  intro p e s m below meth c A Q ls hx hb hml hown hts hA hK hP hD hS hl hret
  have hown : s.vm.findClass RX1 = some m.cls := hown
  have hl : lv_has ls 4 [(0, .ref q_cd), (1, .int x1), (2, .int x2)] := hl
  have hin1 : ∀ w ∈ u_ws RX1 TX1 4, w ∈ wsX1_packPlain := fun _ h9 => List.mem_cons_of_mem _ (List.mem_append_left _ (List.mem_append_left _ (List.mem_append_right _ h9)))
  have k_2 : ∀ (n : Nat), (∀ (z1 : Int32) (z2 : Int32) (z3 : Int32) (bi_place : Int32) (bi_a : (Nat → Int32)) (H : Heap) (locs : List Loc) (ls : Array Slot), f_X1_packPlain_2 n z1 z2 z3 bi_place bi_a co_a = some res → va_P D vwCl [(q_bi, .inr (0, [.ref q_bi_a, .int bi_place])), (q_bi_a, .inl (cI, 3072, .inl bi_a)), (q_co, .inr (3, [.ref q_co_a])), (q_co_a, .inl (cI, 96, .inl co_a)), (q_cd, .inr (1, [.ref q_co, .ref q_pr, .ref q_bi, .ref q_li]))] H → va_D A [(q_bi, .inr (0, [.ref q_bi_a, .int bi_place])), (q_bi_a, .inl (cI, 3072, .inl bi_a)), (q_co, .inr (3, [.ref q_co_a])), (q_co_a, .inl (cI, 96, .inl co_a)), (q_cd, .inr (1, [.ref q_co, .ref q_pr, .ref q_bi, .ref q_li]))] → va_S A s.heap H locs → lv_has ls 4 [(0, .ref q_cd), (1, .int z1), (2, .int z2), (3, .int z3)] → W p l e ({ frames := 2, cells := 0, slots := 0, locals := 44 }) s m ([.ref q_cd, .int x1, .int x2] : List Value).toArray below meth c H locs 0 0 Q (F0 m 2 ls [])) := by
    intro n
    induction n with
    | zero =>
      intro z1 z2 z3 bi_place bi_a H locs ls hf hP hD hS hl
      exact absurd (show (none : Option (Int32 × (Nat → Int32))) = some res from hf) (by simp)
    | succ n ih =>
      intro z1 z2 z3 bi_place bi_a H locs ls hf hP hD hS hl
      have hf : f_X1_packPlain_2_s (f_X1_packPlain_2 n) n z1 z2 z3 bi_place bi_a co_a = some res := hf
      unfold f_X1_packPlain_2_s at hf
      refine lv_iload_n hx hb dX1_packPlain_2 rfl (lv_at hl 3 rfl) ?_
      refine lv_iload_n hx hb dX1_packPlain_3 rfl (lv_at hl 2 rfl) ?_
      refine lv_icmp_ge (tgt := 27) hx hb dX1_packPlain_4 (by decide) (fun c4 => ?_) (fun c4 => ?_)
      · have hf := pr_pos hf c4
        obtain rfl := Option.some.inj hf
        exact hret _ _ _ _ dX1_packPlain_27 (hP.sub [0, 1, 2, 3, 4] rfl) (hD.sub [0, 1, 2, 3, 4] (by decide) rfl) hS
      · have hf := pr_neg hf c4
        refine lv_aload_n hx hb dX1_packPlain_7 rfl (lv_at hl 0 rfl) ?_
        refine lv_aload_n hx hb dX1_packPlain_8 rfl (lv_at hl 0 rfl) ?_
        refine va_get (D := D) (ci := 1) (v := .ref q_co) (C := RX1) (T := TX1) (N := 4) hx hb hts hin1 hown hK hP 4 rfl rfl 0 (by decide) (hts (.fieldLink RX1 9 "ColumnChooser$Coder" "column" "LColumnChooser$Row;") (List.mem_of_getElem? (i := 1) rfl)) (fun _ h9 => h9) rfl dX1_packPlain_9 ?_
        refine lv_iload_n hx hb dX1_packPlain_12 rfl (lv_at hl 1 rfl) ?_
        refine lv_iload_n hx hb dX1_packPlain_13 rfl (lv_at hl 3 rfl) ?_
        refine lv_iadd hx hb dX1_packPlain_14 ?_
        obtain ⟨u5, hu5, hf⟩ := pr_bd hf
        refine fr_iV (As := [.int (z1 + z3)]) ⟨hx, hb, hml, hown, hts⟩ hK hP hD hS hA (c_X3_get l D cI q_co q_co_a 96 n (z1 + z3) co_a u5 hu5) (cwV 1 hts gX1_packPlain_X3_get rfl rfl rfl (by decide +kernel) ⟨Nat.le_of_ble_eq_true rfl, Nat.le_of_ble_eq_true rfl⟩) [(q_bi, .inr (0, [.ref q_bi_a, .int bi_place])), (q_bi_a, .inl (cI, 3072, .inl bi_a)), (q_cd, .inr (1, [.ref q_co, .ref q_pr, .ref q_bi, .ref q_li]))] [2, 3] [0, 1, 4] rfl rfl (by decide) (by decide) (by decide) 0 rfl rfl rfl rfl hl.1 (Nat.le_of_ble_eq_true rfl) dX1_packPlain_15 ⟨Nat.zero_le _, Nat.zero_le _⟩ rfl (fun H locs hP hD hS => ?_)
        have hP : va_P D vwCl [(q_bi, .inr (0, [.ref q_bi_a, .int bi_place])), (q_bi_a, .inl (cI, 3072, .inl bi_a)), (q_cd, .inr (1, [.ref q_co, .ref q_pr, .ref q_bi, .ref q_li])), (q_co, .inr (3, [.ref q_co_a])), (q_co_a, .inl (cI, 96, .inl co_a))] H := hP
        have hD : va_D A [(q_bi, .inr (0, [.ref q_bi_a, .int bi_place])), (q_bi_a, .inl (cI, 3072, .inl bi_a)), (q_cd, .inr (1, [.ref q_co, .ref q_pr, .ref q_bi, .ref q_li])), (q_co, .inr (3, [.ref q_co_a])), (q_co_a, .inl (cI, 96, .inl co_a))] := hD
        obtain ⟨u6, hu6, hf⟩ := pr_bd hf
        refine fr_vV (As := [.int u5]) ⟨hx, hb, hml, hown, hts⟩ hK hP hD hS hA (c_X1_writeValue l D cI q_bi q_bi_a q_co q_pr q_cd q_li n u5 bi_place bi_a u6 hu6) (cwV 1 hts gX1_packPlain_X1_writeValue rfl rfl rfl (by decide +kernel) ⟨Nat.le_of_ble_eq_true rfl, Nat.le_of_ble_eq_true rfl⟩) [(q_co, .inr (3, [.ref q_co_a])), (q_co_a, .inl (cI, 96, .inl co_a))] [0, 1, 2] [3, 4] rfl rfl (by decide) (by decide) (by decide) 2 rfl rfl rfl rfl hl.1 (Nat.le_of_ble_eq_true rfl) dX1_packPlain_18 ⟨Nat.zero_le _, Nat.zero_le _⟩ rfl (fun H locs hP hD hS => ?_)
        have hP : va_P D vwCl [(q_co, .inr (3, [.ref q_co_a])), (q_co_a, .inl (cI, 96, .inl co_a)), (q_bi, .inr (0, [.ref q_bi_a, .int u6.1])), (q_bi_a, .inl (cI, 3072, .inl u6.2)), (q_cd, .inr (1, [.ref q_co, .ref q_pr, .ref q_bi, .ref q_li]))] H := hP
        have hD : va_D A [(q_co, .inr (3, [.ref q_co_a])), (q_co_a, .inl (cI, 96, .inl co_a)), (q_bi, .inr (0, [.ref q_bi_a, .int u6.1])), (q_bi_a, .inl (cI, 3072, .inl u6.2)), (q_cd, .inr (1, [.ref q_co, .ref q_pr, .ref q_bi, .ref q_li]))] := hD
        refine lv_iinc (v := (z3 + 1)) (lv' := [(3, .int (z3 + 1)), (0, .ref q_cd), (1, .int z1), (2, .int z2)]) hx hb dX1_packPlain_21 hl (k := 3) rfl rfl (by decide) rfl (fun ls hl => ?_)
        refine lv_goto (tgt := 2) hx hb dX1_packPlain_24 (by decide) ?_
        exact ih _ _ _ _ _ _ _ ls hf (hP.sub [2, 3, 0, 1, 4] rfl) (hD.sub [2, 3, 0, 1, 4] (by decide) rfl) hS (lv_sub hl [1, 2, 3, 0] rfl)
  unfold f_X1_packPlain at hf
  refine lv_iconst (v := 0) hx hb dX1_packPlain_0 (by decide) ?_
  refine lv_istore_n (lv' := [(3, .int 0), (0, .ref q_cd), (1, .int x1), (2, .int x2)]) hx hb dX1_packPlain_1 rfl hl (by decide) rfl (fun ls hl => ?_)
  exact k_2 n _ _ _ _ _ _ _ ls hf (hP.sub [0, 1, 2, 3, 4] rfl) (hD.sub [0, 1, 2, 3, 4] (by decide) rfl) hS (lv_sub hl [1, 2, 3, 0] rfl)
set_option maxHeartbeats 4000000 in
set_option maxRecDepth 100000 in
theorem c_X1_pack (l : Launch) (D : va_G) (cI : ClassId) (q_bi q_bi_a q_co q_co_a q_pr q_ru q_di q_di_a q_cd q_li : Nat) (n : Nat) (x1 : Int32) (x2 : Int32) (x3 : Int32) (bi_place : Int32) (bi_a : (Nat → Int32)) (co_a : (Nat → Int32)) (pr_firstRow : Int32) (pr_many : Int32) (pr_runCount : Int32) (pr_differentCount : Int32) (pr_least : Int32) (pr_indexWidth : Int32) (pr_frameWidth : Int32) (pr_deltaWidth : Int32) (di_a : (Nat → Int32)) (res : Int32 × (Nat → Int32)) (hf : f_X1_pack n x1 x2 x3 bi_place bi_a co_a pr_differentCount pr_least pr_indexWidth pr_frameWidth pr_deltaWidth di_a = some res) : fr_Cv l yX1_pack wsX1_pack ({ frames := 3, cells := 0, slots := 0, locals := 70 }) D [(cI, .int)] [.ref q_cd, .int x1, .int x2, .int x3] [(q_bi, .inr (0, [.ref q_bi_a, .int bi_place])), (q_bi_a, .inl (cI, 3072, .inl bi_a)), (q_co, .inr (3, [.ref q_co_a])), (q_co_a, .inl (cI, 96, .inl co_a)), (q_pr, .inr (2, [.ref q_co, .ref q_ru, .ref q_di, .int pr_firstRow, .int pr_many, .int pr_runCount, .int pr_differentCount, .int pr_least, .int pr_indexWidth, .int pr_frameWidth, .int pr_deltaWidth])), (q_di, .inr (3, [.ref q_di_a])), (q_di_a, .inl (cI, 32, .inl di_a)), (q_cd, .inr (1, [.ref q_co, .ref q_pr, .ref q_bi, .ref q_li]))] [(q_bi, .inr (0, [.ref q_bi_a, .int res.1])), (q_bi_a, .inl (cI, 3072, .inl res.2)), (q_co, .inr (3, [.ref q_co_a])), (q_co_a, .inl (cI, 96, .inl co_a)), (q_pr, .inr (2, [.ref q_co, .ref q_ru, .ref q_di, .int pr_firstRow, .int pr_many, .int pr_runCount, .int pr_differentCount, .int pr_least, .int pr_indexWidth, .int pr_frameWidth, .int pr_deltaWidth])), (q_di, .inr (3, [.ref q_di_a])), (q_di_a, .inl (cI, 32, .inl di_a)), (q_cd, .inr (1, [.ref q_co, .ref q_pr, .ref q_bi, .ref q_li]))] := by
  refine fr_open_v (cc := cX1_pack) (maxL := 4) (by decide +kernel) rfl (Nat.le_of_ble_eq_true rfl) ?_
  intro p e s m below meth c A Q ls hx hb hml hown hts hA hK hP hD hS hl hret
  have hown : s.vm.findClass RX1 = some m.cls := hown
  have hl : lv_has ls 4 [(0, .ref q_cd), (1, .int x1), (2, .int x2), (3, .int x3)] := hl
  have hin1 : ∀ w ∈ u_ws RX1 TX1 4, w ∈ wsX1_pack := fun _ h9 => List.mem_cons_of_mem _ (List.mem_append_left _ (List.mem_append_left _ (List.mem_append_left _ (List.mem_append_right _ h9))))
  unfold f_X1_pack at hf
  refine lv_iload_n hx hb dX1_pack_0 rfl (lv_at hl 1 rfl) ?_
  by_cases c13 : x1 = 0
  · have hf := pr_pos hf c13
    refine lv_tableIn (off := 35) (tgt := 36) hx hb dX1_pack_1 (by rw [c13]; decide) (by rw [c13]; decide) (by rw [c13]; rfl) (by decide) ?_
    refine lv_aload_n hx hb dX1_pack_36 rfl (lv_at hl 0 rfl) ?_
    refine lv_iload_n hx hb dX1_pack_37 rfl (lv_at hl 2 rfl) ?_
    refine lv_iload_n hx hb dX1_pack_38 rfl (lv_at hl 3 rfl) ?_
    obtain ⟨u14, hu14, hf⟩ := pr_bd hf
    refine fr_vV (As := [.int x2, .int x3]) ⟨hx, hb, hml, hown, hts⟩ hK hP hD hS hA (c_X1_packPlain l D cI q_bi q_bi_a q_co q_co_a q_pr q_cd q_li n x2 x3 bi_place bi_a co_a u14 hu14) (cwV 2 hts gX1_pack_X1_packPlain rfl rfl rfl (by decide +kernel) ⟨Nat.le_of_ble_eq_true rfl, Nat.le_of_ble_eq_true rfl⟩) [(q_pr, .inr (2, [.ref q_co, .ref q_ru, .ref q_di, .int pr_firstRow, .int pr_many, .int pr_runCount, .int pr_differentCount, .int pr_least, .int pr_indexWidth, .int pr_frameWidth, .int pr_deltaWidth])), (q_di, .inr (3, [.ref q_di_a])), (q_di_a, .inl (cI, 32, .inl di_a))] [0, 1, 2, 3, 7] [4, 5, 6] rfl rfl (by decide) (by decide) (by decide) 4 rfl rfl rfl rfl hl.1 (Nat.le_of_ble_eq_true rfl) dX1_pack_39 ⟨Nat.zero_le _, Nat.zero_le _⟩ rfl (fun H locs hP hD hS => ?_)
    have hP : va_P D vwCl [(q_pr, .inr (2, [.ref q_co, .ref q_ru, .ref q_di, .int pr_firstRow, .int pr_many, .int pr_runCount, .int pr_differentCount, .int pr_least, .int pr_indexWidth, .int pr_frameWidth, .int pr_deltaWidth])), (q_di, .inr (3, [.ref q_di_a])), (q_di_a, .inl (cI, 32, .inl di_a)), (q_bi, .inr (0, [.ref q_bi_a, .int u14.1])), (q_bi_a, .inl (cI, 3072, .inl u14.2)), (q_co, .inr (3, [.ref q_co_a])), (q_co_a, .inl (cI, 96, .inl co_a)), (q_cd, .inr (1, [.ref q_co, .ref q_pr, .ref q_bi, .ref q_li]))] H := hP
    have hD : va_D A [(q_pr, .inr (2, [.ref q_co, .ref q_ru, .ref q_di, .int pr_firstRow, .int pr_many, .int pr_runCount, .int pr_differentCount, .int pr_least, .int pr_indexWidth, .int pr_frameWidth, .int pr_deltaWidth])), (q_di, .inr (3, [.ref q_di_a])), (q_di_a, .inl (cI, 32, .inl di_a)), (q_bi, .inr (0, [.ref q_bi_a, .int u14.1])), (q_bi_a, .inl (cI, 3072, .inl u14.2)), (q_co, .inr (3, [.ref q_co_a])), (q_co_a, .inl (cI, 96, .inl co_a)), (q_cd, .inr (1, [.ref q_co, .ref q_pr, .ref q_bi, .ref q_li]))] := hD
    refine lv_goto (tgt := 93) hx hb dX1_pack_42 (by decide) ?_
    obtain rfl := Option.some.inj hf
    exact hret _ _ _ _ dX1_pack_93 (hP.sub [3, 4, 5, 6, 0, 1, 2, 7] rfl) (hD.sub [3, 4, 5, 6, 0, 1, 2, 7] (by decide) rfl) hS
  · have hf := pr_neg hf c13
    by_cases c15 : x1 = 1
    · have hf := pr_pos hf c15
      refine lv_tableIn (off := 44) (tgt := 45) hx hb dX1_pack_1 (by rw [c15]; decide) (by rw [c15]; decide) (by rw [c15]; rfl) (by decide) ?_
      refine lv_aload_n hx hb dX1_pack_45 rfl (lv_at hl 0 rfl) ?_
      refine lv_aload_n hx hb dX1_pack_46 rfl (lv_at hl 0 rfl) ?_
      refine va_get (D := D) (ci := 1) (v := .ref q_co) (C := RX1) (T := TX1) (N := 4) hx hb hts hin1 hown hK hP 7 rfl rfl 0 (by decide) (hts (.fieldLink RX1 9 "ColumnChooser$Coder" "column" "LColumnChooser$Row;") (List.mem_of_getElem? (i := 1) rfl)) (fun _ h9 => h9) rfl dX1_pack_47 ?_
      refine lv_iload_n hx hb dX1_pack_50 rfl (lv_at hl 2 rfl) ?_
      obtain ⟨u16, hu16, hf⟩ := pr_bd hf
      refine fr_iV (As := [.int x2]) ⟨hx, hb, hml, hown, hts⟩ hK hP hD hS hA (c_X3_get l D cI q_co q_co_a 96 n x2 co_a u16 hu16) (cwV 1 hts gX1_pack_X3_get rfl rfl rfl (by decide +kernel) ⟨Nat.le_of_ble_eq_true rfl, Nat.le_of_ble_eq_true rfl⟩) [(q_bi, .inr (0, [.ref q_bi_a, .int bi_place])), (q_bi_a, .inl (cI, 3072, .inl bi_a)), (q_pr, .inr (2, [.ref q_co, .ref q_ru, .ref q_di, .int pr_firstRow, .int pr_many, .int pr_runCount, .int pr_differentCount, .int pr_least, .int pr_indexWidth, .int pr_frameWidth, .int pr_deltaWidth])), (q_di, .inr (3, [.ref q_di_a])), (q_di_a, .inl (cI, 32, .inl di_a)), (q_cd, .inr (1, [.ref q_co, .ref q_pr, .ref q_bi, .ref q_li]))] [2, 3] [0, 1, 4, 5, 6, 7] rfl rfl (by decide) (by decide) (by decide) 0 rfl rfl rfl rfl hl.1 (Nat.le_of_ble_eq_true rfl) dX1_pack_51 ⟨Nat.zero_le _, Nat.zero_le _⟩ rfl (fun H locs hP hD hS => ?_)
      have hP : va_P D vwCl [(q_bi, .inr (0, [.ref q_bi_a, .int bi_place])), (q_bi_a, .inl (cI, 3072, .inl bi_a)), (q_pr, .inr (2, [.ref q_co, .ref q_ru, .ref q_di, .int pr_firstRow, .int pr_many, .int pr_runCount, .int pr_differentCount, .int pr_least, .int pr_indexWidth, .int pr_frameWidth, .int pr_deltaWidth])), (q_di, .inr (3, [.ref q_di_a])), (q_di_a, .inl (cI, 32, .inl di_a)), (q_cd, .inr (1, [.ref q_co, .ref q_pr, .ref q_bi, .ref q_li])), (q_co, .inr (3, [.ref q_co_a])), (q_co_a, .inl (cI, 96, .inl co_a))] H := hP
      have hD : va_D A [(q_bi, .inr (0, [.ref q_bi_a, .int bi_place])), (q_bi_a, .inl (cI, 3072, .inl bi_a)), (q_pr, .inr (2, [.ref q_co, .ref q_ru, .ref q_di, .int pr_firstRow, .int pr_many, .int pr_runCount, .int pr_differentCount, .int pr_least, .int pr_indexWidth, .int pr_frameWidth, .int pr_deltaWidth])), (q_di, .inr (3, [.ref q_di_a])), (q_di_a, .inl (cI, 32, .inl di_a)), (q_cd, .inr (1, [.ref q_co, .ref q_pr, .ref q_bi, .ref q_li])), (q_co, .inr (3, [.ref q_co_a])), (q_co_a, .inl (cI, 96, .inl co_a))] := hD
      obtain ⟨u17, hu17, hf⟩ := pr_bd hf
      refine fr_vV (As := [.int u16]) ⟨hx, hb, hml, hown, hts⟩ hK hP hD hS hA (c_X1_writeValue l D cI q_bi q_bi_a q_co q_pr q_cd q_li n u16 bi_place bi_a u17 hu17) (cwV 1 hts gX1_pack_X1_writeValue rfl rfl rfl (by decide +kernel) ⟨Nat.le_of_ble_eq_true rfl, Nat.le_of_ble_eq_true rfl⟩) [(q_pr, .inr (2, [.ref q_co, .ref q_ru, .ref q_di, .int pr_firstRow, .int pr_many, .int pr_runCount, .int pr_differentCount, .int pr_least, .int pr_indexWidth, .int pr_frameWidth, .int pr_deltaWidth])), (q_di, .inr (3, [.ref q_di_a])), (q_di_a, .inl (cI, 32, .inl di_a)), (q_co, .inr (3, [.ref q_co_a])), (q_co_a, .inl (cI, 96, .inl co_a))] [0, 1, 5] [2, 3, 4, 6, 7] rfl rfl (by decide) (by decide) (by decide) 2 rfl rfl rfl rfl hl.1 (Nat.le_of_ble_eq_true rfl) dX1_pack_54 ⟨Nat.zero_le _, Nat.zero_le _⟩ rfl (fun H locs hP hD hS => ?_)
      have hP : va_P D vwCl [(q_pr, .inr (2, [.ref q_co, .ref q_ru, .ref q_di, .int pr_firstRow, .int pr_many, .int pr_runCount, .int pr_differentCount, .int pr_least, .int pr_indexWidth, .int pr_frameWidth, .int pr_deltaWidth])), (q_di, .inr (3, [.ref q_di_a])), (q_di_a, .inl (cI, 32, .inl di_a)), (q_co, .inr (3, [.ref q_co_a])), (q_co_a, .inl (cI, 96, .inl co_a)), (q_bi, .inr (0, [.ref q_bi_a, .int u17.1])), (q_bi_a, .inl (cI, 3072, .inl u17.2)), (q_cd, .inr (1, [.ref q_co, .ref q_pr, .ref q_bi, .ref q_li]))] H := hP
      have hD : va_D A [(q_pr, .inr (2, [.ref q_co, .ref q_ru, .ref q_di, .int pr_firstRow, .int pr_many, .int pr_runCount, .int pr_differentCount, .int pr_least, .int pr_indexWidth, .int pr_frameWidth, .int pr_deltaWidth])), (q_di, .inr (3, [.ref q_di_a])), (q_di_a, .inl (cI, 32, .inl di_a)), (q_co, .inr (3, [.ref q_co_a])), (q_co_a, .inl (cI, 96, .inl co_a)), (q_bi, .inr (0, [.ref q_bi_a, .int u17.1])), (q_bi_a, .inl (cI, 3072, .inl u17.2)), (q_cd, .inr (1, [.ref q_co, .ref q_pr, .ref q_bi, .ref q_li]))] := hD
      refine lv_goto (tgt := 93) hx hb dX1_pack_57 (by decide) ?_
      obtain rfl := Option.some.inj hf
      exact hret _ _ _ _ dX1_pack_93 (hP.sub [5, 6, 3, 4, 0, 1, 2, 7] rfl) (hD.sub [5, 6, 3, 4, 0, 1, 2, 7] (by decide) rfl) hS
    · have hf := pr_neg hf c15
      by_cases c18 : x1 = 2
      · have hf := pr_pos hf c18
        refine lv_tableIn (off := 59) (tgt := 60) hx hb dX1_pack_1 (by rw [c18]; decide) (by rw [c18]; decide) (by rw [c18]; rfl) (by decide) ?_
        refine lv_aload_n hx hb dX1_pack_60 rfl (lv_at hl 0 rfl) ?_
        refine lv_iload_n hx hb dX1_pack_61 rfl (lv_at hl 2 rfl) ?_
        refine lv_iload_n hx hb dX1_pack_62 rfl (lv_at hl 3 rfl) ?_
        obtain ⟨u19, hu19, hf⟩ := pr_bd hf
        refine fr_vV (As := [.int x2, .int x3]) ⟨hx, hb, hml, hown, hts⟩ hK hP hD hS hA (c_X1_packRuns l D cI q_bi q_bi_a q_co q_co_a q_pr q_cd q_li n x2 x3 bi_place bi_a co_a u19 hu19) (cwV 2 hts gX1_pack_X1_packRuns rfl rfl rfl (by decide +kernel) ⟨Nat.le_of_ble_eq_true rfl, Nat.le_of_ble_eq_true rfl⟩) [(q_pr, .inr (2, [.ref q_co, .ref q_ru, .ref q_di, .int pr_firstRow, .int pr_many, .int pr_runCount, .int pr_differentCount, .int pr_least, .int pr_indexWidth, .int pr_frameWidth, .int pr_deltaWidth])), (q_di, .inr (3, [.ref q_di_a])), (q_di_a, .inl (cI, 32, .inl di_a))] [0, 1, 2, 3, 7] [4, 5, 6] rfl rfl (by decide) (by decide) (by decide) 4 rfl rfl rfl rfl hl.1 (Nat.le_of_ble_eq_true rfl) dX1_pack_63 ⟨Nat.zero_le _, Nat.zero_le _⟩ rfl (fun H locs hP hD hS => ?_)
        have hP : va_P D vwCl [(q_pr, .inr (2, [.ref q_co, .ref q_ru, .ref q_di, .int pr_firstRow, .int pr_many, .int pr_runCount, .int pr_differentCount, .int pr_least, .int pr_indexWidth, .int pr_frameWidth, .int pr_deltaWidth])), (q_di, .inr (3, [.ref q_di_a])), (q_di_a, .inl (cI, 32, .inl di_a)), (q_bi, .inr (0, [.ref q_bi_a, .int u19.1])), (q_bi_a, .inl (cI, 3072, .inl u19.2)), (q_co, .inr (3, [.ref q_co_a])), (q_co_a, .inl (cI, 96, .inl co_a)), (q_cd, .inr (1, [.ref q_co, .ref q_pr, .ref q_bi, .ref q_li]))] H := hP
        have hD : va_D A [(q_pr, .inr (2, [.ref q_co, .ref q_ru, .ref q_di, .int pr_firstRow, .int pr_many, .int pr_runCount, .int pr_differentCount, .int pr_least, .int pr_indexWidth, .int pr_frameWidth, .int pr_deltaWidth])), (q_di, .inr (3, [.ref q_di_a])), (q_di_a, .inl (cI, 32, .inl di_a)), (q_bi, .inr (0, [.ref q_bi_a, .int u19.1])), (q_bi_a, .inl (cI, 3072, .inl u19.2)), (q_co, .inr (3, [.ref q_co_a])), (q_co_a, .inl (cI, 96, .inl co_a)), (q_cd, .inr (1, [.ref q_co, .ref q_pr, .ref q_bi, .ref q_li]))] := hD
        refine lv_goto (tgt := 93) hx hb dX1_pack_66 (by decide) ?_
        obtain rfl := Option.some.inj hf
        exact hret _ _ _ _ dX1_pack_93 (hP.sub [3, 4, 5, 6, 0, 1, 2, 7] rfl) (hD.sub [3, 4, 5, 6, 0, 1, 2, 7] (by decide) rfl) hS
      · have hf := pr_neg hf c18
        by_cases c20 : x1 = 3
        · have hf := pr_pos hf c20
          refine lv_tableIn (off := 68) (tgt := 69) hx hb dX1_pack_1 (by rw [c20]; decide) (by rw [c20]; decide) (by rw [c20]; rfl) (by decide) ?_
          refine lv_aload_n hx hb dX1_pack_69 rfl (lv_at hl 0 rfl) ?_
          refine lv_iload_n hx hb dX1_pack_70 rfl (lv_at hl 2 rfl) ?_
          refine lv_iload_n hx hb dX1_pack_71 rfl (lv_at hl 3 rfl) ?_
          obtain ⟨u21, hu21, hf⟩ := pr_bd hf
          refine fr_vV (As := [.int x2, .int x3]) ⟨hx, hb, hml, hown, hts⟩ hK hP hD hS hA (c_X1_packDictionary l D cI q_bi q_bi_a q_co q_co_a q_pr q_ru q_di q_di_a q_cd q_li n x2 x3 bi_place bi_a co_a pr_firstRow pr_many pr_runCount pr_differentCount pr_least pr_indexWidth pr_frameWidth pr_deltaWidth di_a u21 hu21) (cwV 2 hts gX1_pack_X1_packDictionary rfl rfl rfl (by decide +kernel) ⟨Nat.le_of_ble_eq_true rfl, Nat.le_of_ble_eq_true rfl⟩) [] [0, 1, 2, 3, 4, 5, 6, 7] [] rfl rfl (by decide) (by decide) (by decide) 7 rfl rfl rfl rfl hl.1 (Nat.le_of_ble_eq_true rfl) dX1_pack_72 ⟨Nat.zero_le _, Nat.zero_le _⟩ rfl (fun H locs hP hD hS => ?_)
          have hP : va_P D vwCl [(q_bi, .inr (0, [.ref q_bi_a, .int u21.1])), (q_bi_a, .inl (cI, 3072, .inl u21.2)), (q_co, .inr (3, [.ref q_co_a])), (q_co_a, .inl (cI, 96, .inl co_a)), (q_pr, .inr (2, [.ref q_co, .ref q_ru, .ref q_di, .int pr_firstRow, .int pr_many, .int pr_runCount, .int pr_differentCount, .int pr_least, .int pr_indexWidth, .int pr_frameWidth, .int pr_deltaWidth])), (q_di, .inr (3, [.ref q_di_a])), (q_di_a, .inl (cI, 32, .inl di_a)), (q_cd, .inr (1, [.ref q_co, .ref q_pr, .ref q_bi, .ref q_li]))] H := hP
          have hD : va_D A [(q_bi, .inr (0, [.ref q_bi_a, .int u21.1])), (q_bi_a, .inl (cI, 3072, .inl u21.2)), (q_co, .inr (3, [.ref q_co_a])), (q_co_a, .inl (cI, 96, .inl co_a)), (q_pr, .inr (2, [.ref q_co, .ref q_ru, .ref q_di, .int pr_firstRow, .int pr_many, .int pr_runCount, .int pr_differentCount, .int pr_least, .int pr_indexWidth, .int pr_frameWidth, .int pr_deltaWidth])), (q_di, .inr (3, [.ref q_di_a])), (q_di_a, .inl (cI, 32, .inl di_a)), (q_cd, .inr (1, [.ref q_co, .ref q_pr, .ref q_bi, .ref q_li]))] := hD
          refine lv_goto (tgt := 93) hx hb dX1_pack_75 (by decide) ?_
          obtain rfl := Option.some.inj hf
          exact hret _ _ _ _ dX1_pack_93 (hP.sub [0, 1, 2, 3, 4, 5, 6, 7] rfl) (hD.sub [0, 1, 2, 3, 4, 5, 6, 7] (by decide) rfl) hS
        · have hf := pr_neg hf c20
          by_cases c22 : x1 = 4
          · have hf := pr_pos hf c22
            refine lv_tableIn (off := 77) (tgt := 78) hx hb dX1_pack_1 (by rw [c22]; decide) (by rw [c22]; decide) (by rw [c22]; rfl) (by decide) ?_
            refine lv_aload_n hx hb dX1_pack_78 rfl (lv_at hl 0 rfl) ?_
            refine lv_iload_n hx hb dX1_pack_79 rfl (lv_at hl 2 rfl) ?_
            refine lv_iload_n hx hb dX1_pack_80 rfl (lv_at hl 3 rfl) ?_
            obtain ⟨u23, hu23, hf⟩ := pr_bd hf
            refine fr_vV (As := [.int x2, .int x3]) ⟨hx, hb, hml, hown, hts⟩ hK hP hD hS hA (c_X1_packFrame l D cI q_bi q_bi_a q_co q_co_a q_pr q_ru q_di q_cd q_li n x2 x3 bi_place bi_a co_a pr_firstRow pr_many pr_runCount pr_differentCount pr_least pr_indexWidth pr_frameWidth pr_deltaWidth u23 hu23) (cwV 2 hts gX1_pack_X1_packFrame rfl rfl rfl (by decide +kernel) ⟨Nat.le_of_ble_eq_true rfl, Nat.le_of_ble_eq_true rfl⟩) [(q_di, .inr (3, [.ref q_di_a])), (q_di_a, .inl (cI, 32, .inl di_a))] [0, 1, 2, 3, 4, 7] [5, 6] rfl rfl (by decide) (by decide) (by decide) 5 rfl rfl rfl rfl hl.1 (Nat.le_of_ble_eq_true rfl) dX1_pack_81 ⟨Nat.zero_le _, Nat.zero_le _⟩ rfl (fun H locs hP hD hS => ?_)
            have hP : va_P D vwCl [(q_di, .inr (3, [.ref q_di_a])), (q_di_a, .inl (cI, 32, .inl di_a)), (q_bi, .inr (0, [.ref q_bi_a, .int u23.1])), (q_bi_a, .inl (cI, 3072, .inl u23.2)), (q_co, .inr (3, [.ref q_co_a])), (q_co_a, .inl (cI, 96, .inl co_a)), (q_pr, .inr (2, [.ref q_co, .ref q_ru, .ref q_di, .int pr_firstRow, .int pr_many, .int pr_runCount, .int pr_differentCount, .int pr_least, .int pr_indexWidth, .int pr_frameWidth, .int pr_deltaWidth])), (q_cd, .inr (1, [.ref q_co, .ref q_pr, .ref q_bi, .ref q_li]))] H := hP
            have hD : va_D A [(q_di, .inr (3, [.ref q_di_a])), (q_di_a, .inl (cI, 32, .inl di_a)), (q_bi, .inr (0, [.ref q_bi_a, .int u23.1])), (q_bi_a, .inl (cI, 3072, .inl u23.2)), (q_co, .inr (3, [.ref q_co_a])), (q_co_a, .inl (cI, 96, .inl co_a)), (q_pr, .inr (2, [.ref q_co, .ref q_ru, .ref q_di, .int pr_firstRow, .int pr_many, .int pr_runCount, .int pr_differentCount, .int pr_least, .int pr_indexWidth, .int pr_frameWidth, .int pr_deltaWidth])), (q_cd, .inr (1, [.ref q_co, .ref q_pr, .ref q_bi, .ref q_li]))] := hD
            refine lv_goto (tgt := 93) hx hb dX1_pack_84 (by decide) ?_
            obtain rfl := Option.some.inj hf
            exact hret _ _ _ _ dX1_pack_93 (hP.sub [2, 3, 4, 5, 6, 0, 1, 7] rfl) (hD.sub [2, 3, 4, 5, 6, 0, 1, 7] (by decide) rfl) hS
          · have hf := pr_neg hf c22
            refine lv_tableOut (tgt := 87) hx hb dX1_pack_1 (by have n0 := lv_neT (a := 0) c13 (by decide); have n1 := lv_neT (a := 1) c15 (by decide); have n2 := lv_neT (a := 2) c18 (by decide); have n3 := lv_neT (a := 3) c20 (by decide); have n4 := lv_neT (a := 4) c22 (by decide); omega) (by decide) ?_
            refine lv_aload_n hx hb dX1_pack_87 rfl (lv_at hl 0 rfl) ?_
            refine lv_iload_n hx hb dX1_pack_88 rfl (lv_at hl 2 rfl) ?_
            refine lv_iload_n hx hb dX1_pack_89 rfl (lv_at hl 3 rfl) ?_
            obtain ⟨u24, hu24, hf⟩ := pr_bd hf
            refine fr_vV (As := [.int x2, .int x3]) ⟨hx, hb, hml, hown, hts⟩ hK hP hD hS hA (c_X1_packDelta l D cI q_bi q_bi_a q_co q_co_a q_pr q_ru q_di q_cd q_li n x2 x3 bi_place bi_a co_a pr_firstRow pr_many pr_runCount pr_differentCount pr_least pr_indexWidth pr_frameWidth pr_deltaWidth u24 hu24) (cwV 2 hts gX1_pack_X1_packDelta rfl rfl rfl (by decide +kernel) ⟨Nat.le_of_ble_eq_true rfl, Nat.le_of_ble_eq_true rfl⟩) [(q_di, .inr (3, [.ref q_di_a])), (q_di_a, .inl (cI, 32, .inl di_a))] [0, 1, 2, 3, 4, 7] [5, 6] rfl rfl (by decide) (by decide) (by decide) 5 rfl rfl rfl rfl hl.1 (Nat.le_of_ble_eq_true rfl) dX1_pack_90 ⟨Nat.zero_le _, Nat.zero_le _⟩ rfl (fun H locs hP hD hS => ?_)
            have hP : va_P D vwCl [(q_di, .inr (3, [.ref q_di_a])), (q_di_a, .inl (cI, 32, .inl di_a)), (q_bi, .inr (0, [.ref q_bi_a, .int u24.1])), (q_bi_a, .inl (cI, 3072, .inl u24.2)), (q_co, .inr (3, [.ref q_co_a])), (q_co_a, .inl (cI, 96, .inl co_a)), (q_pr, .inr (2, [.ref q_co, .ref q_ru, .ref q_di, .int pr_firstRow, .int pr_many, .int pr_runCount, .int pr_differentCount, .int pr_least, .int pr_indexWidth, .int pr_frameWidth, .int pr_deltaWidth])), (q_cd, .inr (1, [.ref q_co, .ref q_pr, .ref q_bi, .ref q_li]))] H := hP
            have hD : va_D A [(q_di, .inr (3, [.ref q_di_a])), (q_di_a, .inl (cI, 32, .inl di_a)), (q_bi, .inr (0, [.ref q_bi_a, .int u24.1])), (q_bi_a, .inl (cI, 3072, .inl u24.2)), (q_co, .inr (3, [.ref q_co_a])), (q_co_a, .inl (cI, 96, .inl co_a)), (q_pr, .inr (2, [.ref q_co, .ref q_ru, .ref q_di, .int pr_firstRow, .int pr_many, .int pr_runCount, .int pr_differentCount, .int pr_least, .int pr_indexWidth, .int pr_frameWidth, .int pr_deltaWidth])), (q_cd, .inr (1, [.ref q_co, .ref q_pr, .ref q_bi, .ref q_li]))] := hD
            obtain rfl := Option.some.inj hf
            exact hret _ _ _ _ dX1_pack_93 (hP.sub [2, 3, 4, 5, 6, 0, 1, 7] rfl) (hD.sub [2, 3, 4, 5, 6, 0, 1, 7] (by decide) rfl) hS
set_option maxHeartbeats 4000000 in
set_option maxRecDepth 100000 in
theorem c_X1_readValue (l : Launch) (D : va_G) (cI : ClassId) (q_bi q_bi_a q_co q_pr q_cd q_li : Nat) (n : Nat) (bi_place : Int32) (bi_a : (Nat → Int32)) (res : Int32 × Int32) (hf : f_X1_readValue n bi_place bi_a = some res) : fr_Ci l yX1_readValue wsX1_readValue ({ frames := 1, cells := 0, slots := 0, locals := 24 }) D [(cI, .int)] [.ref q_cd] [(q_bi, .inr (0, [.ref q_bi_a, .int bi_place])), (q_bi_a, .inl (cI, 3072, .inl bi_a)), (q_cd, .inr (1, [.ref q_co, .ref q_pr, .ref q_bi, .ref q_li]))] res.1 [(q_bi, .inr (0, [.ref q_bi_a, .int res.2])), (q_bi_a, .inl (cI, 3072, .inl bi_a)), (q_cd, .inr (1, [.ref q_co, .ref q_pr, .ref q_bi, .ref q_li]))] := by
  refine fr_open_i (cc := cX1_readValue) (maxL := 1) (ret := some .int) (by decide +kernel) rfl (Nat.le_of_ble_eq_true rfl) ⟨.int, rfl, vp_nar_int _⟩ ?_
  intro p e s m below meth c A Q ls hx hb hml hown hts hA hK hP hD hS hl hret
  have hown : s.vm.findClass RX1 = some m.cls := hown
  have hl : lv_has ls 1 [(0, .ref q_cd)] := hl
  have hin1 : ∀ w ∈ u_ws RX1 TX1 4, w ∈ wsX1_readValue := fun _ h9 => List.mem_cons_of_mem _ (List.mem_append_left _ (List.mem_append_right _ h9))
  unfold f_X1_readValue at hf
  refine lv_aload_n hx hb dX1_readValue_0 rfl (lv_at hl 0 rfl) ?_
  refine va_get (D := D) (ci := 1) (v := .ref q_bi) (C := RX1) (T := TX1) (N := 4) hx hb hts hin1 hown hK hP 2 rfl rfl 2 (by decide) (hts (.fieldLink RX1 19 "ColumnChooser$Coder" "bits" "LColumnChooser$Bits;") (List.mem_of_getElem? (i := 1) rfl)) (fun _ h9 => h9) rfl dX1_readValue_1 ?_
  refine lv_bipush (v := 18) hx hb dX1_readValue_4 (by decide) ?_
  obtain ⟨u2, hu2, hf⟩ := pr_bd hf
  refine fr_iV (As := [.int 18]) ⟨hx, hb, hml, hown, hts⟩ hK hP hD hS hA (c_X0_read l D cI q_bi q_bi_a n 18 bi_place bi_a u2 hu2) (cwV 1 hts gX1_readValue_X0_read rfl rfl rfl (by decide +kernel) ⟨Nat.le_of_ble_eq_true rfl, Nat.le_of_ble_eq_true rfl⟩) [(q_cd, .inr (1, [.ref q_co, .ref q_pr, .ref q_bi, .ref q_li]))] [0, 1] [2] rfl rfl (by decide) (by decide) (by decide) 0 rfl rfl rfl rfl hl.1 (Nat.le_of_ble_eq_true rfl) dX1_readValue_6 ⟨Nat.zero_le _, Nat.zero_le _⟩ rfl (fun H locs hP hD hS => ?_)
  have hP : va_P D vwCl [(q_cd, .inr (1, [.ref q_co, .ref q_pr, .ref q_bi, .ref q_li])), (q_bi, .inr (0, [.ref q_bi_a, .int u2.2])), (q_bi_a, .inl (cI, 3072, .inl bi_a))] H := hP
  have hD : va_D A [(q_cd, .inr (1, [.ref q_co, .ref q_pr, .ref q_bi, .ref q_li])), (q_bi, .inr (0, [.ref q_bi_a, .int u2.2])), (q_bi_a, .inl (cI, 3072, .inl bi_a))] := hD
  refine lv_ldc (v := 131072) hx hb hown (hts (.constant RX1 86 (131072)) (List.mem_of_getElem? (i := 2) rfl)) dX1_readValue_9 ?_
  refine lv_isub hx hb dX1_readValue_11 ?_
  obtain rfl := Option.some.inj hf
  exact hret _ _ _ _ dX1_readValue_12 (hP.sub [1, 2, 0] rfl) (hD.sub [1, 2, 0] (by decide) rfl) hS
set_option maxHeartbeats 4000000 in
set_option maxRecDepth 100000 in
theorem c_X1_unfold (l : Launch) (D : va_G) (cI : ClassId) (n : Nat) (x0 : Int32) (res : Int32) (hf : f_X1_unfold n x0 = some res) : fr_Ci l yX1_unfold wsX1_unfold ({ frames := 0, cells := 0, slots := 0, locals := 0 }) D [(cI, .int)] [.int x0] [] res [] := by
  refine fr_open_i (cc := cX1_unfold) (maxL := 1) (ret := some .int) (by decide +kernel) rfl (Nat.le_of_ble_eq_true rfl) ⟨.int, rfl, vp_nar_int _⟩ ?_
  intro p e s m below meth c A Q ls hx hb hml hown hts hA hK hP hD hS hl hret
  have hown : s.vm.findClass RX1 = some m.cls := hown
  have hl : lv_has ls 1 [(0, .int x0)] := hl
  unfold f_X1_unfold at hf
  refine lv_iload_n hx hb dX1_unfold_0 rfl (lv_at hl 0 rfl) ?_
  refine lv_iconst (v := 1) hx hb dX1_unfold_1 (by decide) ?_
  refine lv_iand hx hb dX1_unfold_2 ?_
  refine lv_if_ne (tgt := 12) hx hb dX1_unfold_3 (by decide) (fun c4 => ?_) (fun c4 => ?_)
  · have hf := pr_neg hf c4
    refine lv_iload_n hx hb dX1_unfold_12 rfl (lv_at hl 0 rfl) ?_
    refine lv_iconst (v := 2) hx hb dX1_unfold_13 (by decide) ?_
    obtain ⟨v5, hv5, hf⟩ := pr_bd hf
    refine fr_dv hx hb hv5 dX1_unfold_14 ?_
    refine lv_ineg hx hb dX1_unfold_15 ?_
    refine lv_iconst (v := 1) hx hb dX1_unfold_16 (by decide) ?_
    refine lv_isub hx hb dX1_unfold_17 ?_
    obtain rfl := Option.some.inj hf
    exact hret _ _ _ _ dX1_unfold_18 (hP.sub [] rfl) (hD.sub [] (by decide) rfl) hS
  · have hf := pr_pos hf c4
    refine lv_iload_n hx hb dX1_unfold_6 rfl (lv_at hl 0 rfl) ?_
    refine lv_iconst (v := 2) hx hb dX1_unfold_7 (by decide) ?_
    obtain ⟨v6, hv6, hf⟩ := pr_bd hf
    refine fr_dv hx hb hv6 dX1_unfold_8 ?_
    refine lv_goto (tgt := 18) hx hb dX1_unfold_9 (by decide) ?_
    obtain rfl := Option.some.inj hf
    exact hret _ _ _ _ dX1_unfold_18 (hP.sub [] rfl) (hD.sub [] (by decide) rfl) hS
set_option maxHeartbeats 4000000 in
set_option maxRecDepth 100000 in
theorem c_X1_unpackDelta (l : Launch) (D : va_G) (cI : ClassId) (q_bi q_bi_a q_co q_co_a q_pr q_cd q_li : Nat) (n : Nat) (x1 : Int32) (x2 : Int32) (bi_place : Int32) (bi_a : (Nat → Int32)) (co_a : (Nat → Int32)) (res : Int32 × (Nat → Int32)) (hf : f_X1_unpackDelta n x1 x2 bi_place bi_a co_a = some res) : fr_Cv l yX1_unpackDelta wsX1_unpackDelta ({ frames := 2, cells := 0, slots := 0, locals := 44 }) D [(cI, .int)] [.ref q_cd, .int x1, .int x2] [(q_bi, .inr (0, [.ref q_bi_a, .int bi_place])), (q_bi_a, .inl (cI, 3072, .inl bi_a)), (q_co, .inr (3, [.ref q_co_a])), (q_co_a, .inl (cI, 96, .inl co_a)), (q_cd, .inr (1, [.ref q_co, .ref q_pr, .ref q_bi, .ref q_li]))] [(q_bi, .inr (0, [.ref q_bi_a, .int res.1])), (q_bi_a, .inl (cI, 3072, .inl bi_a)), (q_co, .inr (3, [.ref q_co_a])), (q_co_a, .inl (cI, 96, .inl res.2)), (q_cd, .inr (1, [.ref q_co, .ref q_pr, .ref q_bi, .ref q_li]))] := by
  refine fr_open_v (cc := cX1_unpackDelta) (maxL := 6) (by decide +kernel) rfl (Nat.le_of_ble_eq_true rfl) ?_
  intro p e s m below meth c A Q ls hx hb hml hown hts hA hK hP hD hS hl hret
  have hown : s.vm.findClass RX1 = some m.cls := hown
  have hl : lv_has ls 6 [(0, .ref q_cd), (1, .int x1), (2, .int x2)] := hl
  have hin1 : ∀ w ∈ u_ws RX1 TX1 4, w ∈ wsX1_unpackDelta := fun _ h9 => List.mem_cons_of_mem _ (List.mem_append_left _ (List.mem_append_left _ (List.mem_append_right _ h9)))
  have k_27 : ∀ (n : Nat), (∀ (z1 : Int32) (z2 : Int32) (z3 : Int32) (z4 : Int32) (z5 : Int32) (bi_place : Int32) (co_a : (Nat → Int32)) (H : Heap) (locs : List Loc) (ls : Array Slot), f_X1_unpackDelta_27 n z1 z2 z3 z4 z5 bi_place bi_a co_a = some res → va_P D vwCl [(q_bi, .inr (0, [.ref q_bi_a, .int bi_place])), (q_bi_a, .inl (cI, 3072, .inl bi_a)), (q_co, .inr (3, [.ref q_co_a])), (q_co_a, .inl (cI, 96, .inl co_a)), (q_cd, .inr (1, [.ref q_co, .ref q_pr, .ref q_bi, .ref q_li]))] H → va_D A [(q_bi, .inr (0, [.ref q_bi_a, .int bi_place])), (q_bi_a, .inl (cI, 3072, .inl bi_a)), (q_co, .inr (3, [.ref q_co_a])), (q_co_a, .inl (cI, 96, .inl co_a)), (q_cd, .inr (1, [.ref q_co, .ref q_pr, .ref q_bi, .ref q_li]))] → va_S A s.heap H locs → lv_has ls 6 [(0, .ref q_cd), (1, .int z1), (2, .int z2), (3, .int z3), (4, .int z4), (5, .int z5)] → W p l e ({ frames := 2, cells := 0, slots := 0, locals := 44 }) s m ([.ref q_cd, .int x1, .int x2] : List Value).toArray below meth c H locs 0 0 Q (F0 m 27 ls [])) := by
    intro n
    induction n with
    | zero =>
      intro z1 z2 z3 z4 z5 bi_place co_a H locs ls hf hP hD hS hl
      exact absurd (show (none : Option (Int32 × (Nat → Int32))) = some res from hf) (by simp)
    | succ n ih =>
      intro z1 z2 z3 z4 z5 bi_place co_a H locs ls hf hP hD hS hl
      have hf : f_X1_unpackDelta_27_s (f_X1_unpackDelta_27 n) n z1 z2 z3 z4 z5 bi_place bi_a co_a = some res := hf
      unfold f_X1_unpackDelta_27_s at hf
      refine lv_iload hx hb dX1_unpackDelta_27 (lv_at hl 5 rfl) ?_
      refine lv_iload_n hx hb dX1_unpackDelta_29 rfl (lv_at hl 2 rfl) ?_
      refine lv_icmp_ge (tgt := 66) hx hb dX1_unpackDelta_30 (by decide) (fun c8 => ?_) (fun c8 => ?_)
      · have hf := pr_pos hf c8
        obtain rfl := Option.some.inj hf
        exact hret _ _ _ _ dX1_unpackDelta_66 (hP.sub [0, 1, 2, 3, 4] rfl) (hD.sub [0, 1, 2, 3, 4] (by decide) rfl) hS
      · have hf := pr_neg hf c8
        refine lv_iload_n hx hb dX1_unpackDelta_33 rfl (lv_at hl 3 rfl) ?_
        refine lv_aload_n hx hb dX1_unpackDelta_34 rfl (lv_at hl 0 rfl) ?_
        refine va_get (D := D) (ci := 1) (v := .ref q_bi) (C := RX1) (T := TX1) (N := 4) hx hb hts hin1 hown hK hP 4 rfl rfl 2 (by decide) (hts (.fieldLink RX1 19 "ColumnChooser$Coder" "bits" "LColumnChooser$Bits;") (List.mem_of_getElem? (i := 1) rfl)) (fun _ h9 => h9) rfl dX1_unpackDelta_35 ?_
        refine lv_iload hx hb dX1_unpackDelta_38 (lv_at hl 4 rfl) ?_
        obtain ⟨u9, hu9, hf⟩ := pr_bd hf
        refine fr_iV (As := [.int z4]) ⟨hx, hb, hml, hown, hts⟩ hK hP hD hS hA (c_X0_read l D cI q_bi q_bi_a n z4 bi_place bi_a u9 hu9) (cwV 1 hts gX1_unpackDelta_X0_read rfl rfl rfl (by decide +kernel) ⟨Nat.le_of_ble_eq_true rfl, Nat.le_of_ble_eq_true rfl⟩) [(q_co, .inr (3, [.ref q_co_a])), (q_co_a, .inl (cI, 96, .inl co_a)), (q_cd, .inr (1, [.ref q_co, .ref q_pr, .ref q_bi, .ref q_li]))] [0, 1] [2, 3, 4] rfl rfl (by decide) (by decide) (by decide) 0 rfl rfl rfl rfl hl.1 (Nat.le_of_ble_eq_true rfl) dX1_unpackDelta_40 ⟨Nat.zero_le _, Nat.zero_le _⟩ rfl (fun H locs hP hD hS => ?_)
        have hP : va_P D vwCl [(q_co, .inr (3, [.ref q_co_a])), (q_co_a, .inl (cI, 96, .inl co_a)), (q_cd, .inr (1, [.ref q_co, .ref q_pr, .ref q_bi, .ref q_li])), (q_bi, .inr (0, [.ref q_bi_a, .int u9.2])), (q_bi_a, .inl (cI, 3072, .inl bi_a))] H := hP
        have hD : va_D A [(q_co, .inr (3, [.ref q_co_a])), (q_co_a, .inl (cI, 96, .inl co_a)), (q_cd, .inr (1, [.ref q_co, .ref q_pr, .ref q_bi, .ref q_li])), (q_bi, .inr (0, [.ref q_bi_a, .int u9.2])), (q_bi_a, .inl (cI, 3072, .inl bi_a))] := hD
        obtain ⟨u10, hu10, hf⟩ := pr_bd hf
        refine fr_iS (As := [.int u9.1]) ⟨hx, hb, hml, hown, hts⟩ hK hP hD hS hA (c_X1_unfold l D cI n u9.1 u10 hu10) (va_cwS 1 hts gX1_unpackDelta_X1_unfold rfl rfl rfl (by decide +kernel) ⟨Nat.le_of_ble_eq_true rfl, Nat.le_of_ble_eq_true rfl⟩) [(q_co, .inr (3, [.ref q_co_a])), (q_co_a, .inl (cI, 96, .inl co_a)), (q_cd, .inr (1, [.ref q_co, .ref q_pr, .ref q_bi, .ref q_li])), (q_bi, .inr (0, [.ref q_bi_a, .int u9.2])), (q_bi_a, .inl (cI, 3072, .inl bi_a))] [] [0, 1, 2, 3, 4] rfl rfl (by decide) (by decide) (by decide) rfl hl.1 (Nat.le_of_ble_eq_true rfl) dX1_unpackDelta_43 ⟨Nat.zero_le _, Nat.zero_le _⟩ rfl (fun H locs hP hD hS => ?_)
        have hP : va_P D vwCl [(q_co, .inr (3, [.ref q_co_a])), (q_co_a, .inl (cI, 96, .inl co_a)), (q_cd, .inr (1, [.ref q_co, .ref q_pr, .ref q_bi, .ref q_li])), (q_bi, .inr (0, [.ref q_bi_a, .int u9.2])), (q_bi_a, .inl (cI, 3072, .inl bi_a))] H := hP
        have hD : va_D A [(q_co, .inr (3, [.ref q_co_a])), (q_co_a, .inl (cI, 96, .inl co_a)), (q_cd, .inr (1, [.ref q_co, .ref q_pr, .ref q_bi, .ref q_li])), (q_bi, .inr (0, [.ref q_bi_a, .int u9.2])), (q_bi_a, .inl (cI, 3072, .inl bi_a))] := hD
        refine lv_iadd hx hb dX1_unpackDelta_46 ?_
        refine lv_istore_n (lv' := [(3, .int (z3 + u10)), (0, .ref q_cd), (1, .int z1), (2, .int z2), (4, .int z4), (5, .int z5)]) hx hb dX1_unpackDelta_47 rfl hl (by decide) rfl (fun ls hl => ?_)
        refine lv_aload_n hx hb dX1_unpackDelta_48 rfl (lv_at hl 1 rfl) ?_
        refine va_get (D := D) (ci := 1) (v := .ref q_co) (C := RX1) (T := TX1) (N := 4) hx hb hts hin1 hown hK hP 2 rfl rfl 0 (by decide) (hts (.fieldLink RX1 9 "ColumnChooser$Coder" "column" "LColumnChooser$Row;") (List.mem_of_getElem? (i := 2) rfl)) (fun _ h9 => h9) rfl dX1_unpackDelta_49 ?_
        refine lv_iload_n hx hb dX1_unpackDelta_52 rfl (lv_at hl 2 rfl) ?_
        refine lv_iload hx hb dX1_unpackDelta_53 (lv_at hl 5 rfl) ?_
        refine lv_iadd hx hb dX1_unpackDelta_55 ?_
        refine lv_iload_n hx hb dX1_unpackDelta_56 rfl (lv_at hl 0 rfl) ?_
        obtain ⟨u11, hu11, hf⟩ := pr_bd hf
        refine fr_vV (As := [.int (z1 + z5), .int (z3 + u10)]) ⟨hx, hb, hml, hown, hts⟩ hK hP hD hS hA (c_X3_put l D cI q_co q_co_a 96 n (z1 + z5) (z3 + u10) co_a u11 hu11) (cwV 2 hts gX1_unpackDelta_X3_put rfl rfl rfl (by decide +kernel) ⟨Nat.le_of_ble_eq_true rfl, Nat.le_of_ble_eq_true rfl⟩) [(q_cd, .inr (1, [.ref q_co, .ref q_pr, .ref q_bi, .ref q_li])), (q_bi, .inr (0, [.ref q_bi_a, .int u9.2])), (q_bi_a, .inl (cI, 3072, .inl bi_a))] [0, 1] [2, 3, 4] rfl rfl (by decide) (by decide) (by decide) 0 rfl rfl rfl rfl hl.1 (Nat.le_of_ble_eq_true rfl) dX1_unpackDelta_57 ⟨Nat.zero_le _, Nat.zero_le _⟩ rfl (fun H locs hP hD hS => ?_)
        have hP : va_P D vwCl [(q_cd, .inr (1, [.ref q_co, .ref q_pr, .ref q_bi, .ref q_li])), (q_bi, .inr (0, [.ref q_bi_a, .int u9.2])), (q_bi_a, .inl (cI, 3072, .inl bi_a)), (q_co, .inr (3, [.ref q_co_a])), (q_co_a, .inl (cI, 96, .inl u11))] H := hP
        have hD : va_D A [(q_cd, .inr (1, [.ref q_co, .ref q_pr, .ref q_bi, .ref q_li])), (q_bi, .inr (0, [.ref q_bi_a, .int u9.2])), (q_bi_a, .inl (cI, 3072, .inl bi_a)), (q_co, .inr (3, [.ref q_co_a])), (q_co_a, .inl (cI, 96, .inl u11))] := hD
        refine lv_iinc (v := (z5 + 1)) (lv' := [(5, .int (z5 + 1)), (3, .int (z3 + u10)), (0, .ref q_cd), (1, .int z1), (2, .int z2), (4, .int z4)]) hx hb dX1_unpackDelta_60 hl (k := 5) rfl rfl (by decide) rfl (fun ls hl => ?_)
        refine lv_goto (tgt := 27) hx hb dX1_unpackDelta_63 (by decide) ?_
        exact ih _ _ _ _ _ _ _ _ _ ls hf (hP.sub [1, 2, 3, 4, 0] rfl) (hD.sub [1, 2, 3, 4, 0] (by decide) rfl) hS (lv_sub hl [2, 3, 4, 1, 5, 0] rfl)
  unfold f_X1_unpackDelta at hf
  refine lv_aload_n hx hb dX1_unpackDelta_0 rfl (lv_at hl 0 rfl) ?_
  obtain ⟨u12, hu12, hf⟩ := pr_bd hf
  refine fr_iV (As := []) ⟨hx, hb, hml, hown, hts⟩ hK hP hD hS hA (c_X1_readValue l D cI q_bi q_bi_a q_co q_pr q_cd q_li n bi_place bi_a u12 hu12) (cwV 0 hts gX1_unpackDelta_X1_readValue rfl rfl rfl (by decide +kernel) ⟨Nat.le_of_ble_eq_true rfl, Nat.le_of_ble_eq_true rfl⟩) [(q_co, .inr (3, [.ref q_co_a])), (q_co_a, .inl (cI, 96, .inl co_a))] [0, 1, 4] [2, 3] rfl rfl (by decide) (by decide) (by decide) 2 rfl rfl rfl rfl hl.1 (Nat.le_of_ble_eq_true rfl) dX1_unpackDelta_1 ⟨Nat.zero_le _, Nat.zero_le _⟩ rfl (fun H locs hP hD hS => ?_)
  have hP : va_P D vwCl [(q_co, .inr (3, [.ref q_co_a])), (q_co_a, .inl (cI, 96, .inl co_a)), (q_bi, .inr (0, [.ref q_bi_a, .int u12.2])), (q_bi_a, .inl (cI, 3072, .inl bi_a)), (q_cd, .inr (1, [.ref q_co, .ref q_pr, .ref q_bi, .ref q_li]))] H := hP
  have hD : va_D A [(q_co, .inr (3, [.ref q_co_a])), (q_co_a, .inl (cI, 96, .inl co_a)), (q_bi, .inr (0, [.ref q_bi_a, .int u12.2])), (q_bi_a, .inl (cI, 3072, .inl bi_a)), (q_cd, .inr (1, [.ref q_co, .ref q_pr, .ref q_bi, .ref q_li]))] := hD
  refine lv_istore_n (lv' := [(3, .int u12.1), (0, .ref q_cd), (1, .int x1), (2, .int x2)]) hx hb dX1_unpackDelta_4 rfl hl (by decide) rfl (fun ls hl => ?_)
  refine lv_aload_n hx hb dX1_unpackDelta_5 rfl (lv_at hl 1 rfl) ?_
  refine va_get (D := D) (ci := 1) (v := .ref q_bi) (C := RX1) (T := TX1) (N := 4) hx hb hts hin1 hown hK hP 4 rfl rfl 2 (by decide) (hts (.fieldLink RX1 19 "ColumnChooser$Coder" "bits" "LColumnChooser$Bits;") (List.mem_of_getElem? (i := 1) rfl)) (fun _ h9 => h9) rfl dX1_unpackDelta_6 ?_
  refine lv_iconst (v := 5) hx hb dX1_unpackDelta_9 (by decide) ?_
  obtain ⟨u13, hu13, hf⟩ := pr_bd hf
  refine fr_iV (As := [.int 5]) ⟨hx, hb, hml, hown, hts⟩ hK hP hD hS hA (c_X0_read l D cI q_bi q_bi_a n 5 u12.2 bi_a u13 hu13) (cwV 1 hts gX1_unpackDelta_X0_read rfl rfl rfl (by decide +kernel) ⟨Nat.le_of_ble_eq_true rfl, Nat.le_of_ble_eq_true rfl⟩) [(q_co, .inr (3, [.ref q_co_a])), (q_co_a, .inl (cI, 96, .inl co_a)), (q_cd, .inr (1, [.ref q_co, .ref q_pr, .ref q_bi, .ref q_li]))] [2, 3] [0, 1, 4] rfl rfl (by decide) (by decide) (by decide) 0 rfl rfl rfl rfl hl.1 (Nat.le_of_ble_eq_true rfl) dX1_unpackDelta_10 ⟨Nat.zero_le _, Nat.zero_le _⟩ rfl (fun H locs hP hD hS => ?_)
  have hP : va_P D vwCl [(q_co, .inr (3, [.ref q_co_a])), (q_co_a, .inl (cI, 96, .inl co_a)), (q_cd, .inr (1, [.ref q_co, .ref q_pr, .ref q_bi, .ref q_li])), (q_bi, .inr (0, [.ref q_bi_a, .int u13.2])), (q_bi_a, .inl (cI, 3072, .inl bi_a))] H := hP
  have hD : va_D A [(q_co, .inr (3, [.ref q_co_a])), (q_co_a, .inl (cI, 96, .inl co_a)), (q_cd, .inr (1, [.ref q_co, .ref q_pr, .ref q_bi, .ref q_li])), (q_bi, .inr (0, [.ref q_bi_a, .int u13.2])), (q_bi_a, .inl (cI, 3072, .inl bi_a))] := hD
  refine lv_istore (lv' := [(4, .int u13.1), (3, .int u12.1), (0, .ref q_cd), (1, .int x1), (2, .int x2)]) hx hb dX1_unpackDelta_13 hl (by decide) rfl (fun ls hl => ?_)
  refine lv_aload_n hx hb dX1_unpackDelta_15 rfl (lv_at hl 2 rfl) ?_
  refine va_get (D := D) (ci := 1) (v := .ref q_co) (C := RX1) (T := TX1) (N := 4) hx hb hts hin1 hown hK hP 2 rfl rfl 0 (by decide) (hts (.fieldLink RX1 9 "ColumnChooser$Coder" "column" "LColumnChooser$Row;") (List.mem_of_getElem? (i := 2) rfl)) (fun _ h9 => h9) rfl dX1_unpackDelta_16 ?_
  refine lv_iload_n hx hb dX1_unpackDelta_19 rfl (lv_at hl 3 rfl) ?_
  refine lv_iload_n hx hb dX1_unpackDelta_20 rfl (lv_at hl 1 rfl) ?_
  obtain ⟨u14, hu14, hf⟩ := pr_bd hf
  refine fr_vV (As := [.int x1, .int u12.1]) ⟨hx, hb, hml, hown, hts⟩ hK hP hD hS hA (c_X3_put l D cI q_co q_co_a 96 n x1 u12.1 co_a u14 hu14) (cwV 2 hts gX1_unpackDelta_X3_put rfl rfl rfl (by decide +kernel) ⟨Nat.le_of_ble_eq_true rfl, Nat.le_of_ble_eq_true rfl⟩) [(q_cd, .inr (1, [.ref q_co, .ref q_pr, .ref q_bi, .ref q_li])), (q_bi, .inr (0, [.ref q_bi_a, .int u13.2])), (q_bi_a, .inl (cI, 3072, .inl bi_a))] [0, 1] [2, 3, 4] rfl rfl (by decide) (by decide) (by decide) 0 rfl rfl rfl rfl hl.1 (Nat.le_of_ble_eq_true rfl) dX1_unpackDelta_21 ⟨Nat.zero_le _, Nat.zero_le _⟩ rfl (fun H locs hP hD hS => ?_)
  have hP : va_P D vwCl [(q_cd, .inr (1, [.ref q_co, .ref q_pr, .ref q_bi, .ref q_li])), (q_bi, .inr (0, [.ref q_bi_a, .int u13.2])), (q_bi_a, .inl (cI, 3072, .inl bi_a)), (q_co, .inr (3, [.ref q_co_a])), (q_co_a, .inl (cI, 96, .inl u14))] H := hP
  have hD : va_D A [(q_cd, .inr (1, [.ref q_co, .ref q_pr, .ref q_bi, .ref q_li])), (q_bi, .inr (0, [.ref q_bi_a, .int u13.2])), (q_bi_a, .inl (cI, 3072, .inl bi_a)), (q_co, .inr (3, [.ref q_co_a])), (q_co_a, .inl (cI, 96, .inl u14))] := hD
  refine lv_iconst (v := 1) hx hb dX1_unpackDelta_24 (by decide) ?_
  refine lv_istore (lv' := [(5, .int 1), (4, .int u13.1), (3, .int u12.1), (0, .ref q_cd), (1, .int x1), (2, .int x2)]) hx hb dX1_unpackDelta_25 hl (by decide) rfl (fun ls hl => ?_)
  exact k_27 n _ _ _ _ _ _ _ _ _ ls hf (hP.sub [1, 2, 3, 4, 0] rfl) (hD.sub [1, 2, 3, 4, 0] (by decide) rfl) hS (lv_sub hl [3, 4, 5, 2, 1, 0] rfl)
set_option maxHeartbeats 4000000 in
set_option maxRecDepth 100000 in
theorem c_X1_unpackFrame (l : Launch) (D : va_G) (cI : ClassId) (q_bi q_bi_a q_co q_co_a q_pr q_cd q_li : Nat) (n : Nat) (x1 : Int32) (x2 : Int32) (bi_place : Int32) (bi_a : (Nat → Int32)) (co_a : (Nat → Int32)) (res : Int32 × (Nat → Int32)) (hf : f_X1_unpackFrame n x1 x2 bi_place bi_a co_a = some res) : fr_Cv l yX1_unpackFrame wsX1_unpackFrame ({ frames := 2, cells := 0, slots := 0, locals := 44 }) D [(cI, .int)] [.ref q_cd, .int x1, .int x2] [(q_bi, .inr (0, [.ref q_bi_a, .int bi_place])), (q_bi_a, .inl (cI, 3072, .inl bi_a)), (q_co, .inr (3, [.ref q_co_a])), (q_co_a, .inl (cI, 96, .inl co_a)), (q_cd, .inr (1, [.ref q_co, .ref q_pr, .ref q_bi, .ref q_li]))] [(q_bi, .inr (0, [.ref q_bi_a, .int res.1])), (q_bi_a, .inl (cI, 3072, .inl bi_a)), (q_co, .inr (3, [.ref q_co_a])), (q_co_a, .inl (cI, 96, .inl res.2)), (q_cd, .inr (1, [.ref q_co, .ref q_pr, .ref q_bi, .ref q_li]))] := by
  refine fr_open_v (cc := cX1_unpackFrame) (maxL := 6) (by decide +kernel) rfl (Nat.le_of_ble_eq_true rfl) ?_
  intro p e s m below meth c A Q ls hx hb hml hown hts hA hK hP hD hS hl hret
  have hown : s.vm.findClass RX1 = some m.cls := hown
  have hl : lv_has ls 6 [(0, .ref q_cd), (1, .int x1), (2, .int x2)] := hl
  have hin1 : ∀ w ∈ u_ws RX1 TX1 4, w ∈ wsX1_unpackFrame := fun _ h9 => List.mem_cons_of_mem _ (List.mem_append_left _ (List.mem_append_left _ (List.mem_append_right _ h9)))
  have k_18 : ∀ (n : Nat), (∀ (z1 : Int32) (z2 : Int32) (z3 : Int32) (z4 : Int32) (z5 : Int32) (bi_place : Int32) (co_a : (Nat → Int32)) (H : Heap) (locs : List Loc) (ls : Array Slot), f_X1_unpackFrame_18 n z1 z2 z3 z4 z5 bi_place bi_a co_a = some res → va_P D vwCl [(q_bi, .inr (0, [.ref q_bi_a, .int bi_place])), (q_bi_a, .inl (cI, 3072, .inl bi_a)), (q_co, .inr (3, [.ref q_co_a])), (q_co_a, .inl (cI, 96, .inl co_a)), (q_cd, .inr (1, [.ref q_co, .ref q_pr, .ref q_bi, .ref q_li]))] H → va_D A [(q_bi, .inr (0, [.ref q_bi_a, .int bi_place])), (q_bi_a, .inl (cI, 3072, .inl bi_a)), (q_co, .inr (3, [.ref q_co_a])), (q_co_a, .inl (cI, 96, .inl co_a)), (q_cd, .inr (1, [.ref q_co, .ref q_pr, .ref q_bi, .ref q_li]))] → va_S A s.heap H locs → lv_has ls 6 [(0, .ref q_cd), (1, .int z1), (2, .int z2), (3, .int z3), (4, .int z4), (5, .int z5)] → W p l e ({ frames := 2, cells := 0, slots := 0, locals := 44 }) s m ([.ref q_cd, .int x1, .int x2] : List Value).toArray below meth c H locs 0 0 Q (F0 m 18 ls [])) := by
    intro n
    induction n with
    | zero =>
      intro z1 z2 z3 z4 z5 bi_place co_a H locs ls hf hP hD hS hl
      exact absurd (show (none : Option (Int32 × (Nat → Int32))) = some res from hf) (by simp)
    | succ n ih =>
      intro z1 z2 z3 z4 z5 bi_place co_a H locs ls hf hP hD hS hl
      have hf : f_X1_unpackFrame_18_s (f_X1_unpackFrame_18 n) n z1 z2 z3 z4 z5 bi_place bi_a co_a = some res := hf
      unfold f_X1_unpackFrame_18_s at hf
      refine lv_iload hx hb dX1_unpackFrame_18 (lv_at hl 5 rfl) ?_
      refine lv_iload_n hx hb dX1_unpackFrame_20 rfl (lv_at hl 2 rfl) ?_
      refine lv_icmp_ge (tgt := 52) hx hb dX1_unpackFrame_21 (by decide) (fun c6 => ?_) (fun c6 => ?_)
      · have hf := pr_pos hf c6
        obtain rfl := Option.some.inj hf
        exact hret _ _ _ _ dX1_unpackFrame_52 (hP.sub [0, 1, 2, 3, 4] rfl) (hD.sub [0, 1, 2, 3, 4] (by decide) rfl) hS
      · have hf := pr_neg hf c6
        refine lv_aload_n hx hb dX1_unpackFrame_24 rfl (lv_at hl 0 rfl) ?_
        refine va_get (D := D) (ci := 1) (v := .ref q_co) (C := RX1) (T := TX1) (N := 4) hx hb hts hin1 hown hK hP 4 rfl rfl 0 (by decide) (hts (.fieldLink RX1 9 "ColumnChooser$Coder" "column" "LColumnChooser$Row;") (List.mem_of_getElem? (i := 2) rfl)) (fun _ h9 => h9) rfl dX1_unpackFrame_25 ?_
        refine lv_iload_n hx hb dX1_unpackFrame_28 rfl (lv_at hl 1 rfl) ?_
        refine lv_iload hx hb dX1_unpackFrame_29 (lv_at hl 5 rfl) ?_
        refine lv_iadd hx hb dX1_unpackFrame_31 ?_
        refine lv_iload_n hx hb dX1_unpackFrame_32 rfl (lv_at hl 3 rfl) ?_
        refine lv_aload_n hx hb dX1_unpackFrame_33 rfl (lv_at hl 0 rfl) ?_
        refine va_get (D := D) (ci := 1) (v := .ref q_bi) (C := RX1) (T := TX1) (N := 4) hx hb hts hin1 hown hK hP 4 rfl rfl 2 (by decide) (hts (.fieldLink RX1 19 "ColumnChooser$Coder" "bits" "LColumnChooser$Bits;") (List.mem_of_getElem? (i := 1) rfl)) (fun _ h9 => h9) rfl dX1_unpackFrame_34 ?_
        refine lv_iload hx hb dX1_unpackFrame_37 (lv_at hl 4 rfl) ?_
        obtain ⟨u7, hu7, hf⟩ := pr_bd hf
        refine fr_iV (As := [.int z4]) ⟨hx, hb, hml, hown, hts⟩ hK hP hD hS hA (c_X0_read l D cI q_bi q_bi_a n z4 bi_place bi_a u7 hu7) (cwV 1 hts gX1_unpackFrame_X0_read rfl rfl rfl (by decide +kernel) ⟨Nat.le_of_ble_eq_true rfl, Nat.le_of_ble_eq_true rfl⟩) [(q_co, .inr (3, [.ref q_co_a])), (q_co_a, .inl (cI, 96, .inl co_a)), (q_cd, .inr (1, [.ref q_co, .ref q_pr, .ref q_bi, .ref q_li]))] [0, 1] [2, 3, 4] rfl rfl (by decide) (by decide) (by decide) 0 rfl rfl rfl rfl hl.1 (Nat.le_of_ble_eq_true rfl) dX1_unpackFrame_39 ⟨Nat.zero_le _, Nat.zero_le _⟩ rfl (fun H locs hP hD hS => ?_)
        have hP : va_P D vwCl [(q_co, .inr (3, [.ref q_co_a])), (q_co_a, .inl (cI, 96, .inl co_a)), (q_cd, .inr (1, [.ref q_co, .ref q_pr, .ref q_bi, .ref q_li])), (q_bi, .inr (0, [.ref q_bi_a, .int u7.2])), (q_bi_a, .inl (cI, 3072, .inl bi_a))] H := hP
        have hD : va_D A [(q_co, .inr (3, [.ref q_co_a])), (q_co_a, .inl (cI, 96, .inl co_a)), (q_cd, .inr (1, [.ref q_co, .ref q_pr, .ref q_bi, .ref q_li])), (q_bi, .inr (0, [.ref q_bi_a, .int u7.2])), (q_bi_a, .inl (cI, 3072, .inl bi_a))] := hD
        refine lv_iadd hx hb dX1_unpackFrame_42 ?_
        obtain ⟨u8, hu8, hf⟩ := pr_bd hf
        refine fr_vV (As := [.int (z1 + z5), .int (z3 + u7.1)]) ⟨hx, hb, hml, hown, hts⟩ hK hP hD hS hA (c_X3_put l D cI q_co q_co_a 96 n (z1 + z5) (z3 + u7.1) co_a u8 hu8) (cwV 2 hts gX1_unpackFrame_X3_put rfl rfl rfl (by decide +kernel) ⟨Nat.le_of_ble_eq_true rfl, Nat.le_of_ble_eq_true rfl⟩) [(q_cd, .inr (1, [.ref q_co, .ref q_pr, .ref q_bi, .ref q_li])), (q_bi, .inr (0, [.ref q_bi_a, .int u7.2])), (q_bi_a, .inl (cI, 3072, .inl bi_a))] [0, 1] [2, 3, 4] rfl rfl (by decide) (by decide) (by decide) 0 rfl rfl rfl rfl hl.1 (Nat.le_of_ble_eq_true rfl) dX1_unpackFrame_43 ⟨Nat.zero_le _, Nat.zero_le _⟩ rfl (fun H locs hP hD hS => ?_)
        have hP : va_P D vwCl [(q_cd, .inr (1, [.ref q_co, .ref q_pr, .ref q_bi, .ref q_li])), (q_bi, .inr (0, [.ref q_bi_a, .int u7.2])), (q_bi_a, .inl (cI, 3072, .inl bi_a)), (q_co, .inr (3, [.ref q_co_a])), (q_co_a, .inl (cI, 96, .inl u8))] H := hP
        have hD : va_D A [(q_cd, .inr (1, [.ref q_co, .ref q_pr, .ref q_bi, .ref q_li])), (q_bi, .inr (0, [.ref q_bi_a, .int u7.2])), (q_bi_a, .inl (cI, 3072, .inl bi_a)), (q_co, .inr (3, [.ref q_co_a])), (q_co_a, .inl (cI, 96, .inl u8))] := hD
        refine lv_iinc (v := (z5 + 1)) (lv' := [(5, .int (z5 + 1)), (0, .ref q_cd), (1, .int z1), (2, .int z2), (3, .int z3), (4, .int z4)]) hx hb dX1_unpackFrame_46 hl (k := 5) rfl rfl (by decide) rfl (fun ls hl => ?_)
        refine lv_goto (tgt := 18) hx hb dX1_unpackFrame_49 (by decide) ?_
        exact ih _ _ _ _ _ _ _ _ _ ls hf (hP.sub [1, 2, 3, 4, 0] rfl) (hD.sub [1, 2, 3, 4, 0] (by decide) rfl) hS (lv_sub hl [1, 2, 3, 4, 5, 0] rfl)
  unfold f_X1_unpackFrame at hf
  refine lv_aload_n hx hb dX1_unpackFrame_0 rfl (lv_at hl 0 rfl) ?_
  obtain ⟨u9, hu9, hf⟩ := pr_bd hf
  refine fr_iV (As := []) ⟨hx, hb, hml, hown, hts⟩ hK hP hD hS hA (c_X1_readValue l D cI q_bi q_bi_a q_co q_pr q_cd q_li n bi_place bi_a u9 hu9) (cwV 0 hts gX1_unpackFrame_X1_readValue rfl rfl rfl (by decide +kernel) ⟨Nat.le_of_ble_eq_true rfl, Nat.le_of_ble_eq_true rfl⟩) [(q_co, .inr (3, [.ref q_co_a])), (q_co_a, .inl (cI, 96, .inl co_a))] [0, 1, 4] [2, 3] rfl rfl (by decide) (by decide) (by decide) 2 rfl rfl rfl rfl hl.1 (Nat.le_of_ble_eq_true rfl) dX1_unpackFrame_1 ⟨Nat.zero_le _, Nat.zero_le _⟩ rfl (fun H locs hP hD hS => ?_)
  have hP : va_P D vwCl [(q_co, .inr (3, [.ref q_co_a])), (q_co_a, .inl (cI, 96, .inl co_a)), (q_bi, .inr (0, [.ref q_bi_a, .int u9.2])), (q_bi_a, .inl (cI, 3072, .inl bi_a)), (q_cd, .inr (1, [.ref q_co, .ref q_pr, .ref q_bi, .ref q_li]))] H := hP
  have hD : va_D A [(q_co, .inr (3, [.ref q_co_a])), (q_co_a, .inl (cI, 96, .inl co_a)), (q_bi, .inr (0, [.ref q_bi_a, .int u9.2])), (q_bi_a, .inl (cI, 3072, .inl bi_a)), (q_cd, .inr (1, [.ref q_co, .ref q_pr, .ref q_bi, .ref q_li]))] := hD
  refine lv_istore_n (lv' := [(3, .int u9.1), (0, .ref q_cd), (1, .int x1), (2, .int x2)]) hx hb dX1_unpackFrame_4 rfl hl (by decide) rfl (fun ls hl => ?_)
  refine lv_aload_n hx hb dX1_unpackFrame_5 rfl (lv_at hl 1 rfl) ?_
  refine va_get (D := D) (ci := 1) (v := .ref q_bi) (C := RX1) (T := TX1) (N := 4) hx hb hts hin1 hown hK hP 4 rfl rfl 2 (by decide) (hts (.fieldLink RX1 19 "ColumnChooser$Coder" "bits" "LColumnChooser$Bits;") (List.mem_of_getElem? (i := 1) rfl)) (fun _ h9 => h9) rfl dX1_unpackFrame_6 ?_
  refine lv_iconst (v := 5) hx hb dX1_unpackFrame_9 (by decide) ?_
  obtain ⟨u10, hu10, hf⟩ := pr_bd hf
  refine fr_iV (As := [.int 5]) ⟨hx, hb, hml, hown, hts⟩ hK hP hD hS hA (c_X0_read l D cI q_bi q_bi_a n 5 u9.2 bi_a u10 hu10) (cwV 1 hts gX1_unpackFrame_X0_read rfl rfl rfl (by decide +kernel) ⟨Nat.le_of_ble_eq_true rfl, Nat.le_of_ble_eq_true rfl⟩) [(q_co, .inr (3, [.ref q_co_a])), (q_co_a, .inl (cI, 96, .inl co_a)), (q_cd, .inr (1, [.ref q_co, .ref q_pr, .ref q_bi, .ref q_li]))] [2, 3] [0, 1, 4] rfl rfl (by decide) (by decide) (by decide) 0 rfl rfl rfl rfl hl.1 (Nat.le_of_ble_eq_true rfl) dX1_unpackFrame_10 ⟨Nat.zero_le _, Nat.zero_le _⟩ rfl (fun H locs hP hD hS => ?_)
  have hP : va_P D vwCl [(q_co, .inr (3, [.ref q_co_a])), (q_co_a, .inl (cI, 96, .inl co_a)), (q_cd, .inr (1, [.ref q_co, .ref q_pr, .ref q_bi, .ref q_li])), (q_bi, .inr (0, [.ref q_bi_a, .int u10.2])), (q_bi_a, .inl (cI, 3072, .inl bi_a))] H := hP
  have hD : va_D A [(q_co, .inr (3, [.ref q_co_a])), (q_co_a, .inl (cI, 96, .inl co_a)), (q_cd, .inr (1, [.ref q_co, .ref q_pr, .ref q_bi, .ref q_li])), (q_bi, .inr (0, [.ref q_bi_a, .int u10.2])), (q_bi_a, .inl (cI, 3072, .inl bi_a))] := hD
  refine lv_istore (lv' := [(4, .int u10.1), (3, .int u9.1), (0, .ref q_cd), (1, .int x1), (2, .int x2)]) hx hb dX1_unpackFrame_13 hl (by decide) rfl (fun ls hl => ?_)
  refine lv_iconst (v := 0) hx hb dX1_unpackFrame_15 (by decide) ?_
  refine lv_istore (lv' := [(5, .int 0), (4, .int u10.1), (3, .int u9.1), (0, .ref q_cd), (1, .int x1), (2, .int x2)]) hx hb dX1_unpackFrame_16 hl (by decide) rfl (fun ls hl => ?_)
  exact k_18 n _ _ _ _ _ _ _ _ _ ls hf (hP.sub [3, 4, 0, 1, 2] rfl) (hD.sub [3, 4, 0, 1, 2] (by decide) rfl) hS (lv_sub hl [3, 4, 5, 2, 1, 0] rfl)
set_option maxHeartbeats 4000000 in
set_option maxRecDepth 100000 in
theorem c_X1_unpackDictionary (l : Launch) (D : va_G) (cI : ClassId) (q_bi q_bi_a q_co q_co_a q_pr q_cd q_li q_li_a : Nat) (n : Nat) (x1 : Int32) (x2 : Int32) (bi_place : Int32) (bi_a : (Nat → Int32)) (co_a : (Nat → Int32)) (li_a : (Nat → Int32)) (res : Int32 × (Nat → Int32) × (Nat → Int32)) (hf : f_X1_unpackDictionary n x1 x2 bi_place bi_a co_a li_a = some res) : fr_Cv l yX1_unpackDictionary wsX1_unpackDictionary ({ frames := 2, cells := 0, slots := 0, locals := 44 }) D [(cI, .int)] [.ref q_cd, .int x1, .int x2] [(q_bi, .inr (0, [.ref q_bi_a, .int bi_place])), (q_bi_a, .inl (cI, 3072, .inl bi_a)), (q_co, .inr (3, [.ref q_co_a])), (q_co_a, .inl (cI, 96, .inl co_a)), (q_cd, .inr (1, [.ref q_co, .ref q_pr, .ref q_bi, .ref q_li])), (q_li, .inr (3, [.ref q_li_a])), (q_li_a, .inl (cI, 32, .inl li_a))] [(q_bi, .inr (0, [.ref q_bi_a, .int res.1])), (q_bi_a, .inl (cI, 3072, .inl bi_a)), (q_co, .inr (3, [.ref q_co_a])), (q_co_a, .inl (cI, 96, .inl res.2.1)), (q_cd, .inr (1, [.ref q_co, .ref q_pr, .ref q_bi, .ref q_li])), (q_li, .inr (3, [.ref q_li_a])), (q_li_a, .inl (cI, 32, .inl res.2.2))] := by
  refine fr_open_v (cc := cX1_unpackDictionary) (maxL := 6) (by decide +kernel) rfl (Nat.le_of_ble_eq_true rfl) ?_
  intro p e s m below meth c A Q ls hx hb hml hown hts hA hK hP hD hS hl hret
  have hown : s.vm.findClass RX1 = some m.cls := hown
  have hl : lv_has ls 6 [(0, .ref q_cd), (1, .int x1), (2, .int x2)] := hl
  have hin1 : ∀ w ∈ u_ws RX1 TX1 4, w ∈ wsX1_unpackDictionary := fun _ h9 => List.mem_cons_of_mem _ (List.mem_append_left _ (List.mem_append_left _ (List.mem_append_right _ h9)))
  have k_49 : ∀ (n : Nat), (∀ (z1 : Int32) (z2 : Int32) (z4 : Int32) (z5 : Int32) (bi_place : Int32) (co_a : (Nat → Int32)) (li_a : (Nat → Int32)) (H : Heap) (locs : List Loc) (ls : Array Slot), f_X1_unpackDictionary_49 n z1 z2 z4 z5 bi_place bi_a co_a li_a = some res → va_P D vwCl [(q_bi, .inr (0, [.ref q_bi_a, .int bi_place])), (q_bi_a, .inl (cI, 3072, .inl bi_a)), (q_co, .inr (3, [.ref q_co_a])), (q_co_a, .inl (cI, 96, .inl co_a)), (q_cd, .inr (1, [.ref q_co, .ref q_pr, .ref q_bi, .ref q_li])), (q_li, .inr (3, [.ref q_li_a])), (q_li_a, .inl (cI, 32, .inl li_a))] H → va_D A [(q_bi, .inr (0, [.ref q_bi_a, .int bi_place])), (q_bi_a, .inl (cI, 3072, .inl bi_a)), (q_co, .inr (3, [.ref q_co_a])), (q_co_a, .inl (cI, 96, .inl co_a)), (q_cd, .inr (1, [.ref q_co, .ref q_pr, .ref q_bi, .ref q_li])), (q_li, .inr (3, [.ref q_li_a])), (q_li_a, .inl (cI, 32, .inl li_a))] → va_S A s.heap H locs → lv_has ls 6 [(0, .ref q_cd), (1, .int z1), (2, .int z2), (4, .int z4), (5, .int z5)] → W p l e ({ frames := 2, cells := 0, slots := 0, locals := 44 }) s m ([.ref q_cd, .int x1, .int x2] : List Value).toArray below meth c H locs 0 0 Q (F0 m 49 ls [])) := by
    intro n
    induction n with
    | zero =>
      intro z1 z2 z4 z5 bi_place co_a li_a H locs ls hf hP hD hS hl
      exact absurd (show (none : Option (Int32 × (Nat → Int32) × (Nat → Int32))) = some res from hf) (by simp)
    | succ n ih =>
      intro z1 z2 z4 z5 bi_place co_a li_a H locs ls hf hP hD hS hl
      have hf : f_X1_unpackDictionary_49_s (f_X1_unpackDictionary_49 n) n z1 z2 z4 z5 bi_place bi_a co_a li_a = some res := hf
      unfold f_X1_unpackDictionary_49_s at hf
      refine lv_iload hx hb dX1_unpackDictionary_49 (lv_at hl 4 rfl) ?_
      refine lv_iload_n hx hb dX1_unpackDictionary_51 rfl (lv_at hl 2 rfl) ?_
      refine lv_icmp_ge (tgt := 88) hx hb dX1_unpackDictionary_52 (by decide) (fun c10 => ?_) (fun c10 => ?_)
      · have hf := pr_pos hf c10
        obtain rfl := Option.some.inj hf
        exact hret _ _ _ _ dX1_unpackDictionary_88 (hP.sub [0, 1, 2, 3, 4, 5, 6] rfl) (hD.sub [0, 1, 2, 3, 4, 5, 6] (by decide) rfl) hS
      · have hf := pr_neg hf c10
        refine lv_aload_n hx hb dX1_unpackDictionary_55 rfl (lv_at hl 0 rfl) ?_
        refine va_get (D := D) (ci := 1) (v := .ref q_co) (C := RX1) (T := TX1) (N := 4) hx hb hts hin1 hown hK hP 4 rfl rfl 0 (by decide) (hts (.fieldLink RX1 9 "ColumnChooser$Coder" "column" "LColumnChooser$Row;") (List.mem_of_getElem? (i := 3) rfl)) (fun _ h9 => h9) rfl dX1_unpackDictionary_56 ?_
        refine lv_iload_n hx hb dX1_unpackDictionary_59 rfl (lv_at hl 1 rfl) ?_
        refine lv_iload hx hb dX1_unpackDictionary_60 (lv_at hl 4 rfl) ?_
        refine lv_iadd hx hb dX1_unpackDictionary_62 ?_
        refine lv_aload_n hx hb dX1_unpackDictionary_63 rfl (lv_at hl 0 rfl) ?_
        refine va_get (D := D) (ci := 1) (v := .ref q_li) (C := RX1) (T := TX1) (N := 4) hx hb hts hin1 hown hK hP 4 rfl rfl 3 (by decide) (hts (.fieldLink RX1 28 "ColumnChooser$Coder" "list" "LColumnChooser$Row;") (List.mem_of_getElem? (i := 2) rfl)) (fun _ h9 => h9) rfl dX1_unpackDictionary_64 ?_
        refine lv_aload_n hx hb dX1_unpackDictionary_67 rfl (lv_at hl 0 rfl) ?_
        refine va_get (D := D) (ci := 1) (v := .ref q_bi) (C := RX1) (T := TX1) (N := 4) hx hb hts hin1 hown hK hP 4 rfl rfl 2 (by decide) (hts (.fieldLink RX1 19 "ColumnChooser$Coder" "bits" "LColumnChooser$Bits;") (List.mem_of_getElem? (i := 1) rfl)) (fun _ h9 => h9) rfl dX1_unpackDictionary_68 ?_
        refine lv_iload hx hb dX1_unpackDictionary_71 (lv_at hl 3 rfl) ?_
        obtain ⟨u11, hu11, hf⟩ := pr_bd hf
        refine fr_iV (As := [.int z4]) ⟨hx, hb, hml, hown, hts⟩ hK hP hD hS hA (c_X0_read l D cI q_bi q_bi_a n z4 bi_place bi_a u11 hu11) (cwV 1 hts gX1_unpackDictionary_X0_read rfl rfl rfl (by decide +kernel) ⟨Nat.le_of_ble_eq_true rfl, Nat.le_of_ble_eq_true rfl⟩) [(q_co, .inr (3, [.ref q_co_a])), (q_co_a, .inl (cI, 96, .inl co_a)), (q_cd, .inr (1, [.ref q_co, .ref q_pr, .ref q_bi, .ref q_li])), (q_li, .inr (3, [.ref q_li_a])), (q_li_a, .inl (cI, 32, .inl li_a))] [0, 1] [2, 3, 4, 5, 6] rfl rfl (by decide) (by decide) (by decide) 0 rfl rfl rfl rfl hl.1 (Nat.le_of_ble_eq_true rfl) dX1_unpackDictionary_73 ⟨Nat.zero_le _, Nat.zero_le _⟩ rfl (fun H locs hP hD hS => ?_)
        have hP : va_P D vwCl [(q_co, .inr (3, [.ref q_co_a])), (q_co_a, .inl (cI, 96, .inl co_a)), (q_cd, .inr (1, [.ref q_co, .ref q_pr, .ref q_bi, .ref q_li])), (q_li, .inr (3, [.ref q_li_a])), (q_li_a, .inl (cI, 32, .inl li_a)), (q_bi, .inr (0, [.ref q_bi_a, .int u11.2])), (q_bi_a, .inl (cI, 3072, .inl bi_a))] H := hP
        have hD : va_D A [(q_co, .inr (3, [.ref q_co_a])), (q_co_a, .inl (cI, 96, .inl co_a)), (q_cd, .inr (1, [.ref q_co, .ref q_pr, .ref q_bi, .ref q_li])), (q_li, .inr (3, [.ref q_li_a])), (q_li_a, .inl (cI, 32, .inl li_a)), (q_bi, .inr (0, [.ref q_bi_a, .int u11.2])), (q_bi_a, .inl (cI, 3072, .inl bi_a))] := hD
        obtain ⟨u12, hu12, hf⟩ := pr_bd hf
        refine fr_iV (As := [.int u11.1]) ⟨hx, hb, hml, hown, hts⟩ hK hP hD hS hA (c_X3_get l D cI q_li q_li_a 32 n u11.1 li_a u12 hu12) (cwV 1 hts gX1_unpackDictionary_X3_get rfl rfl rfl (by decide +kernel) ⟨Nat.le_of_ble_eq_true rfl, Nat.le_of_ble_eq_true rfl⟩) [(q_co, .inr (3, [.ref q_co_a])), (q_co_a, .inl (cI, 96, .inl co_a)), (q_cd, .inr (1, [.ref q_co, .ref q_pr, .ref q_bi, .ref q_li])), (q_bi, .inr (0, [.ref q_bi_a, .int u11.2])), (q_bi_a, .inl (cI, 3072, .inl bi_a))] [3, 4] [0, 1, 2, 5, 6] rfl rfl (by decide) (by decide) (by decide) 0 rfl rfl rfl rfl hl.1 (Nat.le_of_ble_eq_true rfl) dX1_unpackDictionary_76 ⟨Nat.zero_le _, Nat.zero_le _⟩ rfl (fun H locs hP hD hS => ?_)
        have hP : va_P D vwCl [(q_co, .inr (3, [.ref q_co_a])), (q_co_a, .inl (cI, 96, .inl co_a)), (q_cd, .inr (1, [.ref q_co, .ref q_pr, .ref q_bi, .ref q_li])), (q_bi, .inr (0, [.ref q_bi_a, .int u11.2])), (q_bi_a, .inl (cI, 3072, .inl bi_a)), (q_li, .inr (3, [.ref q_li_a])), (q_li_a, .inl (cI, 32, .inl li_a))] H := hP
        have hD : va_D A [(q_co, .inr (3, [.ref q_co_a])), (q_co_a, .inl (cI, 96, .inl co_a)), (q_cd, .inr (1, [.ref q_co, .ref q_pr, .ref q_bi, .ref q_li])), (q_bi, .inr (0, [.ref q_bi_a, .int u11.2])), (q_bi_a, .inl (cI, 3072, .inl bi_a)), (q_li, .inr (3, [.ref q_li_a])), (q_li_a, .inl (cI, 32, .inl li_a))] := hD
        obtain ⟨u13, hu13, hf⟩ := pr_bd hf
        refine fr_vV (As := [.int (z1 + z5), .int u12]) ⟨hx, hb, hml, hown, hts⟩ hK hP hD hS hA (c_X3_put l D cI q_co q_co_a 96 n (z1 + z5) u12 co_a u13 hu13) (cwV 2 hts gX1_unpackDictionary_X3_put rfl rfl rfl (by decide +kernel) ⟨Nat.le_of_ble_eq_true rfl, Nat.le_of_ble_eq_true rfl⟩) [(q_cd, .inr (1, [.ref q_co, .ref q_pr, .ref q_bi, .ref q_li])), (q_bi, .inr (0, [.ref q_bi_a, .int u11.2])), (q_bi_a, .inl (cI, 3072, .inl bi_a)), (q_li, .inr (3, [.ref q_li_a])), (q_li_a, .inl (cI, 32, .inl li_a))] [0, 1] [2, 3, 4, 5, 6] rfl rfl (by decide) (by decide) (by decide) 0 rfl rfl rfl rfl hl.1 (Nat.le_of_ble_eq_true rfl) dX1_unpackDictionary_79 ⟨Nat.zero_le _, Nat.zero_le _⟩ rfl (fun H locs hP hD hS => ?_)
        have hP : va_P D vwCl [(q_cd, .inr (1, [.ref q_co, .ref q_pr, .ref q_bi, .ref q_li])), (q_bi, .inr (0, [.ref q_bi_a, .int u11.2])), (q_bi_a, .inl (cI, 3072, .inl bi_a)), (q_li, .inr (3, [.ref q_li_a])), (q_li_a, .inl (cI, 32, .inl li_a)), (q_co, .inr (3, [.ref q_co_a])), (q_co_a, .inl (cI, 96, .inl u13))] H := hP
        have hD : va_D A [(q_cd, .inr (1, [.ref q_co, .ref q_pr, .ref q_bi, .ref q_li])), (q_bi, .inr (0, [.ref q_bi_a, .int u11.2])), (q_bi_a, .inl (cI, 3072, .inl bi_a)), (q_li, .inr (3, [.ref q_li_a])), (q_li_a, .inl (cI, 32, .inl li_a)), (q_co, .inr (3, [.ref q_co_a])), (q_co_a, .inl (cI, 96, .inl u13))] := hD
        refine lv_iinc (v := (z5 + 1)) (lv' := [(5, .int (z5 + 1)), (0, .ref q_cd), (1, .int z1), (2, .int z2), (4, .int z4)]) hx hb dX1_unpackDictionary_82 hl (k := 4) rfl rfl (by decide) rfl (fun ls hl => ?_)
        refine lv_goto (tgt := 49) hx hb dX1_unpackDictionary_85 (by decide) ?_
        exact ih _ _ _ _ _ _ _ _ _ ls hf (hP.sub [1, 2, 5, 6, 0, 3, 4] rfl) (hD.sub [1, 2, 5, 6, 0, 3, 4] (by decide) rfl) hS (lv_sub hl [1, 2, 3, 4, 0] rfl)
  have k_21 : ∀ (n : Nat), (∀ (z1 : Int32) (z2 : Int32) (z3 : Int32) (z4 : Int32) (z5 : Int32) (bi_place : Int32) (co_a : (Nat → Int32)) (li_a : (Nat → Int32)) (H : Heap) (locs : List Loc) (ls : Array Slot), f_X1_unpackDictionary_21 n z1 z2 z3 z4 z5 bi_place bi_a co_a li_a = some res → va_P D vwCl [(q_bi, .inr (0, [.ref q_bi_a, .int bi_place])), (q_bi_a, .inl (cI, 3072, .inl bi_a)), (q_co, .inr (3, [.ref q_co_a])), (q_co_a, .inl (cI, 96, .inl co_a)), (q_cd, .inr (1, [.ref q_co, .ref q_pr, .ref q_bi, .ref q_li])), (q_li, .inr (3, [.ref q_li_a])), (q_li_a, .inl (cI, 32, .inl li_a))] H → va_D A [(q_bi, .inr (0, [.ref q_bi_a, .int bi_place])), (q_bi_a, .inl (cI, 3072, .inl bi_a)), (q_co, .inr (3, [.ref q_co_a])), (q_co_a, .inl (cI, 96, .inl co_a)), (q_cd, .inr (1, [.ref q_co, .ref q_pr, .ref q_bi, .ref q_li])), (q_li, .inr (3, [.ref q_li_a])), (q_li_a, .inl (cI, 32, .inl li_a))] → va_S A s.heap H locs → lv_has ls 6 [(0, .ref q_cd), (1, .int z1), (2, .int z2), (3, .int z3), (4, .int z4), (5, .int z5)] → W p l e ({ frames := 2, cells := 0, slots := 0, locals := 44 }) s m ([.ref q_cd, .int x1, .int x2] : List Value).toArray below meth c H locs 0 0 Q (F0 m 21 ls [])) := by
    intro n
    induction n with
    | zero =>
      intro z1 z2 z3 z4 z5 bi_place co_a li_a H locs ls hf hP hD hS hl
      exact absurd (show (none : Option (Int32 × (Nat → Int32) × (Nat → Int32))) = some res from hf) (by simp)
    | succ n ih =>
      intro z1 z2 z3 z4 z5 bi_place co_a li_a H locs ls hf hP hD hS hl
      have hf : f_X1_unpackDictionary_21_s (f_X1_unpackDictionary_21 n) n z1 z2 z3 z4 z5 bi_place bi_a co_a li_a = some res := hf
      unfold f_X1_unpackDictionary_21_s at hf
      refine lv_iload hx hb dX1_unpackDictionary_21 (lv_at hl 5 rfl) ?_
      refine lv_iload_n hx hb dX1_unpackDictionary_23 rfl (lv_at hl 3 rfl) ?_
      refine lv_icmp_ge (tgt := 46) hx hb dX1_unpackDictionary_24 (by decide) (fun c14 => ?_) (fun c14 => ?_)
      · have hf := pr_pos hf c14
        refine lv_iconst (v := 0) hx hb dX1_unpackDictionary_46 (by decide) ?_
        refine lv_istore (lv' := [(5, .int 0), (0, .ref q_cd), (1, .int z1), (2, .int z2), (3, .int z3), (4, .int z4)]) hx hb dX1_unpackDictionary_47 hl (by decide) rfl (fun ls hl => ?_)
        exact k_49 n _ _ _ _ _ _ _ _ _ ls hf (hP.sub [0, 1, 2, 3, 4, 5, 6] rfl) (hD.sub [0, 1, 2, 3, 4, 5, 6] (by decide) rfl) hS (lv_sub hl [1, 2, 3, 5, 0] rfl)
      · have hf := pr_neg hf c14
        refine lv_aload_n hx hb dX1_unpackDictionary_27 rfl (lv_at hl 0 rfl) ?_
        refine va_get (D := D) (ci := 1) (v := .ref q_li) (C := RX1) (T := TX1) (N := 4) hx hb hts hin1 hown hK hP 4 rfl rfl 3 (by decide) (hts (.fieldLink RX1 28 "ColumnChooser$Coder" "list" "LColumnChooser$Row;") (List.mem_of_getElem? (i := 2) rfl)) (fun _ h9 => h9) rfl dX1_unpackDictionary_28 ?_
        refine lv_iload hx hb dX1_unpackDictionary_31 (lv_at hl 5 rfl) ?_
        refine lv_aload_n hx hb dX1_unpackDictionary_33 rfl (lv_at hl 0 rfl) ?_
        obtain ⟨u15, hu15, hf⟩ := pr_bd hf
        refine fr_iV (As := []) ⟨hx, hb, hml, hown, hts⟩ hK hP hD hS hA (c_X1_readValue l D cI q_bi q_bi_a q_co q_pr q_cd q_li n bi_place bi_a u15 hu15) (cwV 0 hts gX1_unpackDictionary_X1_readValue rfl rfl rfl (by decide +kernel) ⟨Nat.le_of_ble_eq_true rfl, Nat.le_of_ble_eq_true rfl⟩) [(q_co, .inr (3, [.ref q_co_a])), (q_co_a, .inl (cI, 96, .inl co_a)), (q_li, .inr (3, [.ref q_li_a])), (q_li_a, .inl (cI, 32, .inl li_a))] [0, 1, 4] [2, 3, 5, 6] rfl rfl (by decide) (by decide) (by decide) 2 rfl rfl rfl rfl hl.1 (Nat.le_of_ble_eq_true rfl) dX1_unpackDictionary_34 ⟨Nat.zero_le _, Nat.zero_le _⟩ rfl (fun H locs hP hD hS => ?_)
        have hP : va_P D vwCl [(q_co, .inr (3, [.ref q_co_a])), (q_co_a, .inl (cI, 96, .inl co_a)), (q_li, .inr (3, [.ref q_li_a])), (q_li_a, .inl (cI, 32, .inl li_a)), (q_bi, .inr (0, [.ref q_bi_a, .int u15.2])), (q_bi_a, .inl (cI, 3072, .inl bi_a)), (q_cd, .inr (1, [.ref q_co, .ref q_pr, .ref q_bi, .ref q_li]))] H := hP
        have hD : va_D A [(q_co, .inr (3, [.ref q_co_a])), (q_co_a, .inl (cI, 96, .inl co_a)), (q_li, .inr (3, [.ref q_li_a])), (q_li_a, .inl (cI, 32, .inl li_a)), (q_bi, .inr (0, [.ref q_bi_a, .int u15.2])), (q_bi_a, .inl (cI, 3072, .inl bi_a)), (q_cd, .inr (1, [.ref q_co, .ref q_pr, .ref q_bi, .ref q_li]))] := hD
        obtain ⟨u16, hu16, hf⟩ := pr_bd hf
        refine fr_vV (As := [.int z5, .int u15.1]) ⟨hx, hb, hml, hown, hts⟩ hK hP hD hS hA (c_X3_put l D cI q_li q_li_a 32 n z5 u15.1 li_a u16 hu16) (cwV 2 hts gX1_unpackDictionary_X3_put rfl rfl rfl (by decide +kernel) ⟨Nat.le_of_ble_eq_true rfl, Nat.le_of_ble_eq_true rfl⟩) [(q_co, .inr (3, [.ref q_co_a])), (q_co_a, .inl (cI, 96, .inl co_a)), (q_bi, .inr (0, [.ref q_bi_a, .int u15.2])), (q_bi_a, .inl (cI, 3072, .inl bi_a)), (q_cd, .inr (1, [.ref q_co, .ref q_pr, .ref q_bi, .ref q_li]))] [2, 3] [0, 1, 4, 5, 6] rfl rfl (by decide) (by decide) (by decide) 0 rfl rfl rfl rfl hl.1 (Nat.le_of_ble_eq_true rfl) dX1_unpackDictionary_37 ⟨Nat.zero_le _, Nat.zero_le _⟩ rfl (fun H locs hP hD hS => ?_)
        have hP : va_P D vwCl [(q_co, .inr (3, [.ref q_co_a])), (q_co_a, .inl (cI, 96, .inl co_a)), (q_bi, .inr (0, [.ref q_bi_a, .int u15.2])), (q_bi_a, .inl (cI, 3072, .inl bi_a)), (q_cd, .inr (1, [.ref q_co, .ref q_pr, .ref q_bi, .ref q_li])), (q_li, .inr (3, [.ref q_li_a])), (q_li_a, .inl (cI, 32, .inl u16))] H := hP
        have hD : va_D A [(q_co, .inr (3, [.ref q_co_a])), (q_co_a, .inl (cI, 96, .inl co_a)), (q_bi, .inr (0, [.ref q_bi_a, .int u15.2])), (q_bi_a, .inl (cI, 3072, .inl bi_a)), (q_cd, .inr (1, [.ref q_co, .ref q_pr, .ref q_bi, .ref q_li])), (q_li, .inr (3, [.ref q_li_a])), (q_li_a, .inl (cI, 32, .inl u16))] := hD
        refine lv_iinc (v := (z5 + 1)) (lv' := [(5, .int (z5 + 1)), (0, .ref q_cd), (1, .int z1), (2, .int z2), (3, .int z3), (4, .int z4)]) hx hb dX1_unpackDictionary_40 hl (k := 5) rfl rfl (by decide) rfl (fun ls hl => ?_)
        refine lv_goto (tgt := 21) hx hb dX1_unpackDictionary_43 (by decide) ?_
        exact ih _ _ _ _ _ _ _ _ _ _ ls hf (hP.sub [2, 3, 0, 1, 4, 5, 6] rfl) (hD.sub [2, 3, 0, 1, 4, 5, 6] (by decide) rfl) hS (lv_sub hl [1, 2, 3, 4, 5, 0] rfl)
  unfold f_X1_unpackDictionary at hf
  refine lv_aload_n hx hb dX1_unpackDictionary_0 rfl (lv_at hl 0 rfl) ?_
  refine va_get (D := D) (ci := 1) (v := .ref q_bi) (C := RX1) (T := TX1) (N := 4) hx hb hts hin1 hown hK hP 4 rfl rfl 2 (by decide) (hts (.fieldLink RX1 19 "ColumnChooser$Coder" "bits" "LColumnChooser$Bits;") (List.mem_of_getElem? (i := 1) rfl)) (fun _ h9 => h9) rfl dX1_unpackDictionary_1 ?_
  refine lv_bipush (v := 6) hx hb dX1_unpackDictionary_4 (by decide) ?_
  obtain ⟨u17, hu17, hf⟩ := pr_bd hf
  refine fr_iV (As := [.int 6]) ⟨hx, hb, hml, hown, hts⟩ hK hP hD hS hA (c_X0_read l D cI q_bi q_bi_a n 6 bi_place bi_a u17 hu17) (cwV 1 hts gX1_unpackDictionary_X0_read rfl rfl rfl (by decide +kernel) ⟨Nat.le_of_ble_eq_true rfl, Nat.le_of_ble_eq_true rfl⟩) [(q_co, .inr (3, [.ref q_co_a])), (q_co_a, .inl (cI, 96, .inl co_a)), (q_cd, .inr (1, [.ref q_co, .ref q_pr, .ref q_bi, .ref q_li])), (q_li, .inr (3, [.ref q_li_a])), (q_li_a, .inl (cI, 32, .inl li_a))] [0, 1] [2, 3, 4, 5, 6] rfl rfl (by decide) (by decide) (by decide) 0 rfl rfl rfl rfl hl.1 (Nat.le_of_ble_eq_true rfl) dX1_unpackDictionary_6 ⟨Nat.zero_le _, Nat.zero_le _⟩ rfl (fun H locs hP hD hS => ?_)
  have hP : va_P D vwCl [(q_co, .inr (3, [.ref q_co_a])), (q_co_a, .inl (cI, 96, .inl co_a)), (q_cd, .inr (1, [.ref q_co, .ref q_pr, .ref q_bi, .ref q_li])), (q_li, .inr (3, [.ref q_li_a])), (q_li_a, .inl (cI, 32, .inl li_a)), (q_bi, .inr (0, [.ref q_bi_a, .int u17.2])), (q_bi_a, .inl (cI, 3072, .inl bi_a))] H := hP
  have hD : va_D A [(q_co, .inr (3, [.ref q_co_a])), (q_co_a, .inl (cI, 96, .inl co_a)), (q_cd, .inr (1, [.ref q_co, .ref q_pr, .ref q_bi, .ref q_li])), (q_li, .inr (3, [.ref q_li_a])), (q_li_a, .inl (cI, 32, .inl li_a)), (q_bi, .inr (0, [.ref q_bi_a, .int u17.2])), (q_bi_a, .inl (cI, 3072, .inl bi_a))] := hD
  refine lv_istore_n (lv' := [(3, .int u17.1), (0, .ref q_cd), (1, .int x1), (2, .int x2)]) hx hb dX1_unpackDictionary_9 rfl hl (by decide) rfl (fun ls hl => ?_)
  refine lv_iload_n hx hb dX1_unpackDictionary_10 rfl (lv_at hl 0 rfl) ?_
  refine lv_iconst (v := 1) hx hb dX1_unpackDictionary_11 (by decide) ?_
  refine lv_isub hx hb dX1_unpackDictionary_12 ?_
  obtain ⟨u18, hu18, hf⟩ := pr_bd hf
  refine fr_iS (As := [.int (u17.1 - 1)]) ⟨hx, hb, hml, hown, hts⟩ hK hP hD hS hA (c_X2_widthOf l D cI n (u17.1 - 1) u18 hu18) (va_cwS 1 hts gX1_unpackDictionary_X2_widthOf rfl rfl rfl (by decide +kernel) ⟨Nat.le_of_ble_eq_true rfl, Nat.le_of_ble_eq_true rfl⟩) [(q_co, .inr (3, [.ref q_co_a])), (q_co_a, .inl (cI, 96, .inl co_a)), (q_cd, .inr (1, [.ref q_co, .ref q_pr, .ref q_bi, .ref q_li])), (q_li, .inr (3, [.ref q_li_a])), (q_li_a, .inl (cI, 32, .inl li_a)), (q_bi, .inr (0, [.ref q_bi_a, .int u17.2])), (q_bi_a, .inl (cI, 3072, .inl bi_a))] [] [0, 1, 2, 3, 4, 5, 6] rfl rfl (by decide) (by decide) (by decide) rfl hl.1 (Nat.le_of_ble_eq_true rfl) dX1_unpackDictionary_13 ⟨Nat.zero_le _, Nat.zero_le _⟩ rfl (fun H locs hP hD hS => ?_)
  have hP : va_P D vwCl [(q_co, .inr (3, [.ref q_co_a])), (q_co_a, .inl (cI, 96, .inl co_a)), (q_cd, .inr (1, [.ref q_co, .ref q_pr, .ref q_bi, .ref q_li])), (q_li, .inr (3, [.ref q_li_a])), (q_li_a, .inl (cI, 32, .inl li_a)), (q_bi, .inr (0, [.ref q_bi_a, .int u17.2])), (q_bi_a, .inl (cI, 3072, .inl bi_a))] H := hP
  have hD : va_D A [(q_co, .inr (3, [.ref q_co_a])), (q_co_a, .inl (cI, 96, .inl co_a)), (q_cd, .inr (1, [.ref q_co, .ref q_pr, .ref q_bi, .ref q_li])), (q_li, .inr (3, [.ref q_li_a])), (q_li_a, .inl (cI, 32, .inl li_a)), (q_bi, .inr (0, [.ref q_bi_a, .int u17.2])), (q_bi_a, .inl (cI, 3072, .inl bi_a))] := hD
  refine lv_istore (lv' := [(4, .int u18), (3, .int u17.1), (0, .ref q_cd), (1, .int x1), (2, .int x2)]) hx hb dX1_unpackDictionary_16 hl (by decide) rfl (fun ls hl => ?_)
  refine lv_iconst (v := 0) hx hb dX1_unpackDictionary_18 (by decide) ?_
  refine lv_istore (lv' := [(5, .int 0), (4, .int u18), (3, .int u17.1), (0, .ref q_cd), (1, .int x1), (2, .int x2)]) hx hb dX1_unpackDictionary_19 hl (by decide) rfl (fun ls hl => ?_)
  exact k_21 n _ _ _ _ _ _ _ _ _ _ ls hf (hP.sub [5, 6, 0, 1, 2, 3, 4] rfl) (hD.sub [5, 6, 0, 1, 2, 3, 4] (by decide) rfl) hS (lv_sub hl [3, 4, 5, 2, 1, 0] rfl)
set_option maxHeartbeats 4000000 in
set_option maxRecDepth 100000 in
theorem c_X1_unpackRuns (l : Launch) (D : va_G) (cI : ClassId) (q_bi q_bi_a q_co q_co_a q_pr q_cd q_li : Nat) (n : Nat) (x1 : Int32) (x2 : Int32) (bi_place : Int32) (bi_a : (Nat → Int32)) (co_a : (Nat → Int32)) (res : Int32 × (Nat → Int32)) (hf : f_X1_unpackRuns n x1 x2 bi_place bi_a co_a = some res) : fr_Cv l yX1_unpackRuns wsX1_unpackRuns ({ frames := 2, cells := 0, slots := 0, locals := 44 }) D [(cI, .int)] [.ref q_cd, .int x1, .int x2] [(q_bi, .inr (0, [.ref q_bi_a, .int bi_place])), (q_bi_a, .inl (cI, 3072, .inl bi_a)), (q_co, .inr (3, [.ref q_co_a])), (q_co_a, .inl (cI, 96, .inl co_a)), (q_cd, .inr (1, [.ref q_co, .ref q_pr, .ref q_bi, .ref q_li]))] [(q_bi, .inr (0, [.ref q_bi_a, .int res.1])), (q_bi_a, .inl (cI, 3072, .inl bi_a)), (q_co, .inr (3, [.ref q_co_a])), (q_co_a, .inl (cI, 96, .inl res.2)), (q_cd, .inr (1, [.ref q_co, .ref q_pr, .ref q_bi, .ref q_li]))] := by
  refine fr_open_v (cc := cX1_unpackRuns) (maxL := 6) (by decide +kernel) rfl (Nat.le_of_ble_eq_true rfl) ?_
  intro p e s m below meth c A Q ls hx hb hml hown hts hA hK hP hD hS hl hret
  have hown : s.vm.findClass RX1 = some m.cls := hown
  have hl : lv_has ls 6 [(0, .ref q_cd), (1, .int x1), (2, .int x2)] := hl
  have hin1 : ∀ w ∈ u_ws RX1 TX1 4, w ∈ wsX1_unpackRuns := fun _ h9 => List.mem_cons_of_mem _ (List.mem_append_left _ (List.mem_append_left _ (List.mem_append_right _ h9)))
  have k_8 : ∀ (n : Nat), (∀ (z1 : Int32) (z2 : Int32) (z3 : Int32) (z4 : Int32) (z5 : Int32) (bi_place : Int32) (co_a : (Nat → Int32)) (H : Heap) (locs : List Loc) (ls : Array Slot), f_X1_unpackRuns_8 n z1 z2 z3 z4 z5 bi_place bi_a co_a = some res → va_P D vwCl [(q_bi, .inr (0, [.ref q_bi_a, .int bi_place])), (q_bi_a, .inl (cI, 3072, .inl bi_a)), (q_co, .inr (3, [.ref q_co_a])), (q_co_a, .inl (cI, 96, .inl co_a)), (q_cd, .inr (1, [.ref q_co, .ref q_pr, .ref q_bi, .ref q_li]))] H → va_D A [(q_bi, .inr (0, [.ref q_bi_a, .int bi_place])), (q_bi_a, .inl (cI, 3072, .inl bi_a)), (q_co, .inr (3, [.ref q_co_a])), (q_co_a, .inl (cI, 96, .inl co_a)), (q_cd, .inr (1, [.ref q_co, .ref q_pr, .ref q_bi, .ref q_li]))] → va_S A s.heap H locs → lv_has ls 6 [(0, .ref q_cd), (1, .int z1), (2, .int z2), (3, .int z3), (4, .int z4), (5, .int z5)] → W p l e ({ frames := 2, cells := 0, slots := 0, locals := 44 }) s m ([.ref q_cd, .int x1, .int x2] : List Value).toArray below meth c H locs 0 0 Q (F0 m 8 ls [])) := by
    intro n
    induction n with
    | zero =>
      intro z1 z2 z3 z4 z5 bi_place co_a H locs ls hf hP hD hS hl
      exact absurd (show (none : Option (Int32 × (Nat → Int32))) = some res from hf) (by simp)
    | succ n ih =>
      intro z1 z2 z3 z4 z5 bi_place co_a H locs ls hf hP hD hS hl
      have hf : f_X1_unpackRuns_8_s (f_X1_unpackRuns_8 n) n z1 z2 z3 z4 z5 bi_place bi_a co_a = some res := hf
      unfold f_X1_unpackRuns_8_s at hf
      refine lv_iload hx hb dX1_unpackRuns_8 (lv_at hl 5 rfl) ?_
      refine lv_iload_n hx hb dX1_unpackRuns_10 rfl (lv_at hl 2 rfl) ?_
      refine lv_icmp_ge (tgt := 56) hx hb dX1_unpackRuns_11 (by decide) (fun c7 => ?_) (fun c7 => ?_)
      · have hf := pr_pos hf c7
        obtain rfl := Option.some.inj hf
        exact hret _ _ _ _ dX1_unpackRuns_56 (hP.sub [0, 1, 2, 3, 4] rfl) (hD.sub [0, 1, 2, 3, 4] (by decide) rfl) hS
      · have hf := pr_neg hf c7
        refine lv_iload hx hb dX1_unpackRuns_14 (lv_at hl 4 rfl) ?_
        refine lv_if_ne (tgt := 35) hx hb dX1_unpackRuns_16 (by decide) (fun c8 => ?_) (fun c8 => ?_)
        · have hf := pr_neg hf c8
          refine lv_aload_n hx hb dX1_unpackRuns_35 rfl (lv_at hl 0 rfl) ?_
          refine va_get (D := D) (ci := 1) (v := .ref q_co) (C := RX1) (T := TX1) (N := 4) hx hb hts hin1 hown hK hP 4 rfl rfl 0 (by decide) (hts (.fieldLink RX1 9 "ColumnChooser$Coder" "column" "LColumnChooser$Row;") (List.mem_of_getElem? (i := 2) rfl)) (fun _ h9 => h9) rfl dX1_unpackRuns_36 ?_
          refine lv_iload_n hx hb dX1_unpackRuns_39 rfl (lv_at hl 1 rfl) ?_
          refine lv_iload hx hb dX1_unpackRuns_40 (lv_at hl 5 rfl) ?_
          refine lv_iadd hx hb dX1_unpackRuns_42 ?_
          refine lv_iload_n hx hb dX1_unpackRuns_43 rfl (lv_at hl 3 rfl) ?_
          obtain ⟨u9, hu9, hf⟩ := pr_bd hf
          refine fr_vV (As := [.int (z1 + z5), .int z3]) ⟨hx, hb, hml, hown, hts⟩ hK hP hD hS hA (c_X3_put l D cI q_co q_co_a 96 n (z1 + z5) z3 co_a u9 hu9) (cwV 2 hts gX1_unpackRuns_X3_put rfl rfl rfl (by decide +kernel) ⟨Nat.le_of_ble_eq_true rfl, Nat.le_of_ble_eq_true rfl⟩) [(q_bi, .inr (0, [.ref q_bi_a, .int bi_place])), (q_bi_a, .inl (cI, 3072, .inl bi_a)), (q_cd, .inr (1, [.ref q_co, .ref q_pr, .ref q_bi, .ref q_li]))] [2, 3] [0, 1, 4] rfl rfl (by decide) (by decide) (by decide) 0 rfl rfl rfl rfl hl.1 (Nat.le_of_ble_eq_true rfl) dX1_unpackRuns_44 ⟨Nat.zero_le _, Nat.zero_le _⟩ rfl (fun H locs hP hD hS => ?_)
          have hP : va_P D vwCl [(q_bi, .inr (0, [.ref q_bi_a, .int bi_place])), (q_bi_a, .inl (cI, 3072, .inl bi_a)), (q_cd, .inr (1, [.ref q_co, .ref q_pr, .ref q_bi, .ref q_li])), (q_co, .inr (3, [.ref q_co_a])), (q_co_a, .inl (cI, 96, .inl u9))] H := hP
          have hD : va_D A [(q_bi, .inr (0, [.ref q_bi_a, .int bi_place])), (q_bi_a, .inl (cI, 3072, .inl bi_a)), (q_cd, .inr (1, [.ref q_co, .ref q_pr, .ref q_bi, .ref q_li])), (q_co, .inr (3, [.ref q_co_a])), (q_co_a, .inl (cI, 96, .inl u9))] := hD
          refine lv_iinc (v := (z4 + (-1))) (lv' := [(4, .int (z4 + (-1))), (0, .ref q_cd), (1, .int z1), (2, .int z2), (3, .int z3), (5, .int z5)]) hx hb dX1_unpackRuns_47 hl (k := 4) rfl rfl (by decide) rfl (fun ls hl => ?_)
          refine lv_iinc (v := (z5 + 1)) (lv' := [(5, .int (z5 + 1)), (4, .int (z4 + (-1))), (0, .ref q_cd), (1, .int z1), (2, .int z2), (3, .int z3)]) hx hb dX1_unpackRuns_50 hl (k := 5) rfl rfl (by decide) rfl (fun ls hl => ?_)
          refine lv_goto (tgt := 8) hx hb dX1_unpackRuns_53 (by decide) ?_
          exact ih _ _ _ _ _ _ _ _ _ ls hf (hP.sub [0, 1, 3, 4, 2] rfl) (hD.sub [0, 1, 3, 4, 2] (by decide) rfl) hS (lv_sub hl [2, 3, 4, 5, 1, 0] rfl)
        · have hf := pr_pos hf c8
          refine lv_aload_n hx hb dX1_unpackRuns_19 rfl (lv_at hl 0 rfl) ?_
          obtain ⟨u10, hu10, hf⟩ := pr_bd hf
          refine fr_iV (As := []) ⟨hx, hb, hml, hown, hts⟩ hK hP hD hS hA (c_X1_readValue l D cI q_bi q_bi_a q_co q_pr q_cd q_li n bi_place bi_a u10 hu10) (cwV 0 hts gX1_unpackRuns_X1_readValue rfl rfl rfl (by decide +kernel) ⟨Nat.le_of_ble_eq_true rfl, Nat.le_of_ble_eq_true rfl⟩) [(q_co, .inr (3, [.ref q_co_a])), (q_co_a, .inl (cI, 96, .inl co_a))] [0, 1, 4] [2, 3] rfl rfl (by decide) (by decide) (by decide) 2 rfl rfl rfl rfl hl.1 (Nat.le_of_ble_eq_true rfl) dX1_unpackRuns_20 ⟨Nat.zero_le _, Nat.zero_le _⟩ rfl (fun H locs hP hD hS => ?_)
          have hP : va_P D vwCl [(q_co, .inr (3, [.ref q_co_a])), (q_co_a, .inl (cI, 96, .inl co_a)), (q_bi, .inr (0, [.ref q_bi_a, .int u10.2])), (q_bi_a, .inl (cI, 3072, .inl bi_a)), (q_cd, .inr (1, [.ref q_co, .ref q_pr, .ref q_bi, .ref q_li]))] H := hP
          have hD : va_D A [(q_co, .inr (3, [.ref q_co_a])), (q_co_a, .inl (cI, 96, .inl co_a)), (q_bi, .inr (0, [.ref q_bi_a, .int u10.2])), (q_bi_a, .inl (cI, 3072, .inl bi_a)), (q_cd, .inr (1, [.ref q_co, .ref q_pr, .ref q_bi, .ref q_li]))] := hD
          refine lv_istore_n (lv' := [(3, .int u10.1), (0, .ref q_cd), (1, .int z1), (2, .int z2), (4, .int z4), (5, .int z5)]) hx hb dX1_unpackRuns_23 rfl hl (by decide) rfl (fun ls hl => ?_)
          refine lv_aload_n hx hb dX1_unpackRuns_24 rfl (lv_at hl 1 rfl) ?_
          refine va_get (D := D) (ci := 1) (v := .ref q_bi) (C := RX1) (T := TX1) (N := 4) hx hb hts hin1 hown hK hP 4 rfl rfl 2 (by decide) (hts (.fieldLink RX1 19 "ColumnChooser$Coder" "bits" "LColumnChooser$Bits;") (List.mem_of_getElem? (i := 1) rfl)) (fun _ h9 => h9) rfl dX1_unpackRuns_25 ?_
          refine lv_bipush (v := 6) hx hb dX1_unpackRuns_28 (by decide) ?_
          obtain ⟨u11, hu11, hf⟩ := pr_bd hf
          refine fr_iV (As := [.int 6]) ⟨hx, hb, hml, hown, hts⟩ hK hP hD hS hA (c_X0_read l D cI q_bi q_bi_a n 6 u10.2 bi_a u11 hu11) (cwV 1 hts gX1_unpackRuns_X0_read rfl rfl rfl (by decide +kernel) ⟨Nat.le_of_ble_eq_true rfl, Nat.le_of_ble_eq_true rfl⟩) [(q_co, .inr (3, [.ref q_co_a])), (q_co_a, .inl (cI, 96, .inl co_a)), (q_cd, .inr (1, [.ref q_co, .ref q_pr, .ref q_bi, .ref q_li]))] [2, 3] [0, 1, 4] rfl rfl (by decide) (by decide) (by decide) 0 rfl rfl rfl rfl hl.1 (Nat.le_of_ble_eq_true rfl) dX1_unpackRuns_30 ⟨Nat.zero_le _, Nat.zero_le _⟩ rfl (fun H locs hP hD hS => ?_)
          have hP : va_P D vwCl [(q_co, .inr (3, [.ref q_co_a])), (q_co_a, .inl (cI, 96, .inl co_a)), (q_cd, .inr (1, [.ref q_co, .ref q_pr, .ref q_bi, .ref q_li])), (q_bi, .inr (0, [.ref q_bi_a, .int u11.2])), (q_bi_a, .inl (cI, 3072, .inl bi_a))] H := hP
          have hD : va_D A [(q_co, .inr (3, [.ref q_co_a])), (q_co_a, .inl (cI, 96, .inl co_a)), (q_cd, .inr (1, [.ref q_co, .ref q_pr, .ref q_bi, .ref q_li])), (q_bi, .inr (0, [.ref q_bi_a, .int u11.2])), (q_bi_a, .inl (cI, 3072, .inl bi_a))] := hD
          refine lv_istore (lv' := [(4, .int u11.1), (3, .int u10.1), (0, .ref q_cd), (1, .int z1), (2, .int z2), (5, .int z5)]) hx hb dX1_unpackRuns_33 hl (by decide) rfl (fun ls hl => ?_)
          refine lv_aload_n hx hb dX1_unpackRuns_35 rfl (lv_at hl 2 rfl) ?_
          refine va_get (D := D) (ci := 1) (v := .ref q_co) (C := RX1) (T := TX1) (N := 4) hx hb hts hin1 hown hK hP 2 rfl rfl 0 (by decide) (hts (.fieldLink RX1 9 "ColumnChooser$Coder" "column" "LColumnChooser$Row;") (List.mem_of_getElem? (i := 2) rfl)) (fun _ h9 => h9) rfl dX1_unpackRuns_36 ?_
          refine lv_iload_n hx hb dX1_unpackRuns_39 rfl (lv_at hl 3 rfl) ?_
          refine lv_iload hx hb dX1_unpackRuns_40 (lv_at hl 5 rfl) ?_
          refine lv_iadd hx hb dX1_unpackRuns_42 ?_
          refine lv_iload_n hx hb dX1_unpackRuns_43 rfl (lv_at hl 1 rfl) ?_
          obtain ⟨u12, hu12, hf⟩ := pr_bd hf
          refine fr_vV (As := [.int (z1 + z5), .int u10.1]) ⟨hx, hb, hml, hown, hts⟩ hK hP hD hS hA (c_X3_put l D cI q_co q_co_a 96 n (z1 + z5) u10.1 co_a u12 hu12) (cwV 2 hts gX1_unpackRuns_X3_put rfl rfl rfl (by decide +kernel) ⟨Nat.le_of_ble_eq_true rfl, Nat.le_of_ble_eq_true rfl⟩) [(q_cd, .inr (1, [.ref q_co, .ref q_pr, .ref q_bi, .ref q_li])), (q_bi, .inr (0, [.ref q_bi_a, .int u11.2])), (q_bi_a, .inl (cI, 3072, .inl bi_a))] [0, 1] [2, 3, 4] rfl rfl (by decide) (by decide) (by decide) 0 rfl rfl rfl rfl hl.1 (Nat.le_of_ble_eq_true rfl) dX1_unpackRuns_44 ⟨Nat.zero_le _, Nat.zero_le _⟩ rfl (fun H locs hP hD hS => ?_)
          have hP : va_P D vwCl [(q_cd, .inr (1, [.ref q_co, .ref q_pr, .ref q_bi, .ref q_li])), (q_bi, .inr (0, [.ref q_bi_a, .int u11.2])), (q_bi_a, .inl (cI, 3072, .inl bi_a)), (q_co, .inr (3, [.ref q_co_a])), (q_co_a, .inl (cI, 96, .inl u12))] H := hP
          have hD : va_D A [(q_cd, .inr (1, [.ref q_co, .ref q_pr, .ref q_bi, .ref q_li])), (q_bi, .inr (0, [.ref q_bi_a, .int u11.2])), (q_bi_a, .inl (cI, 3072, .inl bi_a)), (q_co, .inr (3, [.ref q_co_a])), (q_co_a, .inl (cI, 96, .inl u12))] := hD
          refine lv_iinc (v := (u11.1 + (-1))) (lv' := [(4, .int (u11.1 + (-1))), (3, .int u10.1), (0, .ref q_cd), (1, .int z1), (2, .int z2), (5, .int z5)]) hx hb dX1_unpackRuns_47 hl (k := 0) rfl rfl (by decide) rfl (fun ls hl => ?_)
          refine lv_iinc (v := (z5 + 1)) (lv' := [(5, .int (z5 + 1)), (4, .int (u11.1 + (-1))), (3, .int u10.1), (0, .ref q_cd), (1, .int z1), (2, .int z2)]) hx hb dX1_unpackRuns_50 hl (k := 5) rfl rfl (by decide) rfl (fun ls hl => ?_)
          refine lv_goto (tgt := 8) hx hb dX1_unpackRuns_53 (by decide) ?_
          exact ih _ _ _ _ _ _ _ _ _ ls hf (hP.sub [1, 2, 3, 4, 0] rfl) (hD.sub [1, 2, 3, 4, 0] (by decide) rfl) hS (lv_sub hl [3, 4, 5, 2, 1, 0] rfl)
  unfold f_X1_unpackRuns at hf
  refine lv_iconst (v := 0) hx hb dX1_unpackRuns_0 (by decide) ?_
  refine lv_istore_n (lv' := [(3, .int 0), (0, .ref q_cd), (1, .int x1), (2, .int x2)]) hx hb dX1_unpackRuns_1 rfl hl (by decide) rfl (fun ls hl => ?_)
  refine lv_iconst (v := 0) hx hb dX1_unpackRuns_2 (by decide) ?_
  refine lv_istore (lv' := [(4, .int 0), (3, .int 0), (0, .ref q_cd), (1, .int x1), (2, .int x2)]) hx hb dX1_unpackRuns_3 hl (by decide) rfl (fun ls hl => ?_)
  refine lv_iconst (v := 0) hx hb dX1_unpackRuns_5 (by decide) ?_
  refine lv_istore (lv' := [(5, .int 0), (4, .int 0), (3, .int 0), (0, .ref q_cd), (1, .int x1), (2, .int x2)]) hx hb dX1_unpackRuns_6 hl (by decide) rfl (fun ls hl => ?_)
  exact k_8 n _ _ _ _ _ _ _ _ _ ls hf (hP.sub [0, 1, 2, 3, 4] rfl) (hD.sub [0, 1, 2, 3, 4] (by decide) rfl) hS (lv_sub hl [3, 4, 5, 2, 1, 0] rfl)
set_option maxHeartbeats 4000000 in
set_option maxRecDepth 100000 in
theorem c_X1_unpackConstant (l : Launch) (D : va_G) (cI : ClassId) (q_bi q_bi_a q_co q_co_a q_pr q_cd q_li : Nat) (n : Nat) (x1 : Int32) (x2 : Int32) (bi_place : Int32) (bi_a : (Nat → Int32)) (co_a : (Nat → Int32)) (res : Int32 × (Nat → Int32)) (hf : f_X1_unpackConstant n x1 x2 bi_place bi_a co_a = some res) : fr_Cv l yX1_unpackConstant wsX1_unpackConstant ({ frames := 2, cells := 0, slots := 0, locals := 44 }) D [(cI, .int)] [.ref q_cd, .int x1, .int x2] [(q_bi, .inr (0, [.ref q_bi_a, .int bi_place])), (q_bi_a, .inl (cI, 3072, .inl bi_a)), (q_co, .inr (3, [.ref q_co_a])), (q_co_a, .inl (cI, 96, .inl co_a)), (q_cd, .inr (1, [.ref q_co, .ref q_pr, .ref q_bi, .ref q_li]))] [(q_bi, .inr (0, [.ref q_bi_a, .int res.1])), (q_bi_a, .inl (cI, 3072, .inl bi_a)), (q_co, .inr (3, [.ref q_co_a])), (q_co_a, .inl (cI, 96, .inl res.2)), (q_cd, .inr (1, [.ref q_co, .ref q_pr, .ref q_bi, .ref q_li]))] := by
  refine fr_open_v (cc := cX1_unpackConstant) (maxL := 5) (by decide +kernel) rfl (Nat.le_of_ble_eq_true rfl) ?_
  intro p e s m below meth c A Q ls hx hb hml hown hts hA hK hP hD hS hl hret
  have hown : s.vm.findClass RX1 = some m.cls := hown
  have hl : lv_has ls 5 [(0, .ref q_cd), (1, .int x1), (2, .int x2)] := hl
  have hin1 : ∀ w ∈ u_ws RX1 TX1 4, w ∈ wsX1_unpackConstant := fun _ h9 => List.mem_cons_of_mem _ (List.mem_append_left _ (List.mem_append_left _ (List.mem_append_right _ h9)))
  have k_8 : ∀ (n : Nat), (∀ (z1 : Int32) (z2 : Int32) (z3 : Int32) (z4 : Int32) (bi_place : Int32) (co_a : (Nat → Int32)) (H : Heap) (locs : List Loc) (ls : Array Slot), f_X1_unpackConstant_8 n z1 z2 z3 z4 bi_place bi_a co_a = some res → va_P D vwCl [(q_bi, .inr (0, [.ref q_bi_a, .int bi_place])), (q_bi_a, .inl (cI, 3072, .inl bi_a)), (q_co, .inr (3, [.ref q_co_a])), (q_co_a, .inl (cI, 96, .inl co_a)), (q_cd, .inr (1, [.ref q_co, .ref q_pr, .ref q_bi, .ref q_li]))] H → va_D A [(q_bi, .inr (0, [.ref q_bi_a, .int bi_place])), (q_bi_a, .inl (cI, 3072, .inl bi_a)), (q_co, .inr (3, [.ref q_co_a])), (q_co_a, .inl (cI, 96, .inl co_a)), (q_cd, .inr (1, [.ref q_co, .ref q_pr, .ref q_bi, .ref q_li]))] → va_S A s.heap H locs → lv_has ls 5 [(0, .ref q_cd), (1, .int z1), (2, .int z2), (3, .int z3), (4, .int z4)] → W p l e ({ frames := 2, cells := 0, slots := 0, locals := 44 }) s m ([.ref q_cd, .int x1, .int x2] : List Value).toArray below meth c H locs 0 0 Q (F0 m 8 ls [])) := by
    intro n
    induction n with
    | zero =>
      intro z1 z2 z3 z4 bi_place co_a H locs ls hf hP hD hS hl
      exact absurd (show (none : Option (Int32 × (Nat → Int32))) = some res from hf) (by simp)
    | succ n ih =>
      intro z1 z2 z3 z4 bi_place co_a H locs ls hf hP hD hS hl
      have hf : f_X1_unpackConstant_8_s (f_X1_unpackConstant_8 n) n z1 z2 z3 z4 bi_place bi_a co_a = some res := hf
      unfold f_X1_unpackConstant_8_s at hf
      refine lv_iload hx hb dX1_unpackConstant_8 (lv_at hl 4 rfl) ?_
      refine lv_iload_n hx hb dX1_unpackConstant_10 rfl (lv_at hl 2 rfl) ?_
      refine lv_icmp_ge (tgt := 32) hx hb dX1_unpackConstant_11 (by decide) (fun c4 => ?_) (fun c4 => ?_)
      · have hf := pr_pos hf c4
        obtain rfl := Option.some.inj hf
        exact hret _ _ _ _ dX1_unpackConstant_32 (hP.sub [0, 1, 2, 3, 4] rfl) (hD.sub [0, 1, 2, 3, 4] (by decide) rfl) hS
      · have hf := pr_neg hf c4
        refine lv_aload_n hx hb dX1_unpackConstant_14 rfl (lv_at hl 0 rfl) ?_
        refine va_get (D := D) (ci := 1) (v := .ref q_co) (C := RX1) (T := TX1) (N := 4) hx hb hts hin1 hown hK hP 4 rfl rfl 0 (by decide) (hts (.fieldLink RX1 9 "ColumnChooser$Coder" "column" "LColumnChooser$Row;") (List.mem_of_getElem? (i := 1) rfl)) (fun _ h9 => h9) rfl dX1_unpackConstant_15 ?_
        refine lv_iload_n hx hb dX1_unpackConstant_18 rfl (lv_at hl 1 rfl) ?_
        refine lv_iload hx hb dX1_unpackConstant_19 (lv_at hl 4 rfl) ?_
        refine lv_iadd hx hb dX1_unpackConstant_21 ?_
        refine lv_iload_n hx hb dX1_unpackConstant_22 rfl (lv_at hl 3 rfl) ?_
        obtain ⟨u5, hu5, hf⟩ := pr_bd hf
        refine fr_vV (As := [.int (z1 + z4), .int z3]) ⟨hx, hb, hml, hown, hts⟩ hK hP hD hS hA (c_X3_put l D cI q_co q_co_a 96 n (z1 + z4) z3 co_a u5 hu5) (cwV 2 hts gX1_unpackConstant_X3_put rfl rfl rfl (by decide +kernel) ⟨Nat.le_of_ble_eq_true rfl, Nat.le_of_ble_eq_true rfl⟩) [(q_bi, .inr (0, [.ref q_bi_a, .int bi_place])), (q_bi_a, .inl (cI, 3072, .inl bi_a)), (q_cd, .inr (1, [.ref q_co, .ref q_pr, .ref q_bi, .ref q_li]))] [2, 3] [0, 1, 4] rfl rfl (by decide) (by decide) (by decide) 0 rfl rfl rfl rfl hl.1 (Nat.le_of_ble_eq_true rfl) dX1_unpackConstant_23 ⟨Nat.zero_le _, Nat.zero_le _⟩ rfl (fun H locs hP hD hS => ?_)
        have hP : va_P D vwCl [(q_bi, .inr (0, [.ref q_bi_a, .int bi_place])), (q_bi_a, .inl (cI, 3072, .inl bi_a)), (q_cd, .inr (1, [.ref q_co, .ref q_pr, .ref q_bi, .ref q_li])), (q_co, .inr (3, [.ref q_co_a])), (q_co_a, .inl (cI, 96, .inl u5))] H := hP
        have hD : va_D A [(q_bi, .inr (0, [.ref q_bi_a, .int bi_place])), (q_bi_a, .inl (cI, 3072, .inl bi_a)), (q_cd, .inr (1, [.ref q_co, .ref q_pr, .ref q_bi, .ref q_li])), (q_co, .inr (3, [.ref q_co_a])), (q_co_a, .inl (cI, 96, .inl u5))] := hD
        refine lv_iinc (v := (z4 + 1)) (lv' := [(4, .int (z4 + 1)), (0, .ref q_cd), (1, .int z1), (2, .int z2), (3, .int z3)]) hx hb dX1_unpackConstant_26 hl (k := 4) rfl rfl (by decide) rfl (fun ls hl => ?_)
        refine lv_goto (tgt := 8) hx hb dX1_unpackConstant_29 (by decide) ?_
        exact ih _ _ _ _ _ _ _ _ ls hf (hP.sub [0, 1, 3, 4, 2] rfl) (hD.sub [0, 1, 3, 4, 2] (by decide) rfl) hS (lv_sub hl [1, 2, 3, 4, 0] rfl)
  unfold f_X1_unpackConstant at hf
  refine lv_aload_n hx hb dX1_unpackConstant_0 rfl (lv_at hl 0 rfl) ?_
  obtain ⟨u6, hu6, hf⟩ := pr_bd hf
  refine fr_iV (As := []) ⟨hx, hb, hml, hown, hts⟩ hK hP hD hS hA (c_X1_readValue l D cI q_bi q_bi_a q_co q_pr q_cd q_li n bi_place bi_a u6 hu6) (cwV 0 hts gX1_unpackConstant_X1_readValue rfl rfl rfl (by decide +kernel) ⟨Nat.le_of_ble_eq_true rfl, Nat.le_of_ble_eq_true rfl⟩) [(q_co, .inr (3, [.ref q_co_a])), (q_co_a, .inl (cI, 96, .inl co_a))] [0, 1, 4] [2, 3] rfl rfl (by decide) (by decide) (by decide) 2 rfl rfl rfl rfl hl.1 (Nat.le_of_ble_eq_true rfl) dX1_unpackConstant_1 ⟨Nat.zero_le _, Nat.zero_le _⟩ rfl (fun H locs hP hD hS => ?_)
  have hP : va_P D vwCl [(q_co, .inr (3, [.ref q_co_a])), (q_co_a, .inl (cI, 96, .inl co_a)), (q_bi, .inr (0, [.ref q_bi_a, .int u6.2])), (q_bi_a, .inl (cI, 3072, .inl bi_a)), (q_cd, .inr (1, [.ref q_co, .ref q_pr, .ref q_bi, .ref q_li]))] H := hP
  have hD : va_D A [(q_co, .inr (3, [.ref q_co_a])), (q_co_a, .inl (cI, 96, .inl co_a)), (q_bi, .inr (0, [.ref q_bi_a, .int u6.2])), (q_bi_a, .inl (cI, 3072, .inl bi_a)), (q_cd, .inr (1, [.ref q_co, .ref q_pr, .ref q_bi, .ref q_li]))] := hD
  refine lv_istore_n (lv' := [(3, .int u6.1), (0, .ref q_cd), (1, .int x1), (2, .int x2)]) hx hb dX1_unpackConstant_4 rfl hl (by decide) rfl (fun ls hl => ?_)
  refine lv_iconst (v := 0) hx hb dX1_unpackConstant_5 (by decide) ?_
  refine lv_istore (lv' := [(4, .int 0), (3, .int u6.1), (0, .ref q_cd), (1, .int x1), (2, .int x2)]) hx hb dX1_unpackConstant_6 hl (by decide) rfl (fun ls hl => ?_)
  exact k_8 n _ _ _ _ _ _ _ _ ls hf (hP.sub [2, 3, 0, 1, 4] rfl) (hD.sub [2, 3, 0, 1, 4] (by decide) rfl) hS (lv_sub hl [2, 3, 4, 1, 0] rfl)
set_option maxHeartbeats 4000000 in
set_option maxRecDepth 100000 in
theorem c_X1_unpackPlain (l : Launch) (D : va_G) (cI : ClassId) (q_bi q_bi_a q_co q_co_a q_pr q_cd q_li : Nat) (n : Nat) (x1 : Int32) (x2 : Int32) (bi_place : Int32) (bi_a : (Nat → Int32)) (co_a : (Nat → Int32)) (res : Int32 × (Nat → Int32)) (hf : f_X1_unpackPlain n x1 x2 bi_place bi_a co_a = some res) : fr_Cv l yX1_unpackPlain wsX1_unpackPlain ({ frames := 2, cells := 0, slots := 0, locals := 44 }) D [(cI, .int)] [.ref q_cd, .int x1, .int x2] [(q_bi, .inr (0, [.ref q_bi_a, .int bi_place])), (q_bi_a, .inl (cI, 3072, .inl bi_a)), (q_co, .inr (3, [.ref q_co_a])), (q_co_a, .inl (cI, 96, .inl co_a)), (q_cd, .inr (1, [.ref q_co, .ref q_pr, .ref q_bi, .ref q_li]))] [(q_bi, .inr (0, [.ref q_bi_a, .int res.1])), (q_bi_a, .inl (cI, 3072, .inl bi_a)), (q_co, .inr (3, [.ref q_co_a])), (q_co_a, .inl (cI, 96, .inl res.2)), (q_cd, .inr (1, [.ref q_co, .ref q_pr, .ref q_bi, .ref q_li]))] := by
  refine fr_open_v (cc := cX1_unpackPlain) (maxL := 4) (by decide +kernel) rfl (Nat.le_of_ble_eq_true rfl) ?_
  intro p e s m below meth c A Q ls hx hb hml hown hts hA hK hP hD hS hl hret
  have hown : s.vm.findClass RX1 = some m.cls := hown
  have hl : lv_has ls 4 [(0, .ref q_cd), (1, .int x1), (2, .int x2)] := hl
  have hin1 : ∀ w ∈ u_ws RX1 TX1 4, w ∈ wsX1_unpackPlain := fun _ h9 => List.mem_cons_of_mem _ (List.mem_append_left _ (List.mem_append_left _ (List.mem_append_right _ h9)))
  have k_2 : ∀ (n : Nat), (∀ (z1 : Int32) (z2 : Int32) (z3 : Int32) (bi_place : Int32) (co_a : (Nat → Int32)) (H : Heap) (locs : List Loc) (ls : Array Slot), f_X1_unpackPlain_2 n z1 z2 z3 bi_place bi_a co_a = some res → va_P D vwCl [(q_bi, .inr (0, [.ref q_bi_a, .int bi_place])), (q_bi_a, .inl (cI, 3072, .inl bi_a)), (q_co, .inr (3, [.ref q_co_a])), (q_co_a, .inl (cI, 96, .inl co_a)), (q_cd, .inr (1, [.ref q_co, .ref q_pr, .ref q_bi, .ref q_li]))] H → va_D A [(q_bi, .inr (0, [.ref q_bi_a, .int bi_place])), (q_bi_a, .inl (cI, 3072, .inl bi_a)), (q_co, .inr (3, [.ref q_co_a])), (q_co_a, .inl (cI, 96, .inl co_a)), (q_cd, .inr (1, [.ref q_co, .ref q_pr, .ref q_bi, .ref q_li]))] → va_S A s.heap H locs → lv_has ls 4 [(0, .ref q_cd), (1, .int z1), (2, .int z2), (3, .int z3)] → W p l e ({ frames := 2, cells := 0, slots := 0, locals := 44 }) s m ([.ref q_cd, .int x1, .int x2] : List Value).toArray below meth c H locs 0 0 Q (F0 m 2 ls [])) := by
    intro n
    induction n with
    | zero =>
      intro z1 z2 z3 bi_place co_a H locs ls hf hP hD hS hl
      exact absurd (show (none : Option (Int32 × (Nat → Int32))) = some res from hf) (by simp)
    | succ n ih =>
      intro z1 z2 z3 bi_place co_a H locs ls hf hP hD hS hl
      have hf : f_X1_unpackPlain_2_s (f_X1_unpackPlain_2 n) n z1 z2 z3 bi_place bi_a co_a = some res := hf
      unfold f_X1_unpackPlain_2_s at hf
      refine lv_iload_n hx hb dX1_unpackPlain_2 rfl (lv_at hl 3 rfl) ?_
      refine lv_iload_n hx hb dX1_unpackPlain_3 rfl (lv_at hl 2 rfl) ?_
      refine lv_icmp_ge (tgt := 27) hx hb dX1_unpackPlain_4 (by decide) (fun c4 => ?_) (fun c4 => ?_)
      · have hf := pr_pos hf c4
        obtain rfl := Option.some.inj hf
        exact hret _ _ _ _ dX1_unpackPlain_27 (hP.sub [0, 1, 2, 3, 4] rfl) (hD.sub [0, 1, 2, 3, 4] (by decide) rfl) hS
      · have hf := pr_neg hf c4
        refine lv_aload_n hx hb dX1_unpackPlain_7 rfl (lv_at hl 0 rfl) ?_
        refine va_get (D := D) (ci := 1) (v := .ref q_co) (C := RX1) (T := TX1) (N := 4) hx hb hts hin1 hown hK hP 4 rfl rfl 0 (by decide) (hts (.fieldLink RX1 9 "ColumnChooser$Coder" "column" "LColumnChooser$Row;") (List.mem_of_getElem? (i := 1) rfl)) (fun _ h9 => h9) rfl dX1_unpackPlain_8 ?_
        refine lv_iload_n hx hb dX1_unpackPlain_11 rfl (lv_at hl 1 rfl) ?_
        refine lv_iload_n hx hb dX1_unpackPlain_12 rfl (lv_at hl 3 rfl) ?_
        refine lv_iadd hx hb dX1_unpackPlain_13 ?_
        refine lv_aload_n hx hb dX1_unpackPlain_14 rfl (lv_at hl 0 rfl) ?_
        obtain ⟨u5, hu5, hf⟩ := pr_bd hf
        refine fr_iV (As := []) ⟨hx, hb, hml, hown, hts⟩ hK hP hD hS hA (c_X1_readValue l D cI q_bi q_bi_a q_co q_pr q_cd q_li n bi_place bi_a u5 hu5) (cwV 0 hts gX1_unpackPlain_X1_readValue rfl rfl rfl (by decide +kernel) ⟨Nat.le_of_ble_eq_true rfl, Nat.le_of_ble_eq_true rfl⟩) [(q_co, .inr (3, [.ref q_co_a])), (q_co_a, .inl (cI, 96, .inl co_a))] [0, 1, 4] [2, 3] rfl rfl (by decide) (by decide) (by decide) 2 rfl rfl rfl rfl hl.1 (Nat.le_of_ble_eq_true rfl) dX1_unpackPlain_15 ⟨Nat.zero_le _, Nat.zero_le _⟩ rfl (fun H locs hP hD hS => ?_)
        have hP : va_P D vwCl [(q_co, .inr (3, [.ref q_co_a])), (q_co_a, .inl (cI, 96, .inl co_a)), (q_bi, .inr (0, [.ref q_bi_a, .int u5.2])), (q_bi_a, .inl (cI, 3072, .inl bi_a)), (q_cd, .inr (1, [.ref q_co, .ref q_pr, .ref q_bi, .ref q_li]))] H := hP
        have hD : va_D A [(q_co, .inr (3, [.ref q_co_a])), (q_co_a, .inl (cI, 96, .inl co_a)), (q_bi, .inr (0, [.ref q_bi_a, .int u5.2])), (q_bi_a, .inl (cI, 3072, .inl bi_a)), (q_cd, .inr (1, [.ref q_co, .ref q_pr, .ref q_bi, .ref q_li]))] := hD
        obtain ⟨u6, hu6, hf⟩ := pr_bd hf
        refine fr_vV (As := [.int (z1 + z3), .int u5.1]) ⟨hx, hb, hml, hown, hts⟩ hK hP hD hS hA (c_X3_put l D cI q_co q_co_a 96 n (z1 + z3) u5.1 co_a u6 hu6) (cwV 2 hts gX1_unpackPlain_X3_put rfl rfl rfl (by decide +kernel) ⟨Nat.le_of_ble_eq_true rfl, Nat.le_of_ble_eq_true rfl⟩) [(q_bi, .inr (0, [.ref q_bi_a, .int u5.2])), (q_bi_a, .inl (cI, 3072, .inl bi_a)), (q_cd, .inr (1, [.ref q_co, .ref q_pr, .ref q_bi, .ref q_li]))] [0, 1] [2, 3, 4] rfl rfl (by decide) (by decide) (by decide) 0 rfl rfl rfl rfl hl.1 (Nat.le_of_ble_eq_true rfl) dX1_unpackPlain_18 ⟨Nat.zero_le _, Nat.zero_le _⟩ rfl (fun H locs hP hD hS => ?_)
        have hP : va_P D vwCl [(q_bi, .inr (0, [.ref q_bi_a, .int u5.2])), (q_bi_a, .inl (cI, 3072, .inl bi_a)), (q_cd, .inr (1, [.ref q_co, .ref q_pr, .ref q_bi, .ref q_li])), (q_co, .inr (3, [.ref q_co_a])), (q_co_a, .inl (cI, 96, .inl u6))] H := hP
        have hD : va_D A [(q_bi, .inr (0, [.ref q_bi_a, .int u5.2])), (q_bi_a, .inl (cI, 3072, .inl bi_a)), (q_cd, .inr (1, [.ref q_co, .ref q_pr, .ref q_bi, .ref q_li])), (q_co, .inr (3, [.ref q_co_a])), (q_co_a, .inl (cI, 96, .inl u6))] := hD
        refine lv_iinc (v := (z3 + 1)) (lv' := [(3, .int (z3 + 1)), (0, .ref q_cd), (1, .int z1), (2, .int z2)]) hx hb dX1_unpackPlain_21 hl (k := 3) rfl rfl (by decide) rfl (fun ls hl => ?_)
        refine lv_goto (tgt := 2) hx hb dX1_unpackPlain_24 (by decide) ?_
        exact ih _ _ _ _ _ _ _ ls hf (hP.sub [0, 1, 3, 4, 2] rfl) (hD.sub [0, 1, 3, 4, 2] (by decide) rfl) hS (lv_sub hl [1, 2, 3, 0] rfl)
  unfold f_X1_unpackPlain at hf
  refine lv_iconst (v := 0) hx hb dX1_unpackPlain_0 (by decide) ?_
  refine lv_istore_n (lv' := [(3, .int 0), (0, .ref q_cd), (1, .int x1), (2, .int x2)]) hx hb dX1_unpackPlain_1 rfl hl (by decide) rfl (fun ls hl => ?_)
  exact k_2 n _ _ _ _ _ _ _ ls hf (hP.sub [0, 1, 2, 3, 4] rfl) (hD.sub [0, 1, 2, 3, 4] (by decide) rfl) hS (lv_sub hl [1, 2, 3, 0] rfl)
set_option maxHeartbeats 4000000 in
set_option maxRecDepth 100000 in
theorem c_X1_unpack (l : Launch) (D : va_G) (cI : ClassId) (q_bi q_bi_a q_co q_co_a q_pr q_cd q_li q_li_a : Nat) (n : Nat) (x1 : Int32) (x2 : Int32) (x3 : Int32) (bi_place : Int32) (bi_a : (Nat → Int32)) (co_a : (Nat → Int32)) (li_a : (Nat → Int32)) (res : Int32 × (Nat → Int32) × (Nat → Int32)) (hf : f_X1_unpack n x1 x2 x3 bi_place bi_a co_a li_a = some res) : fr_Cv l yX1_unpack wsX1_unpack ({ frames := 3, cells := 0, slots := 0, locals := 69 }) D [(cI, .int)] [.ref q_cd, .int x1, .int x2, .int x3] [(q_bi, .inr (0, [.ref q_bi_a, .int bi_place])), (q_bi_a, .inl (cI, 3072, .inl bi_a)), (q_co, .inr (3, [.ref q_co_a])), (q_co_a, .inl (cI, 96, .inl co_a)), (q_cd, .inr (1, [.ref q_co, .ref q_pr, .ref q_bi, .ref q_li])), (q_li, .inr (3, [.ref q_li_a])), (q_li_a, .inl (cI, 32, .inl li_a))] [(q_bi, .inr (0, [.ref q_bi_a, .int res.1])), (q_bi_a, .inl (cI, 3072, .inl bi_a)), (q_co, .inr (3, [.ref q_co_a])), (q_co_a, .inl (cI, 96, .inl res.2.1)), (q_cd, .inr (1, [.ref q_co, .ref q_pr, .ref q_bi, .ref q_li])), (q_li, .inr (3, [.ref q_li_a])), (q_li_a, .inl (cI, 32, .inl res.2.2))] := by
  refine fr_open_v (cc := cX1_unpack) (maxL := 4) (by decide +kernel) rfl (Nat.le_of_ble_eq_true rfl) ?_
  intro p e s m below meth c A Q ls hx hb hml hown hts hA hK hP hD hS hl hret
  have hown : s.vm.findClass RX1 = some m.cls := hown
  have hl : lv_has ls 4 [(0, .ref q_cd), (1, .int x1), (2, .int x2), (3, .int x3)] := hl
  unfold f_X1_unpack at hf
  refine lv_iload_n hx hb dX1_unpack_0 rfl (lv_at hl 1 rfl) ?_
  by_cases c12 : x1 = 0
  · have hf := pr_pos hf c12
    refine lv_tableIn (off := 35) (tgt := 36) hx hb dX1_unpack_1 (by rw [c12]; decide) (by rw [c12]; decide) (by rw [c12]; rfl) (by decide) ?_
    refine lv_aload_n hx hb dX1_unpack_36 rfl (lv_at hl 0 rfl) ?_
    refine lv_iload_n hx hb dX1_unpack_37 rfl (lv_at hl 2 rfl) ?_
    refine lv_iload_n hx hb dX1_unpack_38 rfl (lv_at hl 3 rfl) ?_
    obtain ⟨u13, hu13, hf⟩ := pr_bd hf
    refine fr_vV (As := [.int x2, .int x3]) ⟨hx, hb, hml, hown, hts⟩ hK hP hD hS hA (c_X1_unpackPlain l D cI q_bi q_bi_a q_co q_co_a q_pr q_cd q_li n x2 x3 bi_place bi_a co_a u13 hu13) (cwV 2 hts gX1_unpack_X1_unpackPlain rfl rfl rfl (by decide +kernel) ⟨Nat.le_of_ble_eq_true rfl, Nat.le_of_ble_eq_true rfl⟩) [(q_li, .inr (3, [.ref q_li_a])), (q_li_a, .inl (cI, 32, .inl li_a))] [0, 1, 2, 3, 4] [5, 6] rfl rfl (by decide) (by decide) (by decide) 4 rfl rfl rfl rfl hl.1 (Nat.le_of_ble_eq_true rfl) dX1_unpack_39 ⟨Nat.zero_le _, Nat.zero_le _⟩ rfl (fun H locs hP hD hS => ?_)
    have hP : va_P D vwCl [(q_li, .inr (3, [.ref q_li_a])), (q_li_a, .inl (cI, 32, .inl li_a)), (q_bi, .inr (0, [.ref q_bi_a, .int u13.1])), (q_bi_a, .inl (cI, 3072, .inl bi_a)), (q_co, .inr (3, [.ref q_co_a])), (q_co_a, .inl (cI, 96, .inl u13.2)), (q_cd, .inr (1, [.ref q_co, .ref q_pr, .ref q_bi, .ref q_li]))] H := hP
    have hD : va_D A [(q_li, .inr (3, [.ref q_li_a])), (q_li_a, .inl (cI, 32, .inl li_a)), (q_bi, .inr (0, [.ref q_bi_a, .int u13.1])), (q_bi_a, .inl (cI, 3072, .inl bi_a)), (q_co, .inr (3, [.ref q_co_a])), (q_co_a, .inl (cI, 96, .inl u13.2)), (q_cd, .inr (1, [.ref q_co, .ref q_pr, .ref q_bi, .ref q_li]))] := hD
    refine lv_goto (tgt := 87) hx hb dX1_unpack_42 (by decide) ?_
    obtain rfl := Option.some.inj hf
    exact hret _ _ _ _ dX1_unpack_87 (hP.sub [2, 3, 4, 5, 6, 0, 1] rfl) (hD.sub [2, 3, 4, 5, 6, 0, 1] (by decide) rfl) hS
  · have hf := pr_neg hf c12
    by_cases c14 : x1 = 1
    · have hf := pr_pos hf c14
      refine lv_tableIn (off := 44) (tgt := 45) hx hb dX1_unpack_1 (by rw [c14]; decide) (by rw [c14]; decide) (by rw [c14]; rfl) (by decide) ?_
      refine lv_aload_n hx hb dX1_unpack_45 rfl (lv_at hl 0 rfl) ?_
      refine lv_iload_n hx hb dX1_unpack_46 rfl (lv_at hl 2 rfl) ?_
      refine lv_iload_n hx hb dX1_unpack_47 rfl (lv_at hl 3 rfl) ?_
      obtain ⟨u15, hu15, hf⟩ := pr_bd hf
      refine fr_vV (As := [.int x2, .int x3]) ⟨hx, hb, hml, hown, hts⟩ hK hP hD hS hA (c_X1_unpackConstant l D cI q_bi q_bi_a q_co q_co_a q_pr q_cd q_li n x2 x3 bi_place bi_a co_a u15 hu15) (cwV 2 hts gX1_unpack_X1_unpackConstant rfl rfl rfl (by decide +kernel) ⟨Nat.le_of_ble_eq_true rfl, Nat.le_of_ble_eq_true rfl⟩) [(q_li, .inr (3, [.ref q_li_a])), (q_li_a, .inl (cI, 32, .inl li_a))] [0, 1, 2, 3, 4] [5, 6] rfl rfl (by decide) (by decide) (by decide) 4 rfl rfl rfl rfl hl.1 (Nat.le_of_ble_eq_true rfl) dX1_unpack_48 ⟨Nat.zero_le _, Nat.zero_le _⟩ rfl (fun H locs hP hD hS => ?_)
      have hP : va_P D vwCl [(q_li, .inr (3, [.ref q_li_a])), (q_li_a, .inl (cI, 32, .inl li_a)), (q_bi, .inr (0, [.ref q_bi_a, .int u15.1])), (q_bi_a, .inl (cI, 3072, .inl bi_a)), (q_co, .inr (3, [.ref q_co_a])), (q_co_a, .inl (cI, 96, .inl u15.2)), (q_cd, .inr (1, [.ref q_co, .ref q_pr, .ref q_bi, .ref q_li]))] H := hP
      have hD : va_D A [(q_li, .inr (3, [.ref q_li_a])), (q_li_a, .inl (cI, 32, .inl li_a)), (q_bi, .inr (0, [.ref q_bi_a, .int u15.1])), (q_bi_a, .inl (cI, 3072, .inl bi_a)), (q_co, .inr (3, [.ref q_co_a])), (q_co_a, .inl (cI, 96, .inl u15.2)), (q_cd, .inr (1, [.ref q_co, .ref q_pr, .ref q_bi, .ref q_li]))] := hD
      refine lv_goto (tgt := 87) hx hb dX1_unpack_51 (by decide) ?_
      obtain rfl := Option.some.inj hf
      exact hret _ _ _ _ dX1_unpack_87 (hP.sub [2, 3, 4, 5, 6, 0, 1] rfl) (hD.sub [2, 3, 4, 5, 6, 0, 1] (by decide) rfl) hS
    · have hf := pr_neg hf c14
      by_cases c16 : x1 = 2
      · have hf := pr_pos hf c16
        refine lv_tableIn (off := 53) (tgt := 54) hx hb dX1_unpack_1 (by rw [c16]; decide) (by rw [c16]; decide) (by rw [c16]; rfl) (by decide) ?_
        refine lv_aload_n hx hb dX1_unpack_54 rfl (lv_at hl 0 rfl) ?_
        refine lv_iload_n hx hb dX1_unpack_55 rfl (lv_at hl 2 rfl) ?_
        refine lv_iload_n hx hb dX1_unpack_56 rfl (lv_at hl 3 rfl) ?_
        obtain ⟨u17, hu17, hf⟩ := pr_bd hf
        refine fr_vV (As := [.int x2, .int x3]) ⟨hx, hb, hml, hown, hts⟩ hK hP hD hS hA (c_X1_unpackRuns l D cI q_bi q_bi_a q_co q_co_a q_pr q_cd q_li n x2 x3 bi_place bi_a co_a u17 hu17) (cwV 2 hts gX1_unpack_X1_unpackRuns rfl rfl rfl (by decide +kernel) ⟨Nat.le_of_ble_eq_true rfl, Nat.le_of_ble_eq_true rfl⟩) [(q_li, .inr (3, [.ref q_li_a])), (q_li_a, .inl (cI, 32, .inl li_a))] [0, 1, 2, 3, 4] [5, 6] rfl rfl (by decide) (by decide) (by decide) 4 rfl rfl rfl rfl hl.1 (Nat.le_of_ble_eq_true rfl) dX1_unpack_57 ⟨Nat.zero_le _, Nat.zero_le _⟩ rfl (fun H locs hP hD hS => ?_)
        have hP : va_P D vwCl [(q_li, .inr (3, [.ref q_li_a])), (q_li_a, .inl (cI, 32, .inl li_a)), (q_bi, .inr (0, [.ref q_bi_a, .int u17.1])), (q_bi_a, .inl (cI, 3072, .inl bi_a)), (q_co, .inr (3, [.ref q_co_a])), (q_co_a, .inl (cI, 96, .inl u17.2)), (q_cd, .inr (1, [.ref q_co, .ref q_pr, .ref q_bi, .ref q_li]))] H := hP
        have hD : va_D A [(q_li, .inr (3, [.ref q_li_a])), (q_li_a, .inl (cI, 32, .inl li_a)), (q_bi, .inr (0, [.ref q_bi_a, .int u17.1])), (q_bi_a, .inl (cI, 3072, .inl bi_a)), (q_co, .inr (3, [.ref q_co_a])), (q_co_a, .inl (cI, 96, .inl u17.2)), (q_cd, .inr (1, [.ref q_co, .ref q_pr, .ref q_bi, .ref q_li]))] := hD
        refine lv_goto (tgt := 87) hx hb dX1_unpack_60 (by decide) ?_
        obtain rfl := Option.some.inj hf
        exact hret _ _ _ _ dX1_unpack_87 (hP.sub [2, 3, 4, 5, 6, 0, 1] rfl) (hD.sub [2, 3, 4, 5, 6, 0, 1] (by decide) rfl) hS
      · have hf := pr_neg hf c16
        by_cases c18 : x1 = 3
        · have hf := pr_pos hf c18
          refine lv_tableIn (off := 62) (tgt := 63) hx hb dX1_unpack_1 (by rw [c18]; decide) (by rw [c18]; decide) (by rw [c18]; rfl) (by decide) ?_
          refine lv_aload_n hx hb dX1_unpack_63 rfl (lv_at hl 0 rfl) ?_
          refine lv_iload_n hx hb dX1_unpack_64 rfl (lv_at hl 2 rfl) ?_
          refine lv_iload_n hx hb dX1_unpack_65 rfl (lv_at hl 3 rfl) ?_
          obtain ⟨u19, hu19, hf⟩ := pr_bd hf
          refine fr_vV (As := [.int x2, .int x3]) ⟨hx, hb, hml, hown, hts⟩ hK hP hD hS hA (c_X1_unpackDictionary l D cI q_bi q_bi_a q_co q_co_a q_pr q_cd q_li q_li_a n x2 x3 bi_place bi_a co_a li_a u19 hu19) (cwV 2 hts gX1_unpack_X1_unpackDictionary rfl rfl rfl (by decide +kernel) ⟨Nat.le_of_ble_eq_true rfl, Nat.le_of_ble_eq_true rfl⟩) [] [0, 1, 2, 3, 4, 5, 6] [] rfl rfl (by decide) (by decide) (by decide) 4 rfl rfl rfl rfl hl.1 (Nat.le_of_ble_eq_true rfl) dX1_unpack_66 ⟨Nat.zero_le _, Nat.zero_le _⟩ rfl (fun H locs hP hD hS => ?_)
          have hP : va_P D vwCl [(q_bi, .inr (0, [.ref q_bi_a, .int u19.1])), (q_bi_a, .inl (cI, 3072, .inl bi_a)), (q_co, .inr (3, [.ref q_co_a])), (q_co_a, .inl (cI, 96, .inl u19.2.1)), (q_cd, .inr (1, [.ref q_co, .ref q_pr, .ref q_bi, .ref q_li])), (q_li, .inr (3, [.ref q_li_a])), (q_li_a, .inl (cI, 32, .inl u19.2.2))] H := hP
          have hD : va_D A [(q_bi, .inr (0, [.ref q_bi_a, .int u19.1])), (q_bi_a, .inl (cI, 3072, .inl bi_a)), (q_co, .inr (3, [.ref q_co_a])), (q_co_a, .inl (cI, 96, .inl u19.2.1)), (q_cd, .inr (1, [.ref q_co, .ref q_pr, .ref q_bi, .ref q_li])), (q_li, .inr (3, [.ref q_li_a])), (q_li_a, .inl (cI, 32, .inl u19.2.2))] := hD
          refine lv_goto (tgt := 87) hx hb dX1_unpack_69 (by decide) ?_
          obtain rfl := Option.some.inj hf
          exact hret _ _ _ _ dX1_unpack_87 (hP.sub [0, 1, 2, 3, 4, 5, 6] rfl) (hD.sub [0, 1, 2, 3, 4, 5, 6] (by decide) rfl) hS
        · have hf := pr_neg hf c18
          by_cases c20 : x1 = 4
          · have hf := pr_pos hf c20
            refine lv_tableIn (off := 71) (tgt := 72) hx hb dX1_unpack_1 (by rw [c20]; decide) (by rw [c20]; decide) (by rw [c20]; rfl) (by decide) ?_
            refine lv_aload_n hx hb dX1_unpack_72 rfl (lv_at hl 0 rfl) ?_
            refine lv_iload_n hx hb dX1_unpack_73 rfl (lv_at hl 2 rfl) ?_
            refine lv_iload_n hx hb dX1_unpack_74 rfl (lv_at hl 3 rfl) ?_
            obtain ⟨u21, hu21, hf⟩ := pr_bd hf
            refine fr_vV (As := [.int x2, .int x3]) ⟨hx, hb, hml, hown, hts⟩ hK hP hD hS hA (c_X1_unpackFrame l D cI q_bi q_bi_a q_co q_co_a q_pr q_cd q_li n x2 x3 bi_place bi_a co_a u21 hu21) (cwV 2 hts gX1_unpack_X1_unpackFrame rfl rfl rfl (by decide +kernel) ⟨Nat.le_of_ble_eq_true rfl, Nat.le_of_ble_eq_true rfl⟩) [(q_li, .inr (3, [.ref q_li_a])), (q_li_a, .inl (cI, 32, .inl li_a))] [0, 1, 2, 3, 4] [5, 6] rfl rfl (by decide) (by decide) (by decide) 4 rfl rfl rfl rfl hl.1 (Nat.le_of_ble_eq_true rfl) dX1_unpack_75 ⟨Nat.zero_le _, Nat.zero_le _⟩ rfl (fun H locs hP hD hS => ?_)
            have hP : va_P D vwCl [(q_li, .inr (3, [.ref q_li_a])), (q_li_a, .inl (cI, 32, .inl li_a)), (q_bi, .inr (0, [.ref q_bi_a, .int u21.1])), (q_bi_a, .inl (cI, 3072, .inl bi_a)), (q_co, .inr (3, [.ref q_co_a])), (q_co_a, .inl (cI, 96, .inl u21.2)), (q_cd, .inr (1, [.ref q_co, .ref q_pr, .ref q_bi, .ref q_li]))] H := hP
            have hD : va_D A [(q_li, .inr (3, [.ref q_li_a])), (q_li_a, .inl (cI, 32, .inl li_a)), (q_bi, .inr (0, [.ref q_bi_a, .int u21.1])), (q_bi_a, .inl (cI, 3072, .inl bi_a)), (q_co, .inr (3, [.ref q_co_a])), (q_co_a, .inl (cI, 96, .inl u21.2)), (q_cd, .inr (1, [.ref q_co, .ref q_pr, .ref q_bi, .ref q_li]))] := hD
            refine lv_goto (tgt := 87) hx hb dX1_unpack_78 (by decide) ?_
            obtain rfl := Option.some.inj hf
            exact hret _ _ _ _ dX1_unpack_87 (hP.sub [2, 3, 4, 5, 6, 0, 1] rfl) (hD.sub [2, 3, 4, 5, 6, 0, 1] (by decide) rfl) hS
          · have hf := pr_neg hf c20
            refine lv_tableOut (tgt := 81) hx hb dX1_unpack_1 (by have n0 := lv_neT (a := 0) c12 (by decide); have n1 := lv_neT (a := 1) c14 (by decide); have n2 := lv_neT (a := 2) c16 (by decide); have n3 := lv_neT (a := 3) c18 (by decide); have n4 := lv_neT (a := 4) c20 (by decide); omega) (by decide) ?_
            refine lv_aload_n hx hb dX1_unpack_81 rfl (lv_at hl 0 rfl) ?_
            refine lv_iload_n hx hb dX1_unpack_82 rfl (lv_at hl 2 rfl) ?_
            refine lv_iload_n hx hb dX1_unpack_83 rfl (lv_at hl 3 rfl) ?_
            obtain ⟨u22, hu22, hf⟩ := pr_bd hf
            refine fr_vV (As := [.int x2, .int x3]) ⟨hx, hb, hml, hown, hts⟩ hK hP hD hS hA (c_X1_unpackDelta l D cI q_bi q_bi_a q_co q_co_a q_pr q_cd q_li n x2 x3 bi_place bi_a co_a u22 hu22) (cwV 2 hts gX1_unpack_X1_unpackDelta rfl rfl rfl (by decide +kernel) ⟨Nat.le_of_ble_eq_true rfl, Nat.le_of_ble_eq_true rfl⟩) [(q_li, .inr (3, [.ref q_li_a])), (q_li_a, .inl (cI, 32, .inl li_a))] [0, 1, 2, 3, 4] [5, 6] rfl rfl (by decide) (by decide) (by decide) 4 rfl rfl rfl rfl hl.1 (Nat.le_of_ble_eq_true rfl) dX1_unpack_84 ⟨Nat.zero_le _, Nat.zero_le _⟩ rfl (fun H locs hP hD hS => ?_)
            have hP : va_P D vwCl [(q_li, .inr (3, [.ref q_li_a])), (q_li_a, .inl (cI, 32, .inl li_a)), (q_bi, .inr (0, [.ref q_bi_a, .int u22.1])), (q_bi_a, .inl (cI, 3072, .inl bi_a)), (q_co, .inr (3, [.ref q_co_a])), (q_co_a, .inl (cI, 96, .inl u22.2)), (q_cd, .inr (1, [.ref q_co, .ref q_pr, .ref q_bi, .ref q_li]))] H := hP
            have hD : va_D A [(q_li, .inr (3, [.ref q_li_a])), (q_li_a, .inl (cI, 32, .inl li_a)), (q_bi, .inr (0, [.ref q_bi_a, .int u22.1])), (q_bi_a, .inl (cI, 3072, .inl bi_a)), (q_co, .inr (3, [.ref q_co_a])), (q_co_a, .inl (cI, 96, .inl u22.2)), (q_cd, .inr (1, [.ref q_co, .ref q_pr, .ref q_bi, .ref q_li]))] := hD
            obtain rfl := Option.some.inj hf
            exact hret _ _ _ _ dX1_unpack_87 (hP.sub [2, 3, 4, 5, 6, 0, 1] rfl) (hD.sub [2, 3, 4, 5, 6, 0, 1] (by decide) rfl) hS
