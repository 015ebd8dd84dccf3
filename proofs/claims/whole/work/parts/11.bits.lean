/-! the walks of these methods, printed by my own program (wip/whole/gen.py) -/
set_option maxHeartbeats 4000000 in
set_option maxRecDepth 100000 in
theorem c_X0_moveTo (l : Launch) (D : va_G) (cI : ClassId) (q_bi q_bi_a : Nat) (n : Nat) (x1 : Int32) (bi_place : Int32) (res : Int32) (hf : f_X0_moveTo n x1 bi_place = some res) : fr_Cv l yX0_moveTo wsX0_moveTo ({ frames := 0, cells := 0, slots := 0, locals := 0 }) D [(cI, .int)] [.ref q_bi, .int x1] [(q_bi, .inr (0, [.ref q_bi_a, .int bi_place]))] [(q_bi, .inr (0, [.ref q_bi_a, .int res]))] := by
  refine fr_open_v (cc := cX0_moveTo) (maxL := 2) (by decide +kernel) rfl (Nat.le_of_ble_eq_true rfl) ?_
  intro p e s m below meth c A Q ls hx hb hml hown hts hA hK hP hD hS hl hret
  have hown : s.vm.findClass RX0 = some m.cls := hown
  have hl : lv_has ls 2 [(0, .ref q_bi), (1, .int x1)] := hl
  have hin0 : ∀ w ∈ u_ws RX0 TX0 2, w ∈ wsX0_moveTo := fun _ h9 => List.mem_cons_of_mem _ (List.mem_append_right _ h9)
  unfold f_X0_moveTo at hf
  refine lv_aload_n hx hb dX0_moveTo_0 rfl (lv_at hl 0 rfl) ?_
  refine lv_iload_n hx hb dX0_moveTo_1 rfl (lv_at hl 1 rfl) ?_
  refine va_put (D := D) (ci := 0) (v := .int x1) (ty := .int) (C := RX0) (T := TX0) (N := 2) hx hb hts hin0 tyX0 tyX0_ok nmX0 hown hK hP hD hS 0 rfl rfl 1 (by decide) (hts (.fieldLink RX0 15 "ColumnChooser$Bits" "place" "I") (List.mem_of_getElem? (i := 1) rfl)) (fun _ h9 => h9) rfl (by decide +kernel) rfl rfl (Nat.le_of_ble_eq_true rfl) dX0_moveTo_2 (fun H locs hP hD hS => ?_)
  have hP : va_P D vwCl [(q_bi, .inr (0, [.ref q_bi_a, .int x1]))] H := hP
  have hD : va_D A [(q_bi, .inr (0, [.ref q_bi_a, .int x1]))] := hD
  obtain rfl := Option.some.inj hf
  exact hret _ _ _ _ dX0_moveTo_5 (hP.sub [0] rfl) (hD.sub [0] (by decide) rfl) hS
set_option maxHeartbeats 4000000 in
set_option maxRecDepth 100000 in
theorem c_X0_bitAt (l : Launch) (D : va_G) (cI : ClassId) (q_bi q_bi_a : Nat) (n : Nat) (x1 : Int32) (bi_place : Int32) (bi_a : (Nat → Int32)) (res : Int32) (hf : f_X0_bitAt n x1 bi_a = some res) : fr_Ci l yX0_bitAt wsX0_bitAt ({ frames := 0, cells := 0, slots := 0, locals := 0 }) D [(cI, .int)] [.ref q_bi, .int x1] [(q_bi, .inr (0, [.ref q_bi_a, .int bi_place])), (q_bi_a, .inl (cI, 3072, .inl bi_a))] res [(q_bi, .inr (0, [.ref q_bi_a, .int bi_place])), (q_bi_a, .inl (cI, 3072, .inl bi_a))] := by
  refine fr_open_i (cc := cX0_bitAt) (maxL := 2) (ret := some .int) (by decide +kernel) rfl (Nat.le_of_ble_eq_true rfl) ⟨.int, rfl, vp_nar_int _⟩ ?_
  intro p e s m below meth c A Q ls hx hb hml hown hts hA hK hP hD hS hl hret
  have hown : s.vm.findClass RX0 = some m.cls := hown
  have hl : lv_has ls 2 [(0, .ref q_bi), (1, .int x1)] := hl
  have hin0 : ∀ w ∈ u_ws RX0 TX0 2, w ∈ wsX0_bitAt := fun _ h9 => List.mem_cons_of_mem _ (List.mem_append_right _ h9)
  unfold f_X0_bitAt at hf
  refine lv_iload_n hx hb dX0_bitAt_0 rfl (lv_at hl 1 rfl) ?_
  refine lv_if_lt (tgt := 22) hx hb dX0_bitAt_1 (by decide) (fun c4 => ?_) (fun c4 => ?_)
  · have hf := pr_pos hf c4
    refine lv_iconst (v := 0) hx hb dX0_bitAt_22 (by decide) ?_
    obtain rfl := Option.some.inj hf
    exact hret _ _ _ _ dX0_bitAt_23 (hP.sub [0, 1] rfl) (hD.sub [0, 1] (by decide) rfl) hS
  · have hf := pr_neg hf c4
    refine lv_iload_n hx hb dX0_bitAt_4 rfl (lv_at hl 1 rfl) ?_
    refine lv_aload_n hx hb dX0_bitAt_5 rfl (lv_at hl 0 rfl) ?_
    refine va_get (D := D) (ci := 0) (v := .ref q_bi_a) (C := RX0) (T := TX0) (N := 2) hx hb hts hin0 hown hK hP 0 rfl rfl 0 (by decide) (hts (.fieldLink RX0 9 "ColumnChooser$Bits" "cells" "[I") (List.mem_of_getElem? (i := 1) rfl)) (fun _ h9 => h9) rfl dX0_bitAt_6 ?_
    refine va_alen (v := nI 3072) hx hb hK hP 1 0 rfl rfl rfl dX0_bitAt_9 ?_
    refine lv_icmp_ge (tgt := 22) hx hb dX0_bitAt_10 (by decide) (fun c5 => ?_) (fun c5 => ?_)
    · have hf := pr_pos hf c5
      refine lv_iconst (v := 0) hx hb dX0_bitAt_22 (by decide) ?_
      obtain rfl := Option.some.inj hf
      exact hret _ _ _ _ dX0_bitAt_23 (hP.sub [0, 1] rfl) (hD.sub [0, 1] (by decide) rfl) hS
    · have hf := pr_neg hf c5
      refine lv_aload_n hx hb dX0_bitAt_13 rfl (lv_at hl 0 rfl) ?_
      refine va_get (D := D) (ci := 0) (v := .ref q_bi_a) (C := RX0) (T := TX0) (N := 2) hx hb hts hin0 hown hK hP 0 rfl rfl 0 (by decide) (hts (.fieldLink RX0 9 "ColumnChooser$Bits" "cells" "[I") (List.mem_of_getElem? (i := 1) rfl)) (fun _ h9 => h9) rfl dX0_bitAt_14 ?_
      refine lv_iload_n hx hb dX0_bitAt_17 rfl (lv_at hl 1 rfl) ?_
      obtain ⟨v6, hv6, hf⟩ := pr_bd hf
      refine fr_rd hx hb hK hP 1 0 rfl rfl hv6 dX0_bitAt_18 ?_
      refine lv_goto (tgt := 23) hx hb dX0_bitAt_19 (by decide) ?_
      obtain rfl := Option.some.inj hf
      exact hret _ _ _ _ dX0_bitAt_23 (hP.sub [0, 1] rfl) (hD.sub [0, 1] (by decide) rfl) hS
set_option maxHeartbeats 4000000 in
set_option maxRecDepth 100000 in
theorem c_X0_write (l : Launch) (D : va_G) (cI : ClassId) (q_bi q_bi_a : Nat) (n : Nat) (x1 : Int32) (x2 : Int32) (bi_place : Int32) (bi_a : (Nat → Int32)) (res : Int32 × (Nat → Int32)) (hf : f_X0_write n x1 x2 bi_place bi_a = some res) : fr_Cv l yX0_write wsX0_write ({ frames := 0, cells := 0, slots := 0, locals := 0 }) D [(cI, .int)] [.ref q_bi, .int x1, .int x2] [(q_bi, .inr (0, [.ref q_bi_a, .int bi_place])), (q_bi_a, .inl (cI, 3072, .inl bi_a))] [(q_bi, .inr (0, [.ref q_bi_a, .int res.1])), (q_bi_a, .inl (cI, 3072, .inl res.2))] := by
  refine fr_open_v (cc := cX0_write) (maxL := 4) (by decide +kernel) rfl (Nat.le_of_ble_eq_true rfl) ?_
  intro p e s m below meth c A Q ls hx hb hml hown hts hA hK hP hD hS hl hret
  have hown : s.vm.findClass RX0 = some m.cls := hown
  have hl : lv_has ls 4 [(0, .ref q_bi), (1, .int x1), (2, .int x2)] := hl
  have hin0 : ∀ w ∈ u_ws RX0 TX0 2, w ∈ wsX0_write := fun _ h9 => List.mem_cons_of_mem _ (List.mem_append_right _ h9)
  have k_4 : ∀ (n : Nat), (∀ (z1 : Int32) (z3 : Int32) (bi_place : Int32) (bi_a : (Nat → Int32)) (H : Heap) (locs : List Loc) (ls : Array Slot), f_X0_write_4 n z1 z3 bi_place bi_a = some res → va_P D vwCl [(q_bi, .inr (0, [.ref q_bi_a, .int bi_place])), (q_bi_a, .inl (cI, 3072, .inl bi_a))] H → va_D A [(q_bi, .inr (0, [.ref q_bi_a, .int bi_place])), (q_bi_a, .inl (cI, 3072, .inl bi_a))] → va_S A s.heap H locs → lv_has ls 4 [(0, .ref q_bi), (1, .int z1), (3, .int z3)] → W p l e ({ frames := 0, cells := 0, slots := 0, locals := 0 }) s m ([.ref q_bi, .int x1, .int x2] : List Value).toArray below meth c H locs 0 0 Q (F0 m 4 ls [])) := by
    intro n
    induction n with
    | zero =>
      intro z1 z3 bi_place bi_a H locs ls hf hP hD hS hl
      exact absurd (show (none : Option (Int32 × (Nat → Int32))) = some res from hf) (by simp)
    | succ n ih =>
      intro z1 z3 bi_place bi_a H locs ls hf hP hD hS hl
      have hf : f_X0_write_4_s (f_X0_write_4 n) n z1 z3 bi_place bi_a = some res := hf
      unfold f_X0_write_4_s at hf
      refine lv_iload_n hx hb dX0_write_4 rfl (lv_at hl 2 rfl) ?_
      refine lv_if_lt (tgt := 57) hx hb dX0_write_5 (by decide) (fun c5 => ?_) (fun c5 => ?_)
      · have hf := pr_pos hf c5
        obtain rfl := Option.some.inj hf
        exact hret _ _ _ _ dX0_write_57 (hP.sub [0, 1] rfl) (hD.sub [0, 1] (by decide) rfl) hS
      · have hf := pr_neg hf c5
        refine lv_aload_n hx hb dX0_write_8 rfl (lv_at hl 0 rfl) ?_
        refine va_get (D := D) (ci := 0) (v := .int bi_place) (C := RX0) (T := TX0) (N := 2) hx hb hts hin0 hown hK hP 0 rfl rfl 1 (by decide) (hts (.fieldLink RX0 15 "ColumnChooser$Bits" "place" "I") (List.mem_of_getElem? (i := 1) rfl)) (fun _ h9 => h9) rfl dX0_write_9 ?_
        refine lv_if_lt (tgt := 41) hx hb dX0_write_12 (by decide) (fun c6 => ?_) (fun c6 => ?_)
        · have hf := pr_pos hf c6
          refine lv_aload_n hx hb dX0_write_41 rfl (lv_at hl 0 rfl) ?_
          refine lv_dup hx hb dX0_write_42 rfl ?_
          refine va_get (D := D) (ci := 0) (v := .int bi_place) (C := RX0) (T := TX0) (N := 2) hx hb hts hin0 hown hK hP 0 rfl rfl 1 (by decide) (hts (.fieldLink RX0 15 "ColumnChooser$Bits" "place" "I") (List.mem_of_getElem? (i := 1) rfl)) (fun _ h9 => h9) rfl dX0_write_43 ?_
          refine lv_iconst (v := 1) hx hb dX0_write_46 (by decide) ?_
          refine lv_iadd hx hb dX0_write_47 ?_
          refine va_put (D := D) (ci := 0) (v := .int (bi_place + 1)) (ty := .int) (C := RX0) (T := TX0) (N := 2) hx hb hts hin0 tyX0 tyX0_ok nmX0 hown hK hP hD hS 0 rfl rfl 1 (by decide) (hts (.fieldLink RX0 15 "ColumnChooser$Bits" "place" "I") (List.mem_of_getElem? (i := 1) rfl)) (fun _ h9 => h9) rfl (by decide +kernel) rfl rfl (Nat.le_of_ble_eq_true rfl) dX0_write_48 (fun H locs hP hD hS => ?_)
          have hP : va_P D vwCl [(q_bi, .inr (0, [.ref q_bi_a, .int (bi_place + 1)])), (q_bi_a, .inl (cI, 3072, .inl bi_a))] H := hP
          have hD : va_D A [(q_bi, .inr (0, [.ref q_bi_a, .int (bi_place + 1)])), (q_bi_a, .inl (cI, 3072, .inl bi_a))] := hD
          refine lv_iinc (v := (z3 + (-1))) (lv' := [(3, .int (z3 + (-1))), (0, .ref q_bi), (1, .int z1)]) hx hb dX0_write_51 hl (k := 2) rfl rfl (by decide) rfl (fun ls hl => ?_)
          refine lv_goto (tgt := 4) hx hb dX0_write_54 (by decide) ?_
          exact ih _ _ _ _ _ _ ls hf (hP.sub [0, 1] rfl) (hD.sub [0, 1] (by decide) rfl) hS (lv_sub hl [1, 2, 0] rfl)
        · have hf := pr_neg hf c6
          refine lv_aload_n hx hb dX0_write_15 rfl (lv_at hl 0 rfl) ?_
          refine va_get (D := D) (ci := 0) (v := .int bi_place) (C := RX0) (T := TX0) (N := 2) hx hb hts hin0 hown hK hP 0 rfl rfl 1 (by decide) (hts (.fieldLink RX0 15 "ColumnChooser$Bits" "place" "I") (List.mem_of_getElem? (i := 1) rfl)) (fun _ h9 => h9) rfl dX0_write_16 ?_
          refine lv_aload_n hx hb dX0_write_19 rfl (lv_at hl 0 rfl) ?_
          refine va_get (D := D) (ci := 0) (v := .ref q_bi_a) (C := RX0) (T := TX0) (N := 2) hx hb hts hin0 hown hK hP 0 rfl rfl 0 (by decide) (hts (.fieldLink RX0 9 "ColumnChooser$Bits" "cells" "[I") (List.mem_of_getElem? (i := 2) rfl)) (fun _ h9 => h9) rfl dX0_write_20 ?_
          refine va_alen (v := nI 3072) hx hb hK hP 1 0 rfl rfl rfl dX0_write_23 ?_
          refine lv_icmp_ge (tgt := 41) hx hb dX0_write_24 (by decide) (fun c7 => ?_) (fun c7 => ?_)
          · have hf := pr_pos hf c7
            refine lv_aload_n hx hb dX0_write_41 rfl (lv_at hl 0 rfl) ?_
            refine lv_dup hx hb dX0_write_42 rfl ?_
            refine va_get (D := D) (ci := 0) (v := .int bi_place) (C := RX0) (T := TX0) (N := 2) hx hb hts hin0 hown hK hP 0 rfl rfl 1 (by decide) (hts (.fieldLink RX0 15 "ColumnChooser$Bits" "place" "I") (List.mem_of_getElem? (i := 1) rfl)) (fun _ h9 => h9) rfl dX0_write_43 ?_
            refine lv_iconst (v := 1) hx hb dX0_write_46 (by decide) ?_
            refine lv_iadd hx hb dX0_write_47 ?_
            refine va_put (D := D) (ci := 0) (v := .int (bi_place + 1)) (ty := .int) (C := RX0) (T := TX0) (N := 2) hx hb hts hin0 tyX0 tyX0_ok nmX0 hown hK hP hD hS 0 rfl rfl 1 (by decide) (hts (.fieldLink RX0 15 "ColumnChooser$Bits" "place" "I") (List.mem_of_getElem? (i := 1) rfl)) (fun _ h9 => h9) rfl (by decide +kernel) rfl rfl (Nat.le_of_ble_eq_true rfl) dX0_write_48 (fun H locs hP hD hS => ?_)
            have hP : va_P D vwCl [(q_bi, .inr (0, [.ref q_bi_a, .int (bi_place + 1)])), (q_bi_a, .inl (cI, 3072, .inl bi_a))] H := hP
            have hD : va_D A [(q_bi, .inr (0, [.ref q_bi_a, .int (bi_place + 1)])), (q_bi_a, .inl (cI, 3072, .inl bi_a))] := hD
            refine lv_iinc (v := (z3 + (-1))) (lv' := [(3, .int (z3 + (-1))), (0, .ref q_bi), (1, .int z1)]) hx hb dX0_write_51 hl (k := 2) rfl rfl (by decide) rfl (fun ls hl => ?_)
            refine lv_goto (tgt := 4) hx hb dX0_write_54 (by decide) ?_
            exact ih _ _ _ _ _ _ ls hf (hP.sub [0, 1] rfl) (hD.sub [0, 1] (by decide) rfl) hS (lv_sub hl [1, 2, 0] rfl)
          · have hf := pr_neg hf c7
            refine lv_aload_n hx hb dX0_write_27 rfl (lv_at hl 0 rfl) ?_
            refine va_get (D := D) (ci := 0) (v := .ref q_bi_a) (C := RX0) (T := TX0) (N := 2) hx hb hts hin0 hown hK hP 0 rfl rfl 0 (by decide) (hts (.fieldLink RX0 9 "ColumnChooser$Bits" "cells" "[I") (List.mem_of_getElem? (i := 2) rfl)) (fun _ h9 => h9) rfl dX0_write_28 ?_
            refine lv_aload_n hx hb dX0_write_31 rfl (lv_at hl 0 rfl) ?_
            refine va_get (D := D) (ci := 0) (v := .int bi_place) (C := RX0) (T := TX0) (N := 2) hx hb hts hin0 hown hK hP 0 rfl rfl 1 (by decide) (hts (.fieldLink RX0 15 "ColumnChooser$Bits" "place" "I") (List.mem_of_getElem? (i := 1) rfl)) (fun _ h9 => h9) rfl dX0_write_32 ?_
            refine lv_iload_n hx hb dX0_write_35 rfl (lv_at hl 1 rfl) ?_
            refine lv_iload_n hx hb dX0_write_36 rfl (lv_at hl 2 rfl) ?_
            refine lv_ishr hx hb dX0_write_37 ?_
            refine lv_iconst (v := 1) hx hb dX0_write_38 (by decide) ?_
            refine lv_iand hx hb dX0_write_39 ?_
            obtain ⟨v8, hv8, hf⟩ := pr_bd hf
            refine fr_wr hx hb hK hP hD hS 1 0 rfl rfl hv8 dX0_write_40 (fun H locs hP hD hS => ?_)
            have hP : va_P D vwCl [(q_bi, .inr (0, [.ref q_bi_a, .int bi_place])), (q_bi_a, .inl (cI, 3072, .inl v8))] H := hP
            have hD : va_D A [(q_bi, .inr (0, [.ref q_bi_a, .int bi_place])), (q_bi_a, .inl (cI, 3072, .inl v8))] := hD
            refine lv_aload_n hx hb dX0_write_41 rfl (lv_at hl 0 rfl) ?_
            refine lv_dup hx hb dX0_write_42 rfl ?_
            refine va_get (D := D) (ci := 0) (v := .int bi_place) (C := RX0) (T := TX0) (N := 2) hx hb hts hin0 hown hK hP 0 rfl rfl 1 (by decide) (hts (.fieldLink RX0 15 "ColumnChooser$Bits" "place" "I") (List.mem_of_getElem? (i := 1) rfl)) (fun _ h9 => h9) rfl dX0_write_43 ?_
            refine lv_iconst (v := 1) hx hb dX0_write_46 (by decide) ?_
            refine lv_iadd hx hb dX0_write_47 ?_
            refine va_put (D := D) (ci := 0) (v := .int (bi_place + 1)) (ty := .int) (C := RX0) (T := TX0) (N := 2) hx hb hts hin0 tyX0 tyX0_ok nmX0 hown hK hP hD hS 0 rfl rfl 1 (by decide) (hts (.fieldLink RX0 15 "ColumnChooser$Bits" "place" "I") (List.mem_of_getElem? (i := 1) rfl)) (fun _ h9 => h9) rfl (by decide +kernel) rfl rfl (Nat.le_of_ble_eq_true rfl) dX0_write_48 (fun H locs hP hD hS => ?_)
            have hP : va_P D vwCl [(q_bi, .inr (0, [.ref q_bi_a, .int (bi_place + 1)])), (q_bi_a, .inl (cI, 3072, .inl v8))] H := hP
            have hD : va_D A [(q_bi, .inr (0, [.ref q_bi_a, .int (bi_place + 1)])), (q_bi_a, .inl (cI, 3072, .inl v8))] := hD
            refine lv_iinc (v := (z3 + (-1))) (lv' := [(3, .int (z3 + (-1))), (0, .ref q_bi), (1, .int z1)]) hx hb dX0_write_51 hl (k := 2) rfl rfl (by decide) rfl (fun ls hl => ?_)
            refine lv_goto (tgt := 4) hx hb dX0_write_54 (by decide) ?_
            exact ih _ _ _ _ _ _ ls hf (hP.sub [0, 1] rfl) (hD.sub [0, 1] (by decide) rfl) hS (lv_sub hl [1, 2, 0] rfl)
  unfold f_X0_write at hf
  refine lv_iload_n hx hb dX0_write_0 rfl (lv_at hl 2 rfl) ?_
  refine lv_iconst (v := 1) hx hb dX0_write_1 (by decide) ?_
  refine lv_isub hx hb dX0_write_2 ?_
  refine lv_istore_n (lv' := [(3, .int (x2 - 1)), (0, .ref q_bi), (1, .int x1), (2, .int x2)]) hx hb dX0_write_3 rfl hl (by decide) rfl (fun ls hl => ?_)
  exact k_4 n _ _ _ _ _ _ ls hf (hP.sub [0, 1] rfl) (hD.sub [0, 1] (by decide) rfl) hS (lv_sub hl [1, 2, 0] rfl)
set_option maxHeartbeats 4000000 in
set_option maxRecDepth 100000 in
theorem c_X0_read (l : Launch) (D : va_G) (cI : ClassId) (q_bi q_bi_a : Nat) (n : Nat) (x1 : Int32) (bi_place : Int32) (bi_a : (Nat → Int32)) (res : Int32 × Int32) (hf : f_X0_read n x1 bi_place bi_a = some res) : fr_Ci l yX0_read wsX0_read ({ frames := 0, cells := 0, slots := 0, locals := 0 }) D [(cI, .int)] [.ref q_bi, .int x1] [(q_bi, .inr (0, [.ref q_bi_a, .int bi_place])), (q_bi_a, .inl (cI, 3072, .inl bi_a))] res.1 [(q_bi, .inr (0, [.ref q_bi_a, .int res.2])), (q_bi_a, .inl (cI, 3072, .inl bi_a))] := by
  refine fr_open_i (cc := cX0_read) (maxL := 5) (ret := some .int) (by decide +kernel) rfl (Nat.le_of_ble_eq_true rfl) ⟨.int, rfl, vp_nar_int _⟩ ?_
  intro p e s m below meth c A Q ls hx hb hml hown hts hA hK hP hD hS hl hret
  have hown : s.vm.findClass RX0 = some m.cls := hown
  have hl : lv_has ls 5 [(0, .ref q_bi), (1, .int x1)] := hl
  have hin0 : ∀ w ∈ u_ws RX0 TX0 2, w ∈ wsX0_read := fun _ h9 => List.mem_cons_of_mem _ (List.mem_append_right _ h9)
  have k_4 : ∀ (n : Nat), (∀ (z1 : Int32) (z2 : Int32) (z3 : Int32) (bi_place : Int32) (H : Heap) (locs : List Loc) (ls : Array Slot), f_X0_read_4 n z1 z2 z3 bi_place bi_a = some res → va_P D vwCl [(q_bi, .inr (0, [.ref q_bi_a, .int bi_place])), (q_bi_a, .inl (cI, 3072, .inl bi_a))] H → va_D A [(q_bi, .inr (0, [.ref q_bi_a, .int bi_place])), (q_bi_a, .inl (cI, 3072, .inl bi_a))] → va_S A s.heap H locs → lv_has ls 5 [(0, .ref q_bi), (1, .int z1), (2, .int z2), (3, .int z3)] → W p l e ({ frames := 0, cells := 0, slots := 0, locals := 0 }) s m ([.ref q_bi, .int x1] : List Value).toArray below meth c H locs 0 0 Q (F0 m 4 ls [])) := by
    intro n
    induction n with
    | zero =>
      intro z1 z2 z3 bi_place H locs ls hf hP hD hS hl
      exact absurd (show (none : Option (Int32 × Int32)) = some res from hf) (by simp)
    | succ n ih =>
      intro z1 z2 z3 bi_place H locs ls hf hP hD hS hl
      have hf : f_X0_read_4_s (f_X0_read_4 n) n z1 z2 z3 bi_place bi_a = some res := hf
      unfold f_X0_read_4_s at hf
      refine lv_iload_n hx hb dX0_read_4 rfl (lv_at hl 3 rfl) ?_
      refine lv_iload_n hx hb dX0_read_5 rfl (lv_at hl 1 rfl) ?_
      refine lv_icmp_ge (tgt := 66) hx hb dX0_read_6 (by decide) (fun c5 => ?_) (fun c5 => ?_)
      · have hf := pr_pos hf c5
        refine lv_iload_n hx hb dX0_read_66 rfl (lv_at hl 2 rfl) ?_
        obtain rfl := Option.some.inj hf
        exact hret _ _ _ _ dX0_read_67 (hP.sub [0, 1] rfl) (hD.sub [0, 1] (by decide) rfl) hS
      · have hf := pr_neg hf c5
        refine lv_aload_n hx hb dX0_read_9 rfl (lv_at hl 0 rfl) ?_
        refine va_get (D := D) (ci := 0) (v := .int bi_place) (C := RX0) (T := TX0) (N := 2) hx hb hts hin0 hown hK hP 0 rfl rfl 1 (by decide) (hts (.fieldLink RX0 15 "ColumnChooser$Bits" "place" "I") (List.mem_of_getElem? (i := 1) rfl)) (fun _ h9 => h9) rfl dX0_read_10 ?_
        refine lv_if_lt (tgt := 40) hx hb dX0_read_13 (by decide) (fun c6 => ?_) (fun c6 => ?_)
        · have hf := pr_pos hf c6
          refine lv_iconst (v := 0) hx hb dX0_read_40 (by decide) ?_
          refine lv_istore (lv' := [(4, .int 0), (0, .ref q_bi), (1, .int z1), (2, .int z2), (3, .int z3)]) hx hb dX0_read_41 hl (by decide) rfl (fun ls hl => ?_)
          refine lv_iload_n hx hb dX0_read_43 rfl (lv_at hl 3 rfl) ?_
          refine lv_iconst (v := 2) hx hb dX0_read_44 (by decide) ?_
          refine lv_imul hx hb dX0_read_45 ?_
          refine lv_iload hx hb dX0_read_46 (lv_at hl 0 rfl) ?_
          refine lv_iadd hx hb dX0_read_48 ?_
          refine lv_istore_n (lv' := [(2, .int ((z2 * 2) + 0)), (4, .int 0), (0, .ref q_bi), (1, .int z1), (3, .int z3)]) hx hb dX0_read_49 rfl hl (by decide) rfl (fun ls hl => ?_)
          refine lv_aload_n hx hb dX0_read_50 rfl (lv_at hl 2 rfl) ?_
          refine lv_dup hx hb dX0_read_51 rfl ?_
          refine va_get (D := D) (ci := 0) (v := .int bi_place) (C := RX0) (T := TX0) (N := 2) hx hb hts hin0 hown hK hP 0 rfl rfl 1 (by decide) (hts (.fieldLink RX0 15 "ColumnChooser$Bits" "place" "I") (List.mem_of_getElem? (i := 1) rfl)) (fun _ h9 => h9) rfl dX0_read_52 ?_
          refine lv_iconst (v := 1) hx hb dX0_read_55 (by decide) ?_
          refine lv_iadd hx hb dX0_read_56 ?_
          refine va_put (D := D) (ci := 0) (v := .int (bi_place + 1)) (ty := .int) (C := RX0) (T := TX0) (N := 2) hx hb hts hin0 tyX0 tyX0_ok nmX0 hown hK hP hD hS 0 rfl rfl 1 (by decide) (hts (.fieldLink RX0 15 "ColumnChooser$Bits" "place" "I") (List.mem_of_getElem? (i := 1) rfl)) (fun _ h9 => h9) rfl (by decide +kernel) rfl rfl (Nat.le_of_ble_eq_true rfl) dX0_read_57 (fun H locs hP hD hS => ?_)
          have hP : va_P D vwCl [(q_bi, .inr (0, [.ref q_bi_a, .int (bi_place + 1)])), (q_bi_a, .inl (cI, 3072, .inl bi_a))] H := hP
          have hD : va_D A [(q_bi, .inr (0, [.ref q_bi_a, .int (bi_place + 1)])), (q_bi_a, .inl (cI, 3072, .inl bi_a))] := hD
          refine lv_iinc (v := (z3 + 1)) (lv' := [(3, .int (z3 + 1)), (2, .int ((z2 * 2) + 0)), (4, .int 0), (0, .ref q_bi), (1, .int z1)]) hx hb dX0_read_60 hl (k := 4) rfl rfl (by decide) rfl (fun ls hl => ?_)
          refine lv_goto (tgt := 4) hx hb dX0_read_63 (by decide) ?_
          exact ih _ _ _ _ _ _ ls hf (hP.sub [0, 1] rfl) (hD.sub [0, 1] (by decide) rfl) hS (lv_sub hl [3, 4, 1, 0] rfl)
        · have hf := pr_neg hf c6
          refine lv_aload_n hx hb dX0_read_16 rfl (lv_at hl 0 rfl) ?_
          refine va_get (D := D) (ci := 0) (v := .int bi_place) (C := RX0) (T := TX0) (N := 2) hx hb hts hin0 hown hK hP 0 rfl rfl 1 (by decide) (hts (.fieldLink RX0 15 "ColumnChooser$Bits" "place" "I") (List.mem_of_getElem? (i := 1) rfl)) (fun _ h9 => h9) rfl dX0_read_17 ?_
          refine lv_aload_n hx hb dX0_read_20 rfl (lv_at hl 0 rfl) ?_
          refine va_get (D := D) (ci := 0) (v := .ref q_bi_a) (C := RX0) (T := TX0) (N := 2) hx hb hts hin0 hown hK hP 0 rfl rfl 0 (by decide) (hts (.fieldLink RX0 9 "ColumnChooser$Bits" "cells" "[I") (List.mem_of_getElem? (i := 2) rfl)) (fun _ h9 => h9) rfl dX0_read_21 ?_
          refine va_alen (v := nI 3072) hx hb hK hP 1 0 rfl rfl rfl dX0_read_24 ?_
          refine lv_icmp_ge (tgt := 40) hx hb dX0_read_25 (by decide) (fun c7 => ?_) (fun c7 => ?_)
          · have hf := pr_pos hf c7
            refine lv_iconst (v := 0) hx hb dX0_read_40 (by decide) ?_
            refine lv_istore (lv' := [(4, .int 0), (0, .ref q_bi), (1, .int z1), (2, .int z2), (3, .int z3)]) hx hb dX0_read_41 hl (by decide) rfl (fun ls hl => ?_)
            refine lv_iload_n hx hb dX0_read_43 rfl (lv_at hl 3 rfl) ?_
            refine lv_iconst (v := 2) hx hb dX0_read_44 (by decide) ?_
            refine lv_imul hx hb dX0_read_45 ?_
            refine lv_iload hx hb dX0_read_46 (lv_at hl 0 rfl) ?_
            refine lv_iadd hx hb dX0_read_48 ?_
            refine lv_istore_n (lv' := [(2, .int ((z2 * 2) + 0)), (4, .int 0), (0, .ref q_bi), (1, .int z1), (3, .int z3)]) hx hb dX0_read_49 rfl hl (by decide) rfl (fun ls hl => ?_)
            refine lv_aload_n hx hb dX0_read_50 rfl (lv_at hl 2 rfl) ?_
            refine lv_dup hx hb dX0_read_51 rfl ?_
            refine va_get (D := D) (ci := 0) (v := .int bi_place) (C := RX0) (T := TX0) (N := 2) hx hb hts hin0 hown hK hP 0 rfl rfl 1 (by decide) (hts (.fieldLink RX0 15 "ColumnChooser$Bits" "place" "I") (List.mem_of_getElem? (i := 1) rfl)) (fun _ h9 => h9) rfl dX0_read_52 ?_
            refine lv_iconst (v := 1) hx hb dX0_read_55 (by decide) ?_
            refine lv_iadd hx hb dX0_read_56 ?_
            refine va_put (D := D) (ci := 0) (v := .int (bi_place + 1)) (ty := .int) (C := RX0) (T := TX0) (N := 2) hx hb hts hin0 tyX0 tyX0_ok nmX0 hown hK hP hD hS 0 rfl rfl 1 (by decide) (hts (.fieldLink RX0 15 "ColumnChooser$Bits" "place" "I") (List.mem_of_getElem? (i := 1) rfl)) (fun _ h9 => h9) rfl (by decide +kernel) rfl rfl (Nat.le_of_ble_eq_true rfl) dX0_read_57 (fun H locs hP hD hS => ?_)
            have hP : va_P D vwCl [(q_bi, .inr (0, [.ref q_bi_a, .int (bi_place + 1)])), (q_bi_a, .inl (cI, 3072, .inl bi_a))] H := hP
            have hD : va_D A [(q_bi, .inr (0, [.ref q_bi_a, .int (bi_place + 1)])), (q_bi_a, .inl (cI, 3072, .inl bi_a))] := hD
            refine lv_iinc (v := (z3 + 1)) (lv' := [(3, .int (z3 + 1)), (2, .int ((z2 * 2) + 0)), (4, .int 0), (0, .ref q_bi), (1, .int z1)]) hx hb dX0_read_60 hl (k := 4) rfl rfl (by decide) rfl (fun ls hl => ?_)
            refine lv_goto (tgt := 4) hx hb dX0_read_63 (by decide) ?_
            exact ih _ _ _ _ _ _ ls hf (hP.sub [0, 1] rfl) (hD.sub [0, 1] (by decide) rfl) hS (lv_sub hl [3, 4, 1, 0] rfl)
          · have hf := pr_neg hf c7
            refine lv_aload_n hx hb dX0_read_28 rfl (lv_at hl 0 rfl) ?_
            refine va_get (D := D) (ci := 0) (v := .ref q_bi_a) (C := RX0) (T := TX0) (N := 2) hx hb hts hin0 hown hK hP 0 rfl rfl 0 (by decide) (hts (.fieldLink RX0 9 "ColumnChooser$Bits" "cells" "[I") (List.mem_of_getElem? (i := 2) rfl)) (fun _ h9 => h9) rfl dX0_read_29 ?_
            refine lv_aload_n hx hb dX0_read_32 rfl (lv_at hl 0 rfl) ?_
            refine va_get (D := D) (ci := 0) (v := .int bi_place) (C := RX0) (T := TX0) (N := 2) hx hb hts hin0 hown hK hP 0 rfl rfl 1 (by decide) (hts (.fieldLink RX0 15 "ColumnChooser$Bits" "place" "I") (List.mem_of_getElem? (i := 1) rfl)) (fun _ h9 => h9) rfl dX0_read_33 ?_
            obtain ⟨v8, hv8, hf⟩ := pr_bd hf
            refine fr_rd hx hb hK hP 1 0 rfl rfl hv8 dX0_read_36 ?_
            refine lv_goto (tgt := 41) hx hb dX0_read_37 (by decide) ?_
            refine lv_istore (lv' := [(4, .int v8), (0, .ref q_bi), (1, .int z1), (2, .int z2), (3, .int z3)]) hx hb dX0_read_41 hl (by decide) rfl (fun ls hl => ?_)
            refine lv_iload_n hx hb dX0_read_43 rfl (lv_at hl 3 rfl) ?_
            refine lv_iconst (v := 2) hx hb dX0_read_44 (by decide) ?_
            refine lv_imul hx hb dX0_read_45 ?_
            refine lv_iload hx hb dX0_read_46 (lv_at hl 0 rfl) ?_
            refine lv_iadd hx hb dX0_read_48 ?_
            refine lv_istore_n (lv' := [(2, .int ((z2 * 2) + v8)), (4, .int v8), (0, .ref q_bi), (1, .int z1), (3, .int z3)]) hx hb dX0_read_49 rfl hl (by decide) rfl (fun ls hl => ?_)
            refine lv_aload_n hx hb dX0_read_50 rfl (lv_at hl 2 rfl) ?_
            refine lv_dup hx hb dX0_read_51 rfl ?_
            refine va_get (D := D) (ci := 0) (v := .int bi_place) (C := RX0) (T := TX0) (N := 2) hx hb hts hin0 hown hK hP 0 rfl rfl 1 (by decide) (hts (.fieldLink RX0 15 "ColumnChooser$Bits" "place" "I") (List.mem_of_getElem? (i := 1) rfl)) (fun _ h9 => h9) rfl dX0_read_52 ?_
            refine lv_iconst (v := 1) hx hb dX0_read_55 (by decide) ?_
            refine lv_iadd hx hb dX0_read_56 ?_
            refine va_put (D := D) (ci := 0) (v := .int (bi_place + 1)) (ty := .int) (C := RX0) (T := TX0) (N := 2) hx hb hts hin0 tyX0 tyX0_ok nmX0 hown hK hP hD hS 0 rfl rfl 1 (by decide) (hts (.fieldLink RX0 15 "ColumnChooser$Bits" "place" "I") (List.mem_of_getElem? (i := 1) rfl)) (fun _ h9 => h9) rfl (by decide +kernel) rfl rfl (Nat.le_of_ble_eq_true rfl) dX0_read_57 (fun H locs hP hD hS => ?_)
            have hP : va_P D vwCl [(q_bi, .inr (0, [.ref q_bi_a, .int (bi_place + 1)])), (q_bi_a, .inl (cI, 3072, .inl bi_a))] H := hP
            have hD : va_D A [(q_bi, .inr (0, [.ref q_bi_a, .int (bi_place + 1)])), (q_bi_a, .inl (cI, 3072, .inl bi_a))] := hD
            refine lv_iinc (v := (z3 + 1)) (lv' := [(3, .int (z3 + 1)), (2, .int ((z2 * 2) + v8)), (4, .int v8), (0, .ref q_bi), (1, .int z1)]) hx hb dX0_read_60 hl (k := 4) rfl rfl (by decide) rfl (fun ls hl => ?_)
            refine lv_goto (tgt := 4) hx hb dX0_read_63 (by decide) ?_
            exact ih _ _ _ _ _ _ ls hf (hP.sub [0, 1] rfl) (hD.sub [0, 1] (by decide) rfl) hS (lv_sub hl [3, 4, 1, 0] rfl)
  unfold f_X0_read at hf
  refine lv_iconst (v := 0) hx hb dX0_read_0 (by decide) ?_
  refine lv_istore_n (lv' := [(2, .int 0), (0, .ref q_bi), (1, .int x1)]) hx hb dX0_read_1 rfl hl (by decide) rfl (fun ls hl => ?_)
  refine lv_iconst (v := 0) hx hb dX0_read_2 (by decide) ?_
  refine lv_istore_n (lv' := [(3, .int 0), (2, .int 0), (0, .ref q_bi), (1, .int x1)]) hx hb dX0_read_3 rfl hl (by decide) rfl (fun ls hl => ?_)
  exact k_4 n _ _ _ _ _ _ ls hf (hP.sub [0, 1] rfl) (hD.sub [0, 1] (by decide) rfl) hS (lv_sub hl [2, 3, 1, 0] rfl)
