/-! the walks of these methods, printed by my own program (wip/whole/gen.py) -/
set_option maxHeartbeats 4000000 in
set_option maxRecDepth 100000 in
theorem c_X3_get (l : Launch) (D : va_G) (cI : ClassId) (q_rw q_rw_a : Nat) (N : Nat) (n : Nat) (x1 : Int32) (rw_a : (Nat → Int32)) (res : Int32) (hf : f_X3_get n N x1 rw_a = some res) : fr_Ci l yX3_get wsX3_get ({ frames := 0, cells := 0, slots := 0, locals := 0 }) D [(cI, .int)] [.ref q_rw, .int x1] [(q_rw, .inr (3, [.ref q_rw_a])), (q_rw_a, .inl (cI, N, .inl rw_a))] res [(q_rw, .inr (3, [.ref q_rw_a])), (q_rw_a, .inl (cI, N, .inl rw_a))] := by
  refine fr_open_i (cc := cX3_get) (maxL := 2) (ret := some .int) (by decide +kernel) rfl (Nat.le_of_ble_eq_true rfl) ⟨.int, rfl, vp_nar_int _⟩ ?_
  intro p e s m below meth c A Q ls hx hb hml hown hts hA hK hP hD hS hl hret
  have hown : s.vm.findClass RX3 = some m.cls := hown
  have hl : lv_has ls 2 [(0, .ref q_rw), (1, .int x1)] := hl
  have hin3 : ∀ w ∈ u_ws RX3 TX3 1, w ∈ wsX3_get := fun _ h9 => List.mem_cons_of_mem _ (List.mem_append_right _ h9)
  unfold f_X3_get at hf
  refine lv_iload_n hx hb dX3_get_0 rfl (lv_at hl 1 rfl) ?_
  refine lv_if_lt (tgt := 22) hx hb dX3_get_1 (by decide) (fun c4 => ?_) (fun c4 => ?_)
  · have hf := pr_pos hf c4
    refine lv_iconst (v := 0) hx hb dX3_get_22 (by decide) ?_
    obtain rfl := Option.some.inj hf
    exact hret _ _ _ _ dX3_get_23 (hP.sub [0, 1] rfl) (hD.sub [0, 1] (by decide) rfl) hS
  · have hf := pr_neg hf c4
    refine lv_iload_n hx hb dX3_get_4 rfl (lv_at hl 1 rfl) ?_
    refine lv_aload_n hx hb dX3_get_5 rfl (lv_at hl 0 rfl) ?_
    refine va_get (D := D) (ci := 3) (v := .ref q_rw_a) (C := RX3) (T := TX3) (N := 1) hx hb hts hin3 hown hK hP 0 rfl rfl 0 (by decide) (hts (.fieldLink RX3 7 "ColumnChooser$Row" "cells" "[I") (List.mem_of_getElem? (i := 1) rfl)) (fun _ h9 => h9) rfl dX3_get_6 ?_
    refine va_alen (v := nI N) hx hb hK hP 1 0 rfl rfl rfl dX3_get_9 ?_
    refine lv_icmp_ge (tgt := 22) hx hb dX3_get_10 (by decide) (fun c5 => ?_) (fun c5 => ?_)
    · have hf := pr_pos hf c5
      refine lv_iconst (v := 0) hx hb dX3_get_22 (by decide) ?_
      obtain rfl := Option.some.inj hf
      exact hret _ _ _ _ dX3_get_23 (hP.sub [0, 1] rfl) (hD.sub [0, 1] (by decide) rfl) hS
    · have hf := pr_neg hf c5
      refine lv_aload_n hx hb dX3_get_13 rfl (lv_at hl 0 rfl) ?_
      refine va_get (D := D) (ci := 3) (v := .ref q_rw_a) (C := RX3) (T := TX3) (N := 1) hx hb hts hin3 hown hK hP 0 rfl rfl 0 (by decide) (hts (.fieldLink RX3 7 "ColumnChooser$Row" "cells" "[I") (List.mem_of_getElem? (i := 1) rfl)) (fun _ h9 => h9) rfl dX3_get_14 ?_
      refine lv_iload_n hx hb dX3_get_17 rfl (lv_at hl 1 rfl) ?_
      obtain ⟨v6, hv6, hf⟩ := pr_bd hf
      refine fr_rd hx hb hK hP 1 0 rfl rfl hv6 dX3_get_18 ?_
      refine lv_goto (tgt := 23) hx hb dX3_get_19 (by decide) ?_
      obtain rfl := Option.some.inj hf
      exact hret _ _ _ _ dX3_get_23 (hP.sub [0, 1] rfl) (hD.sub [0, 1] (by decide) rfl) hS
set_option maxHeartbeats 4000000 in
set_option maxRecDepth 100000 in
theorem c_X3_find (l : Launch) (D : va_G) (cI : ClassId) (q_rw q_rw_a : Nat) (N : Nat) (n : Nat) (x1 : Int32) (x2 : Int32) (rw_a : (Nat → Int32)) (res : Int32) (hf : f_X3_find n N x1 x2 rw_a = some res) : fr_Ci l yX3_find wsX3_find ({ frames := 0, cells := 0, slots := 0, locals := 0 }) D [(cI, .int)] [.ref q_rw, .int x1, .int x2] [(q_rw, .inr (3, [.ref q_rw_a])), (q_rw_a, .inl (cI, N, .inl rw_a))] res [(q_rw, .inr (3, [.ref q_rw_a])), (q_rw_a, .inl (cI, N, .inl rw_a))] := by
  refine fr_open_i (cc := cX3_find) (maxL := 4) (ret := some .int) (by decide +kernel) rfl (Nat.le_of_ble_eq_true rfl) ⟨.int, rfl, vp_nar_int _⟩ ?_
  intro p e s m below meth c A Q ls hx hb hml hown hts hA hK hP hD hS hl hret
  have hown : s.vm.findClass RX3 = some m.cls := hown
  have hl : lv_has ls 4 [(0, .ref q_rw), (1, .int x1), (2, .int x2)] := hl
  have hin3 : ∀ w ∈ u_ws RX3 TX3 1, w ∈ wsX3_find := fun _ h9 => List.mem_cons_of_mem _ (List.mem_append_right _ h9)
  have k_2 : ∀ (n : Nat), (∀ (z1 : Int32) (z2 : Int32) (z3 : Int32) (H : Heap) (locs : List Loc) (ls : Array Slot), f_X3_find_2 n N z1 z2 z3 rw_a = some res → va_P D vwCl [(q_rw, .inr (3, [.ref q_rw_a])), (q_rw_a, .inl (cI, N, .inl rw_a))] H → va_D A [(q_rw, .inr (3, [.ref q_rw_a])), (q_rw_a, .inl (cI, N, .inl rw_a))] → va_S A s.heap H locs → lv_has ls 4 [(0, .ref q_rw), (1, .int z1), (2, .int z2), (3, .int z3)] → W p l e ({ frames := 0, cells := 0, slots := 0, locals := 0 }) s m ([.ref q_rw, .int x1, .int x2] : List Value).toArray below meth c H locs 0 0 Q (F0 m 2 ls [])) := by
    intro n
    induction n with
    | zero =>
      intro z1 z2 z3 H locs ls hf hP hD hS hl
      exact absurd (show (none : Option (Int32)) = some res from hf) (by simp)
    | succ n ih =>
      intro z1 z2 z3 H locs ls hf hP hD hS hl
      have hf : f_X3_find_2_s (f_X3_find_2 n N) n N z1 z2 z3 rw_a = some res := hf
      unfold f_X3_find_2_s at hf
      refine lv_iload_n hx hb dX3_find_2 rfl (lv_at hl 3 rfl) ?_
      refine lv_iload_n hx hb dX3_find_3 rfl (lv_at hl 2 rfl) ?_
      refine lv_icmp_ge (tgt := 34) hx hb dX3_find_4 (by decide) (fun c5 => ?_) (fun c5 => ?_)
      · have hf := pr_pos hf c5
        refine lv_iconst (v := -1) hx hb dX3_find_34 (by decide) ?_
        obtain rfl := Option.some.inj hf
        exact hret _ _ _ _ dX3_find_35 (hP.sub [0, 1] rfl) (hD.sub [0, 1] (by decide) rfl) hS
      · have hf := pr_neg hf c5
        refine lv_iload_n hx hb dX3_find_7 rfl (lv_at hl 3 rfl) ?_
        refine lv_aload_n hx hb dX3_find_8 rfl (lv_at hl 0 rfl) ?_
        refine va_get (D := D) (ci := 3) (v := .ref q_rw_a) (C := RX3) (T := TX3) (N := 1) hx hb hts hin3 hown hK hP 0 rfl rfl 0 (by decide) (hts (.fieldLink RX3 7 "ColumnChooser$Row" "cells" "[I") (List.mem_of_getElem? (i := 1) rfl)) (fun _ h9 => h9) rfl dX3_find_9 ?_
        refine va_alen (v := nI N) hx hb hK hP 1 0 rfl rfl rfl dX3_find_12 ?_
        refine lv_icmp_ge (tgt := 34) hx hb dX3_find_13 (by decide) (fun c6 => ?_) (fun c6 => ?_)
        · have hf := pr_pos hf c6
          refine lv_iconst (v := -1) hx hb dX3_find_34 (by decide) ?_
          obtain rfl := Option.some.inj hf
          exact hret _ _ _ _ dX3_find_35 (hP.sub [0, 1] rfl) (hD.sub [0, 1] (by decide) rfl) hS
        · have hf := pr_neg hf c6
          refine lv_aload_n hx hb dX3_find_16 rfl (lv_at hl 0 rfl) ?_
          refine va_get (D := D) (ci := 3) (v := .ref q_rw_a) (C := RX3) (T := TX3) (N := 1) hx hb hts hin3 hown hK hP 0 rfl rfl 0 (by decide) (hts (.fieldLink RX3 7 "ColumnChooser$Row" "cells" "[I") (List.mem_of_getElem? (i := 1) rfl)) (fun _ h9 => h9) rfl dX3_find_17 ?_
          refine lv_iload_n hx hb dX3_find_20 rfl (lv_at hl 3 rfl) ?_
          obtain ⟨v7, hv7, hf⟩ := pr_bd hf
          refine fr_rd hx hb hK hP 1 0 rfl rfl hv7 dX3_find_21 ?_
          refine lv_iload_n hx hb dX3_find_22 rfl (lv_at hl 1 rfl) ?_
          refine lv_icmp_ne (tgt := 28) hx hb dX3_find_23 (by decide) (fun c8 => ?_) (fun c8 => ?_)
          · have hf := pr_neg hf c8
            refine lv_iinc (v := (z3 + 1)) (lv' := [(3, .int (z3 + 1)), (0, .ref q_rw), (1, .int z1), (2, .int z2)]) hx hb dX3_find_28 hl (k := 3) rfl rfl (by decide) rfl (fun ls hl => ?_)
            refine lv_goto (tgt := 2) hx hb dX3_find_31 (by decide) ?_
            exact ih _ _ _ _ _ ls hf (hP.sub [0, 1] rfl) (hD.sub [0, 1] (by decide) rfl) hS (lv_sub hl [1, 2, 3, 0] rfl)
          · have hf := pr_pos hf c8
            refine lv_iload_n hx hb dX3_find_26 rfl (lv_at hl 3 rfl) ?_
            obtain rfl := Option.some.inj hf
            exact hret _ _ _ _ dX3_find_27 (hP.sub [0, 1] rfl) (hD.sub [0, 1] (by decide) rfl) hS
  unfold f_X3_find at hf
  refine lv_iconst (v := 0) hx hb dX3_find_0 (by decide) ?_
  refine lv_istore_n (lv' := [(3, .int 0), (0, .ref q_rw), (1, .int x1), (2, .int x2)]) hx hb dX3_find_1 rfl hl (by decide) rfl (fun ls hl => ?_)
  exact k_2 n _ _ _ _ _ ls hf (hP.sub [0, 1] rfl) (hD.sub [0, 1] (by decide) rfl) hS (lv_sub hl [1, 2, 3, 0] rfl)
set_option maxHeartbeats 4000000 in
set_option maxRecDepth 100000 in
theorem c_X3_put (l : Launch) (D : va_G) (cI : ClassId) (q_rw q_rw_a : Nat) (N : Nat) (n : Nat) (x1 : Int32) (x2 : Int32) (rw_a : (Nat → Int32)) (res : (Nat → Int32)) (hf : f_X3_put n N x1 x2 rw_a = some res) : fr_Cv l yX3_put wsX3_put ({ frames := 0, cells := 0, slots := 0, locals := 0 }) D [(cI, .int)] [.ref q_rw, .int x1, .int x2] [(q_rw, .inr (3, [.ref q_rw_a])), (q_rw_a, .inl (cI, N, .inl rw_a))] [(q_rw, .inr (3, [.ref q_rw_a])), (q_rw_a, .inl (cI, N, .inl res))] := by
  refine fr_open_v (cc := cX3_put) (maxL := 3) (by decide +kernel) rfl (Nat.le_of_ble_eq_true rfl) ?_
  intro p e s m below meth c A Q ls hx hb hml hown hts hA hK hP hD hS hl hret
  have hown : s.vm.findClass RX3 = some m.cls := hown
  have hl : lv_has ls 3 [(0, .ref q_rw), (1, .int x1), (2, .int x2)] := hl
  have hin3 : ∀ w ∈ u_ws RX3 TX3 1, w ∈ wsX3_put := fun _ h9 => List.mem_cons_of_mem _ (List.mem_append_right _ h9)
  unfold f_X3_put at hf
  refine lv_iload_n hx hb dX3_put_0 rfl (lv_at hl 1 rfl) ?_
  refine lv_if_lt (tgt := 20) hx hb dX3_put_1 (by decide) (fun c4 => ?_) (fun c4 => ?_)
  · have hf := pr_pos hf c4
    obtain rfl := Option.some.inj hf
    exact hret _ _ _ _ dX3_put_20 (hP.sub [0, 1] rfl) (hD.sub [0, 1] (by decide) rfl) hS
  · have hf := pr_neg hf c4
    refine lv_iload_n hx hb dX3_put_4 rfl (lv_at hl 1 rfl) ?_
    refine lv_aload_n hx hb dX3_put_5 rfl (lv_at hl 0 rfl) ?_
    refine va_get (D := D) (ci := 3) (v := .ref q_rw_a) (C := RX3) (T := TX3) (N := 1) hx hb hts hin3 hown hK hP 0 rfl rfl 0 (by decide) (hts (.fieldLink RX3 7 "ColumnChooser$Row" "cells" "[I") (List.mem_of_getElem? (i := 1) rfl)) (fun _ h9 => h9) rfl dX3_put_6 ?_
    refine va_alen (v := nI N) hx hb hK hP 1 0 rfl rfl rfl dX3_put_9 ?_
    refine lv_icmp_ge (tgt := 20) hx hb dX3_put_10 (by decide) (fun c5 => ?_) (fun c5 => ?_)
    · have hf := pr_pos hf c5
      obtain rfl := Option.some.inj hf
      exact hret _ _ _ _ dX3_put_20 (hP.sub [0, 1] rfl) (hD.sub [0, 1] (by decide) rfl) hS
    · have hf := pr_neg hf c5
      refine lv_aload_n hx hb dX3_put_13 rfl (lv_at hl 0 rfl) ?_
      refine va_get (D := D) (ci := 3) (v := .ref q_rw_a) (C := RX3) (T := TX3) (N := 1) hx hb hts hin3 hown hK hP 0 rfl rfl 0 (by decide) (hts (.fieldLink RX3 7 "ColumnChooser$Row" "cells" "[I") (List.mem_of_getElem? (i := 1) rfl)) (fun _ h9 => h9) rfl dX3_put_14 ?_
      refine lv_iload_n hx hb dX3_put_17 rfl (lv_at hl 1 rfl) ?_
      refine lv_iload_n hx hb dX3_put_18 rfl (lv_at hl 2 rfl) ?_
      obtain ⟨v6, hv6, hf⟩ := pr_bd hf
      refine fr_wr hx hb hK hP hD hS 1 0 rfl rfl hv6 dX3_put_19 (fun H locs hP hD hS => ?_)
      have hP : va_P D vwCl [(q_rw, .inr (3, [.ref q_rw_a])), (q_rw_a, .inl (cI, N, .inl v6))] H := hP
      have hD : va_D A [(q_rw, .inr (3, [.ref q_rw_a])), (q_rw_a, .inl (cI, N, .inl v6))] := hD
      obtain rfl := Option.some.inj hf
      exact hret _ _ _ _ dX3_put_20 (hP.sub [0, 1] rfl) (hD.sub [0, 1] (by decide) rfl) hS
