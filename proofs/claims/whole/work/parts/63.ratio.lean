/-! ratio, of class and reference: the quotient may be any NaN where it is one -/
section FrR
def fr_Cd (l : Launch) (y : MethodName) (ws : List Cond) (rm : Room) (D : va_G) (tys : List (ClassId × FieldType)) (As : List Value) (W0 : va_W) (v : UInt64) (W1 : va_W) : Prop :=
  ∀ sz : Nat, MetD lw_cs l y ws rm (va_Pc As (fr_P D tys W0 sz)) (va_Qd (fun r (_ : Unit) => alike64 r v = true) (fr_B D tys (va_A W0 sz) W1) (va_A W0 sz)) 0 0 (va_A W0 sz)
theorem fr_open_d {l : Launch} {y : MethodName} {ws ws' : List Cond} {rm : Room} {D : va_G} {tys : List (ClassId × FieldType)} {As : List Value} {W0 W1 : va_W} {v : UInt64} {cc : ByteArray} {maxL : Nat}
    (hy : plainName y.cls = true) (hw : ws = Cond.code y cc maxL (some .double) :: ws') (hn : (lg_sl As).length ≤ maxL)
    (body : ∀ (p : Program) (e : Env) (s : State) (m : MethodId) (below : List Frame) (meth : Method) (c : Code) (A : Nat → Prop) (Q : State → Prop) (ls : Array Slot),
      p.tables.exec = Jvm.exec → c.code = cc → c.maxLocals = maxL → s.vm.findClass y.cls = some m.cls → (∀ w ∈ ws, w.before As.toArray s = true) → (∀ q, s.heap.size ≤ q → A q) → va_K D vwCl tys s → va_P D vwCl W0 s.heap → va_D A W0 → va_S A s.heap s.heap [] → lv_has ls maxL (lv_args 0 As) →
      (∀ (d : Drawn) (H : Heap) (locs : List Loc) (pc : Nat) (ls : Array Slot) (r : UInt64), s.drawn.sameBut d lw_cs → alike64 r v = true → decode cc pc = .ok (.dreturn, 1) → va_P D vwCl W1 H → va_D A W1 → va_S A s.heap H locs → W p l e rm (s.setDrawn d) m As.toArray below meth c H locs 0 0 Q (F0 m pc ls [.double r])) →
      W p l e rm (s.setDrawn s.drawn) m As.toArray below meth c s.heap [] 0 0 Q (F0 m 0 ls [])) : fr_Cd l y ws rm D tys As W0 v W1 := by
  intro sz
  refine MetD.ofW (cc := cc) (maxL := maxL) (ret := some .double) hy hw ?_
  intro p e s m args below meth c s₁ B hml hv hd0
  obtain ⟨rfl, hsz, hP, hK, hD0⟩ := hv
  have hts := atoms_spec (ws := ws) B.pre
  have hown : s.vm.findClass y.cls = some m.cls := findClass_of_methodNamed B.named
  have hlocks := B.notSynchronized
  subst hsz
  have hD := hD0.self (sz := s.heap.size)
  have hA : ∀ q, s.heap.size ≤ q → va_A W0 s.heap.size q := fun q h => Or.inr h
  rw [lg_entry_eq]
  refine body p e s m below meth c (va_A W0 s.heap.size) _ _ B.exec B.bytes hml hown hts hA hK hP hD va_S.rf (lv_entry As hn) ?_
  intro d H locs pc ls r hd hal hdg hP1 hD1 hS
  refine W.endD hd ?_
  exact W.dret B.exec B.bytes B.returns (fun t ht hW => ⟨⟨r, (), rfl, hal, by rw [ht]; exact hP1, va_K.moved (u := s) hW.alike hK, hD1⟩, hS.F ht⟩) hS.2.2 hdg
set_option maxHeartbeats 4000000 in
set_option maxRecDepth 100000 in
theorem c_X5_ratio (l : Launch) (D : va_G) (cI : ClassId) (q_cc q_tr q_en q_bc q_bc_a q_bi q_co q_pr q_cd : Nat) (n : Nat) (cc_rowCount : Int32) (cc_segmentSize : Int32) (cc_price : Int32) (bc_a : (Nat → Int32)) (res : Int32) (v : UInt64) (hf : f_X5_size n cc_rowCount cc_segmentSize bc_a = some res) (hv0 : cc_rowCount * 18 ≤ 0 → v = FP.dconst1) (hv1 : ¬ cc_rowCount * 18 ≤ 0 → v = FP.ddiv (FP.i2d res) (FP.i2d (cc_rowCount * 18))) : fr_Cd l yX5_ratio wsX5_ratio ({ frames := 3, cells := 0, slots := 0, locals := 64 }) D [(cI, .int)] [.ref q_cc] [(q_cc, .inr (5, [.int cc_rowCount, .int cc_segmentSize, .int cc_price, .ref q_tr, .ref q_en, .ref q_bc, .ref q_bi, .ref q_co, .ref q_pr, .ref q_cd])), (q_bc, .inr (3, [.ref q_bc_a])), (q_bc_a, .inl (cI, 24, .inl bc_a))] v [(q_cc, .inr (5, [.int cc_rowCount, .int cc_segmentSize, .int cc_price, .ref q_tr, .ref q_en, .ref q_bc, .ref q_bi, .ref q_co, .ref q_pr, .ref q_cd])), (q_bc, .inr (3, [.ref q_bc_a])), (q_bc_a, .inl (cI, 24, .inl bc_a))] := by
  refine fr_open_d (cc := cX5_ratio) (maxL := 2) (by decide +kernel) rfl (Nat.le_of_ble_eq_true rfl) ?_
  intro p e s m below meth c A Q ls hx hb hml hown hts hA hK hP hD hS hl hret
  have hown : s.vm.findClass RX5 = some m.cls := hown
  have hl : lv_has ls 2 [(0, .ref q_cc)] := hl
  have hts1 := dr_words hts s.drawn
  have hK1 : va_K D vwCl [(cI, .int)] (s.setDrawn s.drawn) := hK
  have hd0 := Drawn.sameBut.refl s.drawn lw_cs
  have hin5 : ∀ w ∈ u_ws RX5 TX5 10, w ∈ wsX5_ratio := fun _ h9 => List.mem_cons_of_mem _ (List.mem_append_left _ (List.mem_append_right _ h9))
  refine lv_aload_n hx hb dX5_ratio_0 rfl (lv_at hl 0 rfl) ?_
  refine va_get (D := D) (ci := 5) (v := .int cc_rowCount) (C := RX5) (T := TX5) (N := 10) hx hb hts1 hin5 hown hK1 hP 0 rfl rfl 0 (by decide) (hts1 (.fieldLink RX5 9 "ColumnChooser" "rowCount" "I") (List.mem_of_getElem? (i := 1) rfl)) (fun _ h9 => h9) rfl dX5_ratio_1 ?_
  refine lv_bipush (v := 18) hx hb dX5_ratio_4 (by decide) ?_
  refine lv_imul hx hb dX5_ratio_6 ?_
  refine lv_istore_n (lv' := [(1, .int (cc_rowCount * 18)), (0, .ref q_cc)]) hx hb dX5_ratio_7 rfl hl (by decide) rfl (fun ls hl => ?_)
  refine lv_iload_n hx hb dX5_ratio_8 rfl (lv_at hl 0 rfl) ?_
  refine lv_if_le (tgt := 23) hx hb dX5_ratio_9 (by decide) (fun c4 => ?_) (fun c4 => ?_)
  · refine lv_dconst1 hx hb dX5_ratio_23 ?_
    obtain rfl := hv0 c4
    exact hret s.drawn _ _ _ _ _ hd0 (alike64_refl _) dX5_ratio_24 (hP.sub [0, 1, 2] rfl) (hD.sub [0, 1, 2] (by decide) rfl) hS
  · refine lv_aload_n hx hb dX5_ratio_12 rfl (lv_at hl 1 rfl) ?_
    refine fr_iV (As := []) ⟨hx, hb, hml, hown, hts1⟩ hK1 hP hD hS hA (c_X5_size l D cI q_cc q_tr q_en q_bc q_bc_a q_bi q_co q_pr q_cd n cc_rowCount cc_segmentSize cc_price bc_a res hf) (cwV 0 hts1 gX5_ratio_X5_size rfl rfl rfl (by decide +kernel) ⟨Nat.le_of_ble_eq_true rfl, Nat.le_of_ble_eq_true rfl⟩) [] [0, 1, 2] [] rfl rfl (by decide) (by decide) (by decide) 0 rfl rfl rfl rfl hl.1 (Nat.le_of_ble_eq_true rfl) dX5_ratio_13 ⟨Nat.zero_le _, Nat.zero_le _⟩ rfl (fun H locs hP hD hS => ?_)
    refine lv_i2d hx hb dX5_ratio_16 ?_
    refine lv_iload_n hx hb dX5_ratio_17 rfl (lv_at hl 0 rfl) ?_
    refine lv_i2d hx hb dX5_ratio_18 ?_
    refine lv_ddiv_any hd0 lw_bits hx hb dX5_ratio_19 (fun r d1 hal hd1 => ?_)
    refine lv_goto (tgt := 24) hx hb dX5_ratio_20 (by decide) ?_
    obtain rfl := hv1 c4
    exact hret d1 _ _ _ _ _ hd1 hal dX5_ratio_24 (hP.sub [0, 1, 2] rfl) (hD.sub [0, 1, 2] (by decide) rfl) hS
set_option maxHeartbeats 4000000 in
set_option maxRecDepth 100000 in
theorem c_X6_ratio (l : Launch) (D : va_G) (cI : ClassId) (q_mo q_mv q_me q_mk q_ma q_mb q_mw q_mx : Nat) (n : Nat) (mo_thrown : Int32) (mo_rows : Int32) (mo_size : Int32) (mo_price : Int32) (mo_queries : Int32) (mo_start : Int32) (mo_many : Int32) (mo_bits : Int32) (mv : (Nat → Int32)) (me : (Nat → Int32)) (r0 st' my' : Int32) (v : UInt64) (h0 : mo_rows = 0 → st' = mo_start ∧ my' = mo_many ∧ v = FP.dconst1) (h1 : ¬ mo_rows = 0 → f_X6_allBits n mo_rows mo_size mo_start mo_many mv me = some (r0, st', my') ∧ v = FP.ddiv (FP.i2d r0) (FP.i2d (18 * mo_rows))) : fr_Cd l yX6_ratio wsX6_ratio ({ frames := 5, cells := 0, slots := 0, locals := 109 }) D [(cI, .int)] [.ref q_mo] [(q_mo, .inr (6, [.int mo_thrown, .int mo_rows, .ref q_mv, .int mo_size, .ref q_me, .int mo_price, .int mo_queries, .ref q_mk, .ref q_ma, .ref q_mb, .ref q_mw, .int mo_start, .int mo_many, .int mo_bits, .ref q_mx])), (q_mv, .inl (cI, 96, .inl mv)), (q_me, .inl (cI, 96, .inl me))] v [(q_mo, .inr (6, [.int 0, .int mo_rows, .ref q_mv, .int mo_size, .ref q_me, .int mo_price, .int mo_queries, .ref q_mk, .ref q_ma, .ref q_mb, .ref q_mw, .int st', .int my', .int mo_bits, .ref q_mx])), (q_mv, .inl (cI, 96, .inl mv)), (q_me, .inl (cI, 96, .inl me))] := by
  refine fr_open_d (cc := cX6_ratio) (maxL := 1) (by decide +kernel) rfl (Nat.le_of_ble_eq_true rfl) ?_
  intro p e s m below meth c A Q ls hx hb hml hown hts hA hK hP hD hS hl hret
  have hown : s.vm.findClass RX6 = some m.cls := hown
  have hl : lv_has ls 1 [(0, .ref q_mo)] := hl
  have hts1 := dr_words hts s.drawn
  have hK1 : va_K D vwCl [(cI, .int)] (s.setDrawn s.drawn) := hK
  have hd0 := Drawn.sameBut.refl s.drawn lw_cs
  have hin6 : ∀ w ∈ u_ws RX6 TX6 15, w ∈ wsX6_ratio := fun _ h9 => List.mem_cons_of_mem _ (List.mem_append_right _ h9)
  refine lv_aload_n hx hb dX6_ratio_0 rfl (lv_at hl 0 rfl) ?_
  refine lv_iconst (v := 0) hx hb dX6_ratio_1 (by decide) ?_
  refine va_put (D := D) (ci := 6) (v := .int 0) (ty := .int) (C := RX6) (T := TX6) (N := 15) hx hb hts1 hin6 tyX6 tyX6_ok nmX6 hown hK1 hP hD hS 0 rfl rfl 0 (by decide) (hts1 (.fieldLink RX6 38 "ColumnChooserModel" "thrown" "I") (List.mem_of_getElem? (i := 1) rfl)) (fun _ h9 => h9) rfl (by decide +kernel) rfl rfl (Nat.le_of_ble_eq_true rfl) dX6_ratio_2 (fun H locs hP hD hS => ?_)
  have hP : va_P D vwCl [(q_mo, .inr (6, [.int 0, .int mo_rows, .ref q_mv, .int mo_size, .ref q_me, .int mo_price, .int mo_queries, .ref q_mk, .ref q_ma, .ref q_mb, .ref q_mw, .int mo_start, .int mo_many, .int mo_bits, .ref q_mx])), (q_mv, .inl (cI, 96, .inl mv)), (q_me, .inl (cI, 96, .inl me))] H := hP
  have hD : va_D A [(q_mo, .inr (6, [.int 0, .int mo_rows, .ref q_mv, .int mo_size, .ref q_me, .int mo_price, .int mo_queries, .ref q_mk, .ref q_ma, .ref q_mb, .ref q_mw, .int mo_start, .int mo_many, .int mo_bits, .ref q_mx])), (q_mv, .inl (cI, 96, .inl mv)), (q_me, .inl (cI, 96, .inl me))] := hD
  refine lv_aload_n hx hb dX6_ratio_5 rfl (lv_at hl 0 rfl) ?_
  refine va_get (D := D) (ci := 6) (v := .int mo_rows) (C := RX6) (T := TX6) (N := 15) hx hb hts1 hin6 hown hK1 hP 0 rfl rfl 1 (by decide) (hts1 (.fieldLink RX6 47 "ColumnChooserModel" "rows" "I") (List.mem_of_getElem? (i := 2) rfl)) (fun _ h9 => h9) rfl dX6_ratio_6 ?_
  refine lv_if_ne (tgt := 16) hx hb dX6_ratio_9 (by decide) (fun c4 => ?_) (fun c4 => ?_)
  · obtain ⟨hf, rfl⟩ := h1 c4
    refine lv_aload_n hx hb dX6_ratio_16 rfl (lv_at hl 0 rfl) ?_
    refine fr_iV (As := []) ⟨hx, hb, hml, hown, hts1⟩ hK1 hP hD hS hA (c_X6_allBits l D cI q_mo q_mv q_me q_mk q_ma q_mb q_mw q_mx n 0 mo_rows mo_size mo_price mo_queries mo_start mo_many mo_bits mv me (r0, st', my') hf) (cwV 0 hts1 gX6_ratio_X6_allBits rfl rfl rfl (by decide +kernel) ⟨Nat.le_of_ble_eq_true rfl, Nat.le_of_ble_eq_true rfl⟩) [] [0, 1, 2] [] rfl rfl (by decide) (by decide) (by decide) 0 rfl rfl rfl rfl hl.1 (Nat.le_of_ble_eq_true rfl) dX6_ratio_17 ⟨Nat.zero_le _, Nat.zero_le _⟩ rfl (fun H locs hP hD hS => ?_)
    have hP : va_P D vwCl [(q_mo, .inr (6, [.int 0, .int mo_rows, .ref q_mv, .int mo_size, .ref q_me, .int mo_price, .int mo_queries, .ref q_mk, .ref q_ma, .ref q_mb, .ref q_mw, .int st', .int my', .int mo_bits, .ref q_mx])), (q_mv, .inl (cI, 96, .inl mv)), (q_me, .inl (cI, 96, .inl me))] H := hP
    have hD : va_D A [(q_mo, .inr (6, [.int 0, .int mo_rows, .ref q_mv, .int mo_size, .ref q_me, .int mo_price, .int mo_queries, .ref q_mk, .ref q_ma, .ref q_mb, .ref q_mw, .int st', .int my', .int mo_bits, .ref q_mx])), (q_mv, .inl (cI, 96, .inl mv)), (q_me, .inl (cI, 96, .inl me))] := hD
    refine lv_i2d hx hb dX6_ratio_20 ?_
    refine lv_bipush (v := 18) hx hb dX6_ratio_21 (by decide) ?_
    refine lv_aload_n hx hb dX6_ratio_23 rfl (lv_at hl 0 rfl) ?_
    refine va_get (D := D) (ci := 6) (v := .int mo_rows) (C := RX6) (T := TX6) (N := 15) hx hb hts1 hin6 hown hK1 hP 0 rfl rfl 1 (by decide) (hts1 (.fieldLink RX6 47 "ColumnChooserModel" "rows" "I") (List.mem_of_getElem? (i := 2) rfl)) (fun _ h9 => h9) rfl dX6_ratio_24 ?_
    refine lv_imul hx hb dX6_ratio_27 ?_
    refine lv_i2d hx hb dX6_ratio_28 ?_
    refine lv_ddiv_any hd0 lw_bits hx hb dX6_ratio_29 (fun r d1 hal hd1 => ?_)
    exact hret d1 _ _ _ _ _ hd1 hal dX6_ratio_30 (hP.sub [0, 1, 2] rfl) (hD.sub [0, 1, 2] (by decide) rfl) hS
  · obtain ⟨rfl, rfl, rfl⟩ := h0 c4
    refine lv_dconst1 hx hb dX6_ratio_12 ?_
    refine lv_goto (tgt := 30) hx hb dX6_ratio_13 (by decide) ?_
    exact hret s.drawn _ _ _ _ _ hd0 (alike64_refl _) dX6_ratio_30 (hP.sub [0, 1, 2] rfl) (hD.sub [0, 1, 2] (by decide) rfl) hS
end FrR
section PuV
variable {rc ss pr tc : Int32} {tk tf tz tw en bc a : Nat → Int32} {ro si mp mq : Int32} {mk ma mb mw mv me : Nat → Int32}
variable {th st my bb pl : Int32}
theorem op_ratio (R : Rl rc ss pr tc tk tf tz tw en bc a ro si mp mq mk ma mb mw mv me) : ∃ n res r0 st' my' v, f_X5_size n rc ss bc = some res ∧ (rc * 18 ≤ 0 → v = FP.dconst1) ∧ (¬ rc * 18 ≤ 0 → v = FP.ddiv (FP.i2d res) (FP.i2d (rc * 18))) ∧ (ro = 0 → st' = st ∧ my' = my ∧ v = FP.dconst1) ∧ (¬ ro = 0 → f_X6_allBits n ro si st my mv me = some (r0, st', my') ∧ v = FP.ddiv (FP.i2d r0) (FP.i2d (18 * ro))) := by
  obtain ⟨n, S, Q, p, E, ⟨rfl, rfl, rfl, rfl, rfl, rfl, rfl, rfl⟩, ⟨h1, h2, h3, h4, h5⟩, hb, hq, hI, hm⟩ := R
  obtain ⟨st1, my1, N1, hk⟩ := p_allBits (st := st) (my := my) hI hb hm h1 h2 h3
  obtain ⟨N2, hc⟩ := q_allSize hI h1 h2 h3
  have e18 : nI n * 18 = nI (n * 18) := nI_mul n 18
  by_cases c : n = 0
  · subst c
    exact ⟨N2, _, 0, st, my, FP.dconst1, hc N2 (Nat.le_refl _), fun _ => rfl, fun h => absurd (by decide) h, fun _ => ⟨rfl, rfl, rfl⟩, fun h => absurd (by decide) h⟩
  · have hn0 : ¬ nI n = 0 := nI_ne0 (by omega) (by omega)
    have hn1 : ¬ nI n * 18 ≤ 0 := by
      rw [e18]
      exact nI_nle (by omega) (by omega)
    refine ⟨N1 + N2, _, tb mv n S E (ct_ n S), st1, my1, _, hc (N1 + N2) (by omega), fun h => absurd h hn1, fun _ => rfl, fun h => absurd h hn0, fun _ => ⟨hk (N1 + N2) (by omega), ?_⟩⟩
    rw [Int32.mul_comm]
end PuV
