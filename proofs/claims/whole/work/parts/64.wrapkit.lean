/-! the law's own methods that call the class and catch: contracts that answer a given number, whatever was thrown inside -/
section FrW
def fr_ZL (A : Nat → Prop) (U : State) (H : Heap) : Prop := fr_Z A U H ∧ va_Nc xS xA U ∧ va_Nc xA xI U
theorem fr_ZL.down {A B : Nat → Prop} {s U : State} {H0 H : Heap} (h : fr_ZL A s H0) (hk : ∀ a : Nat, a < H0.size → ¬ A a → H[a]? = H0[a]?) (hAB : ∀ q, B q → A q) (hW : s.WarmedH U.vm) : fr_ZL B U H := ⟨h.1.down hk hAB hW, h.2.1.moved hW.alike, h.2.2.moved hW.alike⟩
def fr_PW (D : va_G) (tys : List (ClassId × FieldType)) (W0 : va_W) (sz : Nat) : State → Prop := fun U => fr_P D tys W0 sz U ∧ fr_ZL (va_A W0 sz) U U.heap
theorem fr_blindW (D : va_G) (tys : List (ClassId × FieldType)) (As : List Value) (W0 : va_W) (sz : Nat) : FrameBlind (va_Pc As (fr_PW D tys W0 sz)) := fun a U g mk q => by
  obtain ⟨q0, ⟨q1, qP, qK, qD⟩, ⟨z1, z2, z3, z4⟩, y1, y2⟩ := q
  exact ⟨q0, ⟨q1, qP, va_K.moved (u := U) (U := U.calling g mk a) (Vm.Alike.refl U.vm) qK, qD⟩, ⟨vx_Zq.moved (u := U) (U := U.calling g mk a) (Vm.Alike.refl U.vm) z1, vx_Zq.moved (u := U) (U := U.calling g mk a) (Vm.Alike.refl U.vm) z2, fun q hq => (z3 q hq).imp fun _ h9 => vk_R.same (u := U) (U := U.calling g mk a) rfl h9, fr_N.moved (u := U) (U := U.calling g mk a) (Vm.Alike.refl U.vm) z4⟩, va_Nc.moved (u := U) (U := U.calling g mk a) (Vm.Alike.refl U.vm) y1, va_Nc.moved (u := U) (U := U.calling g mk a) (Vm.Alike.refl U.vm) y2⟩
def fr_Wi (l : Launch) (y : MethodName) (ws : List Cond) (rm : Room) (D : va_G) (tys : List (ClassId × FieldType)) (As : List Value) (W0 : va_W) (v : Int32) (W1 : va_W) : Prop :=
  ∀ sz : Nat, vx_Met l y ws rm (va_Pc As (fr_PW D tys W0 sz)) (va_Qi (fun r (_ : Unit) => r = v) (fr_B D tys (va_A W0 sz) W1) (va_A W0 sz)) (vx_X (fun _ : Unit => False) (fun _ _ _ => True) (va_A W0 sz)) 1 6 (va_A W0 sz)
theorem fr_openW {l : Launch} {y : MethodName} {ws ws' : List Cond} {rm : Room} {D : va_G} {tys : List (ClassId × FieldType)} {As : List Value} {W0 W1 : va_W} {v : Int32} {cc : ByteArray} {maxL : Nat} {hh : List (Nat × Nat × Nat × Nat)}
    (hy : plainName y.cls = true) (hw : ws = Cond.codeWith y cc maxL (some .int) hh :: ws') (hn : (lg_sl As).length ≤ maxL)
    (body : ∀ (p : Program) (e : Env) (s : State) (m : MethodId) (below : List Frame) (meth : Method) (c : Code) (A : Nat → Prop) (Q : State → Prop) (ls : Array Slot),
      p.tables.exec = Jvm.exec → c.code = cc → c.maxLocals = maxL → s.vm.findClass y.cls = some m.cls → (∀ w ∈ ws, w.before As.toArray s = true) → (∀ q, s.heap.size ≤ q → A q) → va_K D vwCl tys s → fr_ZL A s s.heap → va_P D vwCl W0 s.heap → va_D A W0 → va_S A s.heap s.heap [] → c.exceptionTable.toList = tableOf hh → lv_has ls maxL (lv_args 0 As) →
      (∀ (H : Heap) (locs : List Loc) (pc : Nat) (ls : Array Slot), decode cc pc = .ok (.ireturn, 1) → va_P D vwCl W1 H → va_D A W1 → va_S A s.heap H locs → W p l e rm s m As.toArray below meth c H locs 1 6 Q (F0 m pc ls [.int v])) →
      W p l e rm s m As.toArray below meth c s.heap [] 0 0 Q (F0 m 0 ls [])) : fr_Wi l y ws rm D tys As W0 v W1 := by
  intro sz
  refine vx_ofWH (cc := cc) (maxL := maxL) (ret := some .int) (hh := hh) hy hw ?_
  intro p e s m args below meth c s₁ B hml hv
  obtain ⟨rfl, ⟨hsz, hP, hK, hD0⟩, hZ⟩ := hv
  have hts := atoms_spec (ws := ws) B.pre
  have hown : s.vm.findClass y.cls = some m.cls := findClass_of_methodNamed B.named
  have hlocks := B.notSynchronized
  have htab : c.exceptionTable.toList = tableOf hh := vx_table (x := y) B (hts _ (by rw [hw]; exact List.mem_cons_self))
  subst hsz
  have hD := hD0.self (sz := s.heap.size)
  have hA : ∀ q, s.heap.size ≤ q → va_A W0 s.heap.size q := fun q h => Or.inr h
  rw [lg_entry_eq]
  refine body p e s m below meth c (va_A W0 s.heap.size) _ _ B.exec B.bytes hml hown hts hA hK hZ hP hD va_S.rf htab (lv_entry As hn) ?_
  intro H locs pc ls hdg hP1 hD1 hS
  refine vx_ret ?_
  exact W.zret B.exec B.bytes B.returns (vp_nar_int _) (fun t ht hW => ⟨⟨v, (), rfl, rfl, by rw [ht]; exact hP1, va_K.moved hW.alike hK, hD1⟩, hS.F ht⟩) hS.2.2 hdg
end FrW
section FrX
variable {p : Program} {l : Launch} {e : Env} {R : Room} {s : State} {m : MethodId} {args : Array Value} {below : List Frame} {meth : Method} {c : Code} {H H0 : Heap} {locs : List Loc} {cells slots : Nat} {Q : State → Prop}
variable {y : MethodName} {bytes cc : ByteArray} {maxL nL n index pc : Nat} {ret : Option FieldType} {wsC Ts : List Cond} {rm : Room} {own C : String} {b : Addr} {As rest : List Value} {ls : Array Slot} {D : va_G} {tysC : List (ClassId × FieldType)} {ws wc w1 : va_W} {A : Nat → Prop} {hh : List (Nat × Nat × Nat × Nat)}
theorem fr_iSW {v : Int32} (S : CallFix p m c cc nL s args Ts own) (hK : va_K D vwCl tysC s) (hZ : fr_ZL A s H0) (hP : va_P D vwCl ws H) (hD : va_D A ws) (hS : va_S A H0 H locs) (hA : ∀ q, H0.size ≤ q → A q)
    (hM : fr_Wi l y wsC rm D tysC As wc v w1) (cw : vx_CSW R s args own index y bytes maxL ret hh wsC rm 1 6 n) (wr : va_W) (isC isR : List Nat) (hC : isC.map (fun i => ws[i]?) = wc.map some) (hR : isR.map (fun i => ws[i]?) = wr.map some) (hnd : va_nd isC = true) (hnd2 : va_nd isR = true) (hdis : ∀ i ∈ isR, i ∉ isC)
    (hlen : As.length = n) (hsize : ls.size = nL) (hW : (rest.map fun v => v.category).sum ≤ 8) (hdg : decode cc pc = .ok (.invokestatic index, 3)) (hf : cells + 1 ≤ R.cells ∧ slots + 6 ≤ R.slots) {st0 : List Value} (hst : st0 = As.reverse ++ rest)
    (kk : ∀ (H1 : Heap) (locs1 : List Loc), va_P D vwCl (wr ++ w1) H1 → va_D A (wr ++ w1) → va_S A H0 H1 locs1 → W p l e R s m args below meth c H1 locs1 (cells + 1) (slots + 6) Q (F0 m (pc + 3) ls (.int v :: rest))) : W p l e R s m args below meth c H locs cells slots Q (F0 m pc ls st0) := by
  subst hst
  have hDc : va_D A wc := hD.sub isC hnd hC
  have hPc : va_P D vwCl wc H := hP.sub isC (fr_pick hC)
  have hFc := va_free (wc := wc) hD hS hA isC hC
  refine vx_calli (vx_runSX (As := As) (rest := rest) S (hM H.size) cw ⟨fr_blindW D tysC _ wc H.size, fun U hU hW => ⟨rfl, ⟨by rw [hU], by rw [hU]; exact hPc, va_K.moved hW.alike hK, hDc.weaken (fun _ _ _ _ => trivial)⟩, by rw [hU]; exact hZ.down hS.2.1 hFc hW⟩⟩ rfl hlen hsize rfl (lv_room hW) hdg hf) hS (fun q _ h => hFc q h) hFc (fun q _ h => hFc q h) (fun E' ce q9 u t H1 locs ht hvm hw hB hz1 hk1 hS h1 h2 h3 => hw.elim) (fun r u t H1 locs ht hvm hw hB hz1 hk1 hS => ?_)
  obtain ⟨hP1, hK1, hD1⟩ := hB
  rw [ht] at hP1
  obtain ⟨hP, hD⟩ := va_join (wr := wr) (w1 := w1) hP hD isC isR hC hR hnd2 hdis hk1 hFc hP1 hD1
  subst hw
  exact kk H1 locs hP hD hS
theorem fr_dV {v : UInt64} {d0 : Drawn} (hd0 : s.drawn.sameBut d0 lw_cs) (S : CallFix p m c cc nL (s.setDrawn d0) args Ts own) (hK : va_K D vwCl tysC s) (hP : va_P D vwCl ws H) (hD : va_D A ws) (hS : va_S A H0 H locs) (hA : ∀ q, H0.size ≤ q → A q)
    (hM : fr_Cd l y wsC rm D tysC (.ref b :: As) wc v w1) (cw : CallW R (s.setDrawn d0) args own C index y bytes maxL ret wsC rm 0 0 n) (wr : va_W) (isC isR : List Nat) (hC : isC.map (fun i => ws[i]?) = wc.map some) (hR : isR.map (fun i => ws[i]?) = wr.map some) (hnd : va_nd isC = true) (hnd2 : va_nd isR = true) (hdis : ∀ i ∈ isR, i ∉ isC)
    (q0 : Nat) {ci : Nat} {q : vw_C} {fs : List Value} (he : wc[q0]? = some (b, .inr (ci, fs))) (hc : vwCl[ci]? = some q) (hq : q.1 = C) (hlen : As.length = n) (hsize : ls.size = nL) (hW : (rest.map fun v => v.category).sum ≤ 8) (hdg : decode cc pc = .ok (.invokevirtual index, 3)) (hf : cells ≤ R.cells ∧ slots ≤ R.slots) {st0 : List Value} (hst : st0 = As.reverse ++ .ref b :: rest)
    (kk : ∀ (d1 : Drawn) (r : UInt64) (H1 : Heap) (locs1 : List Loc), s.drawn.sameBut d1 lw_cs → alike64 r v = true → va_P D vwCl (wr ++ w1) H1 → va_D A (wr ++ w1) → va_S A H0 H1 locs1 → W p l e R (s.setDrawn d1) m args below meth c H1 locs1 cells slots Q (F0 m (pc + 3) ls (.double r :: rest))) : W p l e R (s.setDrawn d0) m args below meth c H locs cells slots Q (F0 m pc ls st0) := by
  subst hst
  have hDc : va_D A wc := hD.sub isC hnd hC
  have hPc : va_P D vwCl wc H := hP.sub isC (fr_pick hC)
  have hFc := va_free (wc := wc) hD hS hA isC hC
  refine va_calldD hd0 (va_runV_D (As := As) (rest := rest) S (hM H.size) cw ⟨fr_blind D tysC _ wc H.size, hq ▸ va_recv (s := s) hK hPc hc he, fun U hU hW => ⟨rfl, by rw [hU], by rw [hU]; exact hPc, va_K.moved (u := s) hW.alike hK, hDc.weaken (fun _ _ _ _ => trivial)⟩⟩ rfl hlen hsize rfl (lv_room hW) hdg ⟨hf.1, hf.2⟩) hS (fun q _ h => hFc q h) hFc (fun r u t H1 locs ht hvm hw hB hz1 hk1 hS d1 hd1 => ?_)
  obtain ⟨hP1, hK1, hD1⟩ := hB
  rw [ht] at hP1
  obtain ⟨hP, hD⟩ := va_join (wr := wr) (w1 := w1) hP hD isC isR hC hR hnd2 hdis hk1 hFc hP1 hD1
  exact kk d1 r H1 locs hd1 hw hP hD hS
end FrX
theorem fr_in01 : vp_in 0 1 := show ¬ ((0 : Int32) < 0 ∨ 1 ≤ (0 : Int32).toNatClampNeg) by decide
