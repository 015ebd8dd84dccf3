/-! my own rows: constructors. The world behind one is a function of the new addresses -/
section FrI
def fr_CN (l : Launch) (y : MethodName) (ws : List Cond) (rm : Room) (D : va_G) (tys : List (ClassId × FieldType)) (As : List Value) (W0 : va_W) (Wn : (Nat → Nat) → va_W) (mc ms : Nat) : Prop :=
  ∀ sz : Nat, Met l y ws rm (va_Pc As (fr_P D tys W0 sz)) (va_Qv (fun (_ : Nat → Nat) => True) (fun u t => fr_B D tys (va_A W0 sz) (Wn u) () t) (va_A W0 sz)) mc ms (va_A W0 sz)
theorem fr_openN {l : Launch} {y : MethodName} {ws ws' : List Cond} {rm : Room} {D : va_G} {tys : List (ClassId × FieldType)} {As : List Value} {W0 : va_W} {Wn : (Nat → Nat) → va_W} {mc ms : Nat} {cc : ByteArray} {maxL : Nat}
    (hy : plainName y.cls = true) (hyn : y.name = "<init>") (hw : ws = Cond.code y cc maxL none :: ws') (hn : (lg_sl As).length ≤ maxL)
    (body : ∀ (p : Program) (e : Env) (s : State) (m : MethodId) (below : List Frame) (meth : Method) (c : Code) (A : Nat → Prop) (Q : State → Prop) (ls : Array Slot),
      p.tables.exec = Jvm.exec → c.code = cc → c.maxLocals = maxL → s.vm.findClass y.cls = some m.cls → (∀ w ∈ ws, w.before As.toArray s = true) → meth.name = "<init>" → (∀ q, s.heap.size ≤ q → A q) → va_K D vwCl tys s → va_P D vwCl W0 s.heap → va_D A W0 → va_S A s.heap s.heap [] → lv_has ls maxL (lv_args 0 As) →
      (∀ (H : Heap) (locs : List Loc) (pc : Nat) (ls : Array Slot) (u : Nat → Nat), decode cc pc = .ok (.return_, 1) → va_P D vwCl (Wn u) H → va_D A (Wn u) → va_S A s.heap H locs → W p l e rm s m As.toArray below meth c H locs mc ms Q (F0 m pc ls [])) →
      W p l e rm s m As.toArray below meth c s.heap [] 0 0 Q (F0 m 0 ls [])) : fr_CN l y ws rm D tys As W0 Wn mc ms := by
  intro sz
  refine Met.ofW (cc := cc) (maxL := maxL) (ret := none) hy hw ?_
  intro p e s m args below meth c s₁ B hml hv
  obtain ⟨rfl, hsz, hP, hK, hD0⟩ := hv
  have hts := atoms_spec (ws := ws) B.pre
  have hown : s.vm.findClass y.cls = some m.cls := findClass_of_methodNamed B.named
  have hlocks := B.notSynchronized
  have hin : meth.name = "<init>" := (name_of_methodNamed B.named B.method).1.trans hyn
  subst hsz
  have hD := hD0.self (sz := s.heap.size)
  have hA : ∀ q, s.heap.size ≤ q → va_A W0 s.heap.size q := fun q h => Or.inr h
  rw [lg_entry_eq]
  refine body p e s m below meth c (va_A W0 s.heap.size) _ _ B.exec B.bytes hml hown hts hin hA hK hP hD va_S.rf (lv_entry As hn) ?_
  intro H locs pc ls u hdg hP1 hD1 hS
  exact W.vret B.exec B.bytes B.returns (fun t ht hW => ⟨⟨u, rfl, trivial, by rw [ht]; exact hP1, va_K.moved hW.alike hK, hD1⟩, hS.F ht⟩) hS.2.2 hdg
end FrI
section FrJ
variable {p : Program} {l : Launch} {e : Env} {R : Room} {s : State} {m : MethodId} {args : Array Value} {below : List Frame} {meth : Method} {c : Code} {H H0 : Heap} {locs : List Loc} {cells slots : Nat} {Q : State → Prop}
variable {y : MethodName} {bytes cc : ByteArray} {maxL nL n index pc : Nat} {wsC Ts : List Cond} {rm : Room} {own C : String} {b : Addr} {As rest : List Value} {ls : Array Slot} {D : va_G} {tysC : List (ClassId × FieldType)} {ws wc : va_W} {A : Nat → Prop}
theorem fr_vI {Wn : (Nat → Nat) → va_W} {mc ms : Nat} (S : CallFix p m c cc nL s args Ts own) (hK : va_K D vwCl tysC s) (hP : va_P D vwCl ws H) (hD : va_D A ws) (hS : va_S A H0 H locs) (hA : ∀ q, H0.size ≤ q → A q)
    (hM : fr_CN l y wsC rm D tysC (.ref b :: As) wc Wn mc ms) (cw : CallB R s args own index y bytes maxL none wsC rm mc ms n ∧ y.name = "<init>" ∧ (Cond.instanceMethod y).before args s = true) (wr : va_W) (isC isR : List Nat) (hC : isC.map (fun i => ws[i]?) = wc.map some) (hR : isR.map (fun i => ws[i]?) = wr.map some) (hnd : va_nd isC = true) (hnd2 : va_nd isR = true) (hdis : ∀ i ∈ isR, i ∉ isC)
    (hlen : As.length = n) (hsize : ls.size = nL) (hW : (rest.map fun v => v.category).sum ≤ 8) (hdg : decode cc pc = .ok (.invokespecial index, 3)) (hf : cells + mc ≤ R.cells ∧ slots + ms ≤ R.slots) {st0 : List Value} (hst : st0 = As.reverse ++ .ref b :: rest)
    (kk : ∀ (u : Nat → Nat) (H1 : Heap) (locs1 : List Loc), va_P D vwCl (wr ++ Wn u) H1 → va_D A (wr ++ Wn u) → va_S A H0 H1 locs1 → W p l e R s m args below meth c H1 locs1 (cells + mc) (slots + ms) Q (F0 m (pc + 3) ls rest)) : W p l e R s m args below meth c H locs cells slots Q (F0 m pc ls st0) := by
  subst hst
  have hDc : va_D A wc := hD.sub isC hnd hC
  have hPc : va_P D vwCl wc H := hP.sub isC (fr_pick hC)
  have hFc := va_free (wc := wc) hD hS hA isC hC
  refine va_callv (va_runI (As := As) (rest := rest) S (hM H.size) cw ⟨fr_blind D tysC _ wc H.size, fun U hU hW => ⟨rfl, by rw [hU], by rw [hU]; exact hPc, va_K.moved hW.alike hK, hDc.weaken (fun _ _ _ _ => trivial)⟩⟩ rfl hlen hsize rfl (lv_room hW) hdg hf) hS (fun q _ h => hFc q h) hFc (fun u t H1 locs ht hvm hw hB hz1 hk1 hS => ?_)
  obtain ⟨hP1, hK1, hD1⟩ := hB
  rw [ht] at hP1
  obtain ⟨hP, hD⟩ := va_join (wr := wr) (w1 := Wn u) hP hD isC isR hC hR hnd2 hdis hk1 hFc hP1 hD1
  exact kk u H1 locs hP hD hS
theorem fr_newI {cI : ClassId} (hx : p.tables.exec = Jvm.exec) (hb : c.code = cc) (harr : (Cond.arrayClass .int).before args s = true) (hK : va_K D vwCl [(cI, .int)] s) (hP : va_P D vwCl ws H) (hD : va_D A ws) (hS : va_S A H0 H locs) (hA : ∀ q, H0.size ≤ q → A q)
    {k : Int32} {N : Nat} (hn : ¬ k < 0) (hN : k.toNatClampNeg = N) (hby : N ≤ 100000) (hcells : cells + 1 ≤ R.cells) (hslots : slots + N ≤ R.slots) (hdg : decode cc pc = .ok (.newarray .int, 2))
    (kk : ∀ (q : Nat) (H1 : Heap), va_P D vwCl (ws ++ [(q, .inl (cI, N, .inl (fun _ => 0)))]) H1 → va_D A (ws ++ [(q, .inl (cI, N, .inl (fun _ => 0)))]) → va_S A H0 H1 locs → W p l e R s m args below meth c H1 locs (cells + 1) (slots + N) Q (F0 m (pc + 2) ls (.ref q :: rest))) : W p l e R s m args below meth c H locs cells slots Q (F0 m pc ls (.int k :: rest)) := by
  refine va_newa (atype := .int) hx hb harr (ty := .int) rfl hK hP hD hS hA (a0 := (N, .inl (fun _ => 0))) (fun cA => rfl) hn hN (by show N * 4 ≤ 536870912; omega) hcells hslots hdg (fun q cA H1 hK2 hP2 hD2 hS2 => ?_)
  have h1 := (hK2.2 1 (cA, .int) rfl).2
  have h0 := (hK.2 0 (cI, .int) rfl).2
  have he : cA = cI := Option.some.inj (Eq.trans (Eq.symm h1) h0)
  subst he
  exact kk q H1 hP2 hD2 hS2
end FrJ
