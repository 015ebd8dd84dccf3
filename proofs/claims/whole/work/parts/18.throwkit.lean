/-! my own rows: methods that throw. What a throw needs of the state beside the words; a contract of a method that throws E and leaves the world W1 -/
section FrT
def fr_strs : List (Nat × String) := [(84, "a value or many is out of its range"), (91, "more than 96 rows"), (115, "value is out of its range"), (120, "many is not 0 to the number of rows"), (122, "size is not 4 to 32"), (131, "no such query can be"), (136, "there are 20 queries"), (145, "price is not 0 to 100"), (198, "the encoding is not possible"), (202, "no such bit"), (229, "no such row"), (231, "no such query"), (233, "no such segment"), (235, "encoding is not 0 to 5")]
def fr_xw : List Cond := [.declares ⟨"java/lang/RuntimeException", "<init>", "(Ljava/lang/String;)V"⟩, .declares ⟨"java/lang/Exception", "<init>", "(Ljava/lang/String;)V"⟩, .declares ⟨"java/lang/Throwable", "<init>", "(Ljava/lang/String;)V"⟩, .castable "java/lang/IllegalArgumentException" "java/lang/IllegalArgumentException", .castable "java/lang/IllegalStateException" "java/lang/IllegalStateException", .castable "java/lang/IndexOutOfBoundsException" "java/lang/IndexOutOfBoundsException"]
abbrev fr_names : List String := ["java/lang/RuntimeException", "java/lang/Exception"]
theorem fr_xw_t : ∀ w ∈ fr_xw, w.onTables = true := by decide
def fr_N (U : State) : Prop := ∀ w ∈ fr_xw, va_Nw w U
theorem fr_nd {x : MethodName} {u U : State} (hvm : u.vm.Alike U.vm) (h : va_Nw (.declares x) u) : va_Nw (.declares x) U := va_tabs rfl (rfl : (u.setVm U.vm).vm = U.vm) (by rw [Cond.declares_setVm hvm]; exact h)
theorem fr_nc {a b : String} {u U : State} (hvm : u.vm.Alike U.vm) (h : va_Nw (.castable a b) u) : va_Nw (.castable a b) U := va_tabs rfl (rfl : (u.setVm U.vm).vm = U.vm) (by rw [Cond.castable_setVm hvm]; exact h)
theorem fr_N.moved {u U : State} (hvm : u.vm.Alike U.vm) (h : fr_N u) : fr_N U := by
  intro w hw
  have h1 := h w hw
  simp only [fr_xw, List.mem_cons, List.not_mem_nil, or_false] at hw
  rcases hw with rfl | rfl | rfl | rfl | rfl | rfl
  · exact fr_nd hvm h1
  · exact fr_nd hvm h1
  · exact fr_nd hvm h1
  · exact fr_nc hvm h1
  · exact fr_nc hvm h1
  · exact fr_nc hvm h1
/-- what a throw needs: two statics of Throwable outside A, the texts, words of the tables -/
def fr_Z (A : Nat → Prop) (U : State) (H : Heap) : Prop := vx_Zq Bundle.tN "UNASSIGNED_STACK" Bundle.steD A U H ∧ vx_Zq Bundle.tN "SUPPRESSED_SENTINEL" Bundle.listD A U H ∧ (∀ q ∈ fr_strs, ∃ a, vk_R RX5 q.1 q.2 a U) ∧ fr_N U
theorem fr_Z.down {A B : Nat → Prop} {s U : State} {H0 H : Heap} (h : fr_Z A s H0) (hk : ∀ a : Nat, a < H0.size → ¬ A a → H[a]? = H0[a]?) (hAB : ∀ q, B q → A q) (hW : s.WarmedH U.vm) : fr_Z B U H :=
  ⟨((h.1.kept hk).narrow hAB).moved hW.alike, ((h.2.1.kept hk).narrow hAB).moved hW.alike, fun q hq => (h.2.2.1 q hq).imp fun _ h9 => vk_R.warm hW h9, h.2.2.2.moved hW.alike⟩
def fr_PX (D : va_G) (tys : List (ClassId × FieldType)) (W0 : va_W) (sz : Nat) : State → Prop := fun U => fr_P D tys W0 sz U ∧ fr_Z (va_A W0 sz) U U.heap
theorem fr_blindX (D : va_G) (tys : List (ClassId × FieldType)) (As : List Value) (W0 : va_W) (sz : Nat) : FrameBlind (va_Pc As (fr_PX D tys W0 sz)) := fun a U g mk q => by
  obtain ⟨q0, ⟨q1, qP, qK, qD⟩, z1, z2, z3, z4⟩ := q
  exact ⟨q0, ⟨q1, qP, va_K.moved (u := U) (U := U.calling g mk a) (Vm.Alike.refl U.vm) qK, qD⟩, vx_Zq.moved (u := U) (U := U.calling g mk a) (Vm.Alike.refl U.vm) z1, vx_Zq.moved (u := U) (U := U.calling g mk a) (Vm.Alike.refl U.vm) z2, fun q hq => (z3 q hq).imp fun _ h9 => vk_R.same (u := U) (U := U.calling g mk a) rfl h9, fr_N.moved (u := U) (U := U.calling g mk a) (Vm.Alike.refl U.vm) z4⟩
def fr_BX (D : va_G) (tys : List (ClassId × FieldType)) (A : Nat → Prop) (E : String) (W1 : va_W) : String → Unit → State → Prop := fun E' _ t => E' = E ∧ va_P D vwCl W1 t.heap ∧ va_K D vwCl tys t ∧ va_D A W1
abbrev fr_XC (D : va_G) (tys : List (ClassId × FieldType)) (A : Nat → Prop) (E : String) (W1 : va_W) : String → State → State → Prop := vx_X (fun _ : Unit => True) (fr_BX D tys A E W1) A
def fr_Ti (l : Launch) (y : MethodName) (ws : List Cond) (rm : Room) (D : va_G) (tys : List (ClassId × FieldType)) (As : List Value) (W0 : va_W) (E : String) (W1 : va_W) : Prop :=
  ∀ sz : Nat, vx_Met l y ws rm (va_Pc As (fr_PX D tys W0 sz)) (va_Qi (fun (_ : Int32) (_ : Unit) => False) (fun _ _ => True) (va_A W0 sz)) (fr_XC D tys (va_A W0 sz) E W1) 1 6 (va_A W0 sz)
theorem fr_openTi {l : Launch} {y : MethodName} {ws ws' : List Cond} {rm : Room} {D : va_G} {tys : List (ClassId × FieldType)} {As : List Value} {W0 W1 : va_W} {E : String} {cc : ByteArray} {maxL : Nat} {ret : Option FieldType}
    (hy : plainName y.cls = true) (hw : ws = Cond.code y cc maxL ret :: ws') (hn : (lg_sl As).length ≤ maxL) (hnt : l.stackTraces = false) (hfr : 5 < rm.frames) (hlo : 90 ≤ rm.locals) (hce : rm.cells = 1) (hsl : rm.slots = 6)
    (body : ∀ (p : Program) (e : Env) (s : State) (m : MethodId) (below : List Frame) (meth : Method) (c : Code) (A : Nat → Prop) (Q : State → Prop) (ls : Array Slot),
      p.tables.exec = Jvm.exec → c.code = cc → c.maxLocals = maxL → s.vm.findClass y.cls = some m.cls → (∀ w ∈ ws, w.before As.toArray s = true) → (∀ q, s.heap.size ≤ q → A q) → va_K D vwCl tys s → fr_Z A s s.heap → va_P D vwCl W0 s.heap → va_D A W0 → va_S A s.heap s.heap [] → lv_has ls maxL (lv_args 0 As) →
      (∀ (H : Heap) (locs : List Loc) (ls : Array Slot) (pc ik is ic : Nat) (text : String) (rest : List Value), va_P D vwCl W1 H → va_D A W1 → va_S A s.heap H locs → ls.size = maxL → Bundle.fit E = true → (Cond.classLink y.cls ik E).before As.toArray s = true → (Cond.initialized E).before As.toArray s = true → y.cls = RX5 → (is, text) ∈ fr_strs → (∀ w ∈ (vx_atS y.cls ic E fr_names).filter goodWord, w.before As.toArray s = true) → (∀ w ∈ (vx_atS y.cls ic E fr_names).filter (fun w => !goodWord w), w ∈ fr_xw) → (∀ w ∈ Cond.classLink y.cls ik E :: Cond.initialized E :: vx_atS y.cls ic E fr_names, vx_ot w = true) →
        decode cc pc = .ok (.new ik, 3) → decode cc (pc + 3) = .ok (.dup, 1) → decode cc (pc + 4) = .ok (.ldc is, 2) → decode cc (pc + 6) = .ok (.invokespecial ic, 3) → decode cc (pc + 9) = .ok (.athrow, 1) → (rest.map fun v => v.category).sum ≤ 8 → W p l e rm s m As.toArray below meth c H locs 0 0 Q (F0 m pc ls rest)) →
      (∀ (H : Heap) (locs : List Loc) (ls : Array Slot) (pc : Nat) (rest : List Value) (q : Addr) (ce : Cell), va_P D vwCl W1 H → va_D A W1 → va_S A s.heap H locs → H[q]? = some ce → ce.vm = .none → s.vm.findClass E = some ce.cls → vx_W p l e rm s m As.toArray below meth c H locs 1 6 Q (F0 m pc ls rest) q) →
      W p l e rm s m As.toArray below meth c s.heap [] 0 0 Q (F0 m 0 ls [])) : fr_Ti l y ws rm D tys As W0 E W1 := by
  intro sz
  refine vx_ofW (cc := cc) (maxL := maxL) (ret := ret) hy hw ?_
  intro p e s m args below meth c s₁ B hml hexc hv
  obtain ⟨rfl, ⟨hsz, hP, hK, hD0⟩, hZ⟩ := hv
  have hts := atoms_spec (ws := ws) B.pre
  have hown : s.vm.findClass y.cls = some m.cls := findClass_of_methodNamed B.named
  have hlocks := B.notSynchronized
  subst hsz
  have hD := hD0.self (sz := s.heap.size)
  have hA : ∀ q, s.heap.size ≤ q → va_A W0 s.heap.size q := fun q h => Or.inr h
  rw [lg_entry_eq]
  refine body p e s m below meth c (va_A W0 s.heap.size) _ _ B.exec B.bytes hml hown hts hA hK hZ hP hD va_S.rf (lv_entry As hn) ?_ ?_
  · intro H locs ls pc ik is ic text rest hP1 hD1 hS hls hfit hk hini hRX hstr hg h2 hgood d0 d3 d4 d6 d9 hrest
    obtain ⟨sa, hsa⟩ := hZ.2.2.1 _ hstr
    have hstr2 : vk_R y.cls is text sa s := by rw [hRX]; exact hsa
    refine vx_throwS (names := fr_names) (sa := sa) B.exec B.bytes hnt hown hfit (by decide) hk hini hstr2 (vx_hat hg h2 (fun w hw => va_Nw.use (fr_xw_t w hw) (hZ.2.2.2 w hw))) hgood hZ.1 hZ.2.1 hS (hls.trans hml.symm) d0 d3 d4 d6 d9 (fun x h => (hexc x h).elim) ?_ ?_ ?_ ?_ hlocks ?_ hS.2.2 (Nat.le_refl _) (Nat.le_refl _)
    · exact hfr
    · have : 13 * (fr_names.length + 1) + 43 = 82 := rfl
      show (rest.map fun v => v.category).sum + (13 * (fr_names.length + 1) + 43) ≤ rm.locals
      omega
    · show 0 + 1 ≤ rm.cells
      omega
    · show 0 + 6 ≤ rm.slots
      omega
    · intro t hvm hsz2 hkeep
      refine ⟨(), trivial, ⟨rfl, ?_, va_K.moved hvm hK, hD1⟩, ?_⟩
      · intro k q hq
        exact (hP1 k q hq).kept (hkeep q.1 (hP1 k q hq).lt)
      · exact ⟨Nat.le_trans hS.1 hsz2, fun q h1 h2 => (hkeep q (Nat.lt_of_lt_of_le h1 hS.1)).trans (hS.2.1 q h1 h2)⟩
  · intro H locs ls pc rest q ce hP1 hD1 hS hcell hcv hcl
    refine vx_out (fun x h => (hexc x h).elim) hlocks hcell hcv hcl ?_ hS.2.2 (Nat.le_refl _) (Nat.le_refl _)
    intro t ht hvm
    exact ⟨(), trivial, ⟨rfl, by rw [ht]; exact hP1, va_K.moved hvm hK, hD1⟩, hS.F ht⟩
def fr_Tl (l : Launch) (y : MethodName) (ws : List Cond) (rm : Room) (D : va_G) (tys : List (ClassId × FieldType)) (As : List Value) (W0 : va_W) (E : String) (W1 : va_W) : Prop :=
  ∀ sz : Nat, vx_Met l y ws rm (va_Pc As (fr_PX D tys W0 sz)) (va_Ql (fun (_ : Int64) (_ : Unit) => False) (fun _ _ => True) (va_A W0 sz)) (fr_XC D tys (va_A W0 sz) E W1) 1 6 (va_A W0 sz)
theorem fr_openTl {l : Launch} {y : MethodName} {ws ws' : List Cond} {rm : Room} {D : va_G} {tys : List (ClassId × FieldType)} {As : List Value} {W0 W1 : va_W} {E : String} {cc : ByteArray} {maxL : Nat} {ret : Option FieldType}
    (hy : plainName y.cls = true) (hw : ws = Cond.code y cc maxL ret :: ws') (hn : (lg_sl As).length ≤ maxL) (hnt : l.stackTraces = false) (hfr : 5 < rm.frames) (hlo : 90 ≤ rm.locals) (hce : rm.cells = 1) (hsl : rm.slots = 6)
    (body : ∀ (p : Program) (e : Env) (s : State) (m : MethodId) (below : List Frame) (meth : Method) (c : Code) (A : Nat → Prop) (Q : State → Prop) (ls : Array Slot),
      p.tables.exec = Jvm.exec → c.code = cc → c.maxLocals = maxL → s.vm.findClass y.cls = some m.cls → (∀ w ∈ ws, w.before As.toArray s = true) → (∀ q, s.heap.size ≤ q → A q) → va_K D vwCl tys s → fr_Z A s s.heap → va_P D vwCl W0 s.heap → va_D A W0 → va_S A s.heap s.heap [] → lv_has ls maxL (lv_args 0 As) →
      (∀ (H : Heap) (locs : List Loc) (ls : Array Slot) (pc ik is ic : Nat) (text : String) (rest : List Value), va_P D vwCl W1 H → va_D A W1 → va_S A s.heap H locs → ls.size = maxL → Bundle.fit E = true → (Cond.classLink y.cls ik E).before As.toArray s = true → (Cond.initialized E).before As.toArray s = true → y.cls = RX5 → (is, text) ∈ fr_strs → (∀ w ∈ (vx_atS y.cls ic E fr_names).filter goodWord, w.before As.toArray s = true) → (∀ w ∈ (vx_atS y.cls ic E fr_names).filter (fun w => !goodWord w), w ∈ fr_xw) → (∀ w ∈ Cond.classLink y.cls ik E :: Cond.initialized E :: vx_atS y.cls ic E fr_names, vx_ot w = true) →
        decode cc pc = .ok (.new ik, 3) → decode cc (pc + 3) = .ok (.dup, 1) → decode cc (pc + 4) = .ok (.ldc is, 2) → decode cc (pc + 6) = .ok (.invokespecial ic, 3) → decode cc (pc + 9) = .ok (.athrow, 1) → (rest.map fun v => v.category).sum ≤ 8 → W p l e rm s m As.toArray below meth c H locs 0 0 Q (F0 m pc ls rest)) →
      (∀ (H : Heap) (locs : List Loc) (ls : Array Slot) (pc : Nat) (rest : List Value) (q : Addr) (ce : Cell), va_P D vwCl W1 H → va_D A W1 → va_S A s.heap H locs → H[q]? = some ce → ce.vm = .none → s.vm.findClass E = some ce.cls → vx_W p l e rm s m As.toArray below meth c H locs 1 6 Q (F0 m pc ls rest) q) →
      W p l e rm s m As.toArray below meth c s.heap [] 0 0 Q (F0 m 0 ls [])) : fr_Tl l y ws rm D tys As W0 E W1 := by
  intro sz
  refine vx_ofW (cc := cc) (maxL := maxL) (ret := ret) hy hw ?_
  intro p e s m args below meth c s₁ B hml hexc hv
  obtain ⟨rfl, ⟨hsz, hP, hK, hD0⟩, hZ⟩ := hv
  have hts := atoms_spec (ws := ws) B.pre
  have hown : s.vm.findClass y.cls = some m.cls := findClass_of_methodNamed B.named
  have hlocks := B.notSynchronized
  subst hsz
  have hD := hD0.self (sz := s.heap.size)
  have hA : ∀ q, s.heap.size ≤ q → va_A W0 s.heap.size q := fun q h => Or.inr h
  rw [lg_entry_eq]
  refine body p e s m below meth c (va_A W0 s.heap.size) _ _ B.exec B.bytes hml hown hts hA hK hZ hP hD va_S.rf (lv_entry As hn) ?_ ?_
  · intro H locs ls pc ik is ic text rest hP1 hD1 hS hls hfit hk hini hRX hstr hg h2 hgood d0 d3 d4 d6 d9 hrest
    obtain ⟨sa, hsa⟩ := hZ.2.2.1 _ hstr
    have hstr2 : vk_R y.cls is text sa s := by rw [hRX]; exact hsa
    refine vx_throwS (names := fr_names) (sa := sa) B.exec B.bytes hnt hown hfit (by decide) hk hini hstr2 (vx_hat hg h2 (fun w hw => va_Nw.use (fr_xw_t w hw) (hZ.2.2.2 w hw))) hgood hZ.1 hZ.2.1 hS (hls.trans hml.symm) d0 d3 d4 d6 d9 (fun x h => (hexc x h).elim) ?_ ?_ ?_ ?_ hlocks ?_ hS.2.2 (Nat.le_refl _) (Nat.le_refl _)
    · exact hfr
    · have : 13 * (fr_names.length + 1) + 43 = 82 := rfl
      show (rest.map fun v => v.category).sum + (13 * (fr_names.length + 1) + 43) ≤ rm.locals
      omega
    · show 0 + 1 ≤ rm.cells
      omega
    · show 0 + 6 ≤ rm.slots
      omega
    · intro t hvm hsz2 hkeep
      refine ⟨(), trivial, ⟨rfl, ?_, va_K.moved hvm hK, hD1⟩, ?_⟩
      · intro k q hq
        exact (hP1 k q hq).kept (hkeep q.1 (hP1 k q hq).lt)
      · exact ⟨Nat.le_trans hS.1 hsz2, fun q h1 h2 => (hkeep q (Nat.lt_of_lt_of_le h1 hS.1)).trans (hS.2.1 q h1 h2)⟩
  · intro H locs ls pc rest q ce hP1 hD1 hS hcell hcv hcl
    refine vx_out (fun x h => (hexc x h).elim) hlocks hcell hcv hcl ?_ hS.2.2 (Nat.le_refl _) (Nat.le_refl _)
    intro t ht hvm
    exact ⟨(), trivial, ⟨rfl, by rw [ht]; exact hP1, va_K.moved hvm hK, hD1⟩, hS.F ht⟩
def fr_Tv (l : Launch) (y : MethodName) (ws : List Cond) (rm : Room) (D : va_G) (tys : List (ClassId × FieldType)) (As : List Value) (W0 : va_W) (E : String) (W1 : va_W) : Prop :=
  ∀ sz : Nat, vx_Met l y ws rm (va_Pc As (fr_PX D tys W0 sz)) (va_Qv (fun (_ : Unit) => False) (fun _ _ => True) (va_A W0 sz)) (fr_XC D tys (va_A W0 sz) E W1) 1 6 (va_A W0 sz)
theorem fr_openTv {l : Launch} {y : MethodName} {ws ws' : List Cond} {rm : Room} {D : va_G} {tys : List (ClassId × FieldType)} {As : List Value} {W0 W1 : va_W} {E : String} {cc : ByteArray} {maxL : Nat} {ret : Option FieldType}
    (hy : plainName y.cls = true) (hw : ws = Cond.code y cc maxL ret :: ws') (hn : (lg_sl As).length ≤ maxL) (hnt : l.stackTraces = false) (hfr : 5 < rm.frames) (hlo : 90 ≤ rm.locals) (hce : rm.cells = 1) (hsl : rm.slots = 6)
    (body : ∀ (p : Program) (e : Env) (s : State) (m : MethodId) (below : List Frame) (meth : Method) (c : Code) (A : Nat → Prop) (Q : State → Prop) (ls : Array Slot),
      p.tables.exec = Jvm.exec → c.code = cc → c.maxLocals = maxL → s.vm.findClass y.cls = some m.cls → (∀ w ∈ ws, w.before As.toArray s = true) → (∀ q, s.heap.size ≤ q → A q) → va_K D vwCl tys s → fr_Z A s s.heap → va_P D vwCl W0 s.heap → va_D A W0 → va_S A s.heap s.heap [] → lv_has ls maxL (lv_args 0 As) →
      (∀ (H : Heap) (locs : List Loc) (ls : Array Slot) (pc ik is ic : Nat) (text : String) (rest : List Value), va_P D vwCl W1 H → va_D A W1 → va_S A s.heap H locs → ls.size = maxL → Bundle.fit E = true → (Cond.classLink y.cls ik E).before As.toArray s = true → (Cond.initialized E).before As.toArray s = true → y.cls = RX5 → (is, text) ∈ fr_strs → (∀ w ∈ (vx_atS y.cls ic E fr_names).filter goodWord, w.before As.toArray s = true) → (∀ w ∈ (vx_atS y.cls ic E fr_names).filter (fun w => !goodWord w), w ∈ fr_xw) → (∀ w ∈ Cond.classLink y.cls ik E :: Cond.initialized E :: vx_atS y.cls ic E fr_names, vx_ot w = true) →
        decode cc pc = .ok (.new ik, 3) → decode cc (pc + 3) = .ok (.dup, 1) → decode cc (pc + 4) = .ok (.ldc is, 2) → decode cc (pc + 6) = .ok (.invokespecial ic, 3) → decode cc (pc + 9) = .ok (.athrow, 1) → (rest.map fun v => v.category).sum ≤ 8 → W p l e rm s m As.toArray below meth c H locs 0 0 Q (F0 m pc ls rest)) →
      (∀ (H : Heap) (locs : List Loc) (ls : Array Slot) (pc : Nat) (rest : List Value) (q : Addr) (ce : Cell), va_P D vwCl W1 H → va_D A W1 → va_S A s.heap H locs → H[q]? = some ce → ce.vm = .none → s.vm.findClass E = some ce.cls → vx_W p l e rm s m As.toArray below meth c H locs 1 6 Q (F0 m pc ls rest) q) →
      W p l e rm s m As.toArray below meth c s.heap [] 0 0 Q (F0 m 0 ls [])) : fr_Tv l y ws rm D tys As W0 E W1 := by
  intro sz
  refine vx_ofW (cc := cc) (maxL := maxL) (ret := ret) hy hw ?_
  intro p e s m args below meth c s₁ B hml hexc hv
  obtain ⟨rfl, ⟨hsz, hP, hK, hD0⟩, hZ⟩ := hv
  have hts := atoms_spec (ws := ws) B.pre
  have hown : s.vm.findClass y.cls = some m.cls := findClass_of_methodNamed B.named
  have hlocks := B.notSynchronized
  subst hsz
  have hD := hD0.self (sz := s.heap.size)
  have hA : ∀ q, s.heap.size ≤ q → va_A W0 s.heap.size q := fun q h => Or.inr h
  rw [lg_entry_eq]
  refine body p e s m below meth c (va_A W0 s.heap.size) _ _ B.exec B.bytes hml hown hts hA hK hZ hP hD va_S.rf (lv_entry As hn) ?_ ?_
  · intro H locs ls pc ik is ic text rest hP1 hD1 hS hls hfit hk hini hRX hstr hg h2 hgood d0 d3 d4 d6 d9 hrest
    obtain ⟨sa, hsa⟩ := hZ.2.2.1 _ hstr
    have hstr2 : vk_R y.cls is text sa s := by rw [hRX]; exact hsa
    refine vx_throwS (names := fr_names) (sa := sa) B.exec B.bytes hnt hown hfit (by decide) hk hini hstr2 (vx_hat hg h2 (fun w hw => va_Nw.use (fr_xw_t w hw) (hZ.2.2.2 w hw))) hgood hZ.1 hZ.2.1 hS (hls.trans hml.symm) d0 d3 d4 d6 d9 (fun x h => (hexc x h).elim) ?_ ?_ ?_ ?_ hlocks ?_ hS.2.2 (Nat.le_refl _) (Nat.le_refl _)
    · exact hfr
    · have : 13 * (fr_names.length + 1) + 43 = 82 := rfl
      show (rest.map fun v => v.category).sum + (13 * (fr_names.length + 1) + 43) ≤ rm.locals
      omega
    · show 0 + 1 ≤ rm.cells
      omega
    · show 0 + 6 ≤ rm.slots
      omega
    · intro t hvm hsz2 hkeep
      refine ⟨(), trivial, ⟨rfl, ?_, va_K.moved hvm hK, hD1⟩, ?_⟩
      · intro k q hq
        exact (hP1 k q hq).kept (hkeep q.1 (hP1 k q hq).lt)
      · exact ⟨Nat.le_trans hS.1 hsz2, fun q h1 h2 => (hkeep q (Nat.lt_of_lt_of_le h1 hS.1)).trans (hS.2.1 q h1 h2)⟩
  · intro H locs ls pc rest q ce hP1 hD1 hS hcell hcv hcl
    refine vx_out (fun x h => (hexc x h).elim) hlocks hcell hcv hcl ?_ hS.2.2 (Nat.le_refl _) (Nat.le_refl _)
    intro t ht hvm
    exact ⟨(), trivial, ⟨rfl, by rw [ht]; exact hP1, va_K.moved hvm hK, hD1⟩, hS.F ht⟩

end FrT
section FrU
variable {p : Program} {l : Launch} {e : Env} {R : Room} {s : State} {m : MethodId} {args : Array Value} {below : List Frame} {meth : Method} {c : Code} {H H0 : Heap} {locs : List Loc} {cells slots : Nat} {Q : State → Prop}
variable {y : MethodName} {bytes cc : ByteArray} {maxL nL n index pc : Nat} {ret : Option FieldType} {wsC Ts : List Cond} {rm : Room} {own C : String} {b : Addr} {As rest : List Value} {ls : Array Slot} {D : va_G} {tysC : List (ClassId × FieldType)} {ws wc w1 : va_W} {A : Nat → Prop} {E : String}
theorem pr_sl {α β γ : Type} {f : α → γ} {g : β → γ} {x : α} {r : γ} (h : Sum.elim f g (.inl x) = r) : f x = r := h
theorem pr_sr {α β γ : Type} {f : α → γ} {g : β → γ} {x : β} {r : γ} (h : Sum.elim f g (.inr x) = r) : g x = r := h
theorem fr_iVT (S : CallFix p m c cc nL s args Ts own) (hK : va_K D vwCl tysC s) (hZ : fr_Z A s H0) (hP : va_P D vwCl ws H) (hD : va_D A ws) (hS : va_S A H0 H locs) (hA : ∀ q, H0.size ≤ q → A q)
    (hM : fr_Ti l y wsC rm D tysC (.ref b :: As) wc E w1) (cw : CallW R s args own C index y bytes maxL ret wsC rm 1 6 n) (wr : va_W) (isC isR : List Nat) (hC : isC.map (fun i => ws[i]?) = wc.map some) (hR : isR.map (fun i => ws[i]?) = wr.map some) (hnd : va_nd isC = true) (hnd2 : va_nd isR = true) (hdis : ∀ i ∈ isR, i ∉ isC)
    (q0 : Nat) {ci : Nat} {q : vw_C} {fs : List Value} (he : wc[q0]? = some (b, .inr (ci, fs))) (hc : vwCl[ci]? = some q) (hq : q.1 = C) (hlen : As.length = n) (hsize : ls.size = nL) (hW : (rest.map fun v => v.category).sum ≤ 8) (hdg : decode cc pc = .ok (.invokevirtual index, 3)) (hf : cells + 1 ≤ R.cells ∧ slots + 6 ≤ R.slots) {st0 : List Value} (hst : st0 = As.reverse ++ .ref b :: rest)
    (kk : ∀ (H1 : Heap) (locs1 : List Loc) (q9 : Addr) (ce : Cell), va_P D vwCl (wr ++ w1) H1 → va_D A (wr ++ w1) → va_S A H0 H1 locs1 → H1[q9]? = some ce → ce.vm = .none → s.vm.findClass E = some ce.cls → vx_W p l e R s m args below meth c H1 locs1 (cells + 1) (slots + 6) Q (F0 m pc ls rest) q9) : W p l e R s m args below meth c H locs cells slots Q (F0 m pc ls st0) := by
  subst hst
  have hDc : va_D A wc := hD.sub isC hnd hC
  have hPc : va_P D vwCl wc H := hP.sub isC (fr_pick hC)
  have hFc := va_free (wc := wc) hD hS hA isC hC
  refine vx_calli (vx_runV (As := As) (rest := rest) S (hM H.size) cw ⟨fr_blindX D tysC _ wc H.size, hq ▸ va_recv hK hPc hc he, fun U hU hW => ⟨rfl, ⟨by rw [hU], by rw [hU]; exact hPc, va_K.moved hW.alike hK, hDc.weaken (fun _ _ _ _ => trivial)⟩, by rw [hU]; exact hZ.down hS.2.1 hFc hW⟩⟩ rfl hlen hsize rfl (lv_room hW) hdg hf) hS (fun q _ h => hFc q h) hFc (fun q _ h => hFc q h) (fun E' ce q9 u t H1 locs ht hvm hw hB hz1 hk1 hS h1 h2 h3 => ?_) (fun r u t H1 locs ht hvm hw hB hz1 hk1 hS => hw.elim)
  obtain ⟨rfl, hP1, hK1, hD1⟩ := hB
  rw [ht] at hP1
  obtain ⟨hP, hD⟩ := va_join (wr := wr) (w1 := w1) hP hD isC isR hC hR hnd2 hdis hk1 hFc hP1 hD1
  exact kk H1 locs q9 ce hP hD hS h1 h2 h3
theorem fr_lVT (S : CallFix p m c cc nL s args Ts own) (hK : va_K D vwCl tysC s) (hZ : fr_Z A s H0) (hP : va_P D vwCl ws H) (hD : va_D A ws) (hS : va_S A H0 H locs) (hA : ∀ q, H0.size ≤ q → A q)
    (hM : fr_Tl l y wsC rm D tysC (.ref b :: As) wc E w1) (cw : CallW R s args own C index y bytes maxL ret wsC rm 1 6 n) (wr : va_W) (isC isR : List Nat) (hC : isC.map (fun i => ws[i]?) = wc.map some) (hR : isR.map (fun i => ws[i]?) = wr.map some) (hnd : va_nd isC = true) (hnd2 : va_nd isR = true) (hdis : ∀ i ∈ isR, i ∉ isC)
    (q0 : Nat) {ci : Nat} {q : vw_C} {fs : List Value} (he : wc[q0]? = some (b, .inr (ci, fs))) (hc : vwCl[ci]? = some q) (hq : q.1 = C) (hlen : As.length = n) (hsize : ls.size = nL) (hW : (rest.map fun v => v.category).sum ≤ 8) (hdg : decode cc pc = .ok (.invokevirtual index, 3)) (hf : cells + 1 ≤ R.cells ∧ slots + 6 ≤ R.slots) {st0 : List Value} (hst : st0 = As.reverse ++ .ref b :: rest)
    (kk : ∀ (H1 : Heap) (locs1 : List Loc) (q9 : Addr) (ce : Cell), va_P D vwCl (wr ++ w1) H1 → va_D A (wr ++ w1) → va_S A H0 H1 locs1 → H1[q9]? = some ce → ce.vm = .none → s.vm.findClass E = some ce.cls → vx_W p l e R s m args below meth c H1 locs1 (cells + 1) (slots + 6) Q (F0 m pc ls rest) q9) : W p l e R s m args below meth c H locs cells slots Q (F0 m pc ls st0) := by
  subst hst
  have hDc : va_D A wc := hD.sub isC hnd hC
  have hPc : va_P D vwCl wc H := hP.sub isC (fr_pick hC)
  have hFc := va_free (wc := wc) hD hS hA isC hC
  refine vx_calll (vx_runV (As := As) (rest := rest) S (hM H.size) cw ⟨fr_blindX D tysC _ wc H.size, hq ▸ va_recv hK hPc hc he, fun U hU hW => ⟨rfl, ⟨by rw [hU], by rw [hU]; exact hPc, va_K.moved hW.alike hK, hDc.weaken (fun _ _ _ _ => trivial)⟩, by rw [hU]; exact hZ.down hS.2.1 hFc hW⟩⟩ rfl hlen hsize rfl (lv_room hW) hdg hf) hS (fun q _ h => hFc q h) hFc (fun q _ h => hFc q h) (fun E' ce q9 u t H1 locs ht hvm hw hB hz1 hk1 hS h1 h2 h3 => ?_) (fun r u t H1 locs ht hvm hw hB hz1 hk1 hS => hw.elim)
  obtain ⟨rfl, hP1, hK1, hD1⟩ := hB
  rw [ht] at hP1
  obtain ⟨hP, hD⟩ := va_join (wr := wr) (w1 := w1) hP hD isC isR hC hR hnd2 hdis hk1 hFc hP1 hD1
  exact kk H1 locs q9 ce hP hD hS h1 h2 h3
theorem fr_vVT (S : CallFix p m c cc nL s args Ts own) (hK : va_K D vwCl tysC s) (hZ : fr_Z A s H0) (hP : va_P D vwCl ws H) (hD : va_D A ws) (hS : va_S A H0 H locs) (hA : ∀ q, H0.size ≤ q → A q)
    (hM : fr_Tv l y wsC rm D tysC (.ref b :: As) wc E w1) (cw : CallW R s args own C index y bytes maxL ret wsC rm 1 6 n) (wr : va_W) (isC isR : List Nat) (hC : isC.map (fun i => ws[i]?) = wc.map some) (hR : isR.map (fun i => ws[i]?) = wr.map some) (hnd : va_nd isC = true) (hnd2 : va_nd isR = true) (hdis : ∀ i ∈ isR, i ∉ isC)
    (q0 : Nat) {ci : Nat} {q : vw_C} {fs : List Value} (he : wc[q0]? = some (b, .inr (ci, fs))) (hc : vwCl[ci]? = some q) (hq : q.1 = C) (hlen : As.length = n) (hsize : ls.size = nL) (hW : (rest.map fun v => v.category).sum ≤ 8) (hdg : decode cc pc = .ok (.invokevirtual index, 3)) (hf : cells + 1 ≤ R.cells ∧ slots + 6 ≤ R.slots) {st0 : List Value} (hst : st0 = As.reverse ++ .ref b :: rest)
    (kk : ∀ (H1 : Heap) (locs1 : List Loc) (q9 : Addr) (ce : Cell), va_P D vwCl (wr ++ w1) H1 → va_D A (wr ++ w1) → va_S A H0 H1 locs1 → H1[q9]? = some ce → ce.vm = .none → s.vm.findClass E = some ce.cls → vx_W p l e R s m args below meth c H1 locs1 (cells + 1) (slots + 6) Q (F0 m pc ls rest) q9) : W p l e R s m args below meth c H locs cells slots Q (F0 m pc ls st0) := by
  subst hst
  have hDc : va_D A wc := hD.sub isC hnd hC
  have hPc : va_P D vwCl wc H := hP.sub isC (fr_pick hC)
  have hFc := va_free (wc := wc) hD hS hA isC hC
  refine vx_callv (vx_runV (As := As) (rest := rest) S (hM H.size) cw ⟨fr_blindX D tysC _ wc H.size, hq ▸ va_recv hK hPc hc he, fun U hU hW => ⟨rfl, ⟨by rw [hU], by rw [hU]; exact hPc, va_K.moved hW.alike hK, hDc.weaken (fun _ _ _ _ => trivial)⟩, by rw [hU]; exact hZ.down hS.2.1 hFc hW⟩⟩ rfl hlen hsize rfl (lv_room hW) hdg hf) hS (fun q _ h => hFc q h) hFc (fun q _ h => hFc q h) (fun E' ce q9 u t H1 locs ht hvm hw hB hz1 hk1 hS h1 h2 h3 => ?_) (fun u t H1 locs ht hvm hw hB hz1 hk1 hS => hw.elim)
  obtain ⟨rfl, hP1, hK1, hD1⟩ := hB
  rw [ht] at hP1
  obtain ⟨hP, hD⟩ := va_join (wr := wr) (w1 := w1) hP hD isC isR hC hR hnd2 hdis hk1 hFc hP1 hD1
  exact kk H1 locs q9 ce hP hD hS h1 h2 h3
theorem fr_vST (S : CallFix p m c cc nL s args Ts own) (hK : va_K D vwCl tysC s) (hZ : fr_Z A s H0) (hP : va_P D vwCl ws H) (hD : va_D A ws) (hS : va_S A H0 H locs) (hA : ∀ q, H0.size ≤ q → A q)
    (hM : fr_Tv l y wsC rm D tysC As wc E w1) (cw : CallB R s args own index y bytes maxL ret wsC rm 1 6 n ∧ (Cond.static y).before args s = true) (wr : va_W) (isC isR : List Nat) (hC : isC.map (fun i => ws[i]?) = wc.map some) (hR : isR.map (fun i => ws[i]?) = wr.map some) (hnd : va_nd isC = true) (hnd2 : va_nd isR = true) (hdis : ∀ i ∈ isR, i ∉ isC)
    (hlen : As.length = n) (hsize : ls.size = nL) (hW : (rest.map fun v => v.category).sum ≤ 8) (hdg : decode cc pc = .ok (.invokestatic index, 3)) (hf : cells + 1 ≤ R.cells ∧ slots + 6 ≤ R.slots) {st0 : List Value} (hst : st0 = As.reverse ++ rest)
    (kk : ∀ (H1 : Heap) (locs1 : List Loc) (q9 : Addr) (ce : Cell), va_P D vwCl (wr ++ w1) H1 → va_D A (wr ++ w1) → va_S A H0 H1 locs1 → H1[q9]? = some ce → ce.vm = .none → s.vm.findClass E = some ce.cls → vx_W p l e R s m args below meth c H1 locs1 (cells + 1) (slots + 6) Q (F0 m pc ls rest) q9) : W p l e R s m args below meth c H locs cells slots Q (F0 m pc ls st0) := by
  subst hst
  have hDc : va_D A wc := hD.sub isC hnd hC
  have hPc : va_P D vwCl wc H := hP.sub isC (fr_pick hC)
  have hFc := va_free (wc := wc) hD hS hA isC hC
  refine vx_callv (vx_runS (As := As) (rest := rest) S (hM H.size) cw ⟨fr_blindX D tysC _ wc H.size, fun U hU hW => ⟨rfl, ⟨by rw [hU], by rw [hU]; exact hPc, va_K.moved hW.alike hK, hDc.weaken (fun _ _ _ _ => trivial)⟩, by rw [hU]; exact hZ.down hS.2.1 hFc hW⟩⟩ rfl hlen hsize rfl (lv_room hW) hdg hf) hS (fun q _ h => hFc q h) hFc (fun q _ h => hFc q h) (fun E' ce q9 u t H1 locs ht hvm hw hB hz1 hk1 hS h1 h2 h3 => ?_) (fun u t H1 locs ht hvm hw hB hz1 hk1 hS => hw.elim)
  obtain ⟨rfl, hP1, hK1, hD1⟩ := hB
  rw [ht] at hP1
  obtain ⟨hP, hD⟩ := va_join (wr := wr) (w1 := w1) hP hD isC isR hC hR hnd2 hdis hk1 hFc hP1 hD1
  exact kk H1 locs q9 ce hP hD hS h1 h2 h3
end FrU
