/-! the calls: addQuery, answer -/
section PuT
variable {rc ss pr tc : Int32} {tk tf tz tw en bc a : Nat → Int32} {ro si mp mq : Int32} {mk ma mb mw mv me : Nat → Int32}
variable {th st my bb pl : Int32} {bt co li : Nat → Int32}
theorem toInt64_toInt (x : Int32) : x.toInt64.toInt = x.toInt := by
  have h1 := Int32.toInt_lt x
  have h2 := Int32.le_toInt x
  rw [show x.toInt64 = Int64.ofInt x.toInt from rfl, Int64.toInt_ofInt_of_le (by omega) (by omega)]
/-- is a long a value -/
def isV (x : Int64) : Bool := decide (-100000 ≤ x.toInt ∧ x.toInt ≤ 100000)
theorem q_isValue (x : Int64) : Yd (fun n => f_X5_isValue n x) (isV x) := by
  have e1 : (-100000 : Int64).toInt = -100000 := by decide
  have e2 : (100000 : Int64).toInt = 100000 := by decide
  unfold f_X5_isValue isV
  by_cases c1 : x < -100000
  · have h1 := Int64.lt_iff_toInt_lt.mp c1
    exact Yd.pos ((cmp_lt0 _ _).mpr c1) (Yd.retE (decide_eq_false (by omega)).symm)
  · have h1 : ¬ x.toInt < -100000 := fun h => c1 (Int64.lt_iff_toInt_lt.mpr (by omega))
    refine Yd.neg (fun h => c1 ((cmp_lt0 _ _).mp h)) ?_
    by_cases c2 : 100000 < x
    · have h2 := Int64.lt_iff_toInt_lt.mp c2
      exact Yd.pos ((cmp_gt0 _ _).mpr c2) (Yd.retE (decide_eq_false (by omega)).symm)
    · have h2 : ¬ 100000 < x.toInt := fun h => c2 (Int64.lt_iff_toInt_lt.mpr (by omega))
      exact Yd.neg (fun h => c2 ((cmp_gt0 _ _).mp h)) (Yd.retE (decide_eq_true (by omega)).symm)
theorem p_isValue (x : Int64) : Yd (fun n => f_X6_isValue n x) (isV x) := by
  unfold f_X6_isValue isV
  refine Yd.bind (p_isIn x (-100000) 100000) (Yd.retE ?_)
  rw [decide_eq_decide, Int64.le_iff_toInt_le, Int64.le_iff_toInt_le, toInt64_toInt, toInt64_toInt]
  have e1 : (-100000 : Int32).toInt = -100000 := by decide
  have e2 : (100000 : Int32).toInt = 100000 := by decide
  rw [e1, e2]
/-- is a query right -/
def isQ (k a b : Int32) : Bool := decide ((k = 0 ∧ 0 ≤ a.toInt ∧ a.toInt < 96) ∨ (k = 1 ∧ 0 ≤ a.toInt ∧ b.toInt ≤ 96 ∧ a.toInt < b.toInt) ∨ (k = 2 ∧ -100000 ≤ a.toInt ∧ a.toInt ≤ 100000))
theorem isQ_ok {k a b : Int32} (h : isQ k a b = true) : Qok k a b := by
  rcases of_decide_eq_true h with ⟨e, h1, h2⟩ | ⟨e, h1, h2, h3⟩ | ⟨e, h1, h2⟩
  · exact Or.inl ⟨e, a.toInt.toNat, by omega, of_toInt (by omega)⟩
  · exact Or.inr (Or.inl ⟨e, a.toInt.toNat, b.toInt.toNat, by omega, by omega, of_toInt (by omega), of_toInt (by omega)⟩)
  · exact Or.inr (Or.inr ⟨e, h1, h2⟩)
theorem l0 {x : Int32} : x < 0 ↔ x.toInt < 0 := Int32.lt_iff_toInt_lt
theorem q_isQuery (k x y : Int32) : Yd (fun n => f_X5_isQuery n k x y) (isQ k x y) := by
  have e96 : (96 : Int32).toInt = 96 := by decide
  unfold f_X5_isQuery isQ
  by_cases k0 : k = 0
  · subst k0
    refine Yd.pos rfl ?_
    by_cases c1 : x < 0
    · have h1 := l0.mp c1
      exact Yd.pos c1 (Yd.retE (decide_eq_false (by rintro (⟨_, q, _⟩ | ⟨q, _⟩ | ⟨q, _⟩) <;> first | omega | exact absurd q (by decide))).symm)
    · have h1 : ¬ x.toInt < 0 := fun h => c1 (l0.mpr h)
      refine Yd.neg c1 ?_
      by_cases c2 : 96 ≤ x
      · have h2 := Int32.le_iff_toInt_le.mp c2
        exact Yd.pos c2 (Yd.retE (decide_eq_false (by rintro (⟨_, _, q⟩ | ⟨q, _⟩ | ⟨q, _⟩) <;> first | omega | exact absurd q (by decide))).symm)
      · have h2 : ¬ 96 ≤ x.toInt := fun h => c2 (Int32.le_iff_toInt_le.mpr (by omega))
        exact Yd.neg c2 (Yd.retE (decide_eq_true (Or.inl ⟨rfl, by omega, by omega⟩)).symm)
  refine Yd.neg k0 ?_
  by_cases k1 : k = 1
  · subst k1
    refine Yd.pos rfl ?_
    by_cases c1 : x < 0
    · have h1 := l0.mp c1
      exact Yd.pos c1 (Yd.retE (decide_eq_false (by rintro (⟨q, _⟩ | ⟨_, q, _⟩ | ⟨q, _⟩) <;> first | omega | exact absurd q (by decide))).symm)
    · have h1 : ¬ x.toInt < 0 := fun h => c1 (l0.mpr h)
      refine Yd.neg c1 ?_
      by_cases c2 : 96 < y
      · have h2 := Int32.lt_iff_toInt_lt.mp c2
        exact Yd.pos c2 (Yd.retE (decide_eq_false (by rintro (⟨q, _⟩ | ⟨_, _, q, _⟩ | ⟨q, _⟩) <;> first | omega | exact absurd q (by decide))).symm)
      · have h2 : ¬ 96 < y.toInt := fun h => c2 (Int32.lt_iff_toInt_lt.mpr (by omega))
        refine Yd.neg c2 ?_
        by_cases c3 : y ≤ x
        · have h3 := Int32.le_iff_toInt_le.mp c3
          exact Yd.pos c3 (Yd.retE (decide_eq_false (by rintro (⟨q, _⟩ | ⟨_, _, _, q⟩ | ⟨q, _⟩) <;> first | omega | exact absurd q (by decide))).symm)
        · have h3 : ¬ y.toInt ≤ x.toInt := fun h => c3 (Int32.le_iff_toInt_le.mpr h)
          exact Yd.neg c3 (Yd.retE (decide_eq_true (Or.inr (Or.inl ⟨rfl, by omega, by omega, by omega⟩))).symm)
  refine Yd.neg k1 ?_
  by_cases k2 : k = 2
  · subst k2
    refine Yd.pos rfl (Yd.bind (q_isValue _) (Yd.retE ?_))
    unfold isV
    rw [decide_eq_decide, toInt64_toInt]
    exact ⟨fun h => Or.inr (Or.inr ⟨rfl, h.1, h.2⟩), by rintro (⟨q, _⟩ | ⟨q, _⟩ | ⟨_, q1, q2⟩) <;> first | exact absurd q (by decide) | exact ⟨q1, q2⟩⟩
  · refine Yd.neg k2 (Yd.retE (decide_eq_false ?_).symm)
    rintro (⟨q, _⟩ | ⟨q, _⟩ | ⟨q, _⟩)
    · exact k0 q
    · exact k1 q
    · exact k2 q
theorem p_query (k x y w : Int32) {R : Int32 × Int32 × Int32 × (Nat → Int32) × (Nat → Int32) × (Nat → Int32) × (Nat → Int32)} (hR : Yd (fun n => f_X6_addQuery_66 n k x y w (pr_b (isQ k x y)) 0 mq mk ma mb mw) R) : Yd (fun n => f_X6_addQuery n k x y w th mq mk ma mb mw) R := by
  have e96 : (96 : Int32).toInt = 96 := by decide
  unfold f_X6_addQuery
  by_cases k0 : k = 0
  · subst k0
    refine Yd.pos rfl ?_
    refine Yd.bind (a := isQ 0 x y) ((p_isInI x 0 95).eq ?_) hR
    unfold isQ
    rw [decide_eq_decide, Int32.le_iff_toInt_le, Int32.le_iff_toInt_le]
    have e95 : (95 : Int32).toInt = 95 := by decide
    rw [e95]
    exact ⟨fun h => Or.inl ⟨rfl, h.1, by omega⟩, by rintro (⟨_, q1, q2⟩ | ⟨q, _⟩ | ⟨q, _⟩) <;> first | exact absurd q (by decide) | exact ⟨q1, by omega⟩⟩
  refine Yd.neg k0 ?_
  by_cases k1 : k = 1
  · subst k1
    refine Yd.pos rfl ?_
    have bad : isQ 1 x y = false → Yd (fun n => f_X6_addQuery_66 n 1 x y w 0 0 mq mk ma mb mw) R := fun h => by rw [h] at hR; exact hR
    by_cases c1 : x < 0
    · have h1 := l0.mp c1
      exact Yd.pos c1 (bad (decide_eq_false (by rintro (⟨q, _⟩ | ⟨_, q, _⟩ | ⟨q, _⟩) <;> first | omega | exact absurd q (by decide))))
    · have h1 : ¬ x.toInt < 0 := fun h => c1 (l0.mpr h)
      refine Yd.neg c1 ?_
      by_cases c2 : 96 < y
      · have h2 := Int32.lt_iff_toInt_lt.mp c2
        exact Yd.pos c2 (bad (decide_eq_false (by rintro (⟨q, _⟩ | ⟨_, _, q, _⟩ | ⟨q, _⟩) <;> first | omega | exact absurd q (by decide))))
      · have h2 : ¬ 96 < y.toInt := fun h => c2 (Int32.lt_iff_toInt_lt.mpr (by omega))
        refine Yd.neg c2 ?_
        by_cases c3 : y ≤ x
        · have h3 := Int32.le_iff_toInt_le.mp c3
          exact Yd.pos c3 (bad (decide_eq_false (by rintro (⟨q, _⟩ | ⟨_, _, _, q⟩ | ⟨q, _⟩) <;> first | omega | exact absurd q (by decide))))
        · have h3 : ¬ y.toInt ≤ x.toInt := fun h => c3 (Int32.le_iff_toInt_le.mpr h)
          have e : isQ 1 x y = true := decide_eq_true (Or.inr (Or.inl ⟨rfl, by omega, by omega, by omega⟩))
          rw [e] at hR
          exact Yd.neg c3 hR
  refine Yd.neg k1 ?_
  by_cases k2 : k = 2
  · subst k2
    refine Yd.pos rfl (Yd.bind (p_isValue _) ?_)
    have e : isQ 2 x y = isV x.toInt64 := by
      unfold isQ isV
      rw [decide_eq_decide, toInt64_toInt]
      exact ⟨by rintro (⟨q, _⟩ | ⟨q, _⟩ | ⟨_, q1, q2⟩) <;> first | exact absurd q (by decide) | exact ⟨q1, q2⟩, fun h => Or.inr (Or.inr ⟨rfl, h.1, h.2⟩)⟩
    rw [e] at hR
    cases hv : isV x.toInt64 with
    | true => rw [hv] at hR; exact Yd.neg pb_t hR
    | false => rw [hv] at hR; exact Yd.pos pb_f hR
  · have e : isQ k x y = false := decide_eq_false (by
      rintro (⟨q, _⟩ | ⟨q, _⟩ | ⟨q, _⟩)
      · exact k0 q
      · exact k1 q
      · exact k2 q)
    rw [e] at hR
    exact Yd.neg k2 hR
theorem op_addQuery (k x y w : Int32) (R : Rl rc ss pr tc tk tf tz tw en bc a ro si mp mq mk ma mb mw mv me) :
    (∃ X c, (X = xA ∧ c = 1 ∨ X = xS ∧ c = 2) ∧ Yd (fun n => f_X5_addQuery n k x y w tc tk tf tz tw) (.inl (X, tc, tk, tf, tz, tw)) ∧ Yd (fun n => f_X6_addQuery n k x y w th mq mk ma mb mw) (0, c, mq, mk, ma, mb, mw)) ∨
    (∃ r tc' tk' tf' tz' tw' mk' ma' mb' mw', Yd (fun n => f_X5_addQuery n k x y w tc tk tf tz tw) (.inr (r, tc', tk', tf', tz', tw')) ∧ Yd (fun n => f_X6_addQuery n k x y w th mq mk ma mb mw) (r, 0, tc', mk', ma', mb', mw') ∧ Rl rc ss pr tc' tk' tf' tz' tw' en bc a ro si mp tc' mk' ma' mb' mw' mv me) := by
  obtain ⟨n, S, Q, p, E, ⟨rfl, rfl, rfl, rfl, rfl, rfl, rfl, rfl⟩, ⟨h1, h2, h3, h4, h5⟩, hb, hq, hI, hm⟩ := R
  have hf1 : ∀ t, Yd (fun q => f_X6_fail q 1 t) ((0, 1) : Int32 × Int32) := fun t => by unfold f_X6_fail; exact Yd.ret _
  have hf2 : ∀ t, Yd (fun q => f_X6_fail q 2 t) ((0, 2) : Int32 × Int32) := fun t => by unfold f_X6_fail; exact Yd.ret _
  cases hQ : isQ k x y with
  | false =>
    left
    refine ⟨xA, 1, Or.inl ⟨rfl, rfl⟩, ?_, p_query k x y w ?_⟩
    · unfold f_X5_addQuery
      exact Yd.bind ((q_isQuery k x y).eq hQ) (Yd.pos pb_f (Yd.ret _))
    · rw [hQ]
      unfold f_X6_addQuery_66
      exact Yd.pos rfl (Yd.bind (hf1 _) (Yd.ret _))
  | true =>
    have badw : (w < 1 ∨ ¬ w ≤ 100) → Yd (fun q => f_X6_addQuery q k x y w th (nI Q) mk ma mb mw) (0, 1, nI Q, mk, ma, mb, mw) := by
      intro hw
      refine p_query k x y w ?_
      rw [hQ]
      unfold f_X6_addQuery_66
      refine Yd.neg pb_t ?_
      have hf : ¬ (1 ≤ w ∧ w ≤ 100) := by
        intro h
        rcases hw with c | c
        · have q1 := Int32.lt_iff_toInt_lt.mp c
          have q2 := Int32.le_iff_toInt_le.mp h.1
          omega
        · exact c h.2
      exact Yd.bind ((p_isInI w 1 100).eq (decide_eq_false hf)) (Yd.pos pb_f (Yd.bind (hf1 _) (Yd.ret _)))
    by_cases c1 : w < 1
    · left
      refine ⟨xA, 1, Or.inl ⟨rfl, rfl⟩, ?_, badw (Or.inl c1)⟩
      unfold f_X5_addQuery
      exact Yd.bind ((q_isQuery k x y).eq hQ) (Yd.neg pb_t (Yd.pos c1 (Yd.ret _)))
    by_cases c2 : w ≤ 100
    · have hw0 : 1 ≤ w.toInt ∧ w.toInt ≤ 100 := by
        have q1 : ¬ w.toInt < (1 : Int32).toInt := fun h => c1 (Int32.lt_iff_toInt_lt.mpr h)
        have q2 := Int32.le_iff_toInt_le.mp c2
        have e1 : (1 : Int32).toInt = 1 := by decide
        have e2 : (100 : Int32).toInt = 100 := by decide
        omega
      have e1w : (1 : Int32).toInt = 1 := by decide
      have hok : 1 ≤ w ∧ w ≤ 100 := ⟨Int32.le_iff_toInt_le.mpr (by omega), c2⟩
      by_cases c3 : Q < 20
      · right
        refine ⟨nI Q, nI (Q + 1), upd tk Q k, upd tf Q x, upd tz Q y, upd tw Q w, upd mk Q k, upd ma Q x, upd mb Q y, upd mw Q w, ?_, ?_, n, S, Q + 1, p, E, ⟨rfl, rfl, rfl, rfl, rfl, rfl, rfl, rfl⟩, ⟨h1, h2, h3, by omega, h5⟩, hb, ?_, hI, hm⟩
        · unfold f_X5_addQuery
          refine Yd.bind ((q_isQuery k x y).eq hQ) (Yd.neg pb_t (Yd.neg c1 (Yd.pos c2 ?_)))
          refine Yd.bind (a := nI Q) (by unfold f_X4_count; exact Yd.ret _) ?_
          refine Yd.pos (nI_lt (b := 20) c3 (by omega)) ?_
          refine Yd.bind (a := (nI Q, nI (Q + 1), upd tk Q k, upd tf Q x, upd tz Q y, upd tw Q w)) ?_ (Yd.ret _)
          unfold f_X4_add
          refine Yd.bind (q_put c3 (by omega)) ?_
          refine Yd.bind (q_put c3 (by omega)) ?_
          refine Yd.bind (q_put c3 (by omega)) ?_
          refine Yd.bind (q_put c3 (by omega)) (Yd.retE ?_)
          rw [nI_1]
        · refine p_query k x y w ?_
          rw [hQ]
          unfold f_X6_addQuery_66
          refine Yd.neg pb_t ?_
          refine Yd.bind ((p_isInI w 1 100).eq (decide_eq_true hok)) (Yd.neg pb_t ?_)
          refine Yd.neg (fun h => absurd ((nI_eq (b := 20) (by omega) (by omega)).mp h) (by omega)) ?_
          refine Yd.wr c3 (by omega) ?_
          refine Yd.wr c3 (by omega) ?_
          refine Yd.wr c3 (by omega) ?_
          refine Yd.wr c3 (by omega) (Yd.retE ?_)
          rw [nI_1, nI_s1]
        · intro q hq2
          by_cases c : q = Q
          · subst c
            rw [upd_self, upd_self, upd_self, upd_self, upd_self, upd_self, upd_self, upd_self]
            exact ⟨rfl, rfl, rfl, rfl, isQ_ok hQ, w.toInt.toNat, by omega, by omega, of_toInt (by omega)⟩
          · rw [upd_ne c, upd_ne c, upd_ne c, upd_ne c, upd_ne c, upd_ne c, upd_ne c, upd_ne c]
            exact hq q (by omega)
      · left
        have eQ : Q = 20 := by omega
        subst eQ
        refine ⟨xS, 2, Or.inr ⟨rfl, rfl⟩, ?_, p_query k x y w ?_⟩
        · unfold f_X5_addQuery
          refine Yd.bind ((q_isQuery k x y).eq hQ) (Yd.neg pb_t (Yd.neg c1 (Yd.pos c2 ?_)))
          refine Yd.bind (a := nI 20) (by unfold f_X4_count; exact Yd.ret _) ?_
          exact Yd.neg (by decide) (Yd.ret _)
        · rw [hQ]
          unfold f_X6_addQuery_66
          refine Yd.neg pb_t ?_
          refine Yd.bind ((p_isInI w 1 100).eq (decide_eq_true hok)) (Yd.neg pb_t ?_)
          exact Yd.pos rfl (Yd.bind (hf2 _) (Yd.ret _))
    · left
      refine ⟨xA, 1, Or.inl ⟨rfl, rfl⟩, ?_, badw (Or.inr c2)⟩
      unfold f_X5_addQuery
      exact Yd.bind ((q_isQuery k x y).eq hQ) (Yd.neg pb_t (Yd.neg c1 (Yd.neg c2 (Yd.ret _))))
end PuT
