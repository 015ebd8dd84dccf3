/-! the calls: climb, append -/
section PuW
variable {rc ss pr tc : Int32} {tk tf tz tw en bc a : Nat → Int32} {ro si mp mq : Int32} {mk ma mb mw mv me : Nat → Int32}
variable {th st my bb pl fr0 my0 rc0 dc0 le0 iw0 fd0 dd0 : Int32} {bt co li ru0 di0 : Nat → Int32}
def vv (x y : Int32) (j : Nat) : Int64 := x.toInt64 + y.toInt64 * (nI j).toInt64
theorem vv_toInt {x y : Int32} {j : Nat} (hj : j ≤ 96) : (vv x y j).toInt = x.toInt + y.toInt * (j : Int) := by
  unfold vv
  have hx1 := Int32.le_toInt x
  have hx2 := Int32.toInt_lt x
  have hy1 := Int32.le_toInt y
  have hy2 := Int32.toInt_lt y
  have b1 : y.toInt * (j : Int) ≤ 2 ^ 31 * 96 := by
    rcases Int.le_total 0 y.toInt with h | h
    · exact Int.mul_le_mul (by omega) (by omega) (by omega) (by omega)
    · have := Int.mul_nonpos_of_nonpos_of_nonneg h (Int.natCast_nonneg j)
      omega
  have b2 : -(2 ^ 31 * 96) ≤ y.toInt * (j : Int) := by
    rcases Int.le_total 0 y.toInt with h | h
    · have := Int.mul_nonneg h (Int.natCast_nonneg j)
      omega
    · have : (-y.toInt) * (j : Int) ≤ 2 ^ 31 * 96 := Int.mul_le_mul (by omega) (by omega) (by omega) (by omega)
      rw [Int.neg_mul] at this
      omega
  rw [Int64.toInt_add, Int64.toInt_mul, toInt64_toInt, toInt64_toInt, toInt64_toInt, nI_toInt (by omega)]
  rw [Int.bmod_eq_of_le (n := y.toInt * (j : Int)) (by omega) (by omega), Int.bmod_eq_of_le (by omega) (by omega)]
theorem vv_mid {x y : Int32} {j M : Nat} (hM : M ≤ 96) (hj : j < M) (h0 : isV x.toInt64 = true) (h1 : isV (vv x y (M - 1)) = true) : isV (vv x y j) = true := by
  have e0 := of_decide_eq_true h0
  have e1 := of_decide_eq_true h1
  rw [toInt64_toInt] at e0
  rw [vv_toInt (by omega)] at e1
  refine decide_eq_true ?_
  rw [vv_toInt (by omega)]
  have hle : (j : Int) ≤ ((M - 1 : Nat) : Int) := by omega
  rcases Int.le_total 0 y.toInt with h | h
  · have q1 := Int.mul_nonneg h (Int.natCast_nonneg j)
    have q2 := Int.mul_le_mul_of_nonneg_left hle h
    omega
  · have q1 := Int.mul_nonpos_of_nonpos_of_nonneg h (Int.natCast_nonneg j)
    have q2 : (-y.toInt) * (j : Int) ≤ (-y.toInt) * ((M - 1 : Nat) : Int) := Int.mul_le_mul_of_nonneg_left hle (by omega)
    rw [Int.neg_mul, Int.neg_mul] at q2
    omega
theorem cv_bd {x y : Int32} {M : Nat} (hM : M ≤ 96) (h : ∀ j, j < M → isV (vv x y j) = true) : Bd (cv_ x y) M := by
  intro j hj
  have e := of_decide_eq_true (h j hj)
  rw [vv_toInt (by omega)] at e
  have : (cv_ x y j).toInt = x.toInt + y.toInt * (j : Int) := by
    unfold cv_
    rw [Int32.toInt_add, Int32.toInt_mul, nI_toInt (by omega), Int.add_bmod_bmod, Int.mul_comm (j : Int), Int.bmod_eq_of_le (by omega) (by omega)]
  omega
theorem vv_0 (x y : Int32) : vv x y 0 = x.toInt64 := by
  unfold vv
  have : (nI 0).toInt64 = 0 := by decide
  rw [this, Int64.mul_zero, Int64.add_zero]
theorem cw_78 {n S M : Nat} {x y : Int32} (h2 : 4 ≤ S) (h3 : S ≤ 32) (hnM : n + M ≤ 96) : ∀ d j, j + d = M → Yd (fun q => f_X6_climb_78 q x y (nI M) (nI j) th (nI n) (nI S) (fl mv n j (cv_ x y)) me) (nI (n + M), th, nI (n + M), fl mv n M (cv_ x y), fl me (n / S) (96 - n / S) (fun _ => 0)) := by
  intro d
  induction d with
  | zero =>
    intro j hj
    refine s_X6_climb_78 ?_
    unfold f_X6_climb_78_s
    refine Yd.pos (nI_le (by omega) (by omega)) ?_
    rw [nI_add, show j = M by omega]
    exact Yd.bind (p_changed (me := me) (F := n) (NR := n + M) (S := S) (ro := nI n) (by omega) h2 h3) (Yd.ret _)
  | succ d ih =>
    intro j hj
    refine s_X6_climb_78 ?_
    unfold f_X6_climb_78_s
    refine Yd.neg (nI_ge (by omega) (by omega)) ?_
    rw [nI_add, Int32.mul_comm y]
    refine Yd.wr (by omega) (by omega) ?_
    have e := fl_step mv n j (cv_ x y)
    unfold cv_ at e ih ⊢
    rw [e, nI_1]
    exact ih (j + 1) (by omega)
theorem cw_49 {n S M : Nat} {x : Int32} (h2 : 4 ≤ S) (h3 : S ≤ 32) (hnM : n + M ≤ 96) : ∀ d j, j + d = M → Yd (fun q => f_X6_append_49 q x (nI M) (nI j) th (nI n) (nI S) (fl mv n j (cv_ x 0)) me) (nI (n + M), th, nI (n + M), fl mv n M (cv_ x 0), fl me (n / S) (96 - n / S) (fun _ => 0)) := by
  intro d
  induction d with
  | zero =>
    intro j hj
    refine s_X6_append_49 ?_
    unfold f_X6_append_49_s
    refine Yd.pos (nI_le (by omega) (by omega)) ?_
    rw [nI_add, show j = M by omega]
    exact Yd.bind (p_changed (me := me) (F := n) (NR := n + M) (S := S) (ro := nI n) (by omega) h2 h3) (Yd.ret _)
  | succ d ih =>
    intro j hj
    refine s_X6_append_49 ?_
    unfold f_X6_append_49_s
    refine Yd.neg (nI_ge (by omega) (by omega)) ?_
    rw [nI_add]
    refine Yd.wr (by omega) (by omega) ?_
    have e := fl_step mv n j (cv_ x 0)
    have e2 : cv_ x 0 j = x := by unfold cv_; rw [Int32.mul_zero, Int32.add_zero]
    rw [e2] at e
    rw [e, nI_1]
    exact ih (j + 1) (by omega)
theorem cw_25 {M : Nat} {x y : Int32} {R : Int32 × Int32 × Int32 × (Nat → Int32) × (Nat → Int32)} (hM : M ≤ 96) (hv : ∀ j, j < M → isV (vv x y j) = true)
    (hR : Yd (fun n => if (ro + nI M) ≤ 96 then (f_X6_climb_78 n x y (nI M) 0 th ro si mv me) else ((f_X6_fail n 2 th).bind fun u6 => some (u6.1, u6.2, ro, mv, me))) R) : ∀ d j, j + d = M → Yd (fun q => f_X6_climb_25 q x y (nI M) (nI j) th ro si mv me) R := by
  intro d
  induction d with
  | zero =>
    intro j hj
    refine s_X6_climb_25 ?_
    unfold f_X6_climb_25_s
    exact Yd.pos (nI_le (by omega) (by omega)) hR
  | succ d ih =>
    intro j hj
    refine s_X6_climb_25 ?_
    unfold f_X6_climb_25_s
    refine Yd.neg (nI_ge (by omega) (by omega)) ?_
    refine Yd.bind ((p_isValue _).eq (hv j (by omega))) (Yd.neg pb_t ?_)
    rw [nI_1]
    exact ih (j + 1) (by omega)
theorem cw_25f {M : Nat} {x y : Int32} (hM : M ≤ 96) : ∀ d j, j + d = M → (∃ i, j ≤ i ∧ i < M ∧ isV (vv x y i) = false) → Yd (fun q => f_X6_climb_25 q x y (nI M) (nI j) th ro si mv me) (0, 1, ro, mv, me) := by
  intro d
  induction d with
  | zero =>
    intro j hj h
    obtain ⟨i, h1, h2, -⟩ := h
    omega
  | succ d ih =>
    intro j hj h
    refine s_X6_climb_25 ?_
    unfold f_X6_climb_25_s
    refine Yd.neg (nI_ge (by omega) (by omega)) ?_
    cases hv : isV (vv x y j) with
    | false =>
      refine Yd.bind ((p_isValue _).eq hv) (Yd.pos pb_f ?_)
      exact Yd.bind (by unfold f_X6_fail; exact Yd.ret _) (Yd.ret _)
    | true =>
      refine Yd.bind ((p_isValue _).eq hv) (Yd.neg pb_t ?_)
      rw [nI_1]
      refine ih (j + 1) (by omega) ?_
      obtain ⟨i, h1, h2, h3⟩ := h
      refine ⟨i, ?_, h2, h3⟩
      rcases Nat.eq_or_lt_of_le h1 with q | q
      · subst q; rw [hv] at h3; exact absurd h3 (by decide)
      · omega
theorem q_rowNo (x : Int32) : Yd (fun q => f_X5_isRowNumber q x) (decide (1 ≤ x ∧ x ≤ 96)) := by
  have e1 : (1 : Int32).toInt = 1 := by decide
  have e96 : (96 : Int32).toInt = 96 := by decide
  unfold f_X5_isRowNumber
  by_cases c : x < 1
  · refine Yd.pos c (Yd.retE (decide_eq_false ?_).symm)
    intro h
    have q1 := Int32.lt_iff_toInt_lt.mp c
    have q2 := Int32.le_iff_toInt_le.mp h.1
    omega
  · refine Yd.neg c ?_
    have q1 : ¬ x.toInt < (1 : Int32).toInt := fun h => c (Int32.lt_iff_toInt_lt.mpr h)
    by_cases c2 : 96 < x
    · refine Yd.pos c2 (Yd.retE (decide_eq_false ?_).symm)
      intro h
      have q1 := Int32.lt_iff_toInt_lt.mp c2
      have q2 := Int32.le_iff_toInt_le.mp h.2
      omega
    · refine Yd.neg c2 (Yd.retE (decide_eq_true ?_).symm)
      have q2 : ¬ (96 : Int32).toInt < x.toInt := fun h => c2 (Int32.lt_iff_toInt_lt.mpr h)
      exact ⟨Int32.le_iff_toInt_le.mpr (by omega), Int32.le_iff_toInt_le.mpr (by omega)⟩
/-- the class refuses a climb, or does it -/
theorem q_climb2 {n S : Nat} {E : Nat → Nat} (x y z : Int32) (h1 : n ≤ 96) :
    (¬ (1 ≤ z ∧ z ≤ 96) → Yd (fun q => f_X5_climb q x y z (nI n) (nI S) en bc pl a co fr0 my0 rc0 dc0 le0 iw0 fd0 dd0 ru0 di0 li) (.inl (xA, nI n, en, bc, pl, a, co, fr0, my0, rc0, dc0, le0, iw0, fd0, dd0, ru0, di0, li))) ∧
    (∀ M, 1 ≤ M → M ≤ 96 → z = nI M → (isV x.toInt64 = false ∨ isV (vv x y (M - 1)) = false) → Yd (fun q => f_X5_climb q x y z (nI n) (nI S) en bc pl a co fr0 my0 rc0 dc0 le0 iw0 fd0 dd0 ru0 di0 li) (.inl (xA, nI n, en, bc, pl, a, co, fr0, my0, rc0, dc0, le0, iw0, fd0, dd0, ru0, di0, li))) ∧
    (∀ M, 1 ≤ M → M ≤ 96 → z = nI M → isV x.toInt64 = true → isV (vv x y (M - 1)) = true → 96 < n + M → Yd (fun q => f_X5_climb q x y z (nI n) (nI S) en bc pl a co fr0 my0 rc0 dc0 le0 iw0 fd0 dd0 ru0 di0 li) (.inl (xS, nI n, en, bc, pl, a, co, fr0, my0, rc0, dc0, le0, iw0, fd0, dd0, ru0, di0, li))) := by
  have rok : ∀ M, 1 ≤ M → M ≤ 96 → decide (1 ≤ nI M ∧ nI M ≤ 96) = true := fun M q1 q2 => decide_eq_true ⟨(nI_leI (a := 1) (by omega) (by omega)).mpr q1, (nI_leI (b := 96) (by omega) (by omega)).mpr q2⟩
  have hlast : ∀ M, 1 ≤ M → Yd (fun q => f_X5_lastOfClimb q x y (nI M)) (vv x y (M - 1)) := by
    intro M hM
    unfold f_X5_lastOfClimb vv
    rw [show nI M - 1 = nI (M - 1) from nI_sub (b := 1) hM]
    exact Yd.ret _
  refine ⟨fun h => ?_, fun M m1 m2 hz h => ?_, fun M m1 m2 hz hx hl hn => ?_⟩
  · unfold f_X5_climb
    exact Yd.bind ((q_rowNo z).eq (decide_eq_false h)) (Yd.pos pb_f (Yd.ret _))
  · subst hz
    unfold f_X5_climb
    refine Yd.bind ((q_rowNo _).eq (rok M m1 m2)) (Yd.neg pb_t ?_)
    cases hx : isV x.toInt64 with
    | false => exact Yd.bind ((q_isValue _).eq hx) (Yd.pos pb_f (Yd.ret _))
    | true =>
      refine Yd.bind ((q_isValue _).eq hx) (Yd.neg pb_t (Yd.bind (hlast M m1) ?_))
      rcases h with h | h
      · rw [hx] at h; exact absurd h (by decide)
      · exact Yd.bind ((q_isValue _).eq h) (Yd.pos pb_f (Yd.ret _))
  · subst hz
    unfold f_X5_climb
    refine Yd.bind ((q_rowNo _).eq (rok M m1 m2)) (Yd.neg pb_t ?_)
    refine Yd.bind ((q_isValue _).eq hx) (Yd.neg pb_t (Yd.bind (hlast M m1) ?_))
    refine Yd.bind ((q_isValue _).eq hl) (Yd.neg pb_t ?_)
    rw [nI_add]
    exact Yd.neg (nI_ge (a := 96) hn (by omega)) (Yd.ret _)
theorem op_climb (x y z : Int32) (R : Rl rc ss pr tc tk tf tz tw en bc a ro si mp mq mk ma mb mw mv me) :
    (∃ X c pl' Z, (X = xA ∧ c = 1 ∨ X = xS ∧ c = 2) ∧ Yd (fun n => f_X5_climb n x y z rc ss en bc pl a co fr0 my0 rc0 dc0 le0 iw0 fd0 dd0 ru0 di0 li) (.inl (X, rc, en, bc, pl', a, Z)) ∧ Yd (fun n => f_X6_climb n x y z th ro si mv me) (0, c, ro, mv, me)) ∨
    (∃ r rc' en' bc' pl' a' Z mv' me', Yd (fun n => f_X5_climb n x y z rc ss en bc pl a co fr0 my0 rc0 dc0 le0 iw0 fd0 dd0 ru0 di0 li) (.inr (r, rc', en', bc', pl', a', Z)) ∧ Yd (fun n => f_X6_climb n x y z th ro si mv me) (r, 0, rc', mv', me') ∧ Rl rc' ss pr tc tk tf tz tw en' bc' a' rc' si mp mq mk ma mb mw mv' me') := by
  obtain ⟨n, S, Q, p, E, ⟨rfl, rfl, rfl, rfl, rfl, rfl, rfl, rfl⟩, ⟨h1, h2, h3, h4, h5⟩, hb, hq, hI, hm⟩ := R
  have hf1 : ∀ t, Yd (fun q => f_X6_fail q 1 t) ((0, 1) : Int32 × Int32) := fun t => by unfold f_X6_fail; exact Yd.ret _
  have hf2 : ∀ t, Yd (fun q => f_X6_fail q 2 t) ((0, 2) : Int32 × Int32) := fun t => by unfold f_X6_fail; exact Yd.ret _
  obtain ⟨k1, k2, k3⟩ := q_climb2 (S := S) (en := en) (bc := bc) (pl := pl) (a := a) (co := co) (fr0 := fr0) (my0 := my0) (rc0 := rc0) (dc0 := dc0) (le0 := le0) (iw0 := iw0) (fd0 := fd0) (dd0 := dd0) (ru0 := ru0) (di0 := di0) (li := li) (E := E) x y z h1
  by_cases cz : 1 ≤ z ∧ z ≤ 96
  · obtain ⟨M, hM, rfl⟩ : ∃ j, j < 2 ^ 31 ∧ z = nI j := by
      rcases sg_cases z with c | c
      · have q1 := l0.mp c
        have q2 := Int32.le_iff_toInt_le.mp cz.1
        have e1 : (1 : Int32).toInt = 1 := by decide
        omega
      · exact c
    have m1 : 1 ≤ M := (nI_leI (a := 1) (by omega) (by omega)).mp cz.1
    have m2 : M ≤ 96 := (nI_leI (b := 96) (by omega) (by omega)).mp cz.2
    have hin : Yd (fun q => f_X6_isIn q (nI M).toInt64 1 96) true := (p_isInN (lo := 1) (hi := 96) hM (by omega) (by omega)).eq (decide_eq_true ⟨m1, m2⟩)
    by_cases cv : isV x.toInt64 = true ∧ isV (vv x y (M - 1)) = true
    · have hv : ∀ j, j < M → isV (vv x y j) = true := fun j hj => vv_mid m2 hj cv.1 cv.2
      by_cases cn : n + M ≤ 96
      · right
        have e1 : isV (x.toInt64 + y.toInt64 * (nI M - 1).toInt64) = true := by
          have := cv.2
          unfold vv at this
          rw [show nI M - 1 = nI (M - 1) from nI_sub (b := 1) m1]
          exact this
        obtain ⟨en', bc', pl', a', Z, q1, q2, q3⟩ := q_climb (pl := pl) (co := co) (fr0 := fr0) (my0 := my0) (rc0 := rc0) (dc0 := dc0) (le0 := le0) (iw0 := iw0) (fd0 := fd0) (dd0 := dd0) (ru0 := ru0) (di0 := di0) (li := li) hI hb h2 h3 m1 cn (cv_bd m2 hv) cv.1 e1
        refine ⟨nI (n + M), nI (n + M), en', bc', pl', a', Z, fl mv n M (cv_ x y), fl me (n / S) (96 - n / S) (fun _ => 0), q1, ?_, n + M, S, Q, p, _, ⟨rfl, rfl, rfl, rfl, rfl, rfl, rfl, rfl⟩, ⟨cn, h2, h3, h4, h5⟩, q3, hq, q2, ?_⟩
        · unfold f_X6_climb
          refine Yd.bind hin (Yd.neg pb_t ?_)
          refine cw_25 m2 hv ?_ M 0 (by omega)
          rw [nI_add]
          have k := cw_78 (th := 0) (mv := mv) (me := me) (x := x) (y := y) h2 h3 cn M 0 (by omega)
          rw [fl_0] at k
          exact Yd.pos (nI_le (b := 96) cn (by omega)) k
        · intro j hj
          unfold fl
          have hct' := ct_le (n := n + M) h2 cn
          have hj2 : j < 24 := Nat.lt_of_lt_of_le ((ct_lt (n := n + M) (S := S) (by omega)).mpr hj) hct'
          by_cases cj : j < n / S
          · rw [if_neg (by omega), if_pos cj]
            have := seg_before cj
            exact hm j (by omega)
          · rw [if_pos (by omega), if_neg cj]
            rfl
      · left
        refine ⟨xS, 2, pl, _, Or.inr ⟨rfl, rfl⟩, k3 M m1 m2 rfl cv.1 cv.2 (by omega), ?_⟩
        unfold f_X6_climb
        refine Yd.bind hin (Yd.neg pb_t ?_)
        refine cw_25 m2 hv ?_ M 0 (by omega)
        rw [nI_add]
        exact Yd.neg (nI_ge (a := 96) (by omega) (by omega)) (Yd.bind (hf2 _) (Yd.ret _))
    · left
      have cv' : isV x.toInt64 = false ∨ isV (vv x y (M - 1)) = false := by
        cases e1 : isV x.toInt64 with
        | false => exact Or.inl rfl
        | true =>
          cases e2 : isV (vv x y (M - 1)) with
          | false => exact Or.inr rfl
          | true => exact absurd ⟨e1, e2⟩ cv
      refine ⟨xA, 1, pl, _, Or.inl ⟨rfl, rfl⟩, k2 M m1 m2 rfl cv', ?_⟩
      unfold f_X6_climb
      refine Yd.bind hin (Yd.neg pb_t ?_)
      refine cw_25f m2 M 0 (by omega) ?_
      rcases cv' with q | q
      · exact ⟨0, by omega, by omega, by rw [vv_0]; exact q⟩
      · exact ⟨M - 1, by omega, by omega, q⟩
  · left
    refine ⟨xA, 1, pl, _, Or.inl ⟨rfl, rfl⟩, k1 cz, ?_⟩
    unfold f_X6_climb
    exact Yd.bind ((p_isInI z 1 96).eq (decide_eq_false cz)) (Yd.pos pb_f (Yd.bind (hf1 _) (Yd.ret _)))
theorem vv_z (x : Int32) (j : Nat) : vv x 0 j = x.toInt64 := by
  unfold vv
  have : (0 : Int32).toInt64 = 0 := by decide
  rw [this, Int64.zero_mul, Int64.add_zero]
theorem op_append (x z : Int32) (R : Rl rc ss pr tc tk tf tz tw en bc a ro si mp mq mk ma mb mw mv me) :
    (∃ X c pl' Z, (X = xA ∧ c = 1 ∨ X = xS ∧ c = 2) ∧ Yd (fun n => f_X5_append n x z rc ss en bc pl a co fr0 my0 rc0 dc0 le0 iw0 fd0 dd0 ru0 di0 li) (.inl (X, rc, en, bc, pl', a, Z)) ∧ Yd (fun n => f_X6_append n x z th ro si mv me) (0, c, ro, mv, me)) ∨
    (∃ r rc' en' bc' pl' a' Z mv' me', Yd (fun n => f_X5_append n x z rc ss en bc pl a co fr0 my0 rc0 dc0 le0 iw0 fd0 dd0 ru0 di0 li) (.inr (r, rc', en', bc', pl', a', Z)) ∧ Yd (fun n => f_X6_append n x z th ro si mv me) (r, 0, rc', mv', me') ∧ Rl rc' ss pr tc tk tf tz tw en' bc' a' rc' si mp mq mk ma mb mw mv' me') := by
  obtain ⟨n, S, Q, p, E, ⟨rfl, rfl, rfl, rfl, rfl, rfl, rfl, rfl⟩, ⟨h1, h2, h3, h4, h5⟩, hb, hq, hI, hm⟩ := R
  have hf1 : ∀ t, Yd (fun q => f_X6_fail q 1 t) ((0, 1) : Int32 × Int32) := fun t => by unfold f_X6_fail; exact Yd.ret _
  have hf2 : ∀ t, Yd (fun q => f_X6_fail q 2 t) ((0, 2) : Int32 × Int32) := fun t => by unfold f_X6_fail; exact Yd.ret _
  have hcl : ∀ {r}, Yd (fun q => f_X5_climb q x 0 z (nI n) (nI S) en bc pl a co fr0 my0 rc0 dc0 le0 iw0 fd0 dd0 ru0 di0 li) r → Yd (fun q => f_X5_append q x z (nI n) (nI S) en bc pl a co fr0 my0 rc0 dc0 le0 iw0 fd0 dd0 ru0 di0 li) r := by
    intro r h
    unfold f_X5_append
    refine Yd.bind h ?_
    cases r with
    | inl r => exact Yd.ret _
    | inr r => exact Yd.ret _
  obtain ⟨k1, k2, k3⟩ := q_climb2 (S := S) (en := en) (bc := bc) (pl := pl) (a := a) (co := co) (fr0 := fr0) (my0 := my0) (rc0 := rc0) (dc0 := dc0) (le0 := le0) (iw0 := iw0) (fd0 := fd0) (dd0 := dd0) (ru0 := ru0) (di0 := di0) (li := li) (E := E) x 0 z h1
  by_cases cz : 1 ≤ z ∧ z ≤ 96
  · obtain ⟨M, hM, rfl⟩ : ∃ j, j < 2 ^ 31 ∧ z = nI j := by
      rcases sg_cases z with c | c
      · have q1 := l0.mp c
        have q2 := Int32.le_iff_toInt_le.mp cz.1
        have e1 : (1 : Int32).toInt = 1 := by decide
        omega
      · exact c
    have m1 : 1 ≤ M := (nI_leI (a := 1) (by omega) (by omega)).mp cz.1
    have m2 : M ≤ 96 := (nI_leI (b := 96) (by omega) (by omega)).mp cz.2
    have hin : Yd (fun q => f_X6_isIn q (nI M).toInt64 1 96) true := (p_isInN (lo := 1) (hi := 96) hM (by omega) (by omega)).eq (decide_eq_true ⟨m1, m2⟩)
    cases cv : isV x.toInt64 with
    | true =>
      have cv2 : isV (vv x 0 (M - 1)) = true := by rw [vv_z]; exact cv
      have hv : ∀ j, j < M → isV (vv x 0 j) = true := fun j hj => vv_mid m2 hj cv cv2
      by_cases cn : n + M ≤ 96
      · right
        have e1 : isV (x.toInt64 + (0 : Int32).toInt64 * (nI M - 1).toInt64) = true := by
          have := cv2
          unfold vv at this
          rw [show nI M - 1 = nI (M - 1) from nI_sub (b := 1) m1]
          exact this
        obtain ⟨en', bc', pl', a', Z, q1, q2, q3⟩ := q_climb (pl := pl) (co := co) (fr0 := fr0) (my0 := my0) (rc0 := rc0) (dc0 := dc0) (le0 := le0) (iw0 := iw0) (fd0 := fd0) (dd0 := dd0) (ru0 := ru0) (di0 := di0) (li := li) hI hb h2 h3 m1 cn (cv_bd m2 hv) cv e1
        refine ⟨nI (n + M), nI (n + M), en', bc', pl', a', Z, fl mv n M (cv_ x 0), fl me (n / S) (96 - n / S) (fun _ => 0), hcl q1, ?_, n + M, S, Q, p, _, ⟨rfl, rfl, rfl, rfl, rfl, rfl, rfl, rfl⟩, ⟨cn, h2, h3, h4, h5⟩, q3, hq, q2, ?_⟩
        · unfold f_X6_append
          refine Yd.bind ((p_isValue _).eq cv) (Yd.neg pb_t (Yd.bind hin (Yd.neg pb_t ?_)))
          rw [nI_add]
          have k := cw_49 (th := 0) (mv := mv) (me := me) (x := x) h2 h3 cn M 0 (by omega)
          rw [fl_0] at k
          exact Yd.pos (nI_le (b := 96) cn (by omega)) k
        · intro j hj
          unfold fl
          have hct' := ct_le (n := n + M) h2 cn
          have hj2 : j < 24 := Nat.lt_of_lt_of_le ((ct_lt (n := n + M) (S := S) (by omega)).mpr hj) hct'
          by_cases cj : j < n / S
          · rw [if_neg (by omega), if_pos cj]
            have := seg_before cj
            exact hm j (by omega)
          · rw [if_pos (by omega), if_neg cj]
            rfl
      · left
        refine ⟨xS, 2, pl, _, Or.inr ⟨rfl, rfl⟩, hcl (k3 M m1 m2 rfl cv cv2 (by omega)), ?_⟩
        unfold f_X6_append
        refine Yd.bind ((p_isValue _).eq cv) (Yd.neg pb_t (Yd.bind hin (Yd.neg pb_t ?_)))
        rw [nI_add]
        exact Yd.neg (nI_ge (a := 96) (by omega) (by omega)) (Yd.bind (hf2 _) (Yd.ret _))
    | false =>
      left
      refine ⟨xA, 1, pl, _, Or.inl ⟨rfl, rfl⟩, hcl (k2 M m1 m2 rfl (Or.inl cv)), ?_⟩
      unfold f_X6_append
      exact Yd.bind ((p_isValue _).eq cv) (Yd.pos pb_f (Yd.bind (hf1 _) (Yd.ret _)))
  · left
    refine ⟨xA, 1, pl, _, Or.inl ⟨rfl, rfl⟩, hcl (k1 cz), ?_⟩
    unfold f_X6_append
    cases cv : isV x.toInt64 with
    | false => exact Yd.bind ((p_isValue _).eq cv) (Yd.pos pb_f (Yd.bind (hf1 _) (Yd.ret _)))
    | true =>
      refine Yd.bind ((p_isValue _).eq cv) (Yd.neg pb_t ?_)
      exact Yd.bind ((p_isInI z 1 96).eq (decide_eq_false cz)) (Yd.pos pb_f (Yd.bind (hf1 _) (Yd.ret _)))
end PuW
