/-! the calls: setSegmentSize, climb, append -/
section PuZ
variable {rc ss pr tc : Int32} {tk tf tz tw en bc a : Nat → Int32} {ro si mp mq : Int32} {mk ma mb mw mv me : Nat → Int32}
variable {th st my bb pl fr0 my0 rc0 dc0 le0 iw0 fd0 dd0 : Int32} {bt co li ru0 di0 : Nat → Int32}
theorem ss_loop {V cv : Nat → Int32} {n S : Nat} {E : Nat → Nat} {z2 : Int32} (hn : n ≤ 96) (hS : 4 ≤ S) (hS2 : S ≤ 32) (hb : Bd V n) (hc : ∀ i, i < n → cv i = V i) (li : Nat → Int32) :
    ∀ d k, k + d = ct_ n S → (∀ j, k ≤ j → E j = 0) → ∀ (en bc a : Nat → Int32) (pl fr0 my0 rc0 dc0 le0 iw0 fd0 dd0 : Int32) (ru0 di0 : Nat → Int32), IBk V n S E en bc a k →
      ∃ en' bc' pl' a' Z, Yd (fun q => f_X5_setSegmentSize_48 q z2 (nI (ct_ n S)) (nI k) (nI n) (nI S) en bc pl a cv fr0 my0 rc0 dc0 le0 iw0 fd0 dd0 ru0 di0 li) (.inr (z2, nI S, en', bc', pl', a', Z)) ∧ IB V n S E en' bc' a' := by
  have hct := ct_le hS hn
  intro d
  induction d with
  | zero =>
    intro k hk hE en bc a pl fr0 my0 rc0 dc0 le0 iw0 fd0 dd0 ru0 di0 hI
    refine ⟨en, bc, pl, a, (cv, fr0, my0, rc0, dc0, le0, iw0, fd0, dd0, ru0, di0, li), ?_, fun j hj => hI j ?_ hj⟩
    · refine s_X5_setSegmentSize_48 ?_
      unfold f_X5_setSegmentSize_48_s
      exact Yd.pos (nI_le (by omega) (by omega)) (Yd.ret _)
    · have := (ct_lt (n := n) (S := S) (k := j) (by omega)).mpr hj
      omega
  | succ d ih =>
    intro k hk hE en bc a pl fr0 my0 rc0 dc0 le0 iw0 fd0 dd0 ru0 di0 hI
    have hkn : k * S < n := (ct_lt (by omega)).mp (by omega)
    have hcl : Cl cv V (k * S) (mr n S k) := fun i q1 q2 => hc i (by unfold mr at q2; omega)
    obtain ⟨pl2, r2, hst, -⟩ := q_store (V := V) (co := cv) (en := en) (bc := bc) (a := a) (pl := pl) (fr0 := fr0) (my0 := my0) (rc0 := rc0) (dc0 := dc0) (le0 := le0) (iw0 := iw0) (fd0 := fd0) (dd0 := dd0) (ru0 := ru0) (di0 := di0) hb hn hS hS2 hkn hcl (Nat.zero_le 5) (psb0 _ _)
    have hI2 := IBk_store hI hb hn hS hS2 hkn (hE k (Nat.le_refl _))
    obtain ⟨en', bc', pl', a', Z, q1, q2⟩ := ih (k + 1) (by omega) (fun j hj => hE j (by omega)) _ _ _ pl2 r2.1 r2.2.1 r2.2.2.1 r2.2.2.2.1 r2.2.2.2.2.1 r2.2.2.2.2.2.1 r2.2.2.2.2.2.2.1 r2.2.2.2.2.2.2.2.1 r2.2.2.2.2.2.2.2.2.1 r2.2.2.2.2.2.2.2.2.2 hI2
    refine ⟨en', bc', pl', a', Z, ?_, q2⟩
    refine s_X5_setSegmentSize_48 ?_
    unfold f_X5_setSegmentSize_48_s
    refine Yd.neg (nI_ge (by omega) (by omega)) ?_
    refine Yd.bind hst ?_
    rw [nI_1]
    exact q1
theorem op_setSegmentSize (x : Int32) (R : Rl rc ss pr tc tk tf tz tw en bc a ro si mp mq mk ma mb mw mv me) :
    (∃ pl' Z, Yd (fun n => f_X5_setSegmentSize n x rc ss en bc pl a co fr0 my0 rc0 dc0 le0 iw0 fd0 dd0 ru0 di0 li) (.inl (xA, ss, en, bc, pl', a, Z)) ∧ Yd (fun n => f_X6_setSegmentSize n x th ro si me) (0, 1, ro, si, me)) ∨
    (∃ r ss' en' bc' pl' a' Z me', Yd (fun n => f_X5_setSegmentSize n x rc ss en bc pl a co fr0 my0 rc0 dc0 le0 iw0 fd0 dd0 ru0 di0 li) (.inr (r, ss', en', bc', pl', a', Z)) ∧ Yd (fun n => f_X6_setSegmentSize n x th ro si me) (r, 0, ro, ss', me') ∧ Rl rc ss' pr tc tk tf tz tw en' bc' a' ro ss' mp mq mk ma mb mw mv me') := by
  obtain ⟨n, S, Q, p, E, ⟨rfl, rfl, rfl, rfl, rfl, rfl, rfl, rfl⟩, ⟨h1, h2, h3, h4, h5⟩, hb, hq, hI, hm⟩ := R
  have hf1 : ∀ t, Yd (fun q => f_X6_fail q 1 t) ((0, 1) : Int32 × Int32) := fun t => by unfold f_X6_fail; exact Yd.ret _
  have e4 : (4 : Int32).toInt = 4 := by decide
  rcases sg_cases x with c | ⟨T, hT, rfl⟩
  · left
    have c4 : x < 4 := Int32.lt_iff_toInt_lt.mpr (by have := l0.mp c; omega)
    refine ⟨pl, (co, fr0, my0, rc0, dc0, le0, iw0, fd0, dd0, ru0, di0, li), by unfold f_X5_setSegmentSize; exact Yd.pos c4 (Yd.ret _), ?_⟩
    unfold f_X6_setSegmentSize
    have hf : ¬ (4 ≤ x ∧ x ≤ 32) := fun h => by
      have q1 := l0.mp c
      have q2 := Int32.le_iff_toInt_le.mp h.1
      omega
    exact Yd.bind ((p_isInI x 4 32).eq (decide_eq_false hf)) (Yd.pos pb_f (Yd.bind (hf1 _) (Yd.ret _)))
  · by_cases c2 : 4 ≤ T ∧ T ≤ 32
    · right
      have hin : Yd (fun q => f_X6_isIn q (nI T).toInt64 4 32) true := (p_isInN (lo := 4) (hi := 32) hT (by omega) (by omega)).eq (decide_eq_true c2)
      by_cases c0 : T = S
      · subst c0
        refine ⟨nI T, nI T, en, bc, pl, a, (co, fr0, my0, rc0, dc0, le0, iw0, fd0, dd0, ru0, di0, li), me, ?_, ?_, n, T, Q, p, E, ⟨rfl, rfl, rfl, rfl, rfl, rfl, rfl, rfl⟩, ⟨h1, h2, h3, h4, h5⟩, hb, hq, hI, hm⟩
        · unfold f_X5_setSegmentSize
          exact Yd.neg (nI_nlt (b := 4) (by omega) (by omega)) (Yd.pos (nI_le (b := 32) (by omega) (by omega)) (Yd.pos rfl (Yd.ret _)))
        · unfold f_X6_setSegmentSize
          exact Yd.bind hin (Yd.neg pb_t (Yd.pos rfl (Yd.ret _)))
      · obtain ⟨pl1, cv, li1, hL, hc⟩ := q_loadColumn (co := co) (li := li) (pl := pl) hI hb h1 h2 h3
        have hct := ct_le (n := n) (S := T) c2.1 h1
        obtain ⟨en', bc', pl', a', Z, q1, q2⟩ := ss_loop (V := mv) (cv := cv) (E := fun _ => 0) (z2 := nI S) h1 c2.1 c2.2 hb hc li1 (ct_ n T) 0 (by omega) (fun _ _ => rfl) en bc a pl1 fr0 my0 rc0 dc0 le0 iw0 fd0 dd0 ru0 di0 (fun j hj => by omega)
        refine ⟨nI S, nI T, en', bc', pl', a', Z, fl me 0 96 (fun _ => 0), ?_, ?_, n, T, Q, p, fun _ => 0, ⟨rfl, rfl, rfl, rfl, rfl, rfl, rfl, rfl⟩, ⟨h1, c2.1, c2.2, h4, h5⟩, hb, hq, q2, ?_⟩
        · unfold f_X5_setSegmentSize
          refine Yd.neg (nI_nlt (b := 4) (by omega) (by omega)) (Yd.pos (nI_le (b := 32) (by omega) (by omega)) (Yd.neg (fun h => c0 ((nI_eq (by omega) (by omega)).mp h)) ?_))
          exact Yd.bind hL (Yd.bind (q_segCount h1 c2.1 c2.2) q1)
        · unfold f_X6_setSegmentSize
          refine Yd.bind hin (Yd.neg pb_t (Yd.neg (fun h => c0 ((nI_eq (by omega) (by omega)).mp h).symm) ?_))
          have k1 := p_changed (me := me) (F := 0) (NR := n) (S := T) (ro := nI n) (by omega) c2.1 c2.2
          rw [Nat.zero_div] at k1
          exact Yd.bind k1 (Yd.ret _)
        · intro j hj
          have : j < ct_ n T := (ct_lt (by omega)).mpr hj
          unfold fl
          rw [if_pos (by omega)]
          rfl
    · left
      have hf : Yd (fun q => f_X6_setSegmentSize q (nI T) th (nI n) (nI S) me) (0, 1, nI n, nI S, me) := by
        unfold f_X6_setSegmentSize
        exact Yd.bind ((p_isInN (lo := 4) (hi := 32) hT (by omega) (by omega)).eq (decide_eq_false c2)) (Yd.pos pb_f (Yd.bind (hf1 _) (Yd.ret _)))
      refine ⟨pl, (co, fr0, my0, rc0, dc0, le0, iw0, fd0, dd0, ru0, di0, li), ?_, hf⟩
      unfold f_X5_setSegmentSize
      by_cases c3 : T < 4
      · exact Yd.pos (nI_lt (b := 4) c3 (by omega)) (Yd.ret _)
      · exact Yd.neg (nI_nlt (b := 4) (by omega) (by omega)) (Yd.neg (nI_ge (a := 32) (by omega) hT) (Yd.ret _))
theorem cl_loop {V cv : Nat → Int32} {n S k0 : Nat} {E : Nat → Nat} (hn : n ≤ 96) (hS : 4 ≤ S) (hS2 : S ≤ 32) (hb : Bd V n) (hc : ∀ i, k0 * S ≤ i → i < n → cv i = V i) (li : Nat → Int32) :
    ∀ d k, k + d = ct_ n S → k0 ≤ k → (∀ j, k ≤ j → E j = 0) → ∀ (en bc a : Nat → Int32) (pl fr0 my0 rc0 dc0 le0 iw0 fd0 dd0 : Int32) (ru0 di0 : Nat → Int32), IBk V n S E en bc a k →
      ∃ en' bc' pl' a' Z, Yd (fun q => f_X5_climb_138 q (nI (ct_ n S)) (nI k) (nI n) (nI S) en bc pl a cv fr0 my0 rc0 dc0 le0 iw0 fd0 dd0 ru0 di0 li) (.inr (nI n, nI n, en', bc', pl', a', Z)) ∧ IB V n S E en' bc' a' := by
  have hct := ct_le hS hn
  intro d
  induction d with
  | zero =>
    intro k hk hk0 hE en bc a pl fr0 my0 rc0 dc0 le0 iw0 fd0 dd0 ru0 di0 hI
    refine ⟨en, bc, pl, a, (cv, fr0, my0, rc0, dc0, le0, iw0, fd0, dd0, ru0, di0, li), ?_, fun j hj => hI j ?_ hj⟩
    · refine s_X5_climb_138 ?_
      unfold f_X5_climb_138_s
      exact Yd.pos (nI_le (by omega) (by omega)) (Yd.ret _)
    · have := (ct_lt (n := n) (S := S) (k := j) (by omega)).mpr hj
      omega
  | succ d ih =>
    intro k hk hk0 hE en bc a pl fr0 my0 rc0 dc0 le0 iw0 fd0 dd0 ru0 di0 hI
    have hkn : k * S < n := (ct_lt (by omega)).mp (by omega)
    have hk0S : k0 * S ≤ k * S := Nat.mul_le_mul_right _ hk0
    have hcl : Cl cv V (k * S) (mr n S k) := fun i q1 q2 => hc i (by omega) (by unfold mr at q2; omega)
    obtain ⟨pl2, r2, hst, -⟩ := q_store (V := V) (co := cv) (en := en) (bc := bc) (a := a) (pl := pl) (fr0 := fr0) (my0 := my0) (rc0 := rc0) (dc0 := dc0) (le0 := le0) (iw0 := iw0) (fd0 := fd0) (dd0 := dd0) (ru0 := ru0) (di0 := di0) hb hn hS hS2 hkn hcl (Nat.zero_le 5) (psb0 _ _)
    have hI2 := IBk_store hI hb hn hS hS2 hkn (hE k (Nat.le_refl _))
    obtain ⟨en', bc', pl', a', Z, q1, q2⟩ := ih (k + 1) (by omega) (by omega) (fun j hj => hE j (by omega)) _ _ _ pl2 r2.1 r2.2.1 r2.2.2.1 r2.2.2.2.1 r2.2.2.2.2.1 r2.2.2.2.2.2.1 r2.2.2.2.2.2.2.1 r2.2.2.2.2.2.2.2.1 r2.2.2.2.2.2.2.2.2.1 r2.2.2.2.2.2.2.2.2.2 hI2
    refine ⟨en', bc', pl', a', Z, ?_, q2⟩
    refine s_X5_climb_138 ?_
    unfold f_X5_climb_138_s
    refine Yd.neg (nI_ge (by omega) (by omega)) ?_
    refine Yd.bind hst ?_
    rw [nI_1]
    exact q1
/-- the values of a climb -/
def cv_ (x y : Int32) (j : Nat) : Int32 := x + nI j * y
/-- the class appends values that are allowed -/
theorem q_climb {n S M : Nat} {E : Nat → Nat} {x y : Int32} (hI : IB mv n S E en bc a) (hb : Bd mv n) (h2 : 4 ≤ S) (h3 : S ≤ 32) (hM : 1 ≤ M) (hnM : n + M ≤ 96) (hv : Bd (cv_ x y) M) (hx : isV x.toInt64 = true) (hl : isV (x.toInt64 + y.toInt64 * (nI M - 1).toInt64) = true) :
    ∃ en' bc' pl' a' Z, Yd (fun q => f_X5_climb q x y (nI M) (nI n) (nI S) en bc pl a co fr0 my0 rc0 dc0 le0 iw0 fd0 dd0 ru0 di0 li) (.inr (nI (n + M), nI (n + M), en', bc', pl', a', Z)) ∧ IB (fl mv n M (cv_ x y)) (n + M) S (fun j => if j < n / S then E j else 0) en' bc' a' ∧ Bd (fl mv n M (cv_ x y)) (n + M) := by
  have hS0 : 0 < S := by omega
  have hlo := div_lo n S
  have hhi := div_hi (r := n) hS0
  have hb' : Bd (fl mv n M (cv_ x y)) (n + M) := by
    intro i hi
    unfold fl
    by_cases c : n ≤ i ∧ i < n + M
    · rw [if_pos c]; exact hv _ (by omega)
    · rw [if_neg c]; exact hb i (by omega)
  have hct := ct_le (n := n + M) h2 hnM
  have hct0 := ct_le (n := n) h2 (by omega)
  generalize hk : n / S = k0 at hlo hhi
  have hk0 : k0 ≤ 24 := by
    rcases Nat.lt_or_ge 24 k0 with q | q
    · have : 24 * 4 ≤ 24 * S := Nat.mul_le_mul_left _ h2
      have h9 : (24 + 1) * S ≤ k0 * S := Nat.mul_le_mul_right _ q
      rw [Nat.succ_mul] at h9
      omega
    · exact q
  have hpre : IBk (fl mv n M (cv_ x y)) (n + M) S (fun j => if j < k0 then E j else 0) en bc a k0 := by
    intro j hjk hj
    dsimp only
    rw [if_pos hjk]
    have hsb := seg_before (j := j) (r := n) (S := S) (by omega)
    refine IB_cg (n := n) (by omega) hj hS0 ?_ (fun i q1 q2 => ?_) (hI j (by omega))
    · unfold mr; omega
    · unfold mr at q2
      unfold fl
      rw [if_neg (by omega)]
  -- the loop that writes the new rows
  have wr : ∀ (cw : Nat → Int32) (pl : Int32) (li : Nat → Int32), (∀ i, k0 * S ≤ i → i < n → cw i = mv i) → ∀ d j, j + d = M → ∃ en' bc' pl' a' Z, Yd (fun q => f_X5_climb_86 q x y (nI M) (nI k0) (nI j) (nI n) (nI S) en bc pl a (fl cw n j (cv_ x y)) fr0 my0 rc0 dc0 le0 iw0 fd0 dd0 ru0 di0 li) (.inr (nI (n + M), nI (n + M), en', bc', pl', a', Z)) ∧ IB (fl mv n M (cv_ x y)) (n + M) S (fun j => if j < k0 then E j else 0) en' bc' a' := by
    intro cw pl li hcw d
    induction d with
    | zero =>
      intro j hj
      have hkc : k0 ≤ ct_ (n + M) S := by
        rcases Nat.lt_or_ge (ct_ (n + M) S) k0 with q | q
        · have h9 : ¬ ct_ (n + M) S * S < n + M := fun h => absurd ((ct_lt hS0).mpr h) (by omega)
          have h8 : (ct_ (n + M) S) * S ≤ k0 * S := Nat.mul_le_mul_right _ (by omega)
          omega
        · exact q
      obtain ⟨en', bc', pl', a', Z, q1, q2⟩ := cl_loop (V := fl mv n M (cv_ x y)) (cv := fl cw n M (cv_ x y)) (k0 := k0) (E := fun j => if j < k0 then E j else 0) hnM h2 h3 hb' (fun i q1 q2 => by
        unfold fl
        by_cases c : n ≤ i ∧ i < n + M
        · rw [if_pos c, if_pos c]
        · rw [if_neg c, if_neg c]; exact hcw i q1 (by omega)) li (ct_ (n + M) S - k0) k0 (by omega) (Nat.le_refl _) (fun j hj => if_neg (by omega)) en bc a pl fr0 my0 rc0 dc0 le0 iw0 fd0 dd0 ru0 di0 hpre
      refine ⟨en', bc', pl', a', Z, ?_, q2⟩
      refine s_X5_climb_86 ?_
      unfold f_X5_climb_86_s
      refine Yd.pos (nI_le (by omega) (by omega)) ?_
      rw [nI_add, show j = M by omega]
      exact Yd.bind (q_segCount hnM h2 h3) q1
    | succ d ih =>
      intro j hj
      obtain ⟨en', bc', pl', a', Z, q1, q2⟩ := ih (j + 1) (by omega)
      refine ⟨en', bc', pl', a', Z, ?_, q2⟩
      refine s_X5_climb_86 ?_
      unfold f_X5_climb_86_s
      refine Yd.neg (nI_ge (by omega) (by omega)) ?_
      rw [nI_add]
      refine Yd.bind ((q_put (by omega) (by omega)).eq (fl_step cw n j (cv_ x y))) ?_
      rw [nI_1]
      exact q1
  have hrow : Yd (fun q => f_X5_isRowNumber q (nI M)) true := by
    unfold f_X5_isRowNumber
    exact Yd.neg (nI_nlt (b := 1) hM (by omega)) (Yd.neg (nI_nlt (a := 96) (by omega) (by omega)) (Yd.ret _))
  have hlast : Yd (fun q => f_X5_lastOfClimb q x y (nI M)) (x.toInt64 + y.toInt64 * (nI M - 1).toInt64) := by
    unfold f_X5_lastOfClimb
    exact Yd.ret _
  have hseg := q_segOf (r := n) (S := S) (by omega) hS0 (by omega)
  rw [hk] at hseg
  by_cases c : k0 * S < n
  · obtain ⟨pl1, li1, hL⟩ := q_load (co := co) (li := li) (pl := pl) hI hb (by omega) h2 h3 c
    obtain ⟨en', bc', pl', a', Z, q1, q2⟩ := wr (fl co (k0 * S) (mr n S k0) (sg mv (k0 * S))) pl1 li1 (fun i r1 r2 => fl_cl co mv _ _ i r1 (by unfold mr; omega)) M 0 (by omega)
    rw [fl_0] at q1
    refine ⟨en', bc', pl', a', Z, ?_, q2, hb'⟩
    unfold f_X5_climb
    refine Yd.bind hrow (Yd.neg pb_t (Yd.bind ((q_isValue _).eq hx) (Yd.neg pb_t (Yd.bind hlast (Yd.bind ((q_isValue _).eq hl) (Yd.neg pb_t ?_))))))
    rw [nI_add]
    refine Yd.pos (nI_le (b := 96) hnM (by omega)) (Yd.bind hseg (Yd.bind (q_segCount (by omega) h2 h3) ?_))
    refine Yd.neg (nI_ge ((ct_lt hS0).mpr c) (by omega)) (Yd.bind hL ?_)
    exact q1
  · obtain ⟨en', bc', pl', a', Z, q1, q2⟩ := wr co pl li (fun i r1 r2 => by omega) M 0 (by omega)
    rw [fl_0] at q1
    refine ⟨en', bc', pl', a', Z, ?_, q2, hb'⟩
    have hcc : ct_ n S ≤ k0 := by
      rcases Nat.lt_or_ge k0 (ct_ n S) with q | q
      · exact absurd ((ct_lt hS0).mp q) c
      · exact q
    unfold f_X5_climb
    refine Yd.bind hrow (Yd.neg pb_t (Yd.bind ((q_isValue _).eq hx) (Yd.neg pb_t (Yd.bind hlast (Yd.bind ((q_isValue _).eq hl) (Yd.neg pb_t ?_))))))
    rw [nI_add]
    refine Yd.pos (nI_le (b := 96) hnM (by omega)) (Yd.bind hseg (Yd.bind (q_segCount (by omega) h2 h3) ?_))
    exact Yd.pos (nI_le hcc (by omega)) q1
end PuZ
