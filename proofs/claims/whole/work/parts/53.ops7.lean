/-! the call bestSegmentSize: sums of scores are not negative -/
section PuX
variable {rc ss pr tc : Int32} {tk tf tz tw en bc a : Nat → Int32} {ro si mp mq : Int32} {mk ma mb mw mv me : Nat → Int32}
variable {th st my bb pl fr0 my0 rc0 dc0 le0 iw0 fd0 dd0 : Int32} {bt co li ru0 di0 : Nat → Int32}
theorem cq_le {g : Nat → Int32} {s m e : Nat} {k x y : Int32} (hm : 0 < m) (hm2 : m ≤ 32) : cq g s m e k x y ≤ 100 := by
  have hr : ∀ j, j < m → rn g j ≤ 32 := fun j hj => by have := rn_le g j; omega
  have hd : dn g m ≤ 32 := Nat.le_trans (dl_len g m) hm2
  unfold cq
  by_cases c0 : k = 0
  · rw [if_pos c0]
    by_cases c1 : x.toNatClampNeg < s
    · rw [if_pos c1]; omega
    · rw [if_neg c1]
      by_cases c2 : x.toNatClampNeg < s + m
      · rw [if_pos c2]
        have := hr (x.toNatClampNeg - s) (by omega)
        unfold cp
        split <;> (try split) <;> (try split) <;> (try split) <;> omega
      · rw [if_neg c2]; omega
  · rw [if_neg c0]
    by_cases c1 : k = 1
    · rw [if_pos c1]
      by_cases c2 : max x.toNatClampNeg s < min y.toNatClampNeg (s + m)
      · rw [if_pos c2]
        have := hr (min y.toNatClampNeg (s + m) - 1 - s) (by omega)
        unfold cs
        split <;> (try split) <;> (try split) <;> (try split) <;> (try split) <;> omega
      · rw [if_neg c2]; omega
    · rw [if_neg c1]
      have := hr (m - 1) (by omega)
      unfold ct
      split <;> (try split) <;> (try split) <;> (try split) <;> (try split) <;> (try split) <;> omega
theorem sr_nn {p Q : Nat} {g : Nat → Int32} {s m e : Nat} (hp : p ≤ 100) (hm : 0 < m) (hm2 : m ≤ 32) (hb : Bd g m) (hw : ∀ q, q < Q → ∃ w, 1 ≤ w ∧ w ≤ 100 ∧ mw q = nI w) : ∀ q, q ≤ Q → ∃ j, j ≤ 76800 + q * 10000 ∧ sr (nI p) mk ma mb mw g s m e q = nI j
  | 0, _ => by
    refine ⟨p * sz g m e, ?_, nI_mul _ _⟩
    have h1 := sz_le (e := e) hm hm2 hb
    have h2 : p * sz g m e ≤ 100 * 768 := Nat.mul_le_mul hp (by omega)
    omega
  | q + 1, hq => by
    obtain ⟨j, hj, e1⟩ := sr_nn hp hm hm2 hb hw q (by omega)
    obtain ⟨w, w1, w2, ew⟩ := hw q (by omega)
    have hc := cq_le (g := g) (s := s) (e := e) (k := mk q) (x := ma q) (y := mb q) hm hm2
    have h2 : w * cq g s m e (mk q) (ma q) (mb q) ≤ 100 * 100 := Nat.mul_le_mul w2 hc
    refine ⟨j + w * cq g s m e (mk q) (ma q) (mb q), by omega, ?_⟩
    unfold sr
    rw [e1, ew, nI_mul, nI_add]
/-- the scores of the first k segments of T rows, each with its best encoding -/
def tz2 (p : Int32) (mk ma mb mw V : Nat → Int32) (n T Q : Nat) : Nat → Int32 := ts p mk ma mb mw V n T Q (bE p mk ma mb mw V n T Q)
theorem tz2_nn {p n T Q : Nat} (hp : p ≤ 100) (hQ : Q ≤ 20) (hn : n ≤ 96) (hT : 4 ≤ T) (hT2 : T ≤ 32) (hb : Bd mv n) (hw : ∀ q, q < Q → ∃ w, 1 ≤ w ∧ w ≤ 100 ∧ mw q = nI w) : ∀ k, k ≤ ct_ n T → ∃ j, j ≤ k * 300000 ∧ tz2 (nI p) mk ma mb mw mv n T Q k = nI j
  | 0, _ => ⟨0, Nat.zero_le _, rfl⟩
  | k + 1, hk => by
    obtain ⟨j, hj, e1⟩ := tz2_nn hp hQ hn hT hT2 hb hw k (by omega)
    have hkn : k * T < n := (ct_lt (by omega)).mp (by omega)
    obtain ⟨i, hi, e2⟩ := sr_nn (mk := mk) (ma := ma) (mb := mb) (s := k * T) (e := bE (nI p) mk ma mb mw mv n T Q k) hp (by unfold mr; omega) (by unfold mr; omega) (seg_bd hb hkn) hw Q (Nat.le_refl _)
    refine ⟨j + i, by omega, ?_⟩
    show tz2 (nI p) mk ma mb mw mv n T Q k + _ = _
    rw [e1, e2, nI_add]
theorem tz2_ne {p n T Q : Nat} (hp : p ≤ 100) (hQ : Q ≤ 20) (hn : n ≤ 96) (hT : 4 ≤ T) (hT2 : T ≤ 32) (hb : Bd mv n) (hw : ∀ q, q < Q → ∃ w, 1 ≤ w ∧ w ≤ 100 ∧ mw q = nI w) : ¬ tz2 (nI p) mk ma mb mw mv n T Q (ct_ n T) = -1 := by
  obtain ⟨j, hj, e⟩ := tz2_nn (mk := mk) (ma := ma) (mb := mb) hp hQ hn hT hT2 hb hw (ct_ n T) (Nat.le_refl _)
  have hct := ct_le hT hn
  rw [e]
  intro h
  have h2 := congrArg Int32.toInt h
  rw [nI_toInt (by omega)] at h2
  have h3 : (-1 : Int32).toInt = -1 := by decide
  omega
theorem q_ifChosen {n T Q p : Nat} {cv : Nat → Int32} (h1 : n ≤ 96) (h2 : 4 ≤ T) (h3 : T ≤ 32) (h4 : Q ≤ 20) (hb : Bd mv n) (hq : QQ Q tk tf tz tw mk ma mb mw) (hc : ∀ i, i < n → cv i = mv i) (fr0 my0 rc0 dc0 le0 iw0 fd0 dd0 : Int32) (ru0 di0 : Nat → Int32) :
    ∃ Z, Yd (fun q => f_X5_scoreIfChosen q (nI T) (nI n) (nI p) (nI Q) tk tf tz tw cv fr0 my0 rc0 dc0 le0 iw0 fd0 dd0 ru0 di0) (tz2 (nI p) mk ma mb mw mv n T Q (ct_ n T), Z) := by
  obtain ⟨qk1, qk2⟩ := QQ_ok hq
  have hct := ct_le h2 h1
  have key : ∀ d k, k + d = ct_ n T → ∀ (fr0 my0 rc0 dc0 le0 iw0 fd0 dd0 : Int32) (ru0 di0 : Nat → Int32), ∃ Z, Yd (fun q => f_X5_scoreIfChosen_7 q (nI T) (tz2 (nI p) mk ma mb mw mv n T Q k) (nI (k * T)) (nI k) (nI n) (nI p) (nI Q) tk tf tz tw cv fr0 my0 rc0 dc0 le0 iw0 fd0 dd0 ru0 di0) (tz2 (nI p) mk ma mb mw mv n T Q (ct_ n T), Z) := by
    intro d
    induction d with
    | zero =>
      intro k hk fr0 my0 rc0 dc0 le0 iw0 fd0 dd0 ru0 di0
      have hkn : ¬ k * T < n := fun h => by have := (ct_lt (n := n) (S := T) (k := k) (by omega)).mpr h; omega
      refine ⟨(fr0, my0, rc0, dc0, le0, iw0, fd0, dd0, ru0, di0), ?_⟩
      refine s_X5_scoreIfChosen_7 ?_
      unfold f_X5_scoreIfChosen_7_s
      rw [show k = ct_ n T by omega]
      rw [show k = ct_ n T by omega] at hkn
      have hkT : ct_ n T * T ≤ 24 * 32 := Nat.mul_le_mul hct h3
      by_cases c : 24 ≤ ct_ n T
      · exact Yd.pos (nI_le (a := 24) c (by omega)) (Yd.ret _)
      · exact Yd.neg (nI_ge (b := 24) (by omega) (by omega)) (Yd.pos (nI_le (by omega) (by omega)) (Yd.ret _))
    | succ d ih =>
      intro k hk fr0 my0 rc0 dc0 le0 iw0 fd0 dd0 ru0 di0
      have hkn : k * T < n := (ct_lt (by omega)).mp (by omega)
      have hm0 : 0 < mr n T k := by unfold mr; omega
      have hm1 : mr n T k ≤ T := by unfold mr; omega
      have hm2 : k * T + mr n T k ≤ n := by unfold mr; omega
      have hag : Ag (sg cv (k * T)) (sg mv (k * T)) (mr n T k) := fun j hj => hc _ (by omega)
      obtain ⟨b1, b2⟩ := bE_ok (nI p) mk ma mb mw mv n T Q k
      obtain ⟨r, hY, hPR0⟩ := q_study (co := cv) (s := k * T) (m := mr n T k) (by omega) hm0 (by omega) (Bd_cg hag.symm (seg_bd hb hkn)) fr0 my0 rc0 dc0 le0 iw0 fd0 dd0 ru0 di0
      have hPR : PRr (sg mv (k * T)) (k * T) (mr n T k) r := PR_cg hag hm0 hPR0
      have hbest := q_best (p := nI p) (tw := tw) hPR h4 qk1 (by omega) hm0 (by omega)
      rw [Sc_cg hq] at hbest
      have hs := q_score (p := nI p) (tw := tw) hPR h4 qk1 (by omega) hm0 (by omega) b1 b2
      rw [sr_cg hq Q (Nat.le_refl _)] at hs
      obtain ⟨Z, ih1⟩ := ih (k + 1) (by omega) r.1 r.2.1 r.2.2.1 r.2.2.2.1 r.2.2.2.2.1 r.2.2.2.2.2.1 r.2.2.2.2.2.2.1 r.2.2.2.2.2.2.2.1 r.2.2.2.2.2.2.2.2.1 r.2.2.2.2.2.2.2.2.2
      refine ⟨Z, ?_⟩
      refine s_X5_scoreIfChosen_7 ?_
      unfold f_X5_scoreIfChosen_7_s
      refine Yd.neg (nI_ge (b := 24) (by omega) (by omega)) ?_
      refine Yd.neg (nI_ge hkn (by omega)) ?_
      rw [nI_sub (by omega), nI_min T (n - k * T) (by omega) (by omega)]
      refine Yd.bind hY (Yd.bind hbest (Yd.bind hs ?_))
      rw [nI_1, nI_add, show k * T + T = (k + 1) * T from (Nat.succ_mul k T).symm]
      exact ih1
  unfold f_X5_scoreIfChosen
  obtain ⟨Z, k⟩ := key (ct_ n T) 0 (by omega) fr0 my0 rc0 dc0 le0 iw0 fd0 dd0 ru0 di0
  rw [Nat.zero_mul] at k
  exact ⟨Z, k⟩
theorem op_bestSegmentSize (R : Rl rc ss pr tc tk tf tz tw en bc a ro si mp mq mk ma mb mw mv me) :
    ∃ r Z st' my', Yd (fun n => f_X5_bestSegmentSize n rc ss pr tc tk tf tz tw en pl a co fr0 my0 rc0 dc0 le0 iw0 fd0 dd0 ru0 di0 li) (r, Z) ∧ Yd (fun n => f_X6_bestSegmentSize n th ro mp mq st my mv mk ma mb mw) (r, 0, st', my') := by
  obtain ⟨n, S, Q, p, E, ⟨rfl, rfl, rfl, rfl, rfl, rfl, rfl, rfl⟩, ⟨h1, h2, h3, h4, h5⟩, hb, hq, hI, hm⟩ := R
  obtain ⟨qk1, qk2⟩ := QQ_ok hq
  have hw : ∀ q, q < Q → ∃ w, 1 ≤ w ∧ w ≤ 100 ∧ mw q = nI w := fun q hqq => (hq q hqq).2.2.2.2.2
  obtain ⟨pl', cv, li', hL, hc⟩ := q_loadColumn (co := co) (li := li) (pl := pl) hI hb h1 h2 h3
  have loop : ∀ d T, T + d = 33 → 5 ≤ T → ∀ (B : Nat) (fr0 my0 rc0 dc0 le0 iw0 fd0 dd0 : Int32) (ru0 di0 : Nat → Int32) (st my : Int32), 4 ≤ B → B ≤ 32 →
      ∃ r Z st' my', Yd (fun q => f_X5_bestSegmentSize_14 q (nI B) (tz2 (nI p) mk ma mb mw mv n B Q (ct_ n B)) (nI T) (nI n) (nI S) (nI p) (nI Q) tk tf tz tw en pl' a cv fr0 my0 rc0 dc0 le0 iw0 fd0 dd0 ru0 di0 li') (r, Z) ∧ Yd (fun q => f_X6_bestSegmentSize_11 q 11 (nI B) (tz2 (nI p) mk ma mb mw mv n B Q (ct_ n B)) (nI T) 0 0 0 (nI n) (nI p) (nI Q) st my mv mk ma mb mw) (r, 0, st', my') := by
    intro d
    induction d with
    | zero =>
      intro T hT hT5 B fr0 my0 rc0 dc0 le0 iw0 fd0 dd0 ru0 di0 st my hB1 hB2
      refine ⟨nI B, (pl', cv, fr0, my0, rc0, dc0, le0, iw0, fd0, dd0, ru0, di0, li'), st, my, ?_, ?_⟩
      · refine s_X5_bestSegmentSize_14 ?_
        unfold f_X5_bestSegmentSize_14_s
        exact Yd.pos (nI_lt (a := 32) (by omega) (by omega)) (Yd.ret _)
      · refine s_X6_bestSegmentSize_11 ?_
        unfold f_X6_bestSegmentSize_11_s
        exact Yd.pos rfl (Yd.pos (nI_lt (a := 32) (by omega) (by omega)) (Yd.ret _))
    | succ d ih =>
      intro T hT hT5 B fr0 my0 rc0 dc0 le0 iw0 fd0 dd0 ru0 di0 st my hB1 hB2
      have hctT := ct_le (n := n) (S := T) (by omega) h1
      obtain ⟨Z1, hC⟩ := q_ifChosen (T := T) (p := p) (cv := cv) h1 (by omega) (by omega) h4 hb hq hc fr0 my0 rc0 dc0 le0 iw0 fd0 dd0 ru0 di0
      have hne := tz2_ne (mk := mk) (ma := ma) (mb := mb) (T := B) h5 h4 h1 hB1 hB2 hb hw
      -- the model's loop over the segments of T rows
      have ml : ∀ (R : Int32 × Int32 × Int32 × Int32), (∀ s1 m1, ∃ s2 m2, Yd (fun q => (if tz2 (nI p) mk ma mb mw mv n T Q (ct_ n T) < tz2 (nI p) mk ma mb mw mv n B Q (ct_ n B) then (f_X6_bestSegmentSize_11 q 11 (nI T) (tz2 (nI p) mk ma mb mw mv n T Q (ct_ n T)) (nI T + 1) 0 0 0 (nI n) (nI p) (nI Q) s1 m1 mv mk ma mb mw) else (f_X6_bestSegmentSize_11 q 11 (nI B) (tz2 (nI p) mk ma mb mw mv n B Q (ct_ n B)) (nI T + 1) 0 0 0 (nI n) (nI p) (nI Q) s1 m1 mv mk ma mb mw))) (R.1, 0, s2, m2)) → ∀ e k, k + e = ct_ n T → ∀ s1 m1, ∃ s2 m2, Yd (fun q => f_X6_bestSegmentSize_11 q 23 (nI B) (tz2 (nI p) mk ma mb mw mv n B Q (ct_ n B)) (nI T) (tz2 (nI p) mk ma mb mw mv n T Q k) (nI k) 0 (nI n) (nI p) (nI Q) s1 m1 mv mk ma mb mw) (R.1, 0, s2, m2) := by
        intro R hend e
        induction e with
        | zero =>
          intro k hk s1 m1
          obtain ⟨s2, m2, he⟩ := hend s1 m1
          refine ⟨s2, m2, ?_⟩
          refine s_X6_bestSegmentSize_11 ?_
          unfold f_X6_bestSegmentSize_11_s
          refine Yd.neg (by decide) ?_
          refine Yd.bind (p_segs h1 (by omega) (by omega)) (Yd.pos (nI_le (by omega) (by omega)) ?_)
          rw [show k = ct_ n T by omega]
          exact Yd.neg hne he
        | succ e ih2 =>
          intro k hk s1 m1
          have hkn : k * T < n := (ct_lt (by omega)).mp (by omega)
          have hm0 : 0 < mr n T k := by unfold mr; omega
          have hm2 : k * T + mr n T k ≤ n := by unfold mr; omega
          obtain ⟨b1, b2⟩ := bE_ok (nI p) mk ma mb mw mv n T Q k
          obtain ⟨s2, m2, ih3⟩ := ih2 (k + 1) (by omega) (nI (k * T)) (nI (mr n T k))
          refine ⟨s2, m2, ?_⟩
          refine s_X6_bestSegmentSize_11 ?_
          unfold f_X6_bestSegmentSize_11_s
          refine Yd.neg (by decide) ?_
          refine Yd.bind (p_segs h1 (by omega) (by omega)) (Yd.neg (nI_ge (by omega) (by omega)) ?_)
          refine Yd.bind (p_chs h1 (by omega) hkn) ?_
          refine Yd.bind (p_best h4 qk2 (by omega) hm0 (seg_bd hb hkn)) ?_
          refine Yd.bind (p_score h4 qk2 (by omega) hm0 (seg_bd hb hkn) b1) ?_
          rw [nI_1]
          exact ih3
      have mstart : ∀ {R : Int32 × Int32 × Int32 × Int32} {s2 m2 : Int32}, Yd (fun q => f_X6_bestSegmentSize_11 q 23 (nI B) (tz2 (nI p) mk ma mb mw mv n B Q (ct_ n B)) (nI T) (tz2 (nI p) mk ma mb mw mv n T Q 0) (nI 0) 0 (nI n) (nI p) (nI Q) st my mv mk ma mb mw) (R.1, 0, s2, m2) → Yd (fun q => f_X6_bestSegmentSize_11 q 11 (nI B) (tz2 (nI p) mk ma mb mw mv n B Q (ct_ n B)) (nI T) 0 0 0 (nI n) (nI p) (nI Q) st my mv mk ma mb mw) (R.1, 0, s2, m2) := by
        intro R s2 m2 hR
        refine s_X6_bestSegmentSize_11 ?_
        unfold f_X6_bestSegmentSize_11_s
        refine Yd.pos rfl (Yd.neg (nI_nlt (a := 32) (b := T) (by omega) (by omega)) ?_)
        exact hR
      by_cases c : tz2 (nI p) mk ma mb mw mv n B Q (ct_ n B) ≤ tz2 (nI p) mk ma mb mw mv n T Q (ct_ n T)
      · have cn : ¬ tz2 (nI p) mk ma mb mw mv n T Q (ct_ n T) < tz2 (nI p) mk ma mb mw mv n B Q (ct_ n B) := fun h => by
          have q1 := Int32.le_iff_toInt_le.mp c
          have q2 := Int32.lt_iff_toInt_lt.mp h
          omega
        -- the class keeps B
        have hcl := ih (T + 1) (by omega) (by omega) B Z1.1 Z1.2.1 Z1.2.2.1 Z1.2.2.2.1 Z1.2.2.2.2.1 Z1.2.2.2.2.2.1 Z1.2.2.2.2.2.2.1 Z1.2.2.2.2.2.2.2.1 Z1.2.2.2.2.2.2.2.2.1 Z1.2.2.2.2.2.2.2.2.2
        obtain ⟨r, Z, s0, m0, hc1, -⟩ := hcl st my hB1 hB2
        have hM := ml (r, 0, 0, 0) (fun s1 m1 => by
          obtain ⟨r2, Z2, s2, m2, hc2, hm2⟩ := hcl s1 m1 hB1 hB2
          have er : r2 = r := by
            obtain ⟨N1, q1⟩ := hc1
            obtain ⟨N2, q2⟩ := hc2
            have w1 := q1 (N1 + N2) (by omega)
            have w2 := q2 (N1 + N2) (by omega)
            rw [w1] at w2
            exact (congrArg Prod.fst (Option.some.inj w2)).symm
          subst er
          refine ⟨s2, m2, Yd.neg cn ?_⟩
          rw [nI_1]
          exact hm2) (ct_ n T) 0 (by omega) st my
        obtain ⟨s2, m2, hM2⟩ := hM
        refine ⟨r, Z, s2, m2, ?_, mstart (R := (r, 0, 0, 0)) hM2⟩
        refine s_X5_bestSegmentSize_14 ?_
        unfold f_X5_bestSegmentSize_14_s
        refine Yd.neg (nI_nlt (a := 32) (b := T) (by omega) (by omega)) (Yd.bind hC (Yd.pos c ?_))
        rw [nI_1]
        exact hc1
      · have cn : tz2 (nI p) mk ma mb mw mv n T Q (ct_ n T) < tz2 (nI p) mk ma mb mw mv n B Q (ct_ n B) := by
          have q1 : ¬ (tz2 (nI p) mk ma mb mw mv n B Q (ct_ n B)).toInt ≤ (tz2 (nI p) mk ma mb mw mv n T Q (ct_ n T)).toInt := fun h => c (Int32.le_iff_toInt_le.mpr h)
          exact Int32.lt_iff_toInt_lt.mpr (by omega)
        have hcl := ih (T + 1) (by omega) (by omega) T Z1.1 Z1.2.1 Z1.2.2.1 Z1.2.2.2.1 Z1.2.2.2.2.1 Z1.2.2.2.2.2.1 Z1.2.2.2.2.2.2.1 Z1.2.2.2.2.2.2.2.1 Z1.2.2.2.2.2.2.2.2.1 Z1.2.2.2.2.2.2.2.2.2
        obtain ⟨r, Z, s0, m0, hc1, -⟩ := hcl st my (by omega) (by omega)
        have hM := ml (r, 0, 0, 0) (fun s1 m1 => by
          obtain ⟨r2, Z2, s2, m2, hc2, hm2⟩ := hcl s1 m1 (by omega) (by omega)
          have er : r2 = r := by
            obtain ⟨N1, q1⟩ := hc1
            obtain ⟨N2, q2⟩ := hc2
            have w1 := q1 (N1 + N2) (by omega)
            have w2 := q2 (N1 + N2) (by omega)
            rw [w1] at w2
            exact (congrArg Prod.fst (Option.some.inj w2)).symm
          subst er
          refine ⟨s2, m2, Yd.pos cn ?_⟩
          rw [nI_1]
          exact hm2) (ct_ n T) 0 (by omega) st my
        obtain ⟨s2, m2, hM2⟩ := hM
        refine ⟨r, Z, s2, m2, ?_, mstart (R := (r, 0, 0, 0)) hM2⟩
        refine s_X5_bestSegmentSize_14 ?_
        unfold f_X5_bestSegmentSize_14_s
        refine Yd.neg (nI_nlt (a := 32) (b := T) (by omega) (by omega)) (Yd.bind hC (Yd.neg c ?_))
        rw [nI_1]
        exact hc1
  -- the first size
  have hct4 := ct_le (n := n) (S := 4) (by omega) h1
  obtain ⟨Z1, hC⟩ := q_ifChosen (T := 4) (p := p) (cv := cv) h1 (by omega) (by omega) h4 hb hq hc fr0 my0 rc0 dc0 le0 iw0 fd0 dd0 ru0 di0
  have hcl := loop 28 5 (by omega) (by omega) 4 Z1.1 Z1.2.1 Z1.2.2.1 Z1.2.2.2.1 Z1.2.2.2.2.1 Z1.2.2.2.2.2.1 Z1.2.2.2.2.2.2.1 Z1.2.2.2.2.2.2.2.1 Z1.2.2.2.2.2.2.2.2.1 Z1.2.2.2.2.2.2.2.2.2
  obtain ⟨r, Z, s0, m0, hc1, -⟩ := hcl st my (by omega) (by omega)
  have ml4 : ∀ e k, k + e = ct_ n 4 → ∀ s1 m1, ∃ s2 m2, Yd (fun q => f_X6_bestSegmentSize_11 q 23 4 (-1) (nI 4) (tz2 (nI p) mk ma mb mw mv n 4 Q k) (nI k) 0 (nI n) (nI p) (nI Q) s1 m1 mv mk ma mb mw) (r, 0, s2, m2) := by
    intro e
    induction e with
    | zero =>
      intro k hk s1 m1
      obtain ⟨r2, Z2, s2, m2, hc2, hm2⟩ := hcl s1 m1 (by omega) (by omega)
      have er : r2 = r := by
        obtain ⟨N1, q1⟩ := hc1
        obtain ⟨N2, q2⟩ := hc2
        have w1 := q1 (N1 + N2) (by omega)
        have w2 := q2 (N1 + N2) (by omega)
        rw [w1] at w2
        exact (congrArg Prod.fst (Option.some.inj w2)).symm
      subst er
      refine ⟨s2, m2, ?_⟩
      refine s_X6_bestSegmentSize_11 ?_
      unfold f_X6_bestSegmentSize_11_s
      refine Yd.neg (by decide) ?_
      refine Yd.bind (p_segs h1 (by omega) (by omega)) (Yd.pos (nI_le (by omega) (by omega)) ?_)
      rw [show k = ct_ n 4 by omega, nI_1]
      exact Yd.pos rfl hm2
    | succ e ih2 =>
      intro k hk s1 m1
      have hkn : k * 4 < n := (ct_lt (by omega)).mp (by omega)
      have hm0 : 0 < mr n 4 k := by unfold mr; omega
      have hm2 : k * 4 + mr n 4 k ≤ n := by unfold mr; omega
      obtain ⟨b1, b2⟩ := bE_ok (nI p) mk ma mb mw mv n 4 Q k
      obtain ⟨s2, m2, ih3⟩ := ih2 (k + 1) (by omega) (nI (k * 4)) (nI (mr n 4 k))
      refine ⟨s2, m2, ?_⟩
      refine s_X6_bestSegmentSize_11 ?_
      unfold f_X6_bestSegmentSize_11_s
      refine Yd.neg (by decide) ?_
      refine Yd.bind (p_segs h1 (by omega) (by omega)) (Yd.neg (nI_ge (by omega) (by omega)) ?_)
      refine Yd.bind (p_chs h1 (by omega) hkn) ?_
      refine Yd.bind (p_best h4 qk2 (by omega) hm0 (seg_bd hb hkn)) ?_
      refine Yd.bind (p_score h4 qk2 (by omega) hm0 (seg_bd hb hkn) b1) ?_
      rw [nI_1]
      exact ih3
  obtain ⟨s2, m2, hM⟩ := ml4 (ct_ n 4) 0 (by omega) st my
  refine ⟨r, Z, s2, m2, ?_, ?_⟩
  · unfold f_X5_bestSegmentSize
    exact Yd.bind hL (Yd.bind hC hc1)
  · unfold f_X6_bestSegmentSize
    refine s_X6_bestSegmentSize_11 ?_
    unfold f_X6_bestSegmentSize_11_s
    exact Yd.pos rfl (Yd.neg (by decide) hM)
end PuX
