/-! the calls: answer, score, choose, use -/
section PuV
variable {rc ss pr tc : Int32} {tk tf tz tw en bc a : Nat → Int32} {ro si mp mq : Int32} {mk ma mb mw mv me : Nat → Int32}
variable {th st my bb pl fr0 my0 rc0 dc0 le0 iw0 fd0 dd0 : Int32} {bt co li ru0 di0 : Nat → Int32}
/-- the sum of the rows from A to B among the first k -/
def sm (V : Nat → Int32) (A B : Nat) : Nat → Int64
  | 0 => 0
  | k + 1 => if A ≤ k ∧ k < B then sm V A B k + (V k).toInt64 else sm V A B k
theorem sm_low (V : Nat → Int32) (A B : Nat) : ∀ k, k ≤ A → sm V A B k = 0
  | 0, _ => rfl
  | k + 1, h => by unfold sm; rw [if_neg (by omega), sm_low V A B k (by omega)]
theorem sm_high (V : Nat → Int32) (A B : Nat) (j : Nat) (hj : B ≤ j) : ∀ d, sm V A B (j + d) = sm V A B j
  | 0 => rfl
  | d + 1 => by
    show (if A ≤ j + d ∧ j + d < B then sm V A B (j + d) + (V (j + d)).toInt64 else sm V A B (j + d)) = _
    rw [if_neg (by omega), sm_high V A B j hj d]
/-- the rows with a value among the first k -/
def cw (V : Nat → Int32) (x : Int32) : Nat → Int64
  | 0 => 0
  | k + 1 => if V k = x then cw V x k + 1 else cw V x k
theorem op_answer (x : Int32) (R : Rl rc ss pr tc tk tf tz tw en bc a ro si mp mq mk ma mb mw mv me) :
    ∃ Z, (Yd (fun n => f_X5_answer n x rc ss tc tk tf tz en pl a co li) (.inl (xI, Z)) ∧ Yd (fun n => f_X6_answer n x th ro mq mv mk ma mb) (0, 1)) ∨ (∃ r, Yd (fun n => f_X5_answer n x rc ss tc tk tf tz en pl a co li) (.inr (r, Z)) ∧ Yd (fun n => f_X6_answer n x th ro mq mv mk ma mb) (r, 0)) := by
  obtain ⟨n, S, Q, p, E, ⟨rfl, rfl, rfl, rfl, rfl, rfl, rfl, rfl⟩, ⟨h1, h2, h3, h4, h5⟩, hb, hq, hI, hm⟩ := R
  rcases qu_cases (Q := Q) x h4 with ⟨q, hqQ, rfl, hcq⟩ | ⟨hz, hcq⟩
  · obtain ⟨e1, e2, e3, e4, e5, -⟩ := hq q hqQ
    obtain ⟨pl', co', li', hL, hco⟩ := q_loadColumn (co := co) (li := li) (pl := pl) hI hb h1 h2 h3
    have gA : Yd (fun k => f_X4_aOf k (nI q) tf) (ma q) := by
      unfold f_X4_aOf
      exact (Yd.bind (q_get (by omega) (by omega)) (Yd.ret _)).eq e2
    have gK : Yd (fun k => f_X4_kindOf k (nI q) tk) (mk q) := by
      unfold f_X4_kindOf
      exact (Yd.bind (q_get (by omega) (by omega)) (Yd.ret _)).eq e1
    have gB : Yd (fun k => f_X4_bOf k (nI q) tz) (mb q) := by
      unfold f_X4_bOf
      exact (Yd.bind (q_get (by omega) (by omega)) (Yd.ret _)).eq e3
    have gcol : ∀ i, i < n → Yd (fun k => f_X3_get k 96 (nI i) co') (mv i) := fun i hi => (q_get (by omega) (by omega)).eq (hco i hi)
    have hin : Yd (fun k => f_X6_isIn k (nI q).toInt64 0 (nI Q - 1)) true := by
      rw [show nI Q - 1 = nI (Q - 1) from nI_sub (b := 1) (by omega)]
      exact (p_isInN (lo := 0) (by omega) (by omega) (by omega)).eq (decide_eq_true ⟨by omega, by omega⟩)
    rcases e5 with ⟨k0, A, hA, eA⟩ | ⟨k1, A, B, hAB, hB, eA, eB⟩ | ⟨k2, q1, q2⟩
    · by_cases c : A < n
      · refine ⟨(pl', co', li'), Or.inr ⟨(mv A).toInt64, ?_, ?_⟩⟩
        · unfold f_X5_answer
          refine Yd.bind hcq (Yd.bind gA (Yd.bind hL (Yd.bind gK ?_)))
          rw [k0, eA]
          exact Yd.pos rfl (Yd.neg (nI_ge c (by omega)) (Yd.bind (gcol A c) (Yd.ret _)))
        · unfold f_X6_answer
          refine Yd.bind hin (Yd.neg pb_t ?_)
          refine Yd.rd (by omega) (by omega) (Yd.rd (by omega) (by omega) ?_)
          rw [k0, eA]
          exact Yd.pos rfl (Yd.neg (nI_ge c (by omega)) (Yd.rd (by omega) (by omega) (Yd.ret _)))
      · refine ⟨(pl', co', li'), Or.inr ⟨0, ?_, ?_⟩⟩
        · unfold f_X5_answer
          refine Yd.bind hcq (Yd.bind gA (Yd.bind hL (Yd.bind gK ?_)))
          rw [k0, eA]
          exact Yd.pos rfl (Yd.pos (nI_le (by omega) (by omega)) (Yd.ret _))
        · unfold f_X6_answer
          refine Yd.bind hin (Yd.neg pb_t ?_)
          refine Yd.rd (by omega) (by omega) (Yd.rd (by omega) (by omega) ?_)
          rw [k0, eA]
          exact Yd.pos rfl (Yd.pos (nI_le (by omega) (by omega)) (Yd.ret _))
    · have cl : ∀ d r, r + d = max A (min B n) → A ≤ r → Yd (fun k => f_X5_sumOfRows_5 k (nI (min B n)) (sm mv A B r) (nI r) co') (sm mv A B n) := by
        intro d
        induction d with
        | zero =>
          intro r hr hAr
          refine s_X5_sumOfRows_5 ?_
          unfold f_X5_sumOfRows_5_s
          refine Yd.pos (nI_le (by omega) (by omega)) (Yd.retE ?_)
          by_cases c : n ≤ A
          · rw [sm_low mv A B r (by omega), sm_low mv A B n (by omega)]
          · by_cases c2 : B ≤ n
            · have := sm_high mv A B r (by omega) (n - r)
              rw [show r + (n - r) = n by omega] at this
              exact this.symm
            · rw [show r = n by omega]
        | succ d ih =>
          intro r hr hAr
          refine s_X5_sumOfRows_5 ?_
          unfold f_X5_sumOfRows_5_s
          refine Yd.neg (nI_ge (by omega) (by omega)) ?_
          refine Yd.bind (gcol r (by omega)) ?_
          have ih1 := ih (r + 1) (by omega) (by omega)
          rw [show sm mv A B (r + 1) = sm mv A B r + (mv r).toInt64 from if_pos (by omega)] at ih1
          rw [nI_1]
          exact ih1
      have ml : ∀ d r, r + d = n → Yd (fun k => f_X6_answer_68 k (nI q) (nI A) (sm mv A B r) (nI r) 0 (nI n) (nI Q) mv mk ma mb) (sm mv A B n, 0) := by
        intro d
        induction d with
        | zero =>
          intro r hr
          refine s_X6_answer_68 ?_
          unfold f_X6_answer_68_s
          refine Yd.pos (nI_le (by omega) (by omega)) (Yd.retE ?_)
          rw [show r = n by omega]
        | succ d ih =>
          intro r hr
          have ih1 := ih (r + 1) (by omega)
          refine s_X6_answer_68 ?_
          unfold f_X6_answer_68_s
          refine Yd.neg (nI_ge (by omega) (by omega)) ?_
          refine Yd.rd (by omega) (by omega) ?_
          rw [k1]
          refine Yd.pos rfl ?_
          rw [nI_1, Int64.add_zero]
          by_cases c1 : r < A
          · rw [show sm mv A B (r + 1) = sm mv A B r from if_neg (by omega)] at ih1
            exact Yd.pos (nI_lt c1 (by omega)) ih1
          · refine Yd.neg (nI_nlt (by omega) (by omega)) ?_
            refine Yd.rd (by omega) (by omega) ?_
            rw [eB]
            by_cases c2 : B ≤ r
            · rw [show sm mv A B (r + 1) = sm mv A B r from if_neg (by omega)] at ih1
              exact Yd.pos (nI_le c2 (by omega)) ih1
            · rw [show sm mv A B (r + 1) = sm mv A B r + (mv r).toInt64 from if_pos (by omega)] at ih1
              exact Yd.neg (nI_ge (by omega) (by omega)) (Yd.rd (by omega) (by omega) ih1)
      refine ⟨(pl', co', li'), Or.inr ⟨sm mv A B n, ?_, ?_⟩⟩
      · unfold f_X5_answer
        refine Yd.bind hcq (Yd.bind gA (Yd.bind hL (Yd.bind gK ?_)))
        rw [k1]
        refine Yd.neg (by decide) (Yd.pos rfl ?_)
        refine Yd.bind gB ?_
        rw [eA, eB, nI_min B n (by omega) (by omega)]
        refine Yd.bind (a := sm mv A B n) ?_ (Yd.ret _)
        unfold f_X5_sumOfRows
        have k := cl (max A (min B n) - A) A (by omega) (Nat.le_refl _)
        rw [sm_low mv A B A (Nat.le_refl _)] at k
        exact k
      · unfold f_X6_answer
        refine Yd.bind hin (Yd.neg pb_t ?_)
        refine Yd.rd (by omega) (by omega) (Yd.rd (by omega) (by omega) ?_)
        rw [k1, eA]
        exact Yd.neg (by decide) (ml n 0 (by omega))
    · have cl : ∀ d r, r + d = n → Yd (fun k => f_X5_rowsWith_5 k (ma q) (cw mv (ma q) r) (nI r) (nI n) co') (cw mv (ma q) n) := by
        intro d
        induction d with
        | zero =>
          intro r hr
          refine s_X5_rowsWith_5 ?_
          unfold f_X5_rowsWith_5_s
          refine Yd.pos (nI_le (by omega) (by omega)) (Yd.retE ?_)
          rw [show r = n by omega]
        | succ d ih =>
          intro r hr
          have ih1 := ih (r + 1) (by omega)
          refine s_X5_rowsWith_5 ?_
          unfold f_X5_rowsWith_5_s
          refine Yd.neg (nI_ge (by omega) (by omega)) ?_
          refine Yd.bind (gcol r (by omega)) ?_
          rw [nI_1]
          by_cases c : mv r = ma q
          · rw [show cw mv (ma q) (r + 1) = cw mv (ma q) r + 1 from if_pos c] at ih1
            exact Yd.pos c ih1
          · rw [show cw mv (ma q) (r + 1) = cw mv (ma q) r from if_neg c] at ih1
            exact Yd.neg c ih1
      have ml : ∀ d r, r + d = n → Yd (fun k => f_X6_answer_68 k (nI q) (ma q) (cw mv (ma q) r) (nI r) 0 (nI n) (nI Q) mv mk ma mb) (cw mv (ma q) n, 0) := by
        intro d
        induction d with
        | zero =>
          intro r hr
          refine s_X6_answer_68 ?_
          unfold f_X6_answer_68_s
          refine Yd.pos (nI_le (by omega) (by omega)) (Yd.retE ?_)
          rw [show r = n by omega]
        | succ d ih =>
          intro r hr
          have ih1 := ih (r + 1) (by omega)
          refine s_X6_answer_68 ?_
          unfold f_X6_answer_68_s
          refine Yd.neg (nI_ge (by omega) (by omega)) ?_
          refine Yd.rd (by omega) (by omega) ?_
          rw [k2]
          refine Yd.neg (by decide) ?_
          refine Yd.rd (by omega) (by omega) ?_
          rw [nI_1, Int64.add_zero]
          by_cases c : mv r = ma q
          · rw [show cw mv (ma q) (r + 1) = cw mv (ma q) r + 1 from if_pos c] at ih1
            exact Yd.pos c ih1
          · rw [show cw mv (ma q) (r + 1) = cw mv (ma q) r from if_neg c] at ih1
            exact Yd.neg c ih1
      refine ⟨(pl', co', li'), Or.inr ⟨cw mv (ma q) n, ?_, ?_⟩⟩
      · unfold f_X5_answer
        refine Yd.bind hcq (Yd.bind gA (Yd.bind hL (Yd.bind gK ?_)))
        rw [k2]
        refine Yd.neg (by decide) (Yd.neg (by decide) ?_)
        refine Yd.bind (a := cw mv (ma q) n) ?_ (Yd.ret _)
        unfold f_X5_rowsWith
        exact cl n 0 (by omega)
      · unfold f_X6_answer
        refine Yd.bind hin (Yd.neg pb_t ?_)
        refine Yd.rd (by omega) (by omega) (Yd.rd (by omega) (by omega) ?_)
        rw [k2]
        exact Yd.neg (by decide) (ml n 0 (by omega))
  · refine ⟨(pl, co, li), Or.inl ⟨?_, ?_⟩⟩
    · unfold f_X5_answer
      exact Yd.bind hcq (Yd.ret _)
    · unfold f_X6_answer
      have hf : ¬ (0 ≤ x ∧ x ≤ nI Q - 1) := by
        intro q
        rcases hz with c | ⟨k, hk, rfl, hQk⟩
        · have q1 := Int32.lt_iff_toInt_lt.mp c
          have q2 := Int32.le_iff_toInt_le.mp q.1
          omega
        · have e : (nI Q - 1).toInt = (Q : Int) - 1 := by
            have e1 : (1 : Int32).toInt = 1 := by decide
            rw [Int32.toInt_sub, nI_toInt (by omega), e1, Int.bmod_eq_of_le] <;> omega
          have q2 := Int32.le_iff_toInt_le.mp q.2
          rw [e, nI_toInt hk] at q2
          omega
      refine Yd.bind ((p_isInI x 0 (nI Q - 1)).eq (decide_eq_false hf)) (Yd.pos pb_f ?_)
      exact Yd.bind (a := (0, 1)) (by unfold f_X6_fail; exact Yd.ret _) (Yd.ret _)
/-- the scores of the first k segments -/
def ts (p : Int32) (mk ma mb mw V : Nat → Int32) (n S Q : Nat) (E : Nat → Nat) : Nat → Int32
  | 0 => 0
  | k + 1 => ts p mk ma mb mw V n S Q E k + sr p mk ma mb mw (sg V (k * S)) (k * S) (mr n S k) (E k) Q
theorem op_score (R : Rl rc ss pr tc tk tf tz tw en bc a ro si mp mq mk ma mb mw mv me) :
    ∃ r Z st' my', Yd (fun n => f_X5_score n rc ss pr tc tk tf tz tw en pl a co fr0 my0 rc0 dc0 le0 iw0 fd0 dd0 ru0 di0 li) (r, Z) ∧ Yd (fun n => f_X6_score n th ro si mp mq st my mv me mk ma mb mw) (r, 0, st', my') := by
  obtain ⟨n, S, Q, p, E, ⟨rfl, rfl, rfl, rfl, rfl, rfl, rfl, rfl⟩, ⟨h1, h2, h3, h4, h5⟩, hb, hq, hI, hm⟩ := R
  obtain ⟨qk1, qk2⟩ := QQ_ok hq
  have hct := ct_le h2 h1
  have cl : ∀ d k, k + d = ct_ n S → ∀ pl co fr0 my0 rc0 dc0 le0 iw0 fd0 dd0 ru0 di0 li, ∃ Z, Yd (fun q => f_X5_score_9 q (ts (nI p) mk ma mb mw mv n S Q E k) (nI (ct_ n S)) (nI k) (nI n) (nI S) (nI p) (nI Q) tk tf tz tw en pl a co fr0 my0 rc0 dc0 le0 iw0 fd0 dd0 ru0 di0 li) (ts (nI p) mk ma mb mw mv n S Q E (ct_ n S), Z) := by
    intro d
    induction d with
    | zero =>
      intro k hk pl co fr0 my0 rc0 dc0 le0 iw0 fd0 dd0 ru0 di0 li
      refine ⟨(pl, co, fr0, my0, rc0, dc0, le0, iw0, fd0, dd0, ru0, di0, li), ?_⟩
      refine s_X5_score_9 ?_
      unfold f_X5_score_9_s
      refine Yd.pos (nI_le (by omega) (by omega)) (Yd.retE ?_)
      rw [show k = ct_ n S by omega]
    | succ d ih =>
      intro k hk pl co fr0 my0 rc0 dc0 le0 iw0 fd0 dd0 ru0 di0 li
      have hkn : k * S < n := (ct_lt (by omega)).mp (by omega)
      have hm0 : 0 < mr n S k := by unfold mr; omega
      have hm1 : mr n S k ≤ S := by unfold mr; omega
      have hm2 : k * S + mr n S k ≤ n := by unfold mr; omega
      obtain ⟨i1, i2, i3, i4, i5⟩ := hI k hkn
      obtain ⟨pl', li', r, hY, hPR⟩ := q_cstudy (co := co) (li := li) (pl := pl) (fr0 := fr0) (my0 := my0) (rc0 := rc0) (dc0 := dc0) (le0 := le0) (iw0 := iw0) (fd0 := fd0) (dd0 := dd0) (ru0 := ru0) (di0 := di0) hI hb h1 h2 h3 hkn
      obtain ⟨Z, ih1⟩ := ih (k + 1) (by omega) pl' (fl co (k * S) (mr n S k) (sg mv (k * S))) r.1 r.2.1 r.2.2.1 r.2.2.2.1 r.2.2.2.2.1 r.2.2.2.2.2.1 r.2.2.2.2.2.2.1 r.2.2.2.2.2.2.2.1 r.2.2.2.2.2.2.2.2.1 r.2.2.2.2.2.2.2.2.2 li'
      refine ⟨Z, ?_⟩
      refine s_X5_score_9 ?_
      unfold f_X5_score_9_s
      refine Yd.neg (nI_ge (by omega) (by omega)) ?_
      refine Yd.bind hY ?_
      have g2 := q_get (a := en) (N := 24) (i := k) (by omega) (by omega)
      rw [i1] at g2
      refine Yd.bind g2 ?_
      have hs := q_score (p := nI p) (tw := tw) hPR h4 qk1 (by omega) hm0 (by omega) i2 i3
      rw [sr_cg hq Q (Nat.le_refl _)] at hs
      refine Yd.bind hs ?_
      rw [nI_1]
      exact ih1
  have ml : ∀ d k, k + d = ct_ n S → ∀ st my, ∃ st' my', Yd (fun q => f_X6_score_9 q (ts (nI p) mk ma mb mw mv n S Q E k) (nI k) 0 (nI n) (nI S) (nI p) (nI Q) st my mv me mk ma mb mw) (ts (nI p) mk ma mb mw mv n S Q E (ct_ n S), 0, st', my') := by
    intro d
    induction d with
    | zero =>
      intro k hk st my
      refine ⟨st, my, ?_⟩
      refine s_X6_score_9 ?_
      unfold f_X6_score_9_s
      refine Yd.bind (p_segs h1 h2 h3) ?_
      refine Yd.pos (nI_le (by omega) (by omega)) (Yd.retE ?_)
      rw [show k = ct_ n S by omega]
    | succ d ih =>
      intro k hk st my
      have hkn : k * S < n := (ct_lt (by omega)).mp (by omega)
      have hm0 : 0 < mr n S k := by unfold mr; omega
      have hm2 : k * S + mr n S k ≤ n := by unfold mr; omega
      obtain ⟨st', my', ih1⟩ := ih (k + 1) (by omega) (nI (k * S)) (nI (mr n S k))
      refine ⟨st', my', ?_⟩
      refine s_X6_score_9 ?_
      unfold f_X6_score_9_s
      refine Yd.bind (p_segs h1 h2 h3) ?_
      refine Yd.neg (nI_ge (by omega) (by omega)) ?_
      refine Yd.bind (p_chs h1 h3 hkn) ?_
      refine Yd.rd (by omega) (by omega) ?_
      rw [hm k hkn]
      refine Yd.bind (p_score h4 qk2 (by omega) hm0 (seg_bd hb hkn) (hI k hkn).2.1) ?_
      rw [nI_1]
      exact ih1
  obtain ⟨Z, hC⟩ := cl (ct_ n S) 0 (by omega) pl co fr0 my0 rc0 dc0 le0 iw0 fd0 dd0 ru0 di0 li
  obtain ⟨st', my', hM⟩ := ml (ct_ n S) 0 (by omega) st my
  refine ⟨ts (nI p) mk ma mb mw mv n S Q E (ct_ n S), Z, st', my', ?_, ?_⟩
  · unfold f_X5_score
    exact Yd.bind (q_segCount h1 h2 h3) hC
  · unfold f_X6_score
    exact hM
end PuV
