/-! the class: costs, scores, the best encoding, over a studied profile -/
section PuH
variable {g : Nat → Int32} {s m : Nat} {fr my rc dc le iw fd dd : Int32} {ru di : Nat → Int32}
theorem q_pcost (hP : PR g s m fr my rc dc le iw fd dd ru di) (hm2 : m ≤ 32) {j e : Nat} (hj : j < m) (he : e ≤ 5) : Yd (fun n => f_X2_costOfPoint n (nI j) (nI e) ru) (nI (cp g e j)) := by
  obtain ⟨e1, e2, e3, e4, e5, e6, e7, e8, e9, e10⟩ := hP
  unfold f_X2_costOfPoint cp
  by_cases h0 : e = 0
  · subst h0
    exact Yd.pos rfl (Yd.ret _)
  refine Yd.neg (e_ne (j := 0) h0 (by omega) (by omega)) ?_
  rw [if_neg h0]
  by_cases h1 : e = 1
  · subst h1
    exact Yd.pos rfl (Yd.ret _)
  refine Yd.neg (e_ne (j := 1) h1 (by omega) (by omega)) ?_
  rw [if_neg h1]
  by_cases h2 : e = 2
  · subst h2
    refine Yd.pos rfl (Yd.bind (q_get (by omega) (by omega)) (Yd.retE ?_))
    rw [e9 j hj]
    exact nI_add 1 _
  refine Yd.neg (e_ne (j := 2) h2 (by omega) (by omega)) ?_
  rw [if_neg h2]
  by_cases h3 : e = 3
  · subst h3
    exact Yd.pos rfl (Yd.ret _)
  refine Yd.neg (e_ne (j := 3) h3 (by omega) (by omega)) ?_
  by_cases h4 : e = 4
  · subst h4
    exact Yd.pos rfl (Yd.ret _)
  refine Yd.neg (e_ne (j := 4) h4 (by omega) (by omega)) ?_
  rw [if_pos (by omega)]
  exact Yd.retE (nI_1 _)
theorem q_scost (hP : PR g s m fr my rc dc le iw fd dd ru di) (hm2 : m ≤ 32) {f l e : Nat} (hl : l < m) (hf : f ≤ l) (he : e ≤ 5) : Yd (fun n => f_X2_costOfSum n (nI f) (nI l) (nI e) dc ru) (nI (cs g m e f l)) := by
  obtain ⟨e1, e2, e3, e4, e5, e6, e7, e8, e9, e10⟩ := hP
  unfold f_X2_costOfSum cs
  have ee : nI l - nI f = nI (l - f) := nI_sub hf
  by_cases h0 : e = 0
  · subst h0
    refine Yd.pos rfl (Yd.retE ?_)
    rw [ee]
    exact nI_1 _
  refine Yd.neg (e_ne (j := 0) h0 (by omega) (by omega)) ?_
  rw [if_neg h0]
  by_cases h1 : e = 1
  · subst h1
    exact Yd.pos rfl (Yd.ret _)
  refine Yd.neg (e_ne (j := 1) h1 (by omega) (by omega)) ?_
  rw [if_neg h1]
  by_cases h2 : e = 2
  · subst h2
    refine Yd.pos rfl (Yd.bind (q_get (by omega) (by omega)) (Yd.retE ?_))
    rw [e9 l hl]
    exact nI_add 1 _
  refine Yd.neg (e_ne (j := 2) h2 (by omega) (by omega)) ?_
  rw [if_neg h2]
  by_cases h3 : e = 3
  · subst h3
    refine Yd.pos rfl (Yd.retE ?_)
    rw [ee, nI_1, e4, nI_add]
    rfl
  refine Yd.neg (e_ne (j := 3) h3 (by omega) (by omega)) ?_
  rw [if_neg h3]
  by_cases h4 : e = 4
  · subst h4
    refine Yd.pos rfl (Yd.retE ?_)
    rw [ee, nI_1, nI_1]
    rfl
  refine Yd.neg (e_ne (j := 4) h4 (by omega) (by omega)) ?_
  rw [if_neg h4]
  exact Yd.retE (nI_1 _)
theorem q_ccost (hP : PR g s m fr my rc dc le iw fd dd ru di) (hm2 : m ≤ 32) {e : Nat} {a : Int32} (he : e ≤ 5) : Yd (fun n => f_X2_costOfCount n a (nI e) my rc dc le fd di) (nI (ct g m e a)) := by
  obtain ⟨e1, e2, e3, e4, e5, e6, e7, e8, e9, e10⟩ := hP
  have hdl := dl_len g m
  unfold f_X2_costOfCount ct
  by_cases h1 : e = 1
  · subst h1
    exact Yd.pos rfl (Yd.ret _)
  refine Yd.neg (e_ne (j := 1) h1 (by omega) (by omega)) ?_
  rw [if_neg h1]
  by_cases h2 : e = 2
  · subst h2
    refine Yd.pos rfl (Yd.retE ?_)
    rw [e3]
    exact nI_1 _
  refine Yd.neg (e_ne (j := 2) h2 (by omega) (by omega)) ?_
  rw [if_neg h2]
  by_cases h3 : e = 3
  · subst h3
    refine Yd.pos rfl ?_
    rw [e4]
    refine Yd.bind (q_find (L := dl g m) (dl_srt g m) (by omega) (by omega) e10 a) ?_
    rw [if_pos rfl]
    by_cases c1 : a ∈ dl g m
    · rw [if_pos c1, if_pos c1]
      have h5 := cb_le g a m
      refine Yd.neg (nI_pos (by omega)) (Yd.retE ?_)
      rw [e2]
      exact nI_add _ _
    · rw [if_neg c1, if_neg c1]
      exact Yd.pos (by decide) (Yd.retE (nI_add _ 0))
  refine Yd.neg (e_ne (j := 3) h3 (by omega) (by omega)) ?_
  rw [if_neg h3]
  by_cases h4 : e = 4
  · subst h4
    refine Yd.pos rfl ?_
    rw [if_pos rfl]
    by_cases c1 : a < mn g (m - 1)
    · rw [if_pos c1]
      have hb : Yd (fun n => f_X2_isInFrame n a le fd) false := by
        unfold f_X2_isInFrame
        rw [e5]
        exact Yd.pos c1 (Yd.ret _)
      exact Yd.bind hb (Yd.pos (by decide) (Yd.retE (nI_add 1 0)))
    · rw [if_neg c1]
      by_cases c2 : mn g (m - 1) + ((1 : Int32) <<< (nI (fw g m) &&& 31)) ≤ a
      · rw [if_pos c2]
        have hb : Yd (fun n => f_X2_isInFrame n a le fd) false := by
          unfold f_X2_isInFrame
          rw [e5, e7]
          exact Yd.neg c1 (Yd.pos c2 (Yd.ret _))
        exact Yd.bind hb (Yd.pos (by decide) (Yd.retE (nI_add 1 0)))
      · rw [if_neg c2]
        have hb : Yd (fun n => f_X2_isInFrame n a le fd) true := by
          unfold f_X2_isInFrame
          rw [e5, e7]
          exact Yd.neg c1 (Yd.neg c2 (Yd.ret _))
        refine Yd.bind hb (Yd.neg (by decide) (Yd.retE ?_))
        rw [e2]
        exact nI_add 1 _
  refine Yd.neg (e_ne (j := 4) h4 (by omega) (by omega)) ?_
  rw [if_neg h4]
  exact Yd.retE e2
theorem nI_subc {a b : Nat} (ha : a < 2 ^ 30) (hb : b < 2 ^ 30) : (if nI a - nI b < 0 then 0 else nI a - nI b) = nI (a - b) := by
  by_cases h : b ≤ a
  · rw [nI_sub h, if_neg (nI_pos (by omega))]
  · have e : (nI a - nI b).toInt = (a : Int) - b := by
      rw [Int32.toInt_sub, nI_toInt (by omega), nI_toInt (by omega), Int.bmod_eq_of_le] <;> omega
    rw [if_pos (Int32.lt_iff_toInt_lt.mpr (by rw [e]; show (a : Int) - b < 0; omega)), Nat.sub_eq_zero_of_le (by omega)]
    rfl
theorem q_cost {tk tf tz : Nat → Int32} {q e : Nat} (hP : PR g s m fr my rc dc le iw fd dd ru di) (hq : q < 20) (hk : Qok (tk q) (tf q) (tz q)) (h : s + m ≤ 96) (hm : 0 < m) (hm2 : m ≤ 32) (he : e ≤ 5) :
    Yd (fun n => f_X2_costOf n (nI q) (nI e) tk tf tz fr my rc dc le fd ru di) (nI (cq g s m e (tk q) (tf q) (tz q))) := by
  have hP0 := hP
  obtain ⟨e1, e2, e3, e4, e5, e6, e7, e8, e9, e10⟩ := hP
  have hA1 : Yd (fun n => f_X4_aOf n (nI q) tf) (tf q) := by
    unfold f_X4_aOf
    exact Yd.bind (q_get hq (by omega)) (Yd.ret _)
  have hK1 : Yd (fun n => f_X4_kindOf n (nI q) tk) (tk q) := by
    unfold f_X4_kindOf
    exact Yd.bind (q_get hq (by omega)) (Yd.ret _)
  have hB1 : Yd (fun n => f_X4_bOf n (nI q) tz) (tz q) := by
    unfold f_X4_bOf
    exact Yd.bind (q_get hq (by omega)) (Yd.ret _)
  unfold f_X2_costOf
  refine Yd.bind hA1 ?_
  refine Yd.bind hK1 ?_
  rw [e1, e2]
  rcases hk with ⟨k0, A, hA, eA⟩ | ⟨k1, A, B, hAB, hB, eA, eB⟩ | ⟨k2, h1, h2⟩
  · rw [k0, eA]
    refine Yd.pos rfl ?_
    unfold cq
    rw [if_pos rfl, nI_clamp (by omega)]
    by_cases c1 : A < s
    · refine Yd.pos (nI_lt c1 (by omega)) (Yd.retE ?_)
      rw [if_pos c1]
      rfl
    · refine Yd.neg (nI_nlt (by omega) (by omega)) ?_
      rw [if_neg c1, nI_subc (by omega) (by omega)]
      by_cases c2 : A < s + m
      · refine Yd.pos (nI_lt (by omega) (by omega)) ?_
        rw [if_pos c2]
        exact Yd.bind (q_pcost hP0 hm2 (by omega) he) (Yd.ret _)
      · refine Yd.neg (nI_nlt (by omega) (by omega)) (Yd.retE ?_)
        rw [if_neg c2]
        rfl
  · rw [k1]
    refine Yd.neg (by decide) ?_
    refine Yd.pos rfl ?_
    refine Yd.bind hB1 ?_
    rw [eA, eB, nI_subc (by omega) (by omega)]
    unfold cq
    rw [if_neg (show ¬ (1 : Int32) = 0 by decide), if_pos (rfl : (1 : Int32) = 1), nI_clamp (by omega), nI_clamp (by omega)]
    by_cases c0 : B ≤ s
    · rw [if_neg (show ¬ max A s < min B (s + m) by omega)]
      have e11 : (nI B - nI s).toInt = (B : Int) - s := by
        rw [Int32.toInt_sub, nI_toInt (by omega), nI_toInt (by omega), Int.bmod_eq_of_le] <;> omega
      have e12 : ¬ nI m < nI B - nI s := fun h9 => by
        have h10 := Int32.lt_iff_toInt_lt.mp h9
        rw [e11, nI_toInt (by omega)] at h10
        omega
      rw [if_neg e12]
      refine Yd.neg ?_ (Yd.retE rfl)
      intro h9
      have h10 := Int32.le_iff_toInt_le.mp h9
      have h11 : (1 : Int32).toInt = 1 := by decide
      rw [Int32.toInt_sub, e11, h11, nI_toInt (by omega), Int.bmod_eq_of_le (by omega) (by omega)] at h10
      omega
    · rw [nI_sub (a := B) (b := s) (by omega), nI_min (B - s) m (by omega) (by omega)]
      have hL : 1 ≤ min (B - s) m := by omega
      rw [show nI (min (B - s) m) - 1 = nI (min (B - s) m - 1) from nI_sub (b := 1) hL]
      by_cases c1 : max A s < min B (s + m)
      · refine Yd.pos (nI_le (by omega) (by omega)) ?_
        rw [if_pos c1, show max A s - s = A - s by omega, show min B (s + m) - 1 - s = min (B - s) m - 1 by omega]
        exact Yd.bind (q_scost hP0 hm2 (by omega) (by omega) he) (Yd.ret _)
      · refine Yd.neg (nI_ge (by omega) (by omega)) (Yd.retE ?_)
        rw [if_neg c1]
        rfl
  · rw [k2]
    refine Yd.neg (by decide) ?_
    refine Yd.neg (by decide) ?_
    unfold cq
    rw [if_neg (by decide), if_neg (by decide)]
    have h9 := q_ccost hP0 hm2 (a := tf q) he
    rw [e2] at h9
    exact Yd.bind h9 (Yd.ret _)
theorem q_score_loop {p : Int32} {tk tf tz tw : Nat → Int32} {Q e : Nat} (hP : PR g s m fr my rc dc le iw fd dd ru di) (hQ : Q ≤ 20) (hk : ∀ q, q < Q → Qok (tk q) (tf q) (tz q)) (h : s + m ≤ 96) (hm : 0 < m) (hm2 : m ≤ 32) (he : e ≤ 5) :
    ∀ d q, q + d = Q → Yd (fun n => f_X5_scoreOf_25 n (nI e) (sr p tk tf tz tw g s m e q) (nI Q) (nI q) p (nI Q) tk tf tz tw fr my rc dc le iw fd dd ru di) (sr p tk tf tz tw g s m e Q) := by
  intro d
  induction d with
  | zero =>
    intro q hq
    refine s_X5_scoreOf_25 ?_
    unfold f_X5_scoreOf_25_s
    refine Yd.pos (nI_le (by omega) (by omega)) (Yd.retE ?_)
    rw [show q = Q by omega]
  | succ d ih =>
    intro q hq
    refine s_X5_scoreOf_25 ?_
    unfold f_X5_scoreOf_25_s
    refine Yd.neg (nI_ge (by omega) (by omega)) ?_
    have hW1 : Yd (fun n => f_X4_weightOf n (nI q) tw) (tw q) := by
      unfold f_X4_weightOf
      exact Yd.bind (q_get (by omega) (by omega)) (Yd.ret _)
    refine Yd.bind hW1 ?_
    refine Yd.bind (q_cost hP (by omega) (hk q (by omega)) h hm hm2 he) ?_
    rw [nI_1]
    exact ih (q + 1) (by omega)
theorem q_score {p : Int32} {tk tf tz tw : Nat → Int32} {Q e : Nat} (hP : PR g s m fr my rc dc le iw fd dd ru di) (hQ : Q ≤ 20) (hk : ∀ q, q < Q → Qok (tk q) (tf q) (tz q)) (h : s + m ≤ 96) (hm : 0 < m) (hm2 : m ≤ 32) (he : e ≤ 5) (hp : psb g m e = true) :
    Yd (fun n => f_X5_scoreOf n (nI e) p (nI Q) tk tf tz tw fr my rc dc le iw fd dd ru di) (sr p tk tf tz tw g s m e Q) := by
  unfold f_X5_scoreOf
  refine Yd.bind (q_size hP hm hm2 he) ?_
  have e0 : szI g m e = nI (sz g m e) := by unfold szI; rw [if_pos hp]
  rw [e0]
  refine Yd.bind (a := nI Q) (by unfold f_X4_count; exact Yd.ret _) ?_
  exact q_score_loop hP hQ hk h hm hm2 he Q 0 (by omega)
theorem q_best_loop {p : Int32} {tk tf tz tw : Nat → Int32} {Q : Nat} (hP : PR g s m fr my rc dc le iw fd dd ru di) (hQ : Q ≤ 20) (hk : ∀ q, q < Q → Qok (tk q) (tf q) (tz q)) (h : s + m ≤ 96) (hm : 0 < m) (hm2 : m ≤ 32) :
    ∀ d k, k + d = 5 → Yd (fun n => f_X5_bestEncoding_10 n (nI (be (Sc p tk tf tz tw g s m Q) (psb g m) k)) (Sc p tk tf tz tw g s m Q (be (Sc p tk tf tz tw g s m Q) (psb g m) k)) (nI (k + 1)) p (nI Q) tk tf tz tw fr my rc dc le iw fd dd ru di) (nI (be (Sc p tk tf tz tw g s m Q) (psb g m) 5)) := by
  intro d
  induction d with
  | zero =>
    intro k hk2
    refine s_X5_bestEncoding_10 ?_
    unfold f_X5_bestEncoding_10_s
    rw [show k = 5 by omega]
    exact Yd.pos (by decide) (Yd.ret _)
  | succ d ih =>
    intro k hk2
    refine s_X5_bestEncoding_10 ?_
    unfold f_X5_bestEncoding_10_s
    refine Yd.neg (nI_nlt (a := 5) (b := k + 1) (by omega) (by omega)) ?_
    refine Yd.bind (q_possible hP hm2 (by omega)) ?_
    have ih1 := ih (k + 1) (by omega)
    rw [nI_1]
    unfold be at ih1
    by_cases c1 : psb g m (k + 1) = true
    · rw [c1]
      refine Yd.neg (by decide) ?_
      refine Yd.bind (q_score hP hQ hk h hm hm2 (by omega) c1) ?_
      by_cases c2 : Sc p tk tf tz tw g s m Q (be (Sc p tk tf tz tw g s m Q) (psb g m) k) ≤ Sc p tk tf tz tw g s m Q (k + 1)
      · rw [if_neg (fun h9 => h9.2 c2)] at ih1
        exact Yd.pos c2 ih1
      · rw [if_pos ⟨c1, c2⟩] at ih1
        exact Yd.neg c2 ih1
    · rw [if_neg (fun h9 => c1 h9.1)] at ih1
      rw [Bool.not_eq_true] at c1
      rw [c1]
      exact Yd.pos (by decide) ih1
theorem q_best {p : Int32} {tk tf tz tw : Nat → Int32} {Q : Nat} (hP : PR g s m fr my rc dc le iw fd dd ru di) (hQ : Q ≤ 20) (hk : ∀ q, q < Q → Qok (tk q) (tf q) (tz q)) (h : s + m ≤ 96) (hm : 0 < m) (hm2 : m ≤ 32) :
    Yd (fun n => f_X5_bestEncoding n p (nI Q) tk tf tz tw fr my rc dc le iw fd dd ru di) (nI (be (Sc p tk tf tz tw g s m Q) (psb g m) 5)) := by
  unfold f_X5_bestEncoding
  refine Yd.bind (q_score (e := 0) hP hQ hk h hm hm2 (by omega) rfl) ?_
  exact q_best_loop hP hQ hk h hm hm2 5 0 (by omega)
end PuH
