/-! costs, scores and the best encoding: the reference; and the class's rows and profile -/
section PuF
theorem nI_min (a b : Nat) (ha : a < 2 ^ 31) (hb : b < 2 ^ 31) : (if nI b < nI a then nI b else nI a) = nI (min a b) := by
  by_cases h : b < a
  · rw [if_pos (nI_lt h ha), Nat.min_eq_right (by omega)]
  · rw [if_neg (nI_nlt (by omega) hb), Nat.min_eq_left (by omega)]
variable {mv : Nat → Int32} {s m : Nat}
theorem p_cost {mk ma mb : Nat → Int32} {q e : Nat} (hq : q < 20) (hk : Qok (mk q) (ma q) (mb q)) (h : s + m ≤ 96) (hm : 0 < m) (hb : Bd (sg mv s) m) (he : e ≤ 5) :
    Yd (fun n => f_X6_costOf n (nI q) (nI e) (nI s) (nI m) mv mk ma mb) (nI (cq (sg mv s) s m e (mk q) (ma q) (mb q))) := by
  unfold f_X6_costOf
  refine Yd.rd hq (by omega) ?_
  refine Yd.rd hq (by omega) ?_
  rcases hk with ⟨k0, A, hA, eA⟩ | ⟨k1, A, B, hAB, hB, eA, eB⟩ | ⟨k2, h1, h2⟩
  · rw [k0, eA]
    refine Yd.pos rfl ?_
    unfold cq
    rw [if_pos rfl, nI_clamp (by omega)]
    by_cases c1 : A < s
    · refine Yd.pos (nI_lt c1 (by omega)) (Yd.retE ?_)
      rw [if_pos c1]
      rfl
    · refine Yd.neg (nI_nlt (by omega) (by omega)) ?_
      rw [if_neg c1, nI_add]
      by_cases c2 : A < s + m
      · refine Yd.pos (nI_lt c2 (by omega)) ?_
        rw [if_pos c2, nI_sub (by omega)]
        exact Yd.bind (p_pcost (by omega) he) (Yd.ret _)
      · refine Yd.neg (nI_nlt (by omega) (by omega)) (Yd.retE ?_)
        rw [if_neg c2]
        rfl
  · rw [k1]
    refine Yd.neg (by decide) ?_
    refine Yd.rd hq (by omega) ?_
    rw [k1]
    refine Yd.pos rfl ?_
    refine Yd.rd hq (by omega) ?_
    rw [eA, eB, nI_max A s (by omega) (by omega), nI_add, nI_min B (s + m) (by omega) (by omega)]
    have hL : 1 ≤ min B (s + m) := by omega
    rw [show nI (min B (s + m)) - 1 = nI (min B (s + m) - 1) from nI_sub (b := 1) hL]
    unfold cq
    rw [if_neg (by decide), if_pos rfl, nI_clamp (by omega), nI_clamp (by omega)]
    by_cases c1 : max A s < min B (s + m)
    · refine Yd.pos (nI_le (by omega) (by omega)) ?_
      rw [if_pos c1, nI_sub (by omega), nI_sub (by omega)]
      exact Yd.bind (p_scost h hb (by omega) (by omega) he) (Yd.ret _)
    · refine Yd.neg (nI_ge (by omega) (by omega)) (Yd.retE ?_)
      rw [if_neg c1]
      rfl
  · rw [k2]
    refine Yd.neg (by decide) ?_
    refine Yd.rd hq (by omega) ?_
    rw [k2]
    refine Yd.neg (by decide) ?_
    unfold cq
    rw [if_neg (by decide), if_neg (by decide)]
    exact Yd.bind (p_ccost h hm hb (by omega) he) (Yd.ret _)
theorem p_score_loop {p : Int32} {mk ma mb mw : Nat → Int32} {Q e : Nat} (hQ : Q ≤ 20) (hk : ∀ q, q < Q → Qok (mk q) (ma q) (mb q)) (h : s + m ≤ 96) (hm : 0 < m) (hb : Bd (sg mv s) m) (he : e ≤ 5) :
    ∀ d q, q + d = Q → Yd (fun n => f_X6_scoreOf_13 n (nI e) (sr p mk ma mb mw (sg mv s) s m e q) (nI q) p (nI Q) (nI s) (nI m) mv mk ma mb mw) (sr p mk ma mb mw (sg mv s) s m e Q) := by
  intro d
  induction d with
  | zero =>
    intro q hq
    refine s_X6_scoreOf_13 ?_
    unfold f_X6_scoreOf_13_s
    refine Yd.pos (nI_le (by omega) (by omega)) (Yd.retE ?_)
    rw [show q = Q by omega]
  | succ d ih =>
    intro q hq
    refine s_X6_scoreOf_13 ?_
    unfold f_X6_scoreOf_13_s
    refine Yd.neg (nI_ge (by omega) (by omega)) ?_
    refine Yd.rd (by omega) (by omega) ?_
    refine Yd.bind (p_cost (by omega) (hk q (by omega)) h hm hb he) ?_
    rw [nI_1]
    exact ih (q + 1) (by omega)
theorem p_score {p : Int32} {mk ma mb mw : Nat → Int32} {Q e : Nat} (hQ : Q ≤ 20) (hk : ∀ q, q < Q → Qok (mk q) (ma q) (mb q)) (h : s + m ≤ 96) (hm : 0 < m) (hb : Bd (sg mv s) m) (he : e ≤ 5) :
    Yd (fun n => f_X6_scoreOf n (nI e) p (nI Q) (nI s) (nI m) mv mk ma mb mw) (sr p mk ma mb mw (sg mv s) s m e Q) := by
  unfold f_X6_scoreOf
  refine Yd.bind (p_size h hm hb he) ?_
  exact p_score_loop hQ hk h hm hb he Q 0 (by omega)
abbrev Sc (p : Int32) (mk ma mb mw : Nat → Int32) (g : Nat → Int32) (s m Q : Nat) : Nat → Int32 := fun e => sr p mk ma mb mw g s m e Q
theorem p_best_loop {p : Int32} {mk ma mb mw : Nat → Int32} {Q : Nat} (hQ : Q ≤ 20) (hk : ∀ q, q < Q → Qok (mk q) (ma q) (mb q)) (h : s + m ≤ 96) (hm : 0 < m) (hb : Bd (sg mv s) m) :
    ∀ d k, k + d = 5 → Yd (fun n => f_X6_best_4 n (nI (be (Sc p mk ma mb mw (sg mv s) s m Q) (psb (sg mv s) m) k)) (nI (k + 1)) p (nI Q) (nI s) (nI m) mv mk ma mb mw) (nI (be (Sc p mk ma mb mw (sg mv s) s m Q) (psb (sg mv s) m) 5)) := by
  intro d
  induction d with
  | zero =>
    intro k hk2
    refine s_X6_best_4 ?_
    unfold f_X6_best_4_s
    rw [show k = 5 by omega]
    exact Yd.pos (by decide) (Yd.ret _)
  | succ d ih =>
    intro k hk2
    refine s_X6_best_4 ?_
    unfold f_X6_best_4_s
    refine Yd.neg (nI_ge (a := k + 1) (b := 6) (by omega) (by omega)) ?_
    refine Yd.bind (p_possible h hm (by omega)) ?_
    have ih1 := ih (k + 1) (by omega)
    have hbe := be_le (Sc p mk ma mb mw (sg mv s) s m Q) (psb (sg mv s) m) k
    rw [nI_1]
    unfold be at ih1
    by_cases c1 : psb (sg mv s) m (k + 1) = true
    · rw [c1]
      refine Yd.neg (by decide) ?_
      refine Yd.bind (p_score hQ hk h hm hb (by omega)) ?_
      refine Yd.bind (p_score hQ hk h hm hb (by omega)) ?_
      by_cases c2 : Sc p mk ma mb mw (sg mv s) s m Q (be (Sc p mk ma mb mw (sg mv s) s m Q) (psb (sg mv s) m) k) ≤ Sc p mk ma mb mw (sg mv s) s m Q (k + 1)
      · rw [if_neg (fun h9 => h9.2 c2)] at ih1
        exact Yd.pos c2 ih1
      · rw [if_pos ⟨c1, c2⟩] at ih1
        exact Yd.neg c2 ih1
    · rw [if_neg (fun h9 => c1 h9.1)] at ih1
      rw [Bool.not_eq_true] at c1
      rw [c1]
      exact Yd.pos (by decide) ih1
theorem p_best {p : Int32} {mk ma mb mw : Nat → Int32} {Q : Nat} (hQ : Q ≤ 20) (hk : ∀ q, q < Q → Qok (mk q) (ma q) (mb q)) (h : s + m ≤ 96) (hm : 0 < m) (hb : Bd (sg mv s) m) :
    Yd (fun n => f_X6_best n p (nI Q) (nI s) (nI m) mv mk ma mb mw) (nI (be (Sc p mk ma mb mw (sg mv s) s m Q) (psb (sg mv s) m) 5)) := by
  unfold f_X6_best
  exact p_best_loop hQ hk h hm hb 5 0 (by omega)
end PuF
section PuG
/-! the class: rows -/
theorem q_get {a : Nat → Int32} {N i : Nat} (h : i < N) (hN : N ≤ 100000) : Yd (fun n => f_X3_get n N (nI i) a) (a i) := by
  unfold f_X3_get
  refine Yd.neg (nI_pos (by omega)) ?_
  refine Yd.neg (nI_ge h (by omega)) ?_
  exact Yd.rd h hN (Yd.ret _)
theorem q_put {a : Nat → Int32} {N i : Nat} {x : Int32} (h : i < N) (hN : N ≤ 100000) : Yd (fun n => f_X3_put n N (nI i) x a) (upd a i x) := by
  unfold f_X3_put
  refine Yd.neg (nI_pos (by omega)) ?_
  refine Yd.neg (nI_ge h (by omega)) ?_
  exact Yd.wr h hN (Yd.ret _)
theorem srt_idx : ∀ {L : List Int32}, Srt L → ∀ (i : Nat) (h : i < L.length), cb (L[i]) L = i
  | [], _, i, h => absurd h (by simp)
  | x :: L, hs, 0, _ => by
    obtain ⟨hx, hL⟩ := List.pairwise_cons.mp hs
    show cb x (x :: L) = 0
    unfold cb
    rw [List.countP_eq_zero]
    intro y hy
    rcases List.mem_cons.mp hy with h1 | h1
    · rw [h1]; simp [i_irr]
    · have h2 := hx y h1
      have h3 : ¬ y < x := fun h4 => i_irr _ (i_trans h2 h4)
      simp [h3]
  | x :: L, hs, i + 1, h => by
    obtain ⟨hx, hL⟩ := List.pairwise_cons.mp hs
    have h1 : i < L.length := by simpa using h
    have ih := srt_idx hL i h1
    show cb (L[i]) (x :: L) = i + 1
    have h2 := hx (L[i]) (List.getElem_mem h1)
    simp only [cb, List.countP_cons, h2, decide_true, if_true] at ih ⊢
    omega
theorem srt_mem {L : List Int32} (hs : Srt L) {v : Int32} (h : v ∈ L) : ∃ h1 : cb v L < L.length, L[cb v L] = v := by
  obtain ⟨i, hi, e⟩ := List.mem_iff_getElem.mp h
  have h1 := srt_idx hs i hi
  rw [e] at h1
  refine ⟨by omega, ?_⟩
  simp only [h1, e]
theorem q_find {a : Nat → Int32} {N : Nat} {L : List Int32} (hs : Srt L) (hL : L.length ≤ N) (hN : N ≤ 100000) (ha : ∀ i (h : i < L.length), a i = L[i]) (v : Int32) :
    Yd (fun n => f_X3_find n N v (nI L.length) a) (if v ∈ L then nI (cb v L) else -1) := by
  have key : ∀ d i, i + d = L.length → (∀ j (h : j < L.length), j < i → L[j] ≠ v) → Yd (fun n => f_X3_find_2 n N v (nI L.length) (nI i) a) (if v ∈ L then nI (cb v L) else -1) := by
    intro d
    induction d with
    | zero =>
      intro i hi hj
      refine s_X3_find_2 ?_
      unfold f_X3_find_2_s
      refine Yd.pos (nI_le (by omega) (by omega)) (Yd.retE ?_)
      rw [if_neg]
      intro hm
      obtain ⟨h1, h2⟩ := srt_mem hs hm
      exact hj _ h1 (by omega) h2
    | succ d ih =>
      intro i hi hj
      have hlt : i < L.length := by omega
      refine s_X3_find_2 ?_
      unfold f_X3_find_2_s
      refine Yd.neg (nI_ge hlt (by omega)) ?_
      refine Yd.neg (nI_ge (a := i) (b := N) (by omega) (by omega)) ?_
      refine Yd.rd (by omega) hN ?_
      rw [ha i hlt]
      by_cases c1 : L[i] = v
      · refine Yd.pos c1 (Yd.retE ?_)
        have hm : v ∈ L := by rw [← c1]; exact List.getElem_mem hlt
        rw [if_pos hm]
        have h1 := srt_idx hs i hlt
        rw [c1] at h1
        rw [h1]
      · refine Yd.neg c1 ?_
        rw [nI_1]
        refine ih (i + 1) (by omega) (fun j h hji => ?_)
        by_cases c2 : j = i
        · subst c2; exact c1
        · exact hj j h (by omega)
  unfold f_X3_find
  exact key L.length 0 (by omega) (fun j h hj => by omega)
/-- what a profile holds when the segment g of m rows from row s on was studied -/
def PR (g : Nat → Int32) (s m : Nat) (fr my rc dc le iw fd dd : Int32) (ru di : Nat → Int32) : Prop :=
  fr = nI s ∧ my = nI m ∧ rc = nI (rn g (m - 1)) ∧ dc = nI (dn g m) ∧ le = mn g (m - 1) ∧ iw = nI (wd (dn g m - 1)) ∧ fd = nI (fw g m) ∧ dd = nI (dw g (m - 1)) ∧ (∀ i, i < m → ru i = nI (rn g i)) ∧ ∀ i (h : i < (dl g m).length), di i = (dl g m)[i]
variable {g : Nat → Int32} {s m : Nat} {fr my rc dc le iw fd dd : Int32} {ru di : Nat → Int32}
theorem q_possible (hP : PR g s m fr my rc dc le iw fd dd ru di) (hm : m ≤ 32) {e : Nat} (he : e < 100) : Yd (fun n => f_X2_isPossible n (nI e) rc) (psb g m e) := by
  obtain ⟨e1, e2, e3, e4, e5, e6, e7, e8, e9, e10⟩ := hP
  unfold f_X2_isPossible psb
  have h2 := rn_le g (m - 1)
  by_cases h1 : e = 1
  · subst h1
    refine Yd.pos rfl ?_
    rw [e3]
    by_cases h3 : rn g (m - 1) = 1
    · exact Yd.pos (by rw [h3]; rfl) (Yd.retE (by simp [h3]))
    · exact Yd.neg (fun h4 => h3 ((nI_eq (a := rn g (m - 1)) (b := 1) (by omega) (by omega)).mp h4)) (Yd.retE (by simp [h3]))
  · exact Yd.neg (e_ne (j := 1) h1 (by omega) (by omega)) (Yd.retE (by simp [h1]))
/-- the size, or -1 -/
def szI (g : Nat → Int32) (m e : Nat) : Int32 := if psb g m e then nI (sz g m e) else -1
theorem q_size (hP : PR g s m fr my rc dc le iw fd dd ru di) (hm : 0 < m) (hm2 : m ≤ 32) {e : Nat} (he : e ≤ 5) : Yd (fun n => f_X2_sizeOf n (nI e) my rc dc iw fd dd) (szI g m e) := by
  have hpos := q_possible hP hm2 (e := 1) (by omega)
  obtain ⟨e1, e2, e3, e4, e5, e6, e7, e8, e9, e10⟩ := hP
  unfold f_X2_sizeOf
  by_cases h1 : e = 1
  · subst h1
    refine Yd.neg (by decide) ?_
    refine Yd.pos rfl ?_
    refine Yd.bind hpos ?_
    unfold szI
    cases hp : psb g m 1 with
    | true => exact Yd.neg (by decide) (Yd.retE rfl)
    | false => exact Yd.pos (by decide) (Yd.retE rfl)
  have hp : psb g m e = true := by simp [psb, h1]
  unfold szI sz
  rw [if_pos hp]
  by_cases h0 : e = 0
  · subst h0
    refine Yd.pos rfl (Yd.retE ?_)
    rw [e2, if_pos rfl, Nat.mul_comm]
    exact nI_mul m 18
  refine Yd.neg (e_ne (j := 0) h0 (by omega) (by omega)) ?_
  refine Yd.neg (e_ne (j := 1) h1 (by omega) (by omega)) ?_
  rw [if_neg h0, if_neg h1]
  by_cases h2 : e = 2
  · subst h2
    refine Yd.pos rfl (Yd.retE ?_)
    rw [e3, if_pos rfl, Nat.mul_comm]
    exact nI_mul _ 24
  refine Yd.neg (e_ne (j := 2) h2 (by omega) (by omega)) ?_
  rw [if_neg h2]
  by_cases h3 : e = 3
  · subst h3
    refine Yd.pos rfl (Yd.retE ?_)
    rw [e2, e4, e6, if_pos rfl, show nI (dn g m) * 18 = nI (dn g m * 18) from nI_mul _ 18, show (6 : Int32) + nI (dn g m * 18) = nI (6 + dn g m * 18) from nI_add 6 _, nI_mul, nI_add, Nat.mul_comm (dn g m) 18]
  refine Yd.neg (e_ne (j := 3) h3 (by omega) (by omega)) ?_
  rw [if_neg h3]
  by_cases h4 : e = 4
  · subst h4
    refine Yd.pos rfl (Yd.retE ?_)
    rw [e2, e7, if_pos rfl, nI_mul]
    exact nI_add 23 _
  refine Yd.neg (e_ne (j := 4) h4 (by omega) (by omega)) (Yd.retE ?_)
  rw [e2, e8, if_neg h4, show nI m - 1 = nI (m - 1) from nI_sub (a := m) (b := 1) hm, nI_mul]
  exact nI_add 23 _
end PuG
