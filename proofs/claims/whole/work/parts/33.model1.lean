/-! the reference's own reading functions, over the segment sg mv s of m rows -/
section PuC
variable {mv : Nat → Int32} {s m : Nat}
theorem p_at {k : Nat} (h : s + k < 96) : Yd (fun n => f_X6_at n (nI k) (nI s) mv) (sg mv s k) := by
  unfold f_X6_at
  rw [nI_add]
  exact Yd.rd h (by omega) (Yd.ret _)
theorem p_least_loop (h : s + m ≤ 96) : ∀ d j, j + 1 + d = m → Yd (fun n => f_X6_least_8 n (mn (sg mv s) j) (nI (j + 1)) (nI s) (nI m) mv) (mn (sg mv s) (m - 1)) := by
  intro d
  induction d with
  | zero =>
    intro j hj
    refine s_X6_least_8 ?_
    unfold f_X6_least_8_s
    refine Yd.pos (nI_le (by omega) (by omega)) (Yd.retE ?_)
    rw [show m - 1 = j by omega]
  | succ d ih =>
    intro j hj
    refine s_X6_least_8 ?_
    unfold f_X6_least_8_s
    refine Yd.neg (nI_ge (by omega) (by omega)) ?_
    refine Yd.bind (p_at (by omega)) ?_
    rw [nI_1]
    exact ih (j + 1) (by omega)
theorem p_least (h : s + m ≤ 96) (hm : 0 < m) : Yd (fun n => f_X6_least n (nI s) (nI m) mv) (mn (sg mv s) (m - 1)) := by
  unfold f_X6_least
  refine Yd.bind (p_at (k := 0) (by omega)) ?_
  exact p_least_loop h (m - 1) 0 (by omega)
theorem p_width_loop {x : Nat} (hx : x < 2 ^ 31) : ∀ d k, k + d = wd x → Yd (fun n => f_X6_width_2 n (lN x) (nI k)) (nI (wd x)) := by
  have hw : wd x ≤ 31 := wd_le.mpr hx
  intro d
  induction d with
  | zero =>
    intro k hk
    refine s_X6_width_2 ?_
    unfold f_X6_width_2_s
    rw [lN_shr hx (by omega)]
    refine Yd.pos ?_ (Yd.retE (by rw [show k = wd x by omega]))
    rw [cmp_le0]
    have h1 : x < 2 ^ k := wd_le.mp (by omega)
    rw [Nat.div_eq_of_lt h1]
    exact (lN_le (a := 0) (b := 0) (by omega) (by omega)).mpr (Nat.le_refl 0)
  | succ d ih =>
    intro k hk
    refine s_X6_width_2 ?_
    unfold f_X6_width_2_s
    rw [lN_shr hx (by omega)]
    refine Yd.neg ?_ ?_
    · rw [cmp_le0]
      intro h2
      have h3 : x / 2 ^ k ≤ 0 := (lN_le (Nat.lt_of_le_of_lt (Nat.div_le_self _ _) hx) (by omega)).mp h2
      have h1 : 2 ^ k ≤ x := wd_lt.mp (by omega)
      have h4 : 0 < x / 2 ^ k := Nat.div_pos h1 (Nat.pos_of_ne_zero (by simp))
      omega
    · rw [nI_1]
      exact ih (k + 1) (by omega)
theorem p_width {x : Nat} (hx : x < 2 ^ 31) : Yd (fun n => f_X6_width n (lN x)) (nI (wd x)) := by
  unfold f_X6_width
  exact p_width_loop hx (wd x) 0 (by omega)
theorem p_frame_loop (h : s + m ≤ 96) (hm : 0 < m) (hb : Bd (sg mv s) m) : ∀ d j, j + 1 + d = m → Yd (fun n => f_X6_frameWidth_8 n (mx (sg mv s) j) (nI (j + 1)) (nI s) (nI m) mv) (nI (fw (sg mv s) m)) := by
  intro d
  induction d with
  | zero =>
    intro j hj
    refine s_X6_frameWidth_8 ?_
    unfold f_X6_frameWidth_8_s
    refine Yd.pos (nI_le (by omega) (by omega)) ?_
    refine Yd.bind (p_least h hm) ?_
    obtain ⟨k1, hk1, e1⟩ := mn_mem (sg mv s) (m - 1)
    obtain ⟨k2, hk2, e2⟩ := mx_mem (sg mv s) (m - 1)
    have b1 := hb k1 (by omega)
    have b2 := hb k2 (by omega)
    have hle := mx_ge (sg mv s) (m - 1) k1 hk1
    rw [show j = m - 1 by omega]
    have e3 : (mx (sg mv s) (m - 1) - mn (sg mv s) (m - 1)) = nI ((mx (sg mv s) (m - 1)).toInt - (mn (sg mv s) (m - 1)).toInt).toNat := by
      apply of_toInt
      rw [sub_toInt (by rw [e2]; omega) (by rw [e1]; omega)]
      rw [e1]
      omega
    rw [e3, nI_l (by rw [e1, e2]; omega)]
    refine Yd.bind (p_width (by rw [e1, e2]; omega)) ?_
    exact Yd.ret _
  | succ d ih =>
    intro j hj
    refine s_X6_frameWidth_8 ?_
    unfold f_X6_frameWidth_8_s
    refine Yd.neg (nI_ge (by omega) (by omega)) ?_
    refine Yd.bind (p_at (by omega)) ?_
    rw [nI_1]
    exact ih (j + 1) (by omega)
theorem p_frame (h : s + m ≤ 96) (hm : 0 < m) (hb : Bd (sg mv s) m) : Yd (fun n => f_X6_frameWidth n (nI s) (nI m) mv) (nI (fw (sg mv s) m)) := by
  unfold f_X6_frameWidth
  refine Yd.bind (p_at (k := 0) (by omega)) ?_
  exact p_frame_loop h hm hb (m - 1) 0 (by omega)
theorem p_folded (x : Int32) : Yd (fun n => f_X6_folded n x) (fo x) := by
  unfold f_X6_folded fo
  by_cases h : x < 0
  · rw [if_pos h]
    refine Yd.neg ?_ (Yd.ret _)
    intro h1
    have h2 := Int32.lt_iff_toInt_lt.mp h
    have h3 := Int32.le_iff_toInt_le.mp h1
    omega
  · rw [if_neg h]
    refine Yd.pos ?_ (Yd.ret _)
    have h3 : ¬ x.toInt < (0 : Int32).toInt := fun h2 => h (Int32.lt_iff_toInt_lt.mpr h2)
    exact Int32.le_iff_toInt_le.mpr (by omega)
theorem nI_max (a b : Nat) (ha : a < 2 ^ 31) (hb : b < 2 ^ 31) : (if nI a < nI b then nI b else nI a) = nI (max a b) := by
  by_cases h : a < b
  · rw [if_pos (nI_lt h hb), Nat.max_eq_right (by omega)]
  · rw [if_neg (nI_nlt (by omega) ha), Nat.max_eq_left (by omega)]
theorem dw_le (g : Nat → Int32) : ∀ (k m : Nat), k + 1 ≤ m → Bd g m → dw g k ≤ 19
  | 0, _, _, _ => by unfold dw; omega
  | k + 1, m, h, hb => by
    have ih := dw_le g k m (by omega) hb
    have b1 := hb (k + 1) (by omega)
    have b2 := hb k (by omega)
    have h1 : wd (foN (dI g k)) ≤ 19 := wd_le.mpr (foN_lt (by unfold dI; omega))
    unfold dw
    omega
theorem diff_fo (g : Nat → Int32) {k m : Nat} (h : k + 1 < m) (hb : Bd g m) : fo (g (k + 1) - g k) = nI (foN (dI g k)) ∧ foN (dI g k) < 524288 := by
  have b1 := hb (k + 1) h
  have b2 := hb k (by omega)
  have e := sub_toInt (a := g (k + 1)) (b := g k) (by omega) (by omega)
  constructor
  · rw [fo_nat (by rw [e]; omega), e]
    rfl
  · exact foN_lt (by unfold dI; omega)
theorem p_delta_loop (h : s + m ≤ 96) (hb : Bd (sg mv s) m) : ∀ d j, j + 1 + d = m → Yd (fun n => f_X6_deltaWidth_4 n (nI (dw (sg mv s) j)) (nI (j + 1)) (nI s) (nI m) mv) (nI (dw (sg mv s) (m - 1))) := by
  intro d
  induction d with
  | zero =>
    intro j hj
    refine s_X6_deltaWidth_4 ?_
    unfold f_X6_deltaWidth_4_s
    refine Yd.pos (nI_le (by omega) (by omega)) (Yd.retE ?_)
    rw [show m - 1 = j by omega]
  | succ d ih =>
    intro j hj
    refine s_X6_deltaWidth_4 ?_
    unfold f_X6_deltaWidth_4_s
    refine Yd.neg (nI_ge (by omega) (by omega)) ?_
    refine Yd.bind (p_at (by omega)) ?_
    rw [nI_s1]
    refine Yd.bind (p_at (by omega)) ?_
    refine Yd.bind (p_folded _) ?_
    obtain ⟨e1, e2⟩ := diff_fo (sg mv s) (k := j) (m := m) (by omega) hb
    have h3 := dw_le (sg mv s) j m (by omega) hb
    have h4 : wd (foN (dI (sg mv s) j)) ≤ 19 := wd_le.mpr e2
    rw [e1, nI_l (by omega)]
    refine Yd.bind (p_width (by omega)) ?_
    rw [nI_max _ _ (by omega) (by omega), nI_1]
    exact ih (j + 1) (by omega)
theorem p_delta (h : s + m ≤ 96) (hm : 0 < m) (hb : Bd (sg mv s) m) : Yd (fun n => f_X6_deltaWidth n (nI s) (nI m) mv) (nI (dw (sg mv s) (m - 1))) := by
  unfold f_X6_deltaWidth
  exact p_delta_loop h hb (m - 1) 0 (by omega)
def nr (g : Nat → Int32) (k : Nat) : Bool := k == 0 || !(g k == g (k - 1))
theorem p_newrun {k : Nat} (h : s + k < 96) : Yd (fun n => f_X6_isNewRun n (nI k) (nI s) mv) (nr (sg mv s) k) := by
  unfold f_X6_isNewRun nr
  by_cases hk : k = 0
  · subst hk
    exact Yd.pos rfl (Yd.ret _)
  · refine Yd.neg (nI_ne0 (by omega) (by omega)) ?_
    refine Yd.bind (p_at h) ?_
    obtain ⟨j, rfl⟩ : ∃ j, k = j + 1 := ⟨k - 1, by omega⟩
    rw [nI_s1]
    refine Yd.bind (p_at (by omega)) ?_
    by_cases h1 : sg mv s (j + 1) = sg mv s j
    · exact Yd.pos h1 (Yd.retE (by simp [h1]))
    · exact Yd.neg h1 (Yd.retE (by simp [h1]))
theorem rn_le (g : Nat → Int32) : ∀ k, rn g k ≤ k + 1
  | 0 => by unfold rn; omega
  | k + 1 => by
    have := rn_le g k
    unfold rn
    by_cases h : g (k + 1) = g k
    · rw [if_pos h]; omega
    · rw [if_neg h]; omega
/-- runs that begin before k -/
def rb (g : Nat → Int32) : Nat → Nat
  | 0 => 0
  | k + 1 => rb g k + (if nr g k then 1 else 0)
theorem rb_rn (g : Nat → Int32) : ∀ k, rb g (k + 1) = rn g k
  | 0 => by simp [rb, rn, nr]
  | k + 1 => by
    rw [show rb g (k + 1 + 1) = rb g (k + 1) + (if nr g (k + 1) then 1 else 0) from rfl, rb_rn g k, show rn g (k + 1) = rn g k + (if g (k + 1) = g k then 0 else 1) from rfl]
    unfold nr
    by_cases h : g (k + 1) = g k <;> simp [h]
theorem p_runs_loop {J : Nat} (h : s + J < 96) : ∀ d k, k + d = J + 1 → Yd (fun n => f_X6_runsTo_4 n (nI J) (nI (rb (sg mv s) k)) (nI k) (nI s) mv) (nI (rn (sg mv s) J)) := by
  intro d
  induction d with
  | zero =>
    intro k hk
    refine s_X6_runsTo_4 ?_
    unfold f_X6_runsTo_4_s
    refine Yd.pos (nI_lt (by omega) (by omega)) (Yd.retE ?_)
    rw [show k = J + 1 by omega, rb_rn]
  | succ d ih =>
    intro k hk
    refine s_X6_runsTo_4 ?_
    unfold f_X6_runsTo_4_s
    refine Yd.neg (nI_nlt (by omega) (by omega)) ?_
    refine Yd.bind (p_newrun (by omega)) ?_
    have ih1 := ih (k + 1) (by omega)
    unfold rb at ih1
    cases hn : nr (sg mv s) k with
    | true =>
      rw [hn] at ih1
      refine Yd.neg (by decide) ?_
      rw [nI_1, nI_1]
      exact ih1
    | false =>
      rw [hn] at ih1
      refine Yd.pos (by decide) ?_
      rw [nI_1, show nI (rb (sg mv s) k) + 0 = nI (rb (sg mv s) k) from nI_add _ 0]
      exact ih1
theorem p_runs {J : Nat} (h : s + J < 96) : Yd (fun n => f_X6_runsTo n (nI J) (nI s) mv) (nI (rn (sg mv s) J)) := by
  unfold f_X6_runsTo
  exact p_runs_loop h (J + 1) 0 (by omega)
end PuC
