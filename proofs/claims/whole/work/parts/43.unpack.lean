/-! the class reads a segment back from its bits -/
section PuN
def hasb (a : Nat → Int32) (P : Nat) (L : List Int32) : Prop := ∀ j (h : j < L.length), a (P + j) = L[j]
theorem hasb_app {a : Nat → Int32} {P : Nat} {L1 L2 : List Int32} (h : hasb a P (L1 ++ L2)) : hasb a P L1 ∧ hasb a (P + L1.length) L2 := by
  constructor
  · intro j hj
    have := h j (by rw [List.length_append]; omega)
    rw [this, List.getElem_append_left hj]
  · intro j hj
    have := h (L1.length + j) (by rw [List.length_append]; omega)
    rw [show P + L1.length + j = P + (L1.length + j) by omega, this, List.getElem_append_right (by omega)]
    simp
theorem hasb_cat {a : Nat → Int32} {P : Nat} {F : Nat → List Int32} : ∀ {m k : Nat}, hasb a P (cat F m) → k < m → hasb a (P + (cat F k).length) (F k)
  | 0, k, _, hk => by omega
  | m + 1, k, h, hk => by
    have h1 := hasb_app (L1 := cat F m) (L2 := F m) h
    by_cases c : k = m
    · subst c; exact h1.2
    · exact hasb_cat h1.1 (by omega)
theorem q_read {a : Nat → Int32} {P w x : Nat} (hb : hasb a P (bo (nI x) w)) (hx : x < 2 ^ w) (hw : w ≤ 30) (hP : P + w ≤ 3072) : Yd (fun n => f_X0_read n (nI w) (nI P) a) (nI x, nI (P + w)) := by
  have hx31 : x < 2 ^ 31 := Nat.lt_of_lt_of_le hx (Nat.pow_le_pow_right (by omega) (by omega))
  have key : ∀ r i, i + r = w → hasb a (P + i) (bo (nI x) r) → Yd (fun n => f_X0_read_4 n (nI w) (nI (x / 2 ^ r)) (nI i) (nI (P + i)) a) (nI x, nI (P + w)) := by
    intro r
    induction r with
    | zero =>
      intro i hi _
      refine s_X0_read_4 ?_
      unfold f_X0_read_4_s
      refine Yd.pos (nI_le (by omega) (by omega)) (Yd.retE ?_)
      rw [show i = w by omega]
      simp
    | succ r ih =>
      intro i hi hh
      refine s_X0_read_4 ?_
      unfold f_X0_read_4_s
      refine Yd.neg (nI_ge (by omega) (by omega)) ?_
      refine Yd.neg (nI_pos (by omega)) ?_
      refine Yd.neg (nI_ge (a := P + i) (b := 3072) (by omega) (by omega)) ?_
      refine Yd.rd (by omega) (by omega) ?_
      have h0 := hh 0 (by rw [bo_len]; omega)
      have e0 : a (P + i) = nI (x / 2 ^ r % 2) := by
        rw [← sh_bit hx31 (k := r) (by omega)]
        exact h0
      have e1 : nI (x / 2 ^ (r + 1)) * 2 + a (P + i) = nI (x / 2 ^ r) := by
        rw [e0, show nI (x / 2 ^ (r + 1)) * 2 = nI (x / 2 ^ (r + 1) * 2) from nI_mul _ 2, nI_add]
        congr 1
        rw [Nat.pow_succ, ← Nat.div_div_eq_div_mul]
        omega
      rw [e1, nI_1, nI_1]
      refine ih (i + 1) (by omega) ?_
      intro j hj
      have h1 := hh (j + 1) (by rw [bo_len] at hj ⊢; omega)
      rw [show P + (i + 1) + j = P + i + (j + 1) by omega]
      exact h1
  unfold f_X0_read
  have k := key w 0 (by omega) (by simpa using hb)
  rw [Nat.div_eq_of_lt hx] at k
  exact k
theorem vb_nat {v : Int32} (h : -100000 ≤ v.toInt ∧ v.toInt ≤ 100000) : v + 131072 = nI (v.toInt + 131072).toNat ∧ (v.toInt + 131072).toNat < 2 ^ 18 := by
  have e1 : (131072 : Int32).toInt = 131072 := by decide
  constructor
  · apply of_toInt
    rw [Int32.toInt_add, e1, Int.bmod_eq_of_le] <;> omega
  · omega
theorem q_readValue {a : Nat → Int32} {P : Nat} {v : Int32} (hb : hasb a P (vb v)) (hv : -100000 ≤ v.toInt ∧ v.toInt ≤ 100000) (hP : P + 18 ≤ 3072) : Yd (fun n => f_X1_readValue n (nI P) a) (v, nI (P + 18)) := by
  obtain ⟨e1, e2⟩ := vb_nat hv
  have hb2 : hasb a P (bo (nI (v.toInt + 131072).toNat) 18) := by rw [← e1]; exact hb
  unfold f_X1_readValue
  refine Yd.bind (q_read (w := 18) hb2 e2 (by omega) hP) (Yd.retE ?_)
  show (nI (v.toInt + 131072).toNat - 131072, _) = _
  rw [← e1, Int32.add_sub_cancel]
/-- the column when the first k rows of a segment are in it -/
def fl (co : Nat → Int32) (s k : Nat) (g : Nat → Int32) : Nat → Int32 := fun i => if s ≤ i ∧ i < s + k then g (i - s) else co i
theorem fl_0 (co : Nat → Int32) (s : Nat) (g : Nat → Int32) : fl co s 0 g = co := by
  funext i
  unfold fl
  rw [if_neg (by omega)]
theorem fl_step (co : Nat → Int32) (s k : Nat) (g : Nat → Int32) : upd (fl co s k g) (s + k) (g k) = fl co s (k + 1) g := by
  funext i
  unfold upd fl
  by_cases c : i = s + k
  · rw [if_pos c, if_pos (by omega), show i - s = k by omega]
  · rw [if_neg c]
    by_cases c2 : s ≤ i ∧ i < s + k
    · rw [if_pos c2, if_pos (by omega)]
    · rw [if_neg c2, if_neg (by omega)]
variable {g co a : Nat → Int32} {s m P : Nat}
theorem q_cput {k : Nat} (h : s + k < 96) : Yd (fun n => f_X3_put n 96 (nI s + nI k) (g k) (fl co s k g)) (fl co s (k + 1) g) := by
  rw [nI_add]
  exact (q_put h (by omega)).eq (fl_step co s k g)
theorem u_plain (h : s + m ≤ 96) (hb : Bd g m) (hh : hasb a P (cat (fun k => vb (g k)) m)) (hP : P + 18 * m ≤ 3072) : ∀ d k, k + d = m → ∃ pl, Yd (fun n => f_X1_unpackPlain_2 n (nI s) (nI m) (nI k) (nI (P + 18 * k)) a (fl co s k g)) (pl, fl co s m g) := by
  intro d
  induction d with
  | zero =>
    intro k hk
    refine ⟨nI (P + 18 * k), ?_⟩
    refine s_X1_unpackPlain_2 ?_
    unfold f_X1_unpackPlain_2_s
    refine Yd.pos (nI_le (by omega) (by omega)) (Yd.retE ?_)
    rw [show k = m by omega]
  | succ d ih =>
    intro k hk
    obtain ⟨pl, ih1⟩ := ih (k + 1) (by omega)
    refine ⟨pl, ?_⟩
    have hk1 := hasb_cat hh (show k < m by omega)
    rw [cat_len (c := 18) (fun k _ => bo_len _ _), Nat.mul_comm] at hk1
    refine s_X1_unpackPlain_2 ?_
    unfold f_X1_unpackPlain_2_s
    refine Yd.neg (nI_ge (by omega) (by omega)) ?_
    refine Yd.bind (q_readValue hk1 (hb k (by omega)) (by omega)) ?_
    refine Yd.bind (q_cput (by omega)) ?_
    rw [nI_1]
    exact ih1
theorem u_const (h : s + m ≤ 96) {v pl : Int32} (hv : ∀ k, k < m → g k = v) : ∀ d k, k + d = m → Yd (fun n => f_X1_unpackConstant_8 n (nI s) (nI m) v (nI k) pl a (fl co s k g)) (pl, fl co s m g) := by
  intro d
  induction d with
  | zero =>
    intro k hk
    refine s_X1_unpackConstant_8 ?_
    unfold f_X1_unpackConstant_8_s
    refine Yd.pos (nI_le (by omega) (by omega)) (Yd.retE ?_)
    rw [show k = m by omega]
  | succ d ih =>
    intro k hk
    refine s_X1_unpackConstant_8 ?_
    unfold f_X1_unpackConstant_8_s
    refine Yd.neg (nI_ge (by omega) (by omega)) ?_
    have e := hv k (by omega)
    refine Yd.bind (a := fl co s (k + 1) g) ?_ ?_
    · rw [← e]
      exact q_cput (by omega)
    rw [nI_1]
    exact ih (k + 1) (by omega)
def RunTo (g : Nat → Int32) (m k e : Nat) : Prop := k ≤ e ∧ e < m ∧ (∀ j, k ≤ j → j < e → g (j + 1) = g j) ∧ ¬ (e + 1 < m ∧ g (e + 1) = g e)
theorem run_ex (g : Nat → Int32) (m : Nat) : ∀ d k, k + 1 + d = m → ∃ e, RunTo g m k e := by
  intro d
  induction d with
  | zero =>
    intro k hk
    exact ⟨k, Nat.le_refl _, by omega, fun j h1 h2 => by omega, fun h => by omega⟩
  | succ d ih =>
    intro k hk
    by_cases c : g (k + 1) = g k
    · obtain ⟨e, h1, h2, h3, h4⟩ := ih (k + 1) (by omega)
      refine ⟨e, by omega, h2, fun j q1 q2 => ?_, h4⟩
      by_cases c2 : j = k
      · subst c2; exact c
      · exact h3 j (by omega) q2
    · exact ⟨k, Nat.le_refl _, by omega, fun j h1 h2 => by omega, fun h => c h.2⟩
theorem run_rl {g : Nat → Int32} {m k e : Nat} (h0 : rl g m k = 0) (hr : RunTo g m k e) : ∀ d, k + d ≤ e → rl g m (k + d) = d ∧ cat (rF g m) (k + d) = cat (rF g m) k ∧ g (k + d) = g k
  | 0, _ => ⟨h0, rfl, rfl⟩
  | d + 1, h => by
    obtain ⟨i1, i2, i3⟩ := run_rl h0 hr d (by omega)
    have hc : k + d + 1 < m ∧ g (k + d + 1) = g (k + d) := ⟨by have := hr.2.1; omega, hr.2.2.1 (k + d) (by omega) (by omega)⟩
    refine ⟨?_, ?_, ?_⟩
    · show (if k + d + 1 < m ∧ g (k + d + 1) = g (k + d) then rl g m (k + d) + 1 else 0) = d + 1
      rw [if_pos hc, i1]
    · show cat (rF g m) (k + d) ++ rF g m (k + d) = _
      rw [i2]
      unfold rF
      rw [if_pos hc, List.append_nil]
    · rw [← i3]
      exact hc.2
theorem u_runs (h : s + m ≤ 96) (hm2 : m ≤ 32) (hb : Bd g m) (hh : hasb a P (cat (rF g m) m)) (hP : P + (cat (rF g m) m).length ≤ 3072) :
    ∀ d k, k + d = m → ∀ (t : Nat) (v : Int32), k ≤ t → t ≤ m → rl g m t = 0 → (∀ j, k ≤ j → j < t → g j = v) → ∃ pl, Yd (fun n => f_X1_unpackRuns_8 n (nI s) (nI m) v (nI (t - k)) (nI k) (nI (P + (cat (rF g m) t).length)) a (fl co s k g)) (pl, fl co s m g) := by
  intro d
  induction d with
  | zero =>
    intro k hk t v h1 h2 h3 h4
    refine ⟨nI (P + (cat (rF g m) t).length), ?_⟩
    refine s_X1_unpackRuns_8 ?_
    unfold f_X1_unpackRuns_8_s
    refine Yd.pos (nI_le (by omega) (by omega)) (Yd.retE ?_)
    rw [show k = m by omega]
  | succ d ih =>
    intro k hk t v h1 h2 h3 h4
    by_cases c : k = t
    · subst c
      obtain ⟨e, hr⟩ := run_ex g m d k (by omega)
      obtain ⟨r1, r2, r3⟩ := run_rl h3 hr (e - k) (by have := hr.1; omega)
      have hke := hr.1
      have hem := hr.2.1
      rw [show k + (e - k) = e by omega] at r1 r2 r3
      have eF : rF g m e = vb (g e) ++ bo (nI (rl g m e + 1)) 6 := if_neg hr.2.2.2
      have eR : rl g m (e + 1) = 0 := if_neg hr.2.2.2
      have hl := cat_le (rF g m) m e hem
      have hk1 := hasb_cat hh hem
      rw [r2, eF] at hk1
      have hk2 := hasb_app hk1
      rw [bo_len] at hk2
      rw [r2, eF, List.length_append, bo_len, bo_len] at hl
      have eL : (cat (rF g m) (e + 1)).length = (cat (rF g m) k).length + 24 := by
        show (cat (rF g m) e ++ rF g m e).length = _
        rw [List.length_append, r2, eF, List.length_append, bo_len, bo_len]
      obtain ⟨pl, ih1⟩ := ih (k + 1) (by omega) (e + 1) (g e) (by omega) (by omega) eR (fun j q1 q2 => by
        obtain ⟨w1, w2, w3⟩ := run_rl h3 hr (j - k) (by omega)
        rw [show k + (j - k) = j by omega] at w3
        rw [w3, r3])
      refine ⟨pl, ?_⟩
      refine s_X1_unpackRuns_8 ?_
      unfold f_X1_unpackRuns_8_s
      refine Yd.neg (nI_ge (by omega) (by omega)) ?_
      refine Yd.pos (by rw [Nat.sub_self]; rfl) ?_
      refine Yd.bind (q_readValue hk2.1 (hb e hem) (by omega)) ?_
      have hk3 : hasb a (P + (cat (rF g m) k).length + 18) (bo (nI (e - k + 1)) 6) := by rw [← r1]; exact hk2.2
      refine Yd.bind (q_read (w := 6) hk3 (by omega) (by omega) (by omega)) ?_
      refine Yd.bind (a := fl co s (k + 1) g) ?_ ?_
      · show Yd (fun n => f_X3_put n 96 (nI s + nI k) (g e) (fl co s k g)) _
        rw [r3]
        exact q_cput (by omega)
      show Yd (fun n => f_X1_unpackRuns_8 n (nI s) (nI m) (g e) (nI (e - k + 1) + (-1)) (nI k + 1) (nI (P + (cat (rF g m) k).length + 18 + 6)) a (fl co s (k + 1) g)) _
      rw [nI_m1, nI_1, show e - k = e + 1 - (k + 1) by omega, show P + (cat (rF g m) k).length + 18 + 6 = P + (cat (rF g m) (e + 1)).length by omega]
      exact ih1
    · obtain ⟨pl, ih1⟩ := ih (k + 1) (by omega) t v (by omega) h2 h3 (fun j q1 q2 => h4 j (by omega) q2)
      refine ⟨pl, ?_⟩
      refine s_X1_unpackRuns_8 ?_
      unfold f_X1_unpackRuns_8_s
      refine Yd.neg (nI_ge (by omega) (by omega)) ?_
      refine Yd.neg (nI_ne0 (by omega) (by omega)) ?_
      have e := h4 k (by omega) (by omega)
      refine Yd.bind (a := fl co s (k + 1) g) ?_ ?_
      · rw [← e]
        exact q_cput (by omega)
      rw [show t - k = (t - (k + 1)) + 1 by omega, nI_m1, nI_1]
      exact ih1
theorem u_frame {w : Nat} {v : Int32} (h : s + m ≤ 96) (hw : w ≤ 30) (hx : ∀ k, k < m → ∃ x, x < 2 ^ w ∧ g k - v = nI x) (hh : hasb a P (cat (fun k => bo (g k - v) w) m)) (hP : P + m * w ≤ 3072) :
    ∀ d k, k + d = m → ∃ pl, Yd (fun n => f_X1_unpackFrame_18 n (nI s) (nI m) v (nI w) (nI k) (nI (P + k * w)) a (fl co s k g)) (pl, fl co s m g) := by
  intro d
  induction d with
  | zero =>
    intro k hk
    refine ⟨nI (P + k * w), ?_⟩
    refine s_X1_unpackFrame_18 ?_
    unfold f_X1_unpackFrame_18_s
    refine Yd.pos (nI_le (by omega) (by omega)) (Yd.retE ?_)
    rw [show k = m by omega]
  | succ d ih =>
    intro k hk
    obtain ⟨pl, ih1⟩ := ih (k + 1) (by omega)
    obtain ⟨x, hx1, hx2⟩ := hx k (by omega)
    refine ⟨pl, ?_⟩
    have hk1 := hasb_cat hh (show k < m by omega)
    rw [cat_len (c := w) (fun k _ => bo_len _ _), hx2] at hk1
    have hmul : (k + 1) * w ≤ m * w := Nat.mul_le_mul_right _ (by omega)
    rw [Nat.succ_mul] at hmul
    refine s_X1_unpackFrame_18 ?_
    unfold f_X1_unpackFrame_18_s
    refine Yd.neg (nI_ge (by omega) (by omega)) ?_
    refine Yd.bind (q_read hk1 hx1 hw (by omega)) ?_
    refine Yd.bind (a := fl co s (k + 1) g) ?_ ?_
    · have e : v + nI x = g k := by rw [← hx2, Int32.add_comm, Int32.sub_add_cancel]
      show Yd (fun n => f_X3_put n 96 (nI s + nI k) (v + nI x) (fl co s k g)) _
      rw [e]
      exact q_cput (by omega)
    rw [nI_1]
    show Yd (fun n => f_X1_unpackFrame_18 n (nI s) (nI m) v (nI w) (nI (k + 1)) (nI (P + k * w + w)) a (fl co s (k + 1) g)) _
    rw [show P + k * w + w = P + (k + 1) * w by rw [Nat.succ_mul]; omega]
    exact ih1
theorem q_unfold {d : Int} (hd : -200000 ≤ d ∧ d ≤ 200000) : Yd (fun n => f_X1_unfold n (nI (foN d))) (Int32.ofInt d) := by
  have hlt := foN_lt hd
  have e1 : (1 : Int32).toInt = 1 := by decide
  unfold f_X1_unfold
  rw [pk_andN (n := foN d) (by omega) 1 (by decide), show (2 : Int32) = nI 2 from rfl, nI_dv (by omega) (by omega) (by omega)]
  unfold foN at *
  by_cases c : d < 0
  · rw [if_pos c] at *
    refine Yd.neg (nI_ne0 (by omega) (by omega)) ?_
    refine Yd.bind (Yd.ret _) (Yd.retE ?_)
    apply Int32.toInt_inj.mp
    have h1 : (nI ((-2 * d - 1).toNat / 2)).toInt = -d - 1 := by rw [nI_toInt (by omega)]; omega
    have h2 : (-nI ((-2 * d - 1).toNat / 2)).toInt = d + 1 := by
      rw [Int32.toInt_neg, h1, Int.bmod_eq_of_le] <;> omega
    rw [Int32.toInt_sub, h2, e1, Int.bmod_eq_of_le (by omega) (by omega), Int32.toInt_ofInt_of_le (by omega) (by omega)]
    omega
  · rw [if_neg c] at *
    refine Yd.pos (by rw [show (2 * d).toNat % 2 ^ 1 = 0 by omega]; rfl) ?_
    refine Yd.bind (Yd.ret _) (Yd.retE ?_)
    apply Int32.toInt_inj.mp
    rw [nI_toInt (by omega), Int32.toInt_ofInt_of_le (by omega) (by omega)]
    omega
theorem dw_mono (g : Nat → Int32) : ∀ n k, k < n → wd (foN (dI g k)) ≤ dw g n
  | 0, k, h => by omega
  | n + 1, k, h => by
    unfold dw
    by_cases c : k = n
    · subst c; omega
    · have := dw_mono g n k (by omega)
      omega
theorem u_delta {w : Nat} (h : s + m ≤ 96) (hb : Bd g m) (hw : w = dw g (m - 1)) (hh : hasb a P (cat (fun k => bo (fo (g (k + 1) - g k)) w) (m - 1))) (hP : P + (m - 1) * w ≤ 3072) :
    ∀ d k, k + 1 + d = m → ∃ pl, Yd (fun n => f_X1_unpackDelta_27 n (nI s) (nI m) (g k) (nI w) (nI (k + 1)) (nI (P + k * w)) a (fl co s (k + 1) g)) (pl, fl co s m g) := by
  intro d
  induction d with
  | zero =>
    intro k hk
    refine ⟨nI (P + k * w), ?_⟩
    refine s_X1_unpackDelta_27 ?_
    unfold f_X1_unpackDelta_27_s
    refine Yd.pos (nI_le (by omega) (by omega)) (Yd.retE ?_)
    rw [show k + 1 = m by omega]
  | succ d ih =>
    intro k hk
    obtain ⟨pl, ih1⟩ := ih (k + 1) (by omega)
    refine ⟨pl, ?_⟩
    obtain ⟨e1, e2⟩ := diff_fo g (k := k) (m := m) (by omega) hb
    have hdw := dw_le g (m - 1) m (by omega) hb
    have hmono := dw_mono g (m - 1) k (by omega)
    have hk1 := hasb_cat hh (show k < m - 1 by omega)
    rw [cat_len (c := w) (fun k _ => bo_len _ _), e1] at hk1
    have hmul : (k + 1) * w ≤ (m - 1) * w := Nat.mul_le_mul_right _ (by omega)
    rw [Nat.succ_mul] at hmul
    have hx1 : foN (dI g k) < 2 ^ w := wd_le.mp (by omega)
    have b1 := hb (k + 1) (by omega)
    have b2 := hb k (by omega)
    have e3 : g k + Int32.ofInt (dI g k) = g (k + 1) := by
      have e4 : Int32.ofInt (dI g k) = g (k + 1) - g k := by
        unfold dI
        rw [← sub_toInt (by omega) (by omega), Int32.ofInt_toInt]
      rw [e4, Int32.add_comm, Int32.sub_add_cancel]
    refine s_X1_unpackDelta_27 ?_
    unfold f_X1_unpackDelta_27_s
    refine Yd.neg (nI_ge (by omega) (by omega)) ?_
    refine Yd.bind (q_read hk1 hx1 (by omega) (by omega)) ?_
    refine Yd.bind (q_unfold (d := dI g k) (by unfold dI; omega)) ?_
    rw [e3]
    refine Yd.bind (q_cput (by omega)) ?_
    rw [nI_1]
    show Yd (fun n => f_X1_unpackDelta_27 n (nI s) (nI m) (g (k + 1)) (nI w) (nI (k + 1 + 1)) (nI (P + k * w + w)) a (fl co s (k + 1 + 1) g)) _
    rw [show P + k * w + w = P + (k + 1) * w by rw [Nat.succ_mul]; omega]
    exact ih1
end PuN
