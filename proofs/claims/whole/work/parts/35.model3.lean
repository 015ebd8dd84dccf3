/-! sizes, costs, scores, the best encoding: the words, and the reference's functions -/
section PuE
def dn (g : Nat → Int32) (m : Nat) : Nat := (dl g m).length
def sz (g : Nat → Int32) (m e : Nat) : Nat :=
  if e = 0 then 18 * m else if e = 1 then 18 else if e = 2 then 24 * rn g (m - 1) else if e = 3 then 6 + 18 * dn g m + m * wd (dn g m - 1) else if e = 4 then 23 + m * fw g m else 23 + (m - 1) * dw g (m - 1)
def cp (g : Nat → Int32) (e j : Nat) : Nat := if e = 0 then 1 else if e = 1 then 1 else if e = 2 then 1 + rn g j else if e = 5 then j + 1 else 2
def cs (g : Nat → Int32) (m e f l : Nat) : Nat := if e = 0 then l - f + 1 else if e = 1 then 1 else if e = 2 then 1 + rn g l else if e = 3 then l - f + 1 + dn g m else if e = 4 then l - f + 2 else l + 1
def ct (g : Nat → Int32) (m e : Nat) (a : Int32) : Nat :=
  if e = 1 then 1 else if e = 2 then rn g (m - 1) + 1 else if e = 3 then dn g m + (if a ∈ dl g m then m else 0) else if e = 4 then 1 + (if a < mn g (m - 1) then 0 else if mn g (m - 1) + ((1 : Int32) <<< (nI (fw g m) &&& 31)) ≤ a then 0 else m) else m
/-- a query's cost in the segment of m rows that begins at row s -/
def cq (g : Nat → Int32) (s m e : Nat) (k a b : Int32) : Nat :=
  if k = 0 then (if a.toNatClampNeg < s then 0 else if a.toNatClampNeg < s + m then cp g e (a.toNatClampNeg - s) else 0)
  else if k = 1 then (if max a.toNatClampNeg s < min b.toNatClampNeg (s + m) then cs g m e (max a.toNatClampNeg s - s) (min b.toNatClampNeg (s + m) - 1 - s) else 0)
  else ct g m e a
def Qok (k a b : Int32) : Prop := (k = 0 ∧ ∃ A, A < 96 ∧ a = nI A) ∨ (k = 1 ∧ ∃ A B, A < B ∧ B ≤ 96 ∧ a = nI A ∧ b = nI B) ∨ (k = 2 ∧ -100000 ≤ a.toInt ∧ a.toInt ≤ 100000)
def sr (p : Int32) (ks as bs ws : Nat → Int32) (g : Nat → Int32) (s m e : Nat) : Nat → Int32
  | 0 => p * nI (sz g m e)
  | q + 1 => sr p ks as bs ws g s m e q + ws q * nI (cq g s m e (ks q) (as q) (bs q))
def be (S : Nat → Int32) (P : Nat → Bool) : Nat → Nat
  | 0 => 0
  | k + 1 => if P (k + 1) = true ∧ ¬ S (be S P k) ≤ S (k + 1) then k + 1 else be S P k
theorem be_le (S : Nat → Int32) (P : Nat → Bool) : ∀ k, be S P k ≤ k
  | 0 => Nat.le_refl _
  | k + 1 => by
    have := be_le S P k
    unfold be
    by_cases h : P (k + 1) = true ∧ ¬ S (be S P k) ≤ S (k + 1)
    · rw [if_pos h]; exact Nat.le_refl _
    · rw [if_neg h]; omega
theorem be_P (S : Nat → Int32) (P : Nat → Bool) (h0 : P 0 = true) : ∀ k, P (be S P k) = true
  | 0 => h0
  | k + 1 => by
    have := be_P S P h0 k
    unfold be
    by_cases h : P (k + 1) = true ∧ ¬ S (be S P k) ≤ S (k + 1)
    · rw [if_pos h]; exact h.1
    · rw [if_neg h]; exact this
theorem e_ne {e j : Nat} (h : e ≠ j) (he : e < 100) (hj : j < 100) : ¬ nI e = nI j := fun h1 => h ((nI_eq (by omega) (by omega)).mp h1)
variable {mv : Nat → Int32} {s m : Nat}
theorem p_size (h : s + m ≤ 96) (hm : 0 < m) (hb : Bd (sg mv s) m) {e : Nat} (he : e ≤ 5) : Yd (fun n => f_X6_sizeOf n (nI e) (nI s) (nI m) mv) (nI (sz (sg mv s) m e)) := by
  unfold f_X6_sizeOf sz
  by_cases h0 : e = 0
  · subst h0
    exact Yd.pos rfl (Yd.retE (nI_mul 18 m))
  refine Yd.neg (e_ne (j := 0) h0 (by omega) (by omega)) ?_
  rw [if_neg h0]
  by_cases h1 : e = 1
  · subst h1
    exact Yd.pos rfl (Yd.ret _)
  refine Yd.neg (e_ne (j := 1) h1 (by omega) (by omega)) ?_
  rw [if_neg h1]
  by_cases h2 : e = 2
  · subst h2
    refine Yd.pos rfl ?_
    rw [show nI m - 1 = nI (m - 1) from nI_sub (a := m) (b := 1) hm]
    exact Yd.bind (p_runs (by omega)) (Yd.retE (nI_mul 24 _))
  refine Yd.neg (e_ne (j := 2) h2 (by omega) (by omega)) ?_
  rw [if_neg h2]
  by_cases h3 : e = 3
  · subst h3
    have hl := dl_len (sg mv s) m
    have hd : 1 ≤ dn (sg mv s) m := by
      have hmem : sg mv s 0 ∈ dl (sg mv s) m := dl_mem.mpr ⟨0, hm, rfl⟩
      exact List.length_pos_of_mem hmem
    unfold dn at hd ⊢
    refine Yd.pos rfl ?_
    refine Yd.bind (p_diff h hb) ?_
    refine Yd.bind (p_diff h hb) ?_
    rw [show nI (dl (sg mv s) m).length - 1 = nI ((dl (sg mv s) m).length - 1) from nI_sub (b := 1) hd, nI_l (by omega)]
    refine Yd.bind (p_width (by omega)) (Yd.retE ?_)
    rw [show (18 : Int32) * nI (dl (sg mv s) m).length = nI (18 * (dl (sg mv s) m).length) from nI_mul 18 _, show (6 : Int32) + nI (18 * (dl (sg mv s) m).length) = nI (6 + 18 * (dl (sg mv s) m).length) from nI_add 6 _, nI_mul, nI_add]
    rfl
  refine Yd.neg (e_ne (j := 3) h3 (by omega) (by omega)) ?_
  rw [if_neg h3]
  by_cases h4 : e = 4
  · subst h4
    refine Yd.pos rfl ?_
    refine Yd.bind (p_frame h hm hb) (Yd.retE ?_)
    rw [nI_mul]
    exact nI_add 23 _
  refine Yd.neg (e_ne (j := 4) h4 (by omega) (by omega)) ?_
  rw [if_neg h4]
  refine Yd.bind (p_delta h hm hb) (Yd.retE ?_)
  rw [show nI m - 1 = nI (m - 1) from nI_sub (a := m) (b := 1) hm, nI_mul]
  exact nI_add 23 _
theorem p_pcost {j e : Nat} (h : s + j < 96) (he : e ≤ 5) : Yd (fun n => f_X6_pointCost n (nI e) (nI j) (nI s) mv) (nI (cp (sg mv s) e j)) := by
  unfold f_X6_pointCost cp
  by_cases h0 : e = 0
  · subst h0
    exact Yd.pos rfl (Yd.ret _)
  refine Yd.neg (e_ne (j := 0) h0 (by omega) (by omega)) ?_
  rw [if_neg h0]
  by_cases h1 : e = 1
  · subst h1
    exact Yd.pos rfl (Yd.ret _)
  refine Yd.neg (e_ne (j := 1) h1 (by omega) (by omega)) ?_
  rw [if_neg h1]
  by_cases h2 : e = 2
  · subst h2
    exact Yd.pos rfl (Yd.bind (p_runs h) (Yd.retE (nI_add 1 _)))
  refine Yd.neg (e_ne (j := 2) h2 (by omega) (by omega)) ?_
  rw [if_neg h2]
  by_cases h3 : e = 5
  · subst h3
    exact Yd.pos rfl (Yd.retE (nI_1 _))
  refine Yd.neg (e_ne (j := 5) h3 (by omega) (by omega)) ?_
  rw [if_neg h3]
  exact Yd.ret _
theorem p_scost {f l e : Nat} (h : s + m ≤ 96) (hb : Bd (sg mv s) m) (hl : l < m) (hf : f ≤ l) (he : e ≤ 5) : Yd (fun n => f_X6_sumCost n (nI e) (nI f) (nI l) (nI s) (nI m) mv) (nI (cs (sg mv s) m e f l)) := by
  unfold f_X6_sumCost cs
  have e1 : nI l - nI f = nI (l - f) := nI_sub hf
  by_cases h0 : e = 0
  · subst h0
    refine Yd.pos rfl (Yd.retE ?_)
    rw [e1]
    exact nI_1 _
  refine Yd.neg (e_ne (j := 0) h0 (by omega) (by omega)) ?_
  rw [if_neg h0]
  by_cases h1 : e = 1
  · subst h1
    exact Yd.pos rfl (Yd.ret _)
  refine Yd.neg (e_ne (j := 1) h1 (by omega) (by omega)) ?_
  rw [if_neg h1]
  by_cases h2 : e = 2
  · subst h2
    exact Yd.pos rfl (Yd.bind (p_runs (by omega)) (Yd.retE (nI_add 1 _)))
  refine Yd.neg (e_ne (j := 2) h2 (by omega) (by omega)) ?_
  rw [if_neg h2]
  by_cases h3 : e = 3
  · subst h3
    refine Yd.pos rfl (Yd.bind (p_diff h hb) (Yd.retE ?_))
    rw [e1, nI_1, nI_add]
    rfl
  refine Yd.neg (e_ne (j := 3) h3 (by omega) (by omega)) ?_
  rw [if_neg h3]
  by_cases h4 : e = 4
  · subst h4
    refine Yd.pos rfl (Yd.retE ?_)
    rw [e1]
    exact nI_add _ 2
  refine Yd.neg (e_ne (j := 4) h4 (by omega) (by omega)) ?_
  rw [if_neg h4]
  exact Yd.retE (nI_1 _)
theorem p_ccost {e : Nat} {a : Int32} (h : s + m ≤ 96) (hm : 0 < m) (hb : Bd (sg mv s) m) (ha : a.toInt < 2147483647) (he : e ≤ 5) : Yd (fun n => f_X6_countCost n (nI e) a (nI s) (nI m) mv) (nI (ct (sg mv s) m e a)) := by
  unfold f_X6_countCost ct
  by_cases h1 : e = 1
  · subst h1
    exact Yd.pos rfl (Yd.ret _)
  refine Yd.neg (e_ne (j := 1) h1 (by omega) (by omega)) ?_
  rw [if_neg h1]
  by_cases h2 : e = 2
  · subst h2
    refine Yd.pos rfl ?_
    rw [show nI m - 1 = nI (m - 1) from nI_sub (a := m) (b := 1) hm]
    exact Yd.bind (p_runs (by omega)) (Yd.retE (nI_1 _))
  refine Yd.neg (e_ne (j := 2) h2 (by omega) (by omega)) ?_
  rw [if_neg h2]
  by_cases h3 : e = 3
  · subst h3
    refine Yd.pos rfl (Yd.bind (p_diff h hb) ?_)
    refine Yd.bind (p_has h ha) ?_
    by_cases h5 : a ∈ dl (sg mv s) m
    · refine Yd.neg (by simp [h5, pr_b]) (Yd.retE ?_)
      rw [if_pos rfl, if_pos h5]
      exact nI_add _ _
    · refine Yd.pos (by simp [h5, pr_b]) (Yd.retE ?_)
      rw [if_pos rfl, if_neg h5]
      exact nI_add _ 0
  refine Yd.neg (e_ne (j := 3) h3 (by omega) (by omega)) ?_
  rw [if_neg h3]
  by_cases h4 : e = 4
  · subst h4
    refine Yd.pos rfl (Yd.bind (p_least h hm) ?_)
    rw [if_pos rfl]
    by_cases h5 : a < mn (sg mv s) (m - 1)
    · refine Yd.pos h5 (Yd.retE ?_)
      rw [if_pos h5]
      exact nI_add 1 0
    · refine Yd.neg h5 ?_
      refine Yd.bind (p_least h hm) ?_
      refine Yd.bind (p_frame h hm hb) ?_
      rw [if_neg h5]
      by_cases h6 : mn (sg mv s) (m - 1) + ((1 : Int32) <<< (nI (fw (sg mv s) m) &&& 31)) ≤ a
      · refine Yd.pos h6 (Yd.retE ?_)
        rw [if_pos h6]
        exact nI_add 1 0
      · refine Yd.neg h6 (Yd.retE ?_)
        rw [if_neg h6]
        exact nI_add 1 _
  refine Yd.neg (e_ne (j := 4) h4 (by omega) (by omega)) ?_
  rw [if_neg h4]
  exact Yd.ret _
end PuE
