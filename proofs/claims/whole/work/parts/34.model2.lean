/-! the reference: how many different values are below a limit -/
section PuD
variable {mv : Nat → Int32} {s m : Nat}
/-- the index k is the first with its value, and this is below lim -/
def Fst (g : Nat → Int32) (lim : Int32) (k j : Nat) : Prop := g k < lim ∧ ∀ i, i < j → g i ≠ g k
theorem cb_step (g : Nat → Int32) (lim : Int32) (k : Nat) : (Fst g lim k k → cb lim (dl g (k + 1)) = cb lim (dl g k) + 1) ∧ (¬ Fst g lim k k → cb lim (dl g (k + 1)) = cb lim (dl g k)) := by
  have e : cb lim (dl g (k + 1)) = _ := insR_cb (v := g k) (lim := lim) (dl_srt g k)
  have hm := dl_mem (g := g) (x := g k) (m := k)
  constructor
  · intro h
    rw [e, if_neg (fun h1 => by obtain ⟨i, hi, h2⟩ := hm.mp h1; exact h.2 i hi h2), if_pos h.1]
  · intro h
    rw [e]
    by_cases h1 : g k ∈ dl g k
    · rw [if_pos h1]
      rfl
    · rw [if_neg h1]
      by_cases h2 : g k < lim
      · exact absurd ⟨h2, fun i hi h3 => h1 (hm.mpr ⟨i, hi, h3⟩)⟩ h
      · rw [if_neg h2]
        rfl
theorem insR_len (v : Int32) : ∀ L : List Int32, (insR v L).length ≤ L.length + 1
  | [] => by simp [insR]
  | a :: L => by
    have ih := insR_len v L
    unfold insR
    by_cases h1 : a < v
    · rw [if_pos h1, List.length_cons, List.length_cons]; omega
    · rw [if_neg h1]
      by_cases h2 : a = v
      · rw [if_pos h2]; omega
      · rw [if_neg h2, List.length_cons]; omega
theorem dl_len (g : Nat → Int32) : ∀ m, (dl g m).length ≤ m
  | 0 => Nat.le_refl _
  | m + 1 => by
    have h1 := dl_len g m
    have h2 := insR_len (g m) (dl g m)
    show (insR (g m) (dl g m)).length ≤ m + 1
    omega
theorem cb_le (g : Nat → Int32) (lim : Int32) (m : Nat) : cb lim (dl g m) ≤ m := Nat.le_trans List.countP_le_length (dl_len g m)
theorem p_db_loop (h : s + m ≤ 96) {lim : Int32} : ∀ d k, k + d = m → Yd (fun n => f_X6_differentBelow_4 n 4 lim (nI (cb lim (dl (sg mv s) k))) (nI k) 0 0 (nI s) (nI m) mv) (nI (cb lim (dl (sg mv s) m))) := by
  intro d
  induction d with
  | zero =>
    intro k hk
    refine s_X6_differentBelow_4 ?_
    unfold f_X6_differentBelow_4_s
    refine Yd.pos rfl ?_
    refine Yd.pos (nI_le (by omega) (by omega)) (Yd.retE ?_)
    rw [show k = m by omega]
  | succ d ih =>
    intro k hk
    have key : ∀ d2 j (z4 : Int32), j + d2 = k → (z4 = 1 ∧ Fst (sg mv s) lim k j ∨ z4 = 0 ∧ ¬ Fst (sg mv s) lim k j) → Yd (fun n => f_X6_differentBelow_4 n 31 lim (nI (cb lim (dl (sg mv s) k))) (nI k) z4 (nI j) (nI s) (nI m) mv) (nI (cb lim (dl (sg mv s) m))) := by
      intro d2
      induction d2 with
      | zero =>
        intro j z4 hj hz
        refine s_X6_differentBelow_4 ?_
        unfold f_X6_differentBelow_4_s
        refine Yd.neg (by decide) ?_
        refine Yd.pos (nI_le (by omega) (by omega)) ?_
        have ej : j = k := by omega
        subst ej
        have st := cb_step (sg mv s) lim j
        have ih1 := ih (j + 1) (by omega)
        rcases hz with ⟨rfl, hF⟩ | ⟨rfl, hF⟩
        · refine Yd.neg (by decide) ?_
          rw [st.1 hF] at ih1
          rw [nI_1, nI_1]
          exact ih1
        · refine Yd.pos rfl ?_
          rw [st.2 hF] at ih1
          rw [nI_1, show ∀ a, nI a + 0 = nI a from fun a => nI_add a 0]
          exact ih1
      | succ d2 ih2 =>
        intro j z4 hj hz
        refine s_X6_differentBelow_4 ?_
        unfold f_X6_differentBelow_4_s
        refine Yd.neg (by decide) ?_
        refine Yd.neg (nI_ge (by omega) (by omega)) ?_
        rw [nI_1]
        rcases hz with ⟨rfl, hF⟩ | ⟨rfl, hF⟩
        · refine Yd.neg (by decide) ?_
          refine Yd.bind (p_at (by omega)) ?_
          refine Yd.bind (p_at (by omega)) ?_
          by_cases he : sg mv s j = sg mv s k
          · refine Yd.pos he ?_
            exact ih2 (j + 1) 0 (by omega) (Or.inr ⟨rfl, fun hF2 => hF2.2 j (by omega) he⟩)
          · refine Yd.neg he ?_
            refine ih2 (j + 1) 1 (by omega) (Or.inl ⟨rfl, hF.1, fun i hi => ?_⟩)
            by_cases hij : i = j
            · rw [hij]; exact he
            · exact hF.2 i (by omega)
        · refine Yd.pos rfl ?_
          exact ih2 (j + 1) 0 (by omega) (Or.inr ⟨rfl, fun hF2 => hF ⟨hF2.1, fun i hi => hF2.2 i (by omega)⟩⟩)
    refine s_X6_differentBelow_4 ?_
    unfold f_X6_differentBelow_4_s
    refine Yd.pos rfl ?_
    refine Yd.neg (nI_ge (by omega) (by omega)) ?_
    refine Yd.bind (p_at (by omega)) ?_
    by_cases hl : lim ≤ sg mv s k
    · refine Yd.pos hl ?_
      refine key k 0 0 (by omega) (Or.inr ⟨rfl, fun hF => ?_⟩)
      have h1 := Int32.le_iff_toInt_le.mp hl
      have h2 := Int32.lt_iff_toInt_lt.mp hF.1
      omega
    · refine Yd.neg hl ?_
      refine key k 0 1 (by omega) (Or.inl ⟨rfl, ?_, fun i hi => by omega⟩)
      have h1 : ¬ lim.toInt ≤ (sg mv s k).toInt := fun h => hl (Int32.le_iff_toInt_le.mpr h)
      exact Int32.lt_iff_toInt_lt.mpr (by omega)
theorem p_db (h : s + m ≤ 96) {lim : Int32} : Yd (fun n => f_X6_differentBelow n lim (nI s) (nI m) mv) (nI (cb lim (dl (sg mv s) m))) := by
  unfold f_X6_differentBelow
  exact p_db_loop h m 0 (by omega)
theorem cb_all {lim : Int32} {L : List Int32} (h : ∀ x ∈ L, x < lim) : cb lim L = L.length := by
  unfold cb
  rw [List.countP_eq_length]
  intro x hx
  simp [h x hx]
theorem dl_all {g : Nat → Int32} (hb : Bd g m) : cb 100001 (dl g m) = (dl g m).length := by
  apply cb_all
  intro x hx
  obtain ⟨k, hk, e⟩ := dl_mem.mp hx
  have h1 := hb k hk
  apply Int32.lt_iff_toInt_lt.mpr
  have h2 : (100001 : Int32).toInt = 100001 := by decide
  rw [← e]
  omega
theorem p_diff (h : s + m ≤ 96) (hb : Bd (sg mv s) m) : Yd (fun n => f_X6_different n (nI s) (nI m) mv) (nI (dl (sg mv s) m).length) := by
  unfold f_X6_different
  refine Yd.bind (p_db h) (Yd.retE ?_)
  rw [dl_all hb]
/-- a value is in the list just where more are below its successor than below it -/
theorem cb_succ {a : Int32} (ha : a.toInt < 2147483647) : ∀ {L : List Int32}, Srt L → cb (a + 1) L = cb a L + (if a ∈ L then 1 else 0)
  | [], _ => rfl
  | x :: L, hs => by
    obtain ⟨hx, hL⟩ := List.pairwise_cons.mp hs
    have ih := cb_succ ha hL
    have h0 := Int32.le_toInt a
    have e1 : (1 : Int32).toInt = 1 := by decide
    have ea : (a + 1).toInt = a.toInt + 1 := by
      rw [Int32.toInt_add, e1, Int.bmod_eq_of_le] <;> omega
    by_cases he : x = a
    · subst he
      have hn : ¬ x ∈ L := fun h => i_irr x (hx x h)
      rw [if_neg hn] at ih
      have h1 : x < x + 1 := Int32.lt_iff_toInt_lt.mpr (by omega)
      simp only [cb, List.countP_cons, h1, i_irr, List.mem_cons, true_or, if_true, decide_true, decide_false] at ih ⊢
      simp only [Bool.false_eq_true, if_false]
      omega
    · have h1 : (x < a + 1) ↔ (x < a) := by
        rw [Int32.lt_iff_toInt_lt, Int32.lt_iff_toInt_lt, ea]
        have : x.toInt ≠ a.toInt := fun h => he (Int32.toInt_inj.mp h)
        omega
      have h2 : (a ∈ x :: L) ↔ a ∈ L := by
        rw [List.mem_cons]
        exact ⟨fun h => h.elim (fun h => absurd h.symm he) id, Or.inr⟩
      simp only [cb, List.countP_cons, h1, h2] at ih ⊢
      omega
theorem p_has (h : s + m ≤ 96) {a : Int32} (ha : a.toInt < 2147483647) : Yd (fun n => f_X6_has n a (nI s) (nI m) mv) (decide (a ∈ dl (sg mv s) m)) := by
  unfold f_X6_has
  refine Yd.bind (p_db h) ?_
  refine Yd.bind (p_db h) ?_
  have e := cb_succ ha (dl_srt (sg mv s) m)
  have h1 := cb_le (sg mv s) a m
  by_cases hm : a ∈ dl (sg mv s) m
  · rw [if_pos hm] at e
    refine Yd.neg ?_ (Yd.retE (by simp [hm]))
    rw [e]
    exact nI_ge (by omega) (by omega)
  · rw [if_neg hm] at e
    refine Yd.pos ?_ (Yd.retE (by simp [hm]))
    rw [e]
    exact nI_le (by omega) (by omega)
/-- CONSTANT needs one run; the others are always possible -/
def psb (g : Nat → Int32) (m e : Nat) : Bool := !(e == 1) || rn g (m - 1) == 1
theorem p_possible (h : s + m ≤ 96) (hm : 0 < m) {e : Nat} (he : e < 100) : Yd (fun n => f_X6_isPossible n (nI e) (nI s) (nI m) mv) (psb (sg mv s) m e) := by
  unfold f_X6_isPossible psb
  by_cases h1 : e = 1
  · subst h1
    refine Yd.pos rfl ?_
    obtain ⟨j, rfl⟩ : ∃ j, m = j + 1 := ⟨m - 1, by omega⟩
    rw [nI_s1]
    refine Yd.bind (p_runs (by omega)) ?_
    have h2 := rn_le (sg mv s) j
    by_cases h3 : rn (sg mv s) j = 1
    · refine Yd.pos (by rw [h3]; rfl) (Yd.retE (by simp [h3]))
    · refine Yd.neg (fun h4 => h3 ((nI_eq (a := rn (sg mv s) j) (b := 1) (by omega) (by omega)).mp h4)) (Yd.retE (by simp [h3]))
  · refine Yd.neg (fun h4 => h1 ((nI_eq (a := e) (b := 1) (by omega) (by omega)).mp h4)) (Yd.retE (by simp [h1]))
end PuD
