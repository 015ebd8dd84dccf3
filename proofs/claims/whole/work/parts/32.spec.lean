/-! the segment's mathematics: its runs, least and greatest value, different values in order, widths, bits -/
section PuB
theorem sl_l : ∀ n, n < 64 → (((nI n).toInt64 &&& 63).toBitVec.smod 64).toNat = n := by decide
theorem lN_shr {x k : Nat} (hx : x < 2 ^ 31) (hk : k < 64) : lN x >>> ((nI k).toInt64 &&& 63) = lN (x / 2 ^ k) := by
  apply Int64.toInt_inj.mp
  have h2 : x / 2 ^ k ≤ x := Nat.div_le_self _ _
  show ((lN x).toBitVec.sshiftRight (((nI k).toInt64 &&& 63).toBitVec.smod 64).toNat).toInt = _
  rw [sl_l k hk, BitVec.toInt_sshiftRight]
  show (lN x).toInt >>> k = _
  rw [lN_toInt hx, lN_toInt (by omega), Int.shiftRight_eq_div_pow]
  rfl
theorem cmp_le0 (x y : Int64) : lg_cmp x y ≤ 0 ↔ x ≤ y := by
  unfold lg_cmp
  by_cases h : x > y
  · rw [if_pos h]
    exact ⟨fun h1 => absurd h1 (by decide), fun h1 => absurd (Int64.lt_iff_toInt_lt.mp h) (by have := Int64.le_iff_toInt_le.mp h1; omega)⟩
  · rw [if_neg h]
    have h2 : x ≤ y := by
      apply Int64.le_iff_toInt_le.mpr
      have : ¬ y.toInt < x.toInt := fun h3 => h (Int64.lt_iff_toInt_lt.mpr h3)
      omega
    by_cases h3 : x = y
    · rw [if_pos h3]
      exact ⟨fun _ => h2, fun _ => by decide⟩
    · rw [if_neg h3]
      exact ⟨fun _ => h2, fun _ => by decide⟩
theorem cmp_lt0 (x y : Int64) : lg_cmp x y < 0 ↔ x < y := by
  unfold lg_cmp
  by_cases h : x > y
  · rw [if_pos h]
    have h4 := Int64.lt_iff_toInt_lt.mp h
    exact ⟨fun h1 => absurd h1 (by decide), fun h1 => absurd (Int64.lt_iff_toInt_lt.mp h1) (by omega)⟩
  · rw [if_neg h]
    by_cases h3 : x = y
    · rw [if_pos h3]
      subst h3
      exact ⟨fun h1 => absurd h1 (by decide), fun h1 => absurd h1 h⟩
    · rw [if_neg h3]
      refine ⟨fun _ => ?_, fun _ => by decide⟩
      apply Int64.lt_iff_toInt_lt.mpr
      have h5 : ¬ y.toInt < x.toInt := fun h6 => h (Int64.lt_iff_toInt_lt.mpr h6)
      have h7 : x.toInt ≠ y.toInt := fun h8 => h3 (Int64.toInt_inj.mp h8)
      omega
theorem cmp_gt0 (x y : Int64) : 0 < lg_cmp x y ↔ y < x := by
  unfold lg_cmp
  by_cases h : x > y
  · rw [if_pos h]
    exact ⟨fun _ => h, fun _ => by decide⟩
  · rw [if_neg h]
    by_cases h3 : x = y
    · rw [if_pos h3]
      exact ⟨fun h1 => absurd h1 (by decide), fun h1 => absurd h1 h⟩
    · rw [if_neg h3]
      exact ⟨fun h1 => absurd h1 (by decide), fun h1 => absurd h1 h⟩
def sg (a : Nat → Int32) (s : Nat) : Nat → Int32 := fun k => a (s + k)
def mn (g : Nat → Int32) : Nat → Int32
  | 0 => g 0
  | k + 1 => if g (k + 1) < mn g k then g (k + 1) else mn g k
def mx (g : Nat → Int32) : Nat → Int32
  | 0 => g 0
  | k + 1 => if mx g k < g (k + 1) then g (k + 1) else mx g k
def rn (g : Nat → Int32) : Nat → Nat
  | 0 => 1
  | k + 1 => rn g k + (if g (k + 1) = g k then 0 else 1)
def fo (x : Int32) : Int32 := if x < 0 then (-2) * x - 1 else 2 * x
def foN (d : Int) : Nat := if d < 0 then (-2 * d - 1).toNat else (2 * d).toNat
def dI (g : Nat → Int32) (k : Nat) : Int := (g (k + 1)).toInt - (g k).toInt
def dw (g : Nat → Int32) : Nat → Nat
  | 0 => 0
  | k + 1 => max (dw g k) (wd (foN (dI g k)))
def fw (g : Nat → Int32) (m : Nat) : Nat := wd ((mx g (m - 1)).toInt - (mn g (m - 1)).toInt).toNat
def insR (v : Int32) : List Int32 → List Int32
  | [] => [v]
  | a :: L => if a < v then a :: insR v L else if a = v then a :: L else v :: a :: L
def dl (g : Nat → Int32) : Nat → List Int32
  | 0 => []
  | m + 1 => insR (g m) (dl g m)
abbrev cb (lim : Int32) (L : List Int32) : Nat := L.countP (fun x => decide (x < lim))
abbrev Srt (L : List Int32) : Prop := L.Pairwise (fun a b => a < b)
theorem i_irr (a : Int32) : ¬ a < a := fun h => by have := Int32.lt_iff_toInt_lt.mp h; omega
theorem i_trans {a b c : Int32} (h1 : a < b) (h2 : b < c) : a < c := by
  have h1 := Int32.lt_iff_toInt_lt.mp h1
  have h2 := Int32.lt_iff_toInt_lt.mp h2
  exact Int32.lt_iff_toInt_lt.mpr (by omega)
theorem i_tri {a b : Int32} (h1 : ¬ a < b) (h2 : ¬ a = b) : b < a := by
  have h3 : ¬ a.toInt < b.toInt := fun h => h1 (Int32.lt_iff_toInt_lt.mpr h)
  have h4 : a.toInt ≠ b.toInt := fun h => h2 (Int32.toInt_inj.mp h)
  exact Int32.lt_iff_toInt_lt.mpr (by omega)
theorem insR_mem {v x : Int32} : ∀ {L : List Int32}, x ∈ insR v L ↔ x = v ∨ x ∈ L
  | [] => by simp [insR]
  | a :: L => by
    unfold insR
    by_cases h1 : a < v
    · rw [if_pos h1]
      simp only [List.mem_cons, insR_mem (L := L)]
      exact ⟨fun h => by rcases h with h | h | h <;> simp [h], fun h => by rcases h with h | h | h <;> simp [h]⟩
    · rw [if_neg h1]
      by_cases h2 : a = v
      · rw [if_pos h2]
        subst h2
        simp
      · rw [if_neg h2]
        simp
theorem insR_srt {v : Int32} : ∀ {L : List Int32}, Srt L → Srt (insR v L)
  | [], _ => by simp [insR, Srt]
  | a :: L, h => by
    unfold insR
    obtain ⟨ha, hL⟩ := List.pairwise_cons.mp h
    by_cases h1 : a < v
    · rw [if_pos h1]
      refine List.pairwise_cons.mpr ⟨fun b hb => ?_, insR_srt hL⟩
      rcases insR_mem.mp hb with h2 | h2
      · rw [h2]; exact h1
      · exact ha b h2
    · rw [if_neg h1]
      by_cases h2 : a = v
      · rw [if_pos h2]; exact h
      · rw [if_neg h2]
        have hva := i_tri h1 h2
        refine List.pairwise_cons.mpr ⟨fun b hb => ?_, h⟩
        rcases List.mem_cons.mp hb with h3 | h3
        · rw [h3]; exact hva
        · exact i_trans hva (ha b h3)
theorem dl_srt (g : Nat → Int32) : ∀ m, Srt (dl g m)
  | 0 => List.Pairwise.nil
  | m + 1 => insR_srt (dl_srt g m)
theorem dl_mem {g : Nat → Int32} {x : Int32} : ∀ {m : Nat}, x ∈ dl g m ↔ ∃ k, k < m ∧ g k = x
  | 0 => by simp [dl]
  | m + 1 => by
    unfold dl
    rw [insR_mem, dl_mem (m := m)]
    constructor
    · rintro (h | ⟨k, hk, h⟩)
      · exact ⟨m, by omega, h.symm⟩
      · exact ⟨k, by omega, h⟩
    · rintro ⟨k, hk, h⟩
      by_cases h1 : k = m
      · subst h1; exact Or.inl h.symm
      · exact Or.inr ⟨k, by omega, h⟩
theorem insR_cb {v lim : Int32} : ∀ {L : List Int32}, Srt L → cb lim (insR v L) = cb lim L + (if v ∈ L then 0 else if v < lim then 1 else 0)
  | [], _ => by
    unfold insR cb
    by_cases h : v < lim <;> simp [h]
  | a :: L, h => by
    obtain ⟨ha, hL⟩ := List.pairwise_cons.mp h
    have ih := insR_cb (v := v) (lim := lim) hL
    unfold insR
    by_cases h1 : a < v
    · rw [if_pos h1]
      have hne : ¬ v = a := fun h2 => by subst h2; exact i_irr _ h1
      simp only [cb, List.countP_cons, List.mem_cons, hne, false_or] at ih ⊢
      omega
    · rw [if_neg h1]
      by_cases h2 : a = v
      · rw [if_pos h2, if_pos (by rw [h2]; exact List.mem_cons_self)]
        rfl
      · rw [if_neg h2]
        have hva := i_tri h1 h2
        have hnm : ¬ v ∈ a :: L := by
          intro h3
          rcases List.mem_cons.mp h3 with h4 | h4
          · exact h2 h4.symm
          · exact i_irr _ (i_trans hva (ha v h4))
        rw [if_neg hnm]
        by_cases h5 : v < lim <;> simp [cb, List.countP_cons, h5]
theorem mn_le (g : Nat → Int32) : ∀ m k, k ≤ m → (mn g m).toInt ≤ (g k).toInt
  | 0, k, h => by rw [show k = 0 by omega]; exact Int.le_refl _
  | m + 1, k, h => by
    have ih := mn_le g m
    unfold mn
    by_cases h1 : g (m + 1) < mn g m
    · rw [if_pos h1]
      have h2 := Int32.lt_iff_toInt_lt.mp h1
      by_cases h3 : k = m + 1
      · rw [h3]; exact Int.le_refl _
      · have := ih k (by omega); omega
    · rw [if_neg h1]
      have h2 : ¬ (g (m + 1)).toInt < (mn g m).toInt := fun h => h1 (Int32.lt_iff_toInt_lt.mpr h)
      by_cases h3 : k = m + 1
      · rw [h3]; omega
      · exact ih k (by omega)
theorem mn_mem (g : Nat → Int32) : ∀ m, ∃ k, k ≤ m ∧ mn g m = g k
  | 0 => ⟨0, Nat.le_refl _, rfl⟩
  | m + 1 => by
    obtain ⟨k, hk, e⟩ := mn_mem g m
    unfold mn
    by_cases h1 : g (m + 1) < mn g m
    · exact ⟨m + 1, Nat.le_refl _, if_pos h1⟩
    · exact ⟨k, by omega, (if_neg h1).trans e⟩
theorem mx_ge (g : Nat → Int32) : ∀ m k, k ≤ m → (g k).toInt ≤ (mx g m).toInt
  | 0, k, h => by rw [show k = 0 by omega]; exact Int.le_refl _
  | m + 1, k, h => by
    have ih := mx_ge g m
    unfold mx
    by_cases h1 : mx g m < g (m + 1)
    · rw [if_pos h1]
      have h2 := Int32.lt_iff_toInt_lt.mp h1
      by_cases h3 : k = m + 1
      · rw [h3]; exact Int.le_refl _
      · have := ih k (by omega); omega
    · rw [if_neg h1]
      have h2 : ¬ (mx g m).toInt < (g (m + 1)).toInt := fun h => h1 (Int32.lt_iff_toInt_lt.mpr h)
      by_cases h3 : k = m + 1
      · rw [h3]; omega
      · exact ih k (by omega)
theorem mx_mem (g : Nat → Int32) : ∀ m, ∃ k, k ≤ m ∧ mx g m = g k
  | 0 => ⟨0, Nat.le_refl _, rfl⟩
  | m + 1 => by
    obtain ⟨k, hk, e⟩ := mx_mem g m
    unfold mx
    by_cases h1 : mx g m < g (m + 1)
    · exact ⟨m + 1, Nat.le_refl _, if_pos h1⟩
    · exact ⟨k, by omega, (if_neg h1).trans e⟩
/-- values that the document allows -/
def Bd (g : Nat → Int32) (m : Nat) : Prop := ∀ k, k < m → -100000 ≤ (g k).toInt ∧ (g k).toInt ≤ 100000
theorem sub_toInt {a b : Int32} (h1 : -1000000 ≤ a.toInt ∧ a.toInt ≤ 1000000) (h2 : -1000000 ≤ b.toInt ∧ b.toInt ≤ 1000000) : (a - b).toInt = a.toInt - b.toInt := by
  rw [Int32.toInt_sub, Int.bmod_eq_of_le] <;> omega
theorem of_toInt {x : Int32} {k : Nat} (h : x.toInt = k) : x = nI k := by
  apply Int32.toInt_inj.mp
  have h1 := Int32.toInt_lt x
  rw [nI_toInt (by omega), h]
theorem fo_nat {x : Int32} (h : -1000000 ≤ x.toInt ∧ x.toInt ≤ 1000000) : fo x = nI (foN x.toInt) := by
  apply of_toInt
  unfold fo foN
  have e2 : (-2 : Int32).toInt = -2 := by decide
  have e1 : (1 : Int32).toInt = 1 := by decide
  have e3 : (2 : Int32).toInt = 2 := by decide
  by_cases h1 : x < 0
  · have h2 := Int32.lt_iff_toInt_lt.mp h1
    have h3 : x.toInt < 0 := h2
    rw [if_pos h1, if_pos h3]
    have h4 : ((-2) * x).toInt = -2 * x.toInt := by
      rw [Int32.toInt_mul, e2, Int.bmod_eq_of_le] <;> omega
    rw [Int32.toInt_sub, h4, e1, Int.bmod_eq_of_le] <;> omega
  · have h3 : ¬ x.toInt < 0 := fun h2 => h1 (Int32.lt_iff_toInt_lt.mpr h2)
    rw [if_neg h1, if_neg h3]
    rw [Int32.toInt_mul, e3, Int.bmod_eq_of_le] <;> omega
theorem foN_lt {d : Int} (h : -200000 ≤ d ∧ d ≤ 200000) : foN d < 524288 := by
  unfold foN
  by_cases h1 : d < 0
  · rw [if_pos h1]; omega
  · rw [if_neg h1]; omega
def bo (x : Int32) : Nat → List Int32
  | 0 => []
  | w + 1 => ((x >>> (nI w &&& 31)) &&& 1) :: bo x w
theorem bo_len (x : Int32) : ∀ w, (bo x w).length = w
  | 0 => rfl
  | w + 1 => by unfold bo; rw [List.length_cons, bo_len x w]
def bl (a : Nat → Int32) (p : Nat) : List Int32 → (Nat → Int32)
  | [] => a
  | x :: L => bl (upd a p x) (p + 1) L
theorem bl_app : ∀ (L1 L2 : List Int32) (a : Nat → Int32) (p : Nat), bl a p (L1 ++ L2) = bl (bl a p L1) (p + L1.length) L2
  | [], L2, a, p => rfl
  | x :: L1, L2, a, p => by
    show bl (upd a p x) (p + 1) (L1 ++ L2) = bl (bl (upd a p x) (p + 1) L1) (p + (L1.length + 1)) L2
    rw [bl_app L1 L2, show p + 1 + L1.length = p + (L1.length + 1) by omega]
def cat (F : Nat → List Int32) : Nat → List Int32
  | 0 => []
  | k + 1 => cat F k ++ F k
theorem cat_congr {F G : Nat → List Int32} : ∀ {m : Nat}, (∀ k, k < m → F k = G k) → cat F m = cat G m
  | 0, _ => rfl
  | m + 1, h => by
    unfold cat
    rw [cat_congr (fun k hk => h k (by omega)), h m (by omega)]
abbrev vb (v : Int32) : List Int32 := bo (v + 131072) 18
end PuB
