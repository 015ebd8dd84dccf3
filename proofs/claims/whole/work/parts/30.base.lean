/-! the pure theory: what the printed functions answer. First: 'in the end it yields' -/
section PuA
def Yd {α : Type} (f : Nat → Option α) (a : α) : Prop := ∃ N, ∀ n, N ≤ n → f n = some a
theorem Yd.ret {α : Type} (a : α) : Yd (fun _ => some a) a := ⟨0, fun _ _ => rfl⟩
theorem Yd.retE {α : Type} {a b : α} (h : a = b) : Yd (fun _ => some a) b := ⟨0, fun _ _ => by rw [h]⟩
theorem Yd.all {α : Type} {f : Nat → Option α} {a : α} (h : ∀ n, f n = some a) : Yd f a := ⟨0, fun n _ => h n⟩
theorem Yd.bind {α β : Type} {f : Nat → Option α} {a : α} {g : Nat → α → Option β} {b : β} (h1 : Yd f a) (h2 : Yd (fun n => g n a) b) : Yd (fun n => (f n).bind (g n)) b := by
  obtain ⟨N1, h1⟩ := h1
  obtain ⟨N2, h2⟩ := h2
  refine ⟨N1 + N2, fun n hn => ?_⟩
  show (f n).bind (g n) = some b
  rw [h1 n (by omega)]
  exact h2 n (by omega)
theorem Yd.pos {α : Type} {c : Prop} [Decidable c] {f g : Nat → Option α} {a : α} (h : c) (k : Yd f a) : Yd (fun n => if c then f n else g n) a := by
  obtain ⟨N, k⟩ := k
  exact ⟨N, fun n hn => by show (if c then f n else g n) = some a; rw [if_pos h]; exact k n hn⟩
theorem Yd.neg {α : Type} {c : Prop} [Decidable c] {f g : Nat → Option α} {a : α} (h : ¬ c) (k : Yd g a) : Yd (fun n => if c then f n else g n) a := by
  obtain ⟨N, k⟩ := k
  exact ⟨N, fun n hn => by show (if c then f n else g n) = some a; rw [if_neg h]; exact k n hn⟩
theorem Yd.succ {α : Type} {f g : Nat → Option α} {a : α} (hs : ∀ n, f (n + 1) = g n) (h : Yd g a) : Yd f a := by
  obtain ⟨N, h⟩ := h
  refine ⟨N + 1, fun n hn => ?_⟩
  obtain ⟨k, rfl⟩ : ∃ k, n = k + 1 := ⟨n - 1, by omega⟩
  rw [hs]
  exact h k (by omega)
theorem Yd.eq {α : Type} {f : Nat → Option α} {a b : α} (h : Yd f a) (e : a = b) : Yd f b := e ▸ h
/-! numbers -/
theorem nI_m1 (a : Nat) : nI (a + 1) + (-1) = nI a := by
  rw [← nI_pred a, Int32.sub_eq_add_neg]
theorem nI_s1 (a : Nat) : nI (a + 1) - 1 = nI a := nI_pred a
theorem nI_mul (a b : Nat) : nI a * nI b = nI (a * b) := by
  unfold nI
  rw [← Int32.ofInt_eq_ofNat, ← Int32.ofInt_eq_ofNat, ← Int32.ofInt_eq_ofNat, ← Int32.ofInt_mul, Int.natCast_mul]
theorem nI_sub {a b : Nat} (h : b ≤ a) : nI a - nI b = nI (a - b) := by
  unfold nI
  rw [← Int32.ofInt_eq_ofNat, ← Int32.ofInt_eq_ofNat, ← Int32.ofInt_eq_ofNat, ← Int32.ofInt_sub, Int.ofNat_sub h]
theorem nI_dv {a b : Nat} (ha : a < 2 ^ 31) (hb : b < 2 ^ 31) (h0 : 0 < b) : pr_dv (nI a) (nI b) = some (nI (a / b)) := by
  unfold pr_dv
  rw [if_neg (nI_ne0 h0 hb)]
  congr 1
  apply Int32.toInt_inj.mp
  have hb1 : nI b ≠ -1 := by
    intro h
    have h1 := congrArg Int32.toInt h
    rw [nI_toInt hb] at h1
    have h2 : (-1 : Int32).toInt = -1 := by decide
    omega
  have hlt : a / b < 2 ^ 31 := Nat.lt_of_le_of_lt (Nat.div_le_self a b) ha
  rw [Int32.toInt_div_of_ne_right _ _ hb1, nI_toInt ha, nI_toInt hb, nI_toInt hlt]
  rw [Int.tdiv_eq_ediv_of_nonneg (by omega)]
  exact (Int.natCast_ediv a b).symm
theorem pr_rd_nI {a : Nat → Int32} {N i : Nat} (h : i < N) (hN : N ≤ 100000) : pr_rd a N (nI i) = some (a i) := by
  unfold pr_rd
  rw [if_neg (nI_in h (by omega)), nI_clamp (by omega)]
theorem pr_wr_nI {a : Nat → Int32} {N i : Nat} {x : Int32} (h : i < N) (hN : N ≤ 100000) : pr_wr a N (nI i) x = some (upd a i x) := by
  unfold pr_wr
  rw [if_neg (nI_in h (by omega)), nI_clamp (by omega)]
theorem Yd.rd {β : Type} {a : Nat → Int32} {N i : Nat} {g : Nat → Int32 → Option β} {b : β} (h : i < N) (hN : N ≤ 100000) (k : Yd (fun n => g n (a i)) b) : Yd (fun n => (pr_rd a N (nI i)).bind (g n)) b := Yd.bind (Yd.all fun _ => pr_rd_nI h hN) k
theorem Yd.wr {β : Type} {a : Nat → Int32} {N i : Nat} {x : Int32} {g : Nat → (Nat → Int32) → Option β} {b : β} (h : i < N) (hN : N ≤ 100000) (k : Yd (fun n => g n (upd a i x)) b) : Yd (fun n => (pr_wr a N (nI i) x).bind (g n)) b := Yd.bind (Yd.all fun _ => pr_wr_nI h hN) k
theorem sh_l : ∀ n, n < 32 → ((nI n &&& 31).toBitVec.smod 32).toNat = n := by decide
theorem sh_bit {x k : Nat} (hx : x < 2 ^ 31) (hk : k < 32) : (nI x >>> (nI k &&& 31)) &&& 1 = nI (x / 2 ^ k % 2) := by
  rw [pk_shrN hx _ k (sh_l k hk)]
  have h1 : x / 2 ^ k < 2 ^ 32 := Nat.lt_of_le_of_lt (Nat.div_le_self _ _) (by omega)
  rw [pk_andN h1 1 (by decide)]
theorem sh_one {k : Nat} (hk : k < 31) : (1 : Int32) <<< (nI k &&& 31) = nI (2 ^ k) := by
  have h := pk_shlN (n := 1) (nI k &&& 31) k (sh_l k (by omega)) (by
    have : 2 ^ k ≤ 2 ^ 30 := Nat.pow_le_pow_right (by omega) (by omega)
    omega)
  rw [Nat.one_mul] at h
  exact h
/-- the width of a number -/
def wd (x : Nat) : Nat := if x = 0 then 0 else Nat.log2 x + 1
theorem wd_le {x k : Nat} : wd x ≤ k ↔ x < 2 ^ k := by
  unfold wd
  by_cases h : x = 0
  · subst h
    simp
    exact Nat.pos_of_ne_zero (by simp)
  · rw [if_neg h]
    exact ⟨fun h1 => (Nat.log2_lt h).mp h1, fun h1 => (Nat.log2_lt h).mpr h1⟩
theorem wd_lt {x k : Nat} : k < wd x ↔ 2 ^ k ≤ x := by
  have := @wd_le x k
  omega
theorem wd_mono {x y : Nat} (h : x ≤ y) : wd x ≤ wd y := wd_le.mpr (Nat.lt_of_le_of_lt h (wd_le.mp (Nat.le_refl _)))
theorem wd_max (x y : Nat) : wd (max x y) = max (wd x) (wd y) := by
  rcases Nat.le_total x y with h | h
  · have := wd_mono h
    rw [Nat.max_eq_right h, Nat.max_eq_right this]
  · have := wd_mono h
    rw [Nat.max_eq_left h, Nat.max_eq_left this]
end PuA
