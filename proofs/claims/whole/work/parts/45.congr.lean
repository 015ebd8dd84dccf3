/-! a segment's words depend on its own rows alone; segments; regions of bits -/
section PuP
def Ag (g h : Nat → Int32) (m : Nat) : Prop := ∀ k, k < m → g k = h k
theorem Ag.symm {g h : Nat → Int32} {m : Nat} (a : Ag g h m) : Ag h g m := fun k hk => (a k hk).symm
theorem Ag.le {g h : Nat → Int32} {m j : Nat} (a : Ag g h m) (hj : j ≤ m) : Ag g h j := fun k hk => a k (by omega)
variable {g h : Nat → Int32} {m : Nat}
theorem mn_cg (a : Ag g h m) : ∀ j, j < m → mn g j = mn h j
  | 0, hj => a 0 hj
  | j + 1, hj => by unfold mn; rw [mn_cg a j (by omega), a (j + 1) hj]
theorem mx_cg (a : Ag g h m) : ∀ j, j < m → mx g j = mx h j
  | 0, hj => a 0 hj
  | j + 1, hj => by unfold mx; rw [mx_cg a j (by omega), a (j + 1) hj]
theorem rn_cg (a : Ag g h m) : ∀ j, j < m → rn g j = rn h j
  | 0, _ => rfl
  | j + 1, hj => by unfold rn; rw [rn_cg a j (by omega), a (j + 1) hj, a j (by omega)]
theorem dl_cg (a : Ag g h m) : ∀ j, j ≤ m → dl g j = dl h j
  | 0, _ => rfl
  | j + 1, hj => by unfold dl; rw [dl_cg a j (by omega), a j (by omega)]
theorem dw_cg (a : Ag g h m) : ∀ j, j < m → dw g j = dw h j
  | 0, _ => rfl
  | j + 1, hj => by unfold dw dI; rw [dw_cg a j (by omega), a (j + 1) hj, a j (by omega)]
theorem dn_cg (a : Ag g h m) : dn g m = dn h m := by unfold dn; rw [dl_cg a m (Nat.le_refl _)]
theorem fw_cg (a : Ag g h m) (hm : 0 < m) : fw g m = fw h m := by unfold fw; rw [mx_cg a (m - 1) (by omega), mn_cg a (m - 1) (by omega)]
theorem rl_cg (a : Ag g h m) : ∀ j, j ≤ m → rl g m j = rl h m j
  | 0, _ => rfl
  | j + 1, hj => by
    unfold rl
    rw [rl_cg a j (by omega)]
    by_cases c : j + 1 < m
    · rw [a (j + 1) c, a j (by omega)]
    · rw [if_neg (fun q => c q.1), if_neg (fun q => c q.1)]
theorem rF_cg (a : Ag g h m) {j : Nat} (hj : j < m) : rF g m j = rF h m j := by
  unfold rF
  rw [rl_cg a j (by omega), a j hj]
  by_cases c : j + 1 < m
  · rw [a (j + 1) c]
  · rw [if_neg (fun q => c q.1), if_neg (fun q => c q.1)]
theorem sz_cg (a : Ag g h m) (hm : 0 < m) (e : Nat) : sz g m e = sz h m e := by
  unfold sz
  rw [rn_cg a (m - 1) (by omega), dn_cg a, fw_cg a hm, dw_cg a (m - 1) (by omega)]
theorem psb_cg (a : Ag g h m) (hm : 0 < m) (e : Nat) : psb g m e = psb h m e := by
  unfold psb
  rw [rn_cg a (m - 1) (by omega)]
theorem enc_cg (a : Ag g h m) (hm : 0 < m) (e : Nat) : enc g m e = enc h m e := by
  unfold enc
  rw [cat_congr (F := fun k => vb (g k)) (G := fun k => vb (h k)) (fun k hk => by rw [a k hk]), a 0 hm, cat_congr (F := rF g m) (G := rF h m) (fun k hk => rF_cg a hk), dn_cg a, dl_cg a m (Nat.le_refl _),
    cat_congr (F := fun k => bo (nI (cb (g k) (dl h m))) (wd (dn h m - 1))) (G := fun k => bo (nI (cb (h k) (dl h m))) (wd (dn h m - 1))) (fun k hk => by rw [a k hk]), mn_cg a (m - 1) (by omega), fw_cg a hm,
    cat_congr (F := fun k => bo (g k - mn h (m - 1)) (fw h m)) (G := fun k => bo (h k - mn h (m - 1)) (fw h m)) (fun k hk => by rw [a k hk]), dw_cg a (m - 1) (by omega),
    cat_congr (F := fun k => bo (fo (g (k + 1) - g k)) (dw h (m - 1))) (G := fun k => bo (fo (h (k + 1) - h k)) (dw h (m - 1))) (fun k hk => by rw [a k (by omega), a (k + 1) (by omega)])]
theorem Bd_cg (a : Ag g h m) (hb : Bd g m) : Bd h m := fun k hk => by rw [← a k hk]; exact hb k hk
theorem PR_cg (a : Ag g h m) (hm : 0 < m) {s : Nat} {fr my rc dc le iw fd dd : Int32} {ru di : Nat → Int32} (hP : PR g s m fr my rc dc le iw fd dd ru di) : PR h s m fr my rc dc le iw fd dd ru di := by
  obtain ⟨e1, e2, e3, e4, e5, e6, e7, e8, e9, e10⟩ := hP
  have ed := dl_cg a m (Nat.le_refl _)
  refine ⟨e1, e2, by rw [e3, rn_cg a (m - 1) (by omega)], by rw [e4, dn_cg a], by rw [e5, mn_cg a (m - 1) (by omega)], by rw [e6, dn_cg a], by rw [e7, fw_cg a hm], by rw [e8, dw_cg a (m - 1) (by omega)], fun i hi => by rw [e9 i hi, rn_cg a i hi], ?_⟩
  rw [← ed]
  exact e10
theorem bl_get : ∀ (L : List Int32) (a : Nat → Int32) (p i : Nat), bl a p L i = if h : p ≤ i ∧ i < p + L.length then L[i - p]'(by omega) else a i
  | [], a, p, i => by
    rw [dif_neg (by rw [List.length_nil]; omega)]
    rfl
  | x :: L, a, p, i => by
    show bl (upd a p x) (p + 1) L i = _
    rw [bl_get L]
    by_cases c : i = p
    · subst c
      rw [dif_neg (by omega), dif_pos (by simp), upd_self]
      simp
    · by_cases c2 : p + 1 ≤ i ∧ i < p + 1 + L.length
      · rw [dif_pos c2, dif_pos (by rw [List.length_cons]; omega)]
        have e : i - p = (i - (p + 1)) + 1 := by omega
        simp only [e, List.getElem_cons_succ]
      · rw [dif_neg c2, dif_neg (by rw [List.length_cons]; omega), upd_ne c]
theorem hasb_bl (a : Nat → Int32) (p : Nat) (L : List Int32) : hasb (bl a p L) p L := by
  intro j hj
  rw [bl_get, dif_pos (by omega)]
  simp
theorem hasb_bl_ne {a : Nat → Int32} {p q : Nat} {L M : List Int32} (hh : hasb a q M) (hd : q + M.length ≤ p ∨ p + L.length ≤ q) : hasb (bl a p L) q M := by
  intro j hj
  rw [bl_get, dif_neg (by omega)]
  exact hh j hj
/-! segments -/
def ct_ (n S : Nat) : Nat := (n + S - 1) / S
def mr (n S k : Nat) : Nat := min S (n - k * S)
theorem ct_lt {n S k : Nat} (hS : 0 < S) : k < ct_ n S ↔ k * S < n := by
  unfold ct_
  rw [Nat.lt_iff_add_one_le, Nat.le_div_iff_mul_le hS, Nat.succ_mul]
  omega
theorem ct_le {n S : Nat} (hS : 4 ≤ S) (hn : n ≤ 96) : ct_ n S ≤ 24 := by
  rcases Nat.lt_or_ge 24 (ct_ n S) with c | c
  · have h1 := (ct_lt (by omega)).mp c
    have h2 : 24 * 4 ≤ 24 * S := Nat.mul_le_mul_left _ hS
    omega
  · exact c
theorem seg_end {n S k : Nat} (h : k * S < n) : k * S + mr n S k ≤ n ∧ 0 < mr n S k ∨ S = 0 := by
  unfold mr
  by_cases c : S = 0
  · exact Or.inr c
  · left; omega
theorem q_segOf {r S : Nat} (hr : r < 2 ^ 31) (hS : 0 < S) (hS2 : S < 2 ^ 31) : Yd (fun n => f_X5_segmentOf n (nI r) (nI S)) (nI (r / S)) := by
  unfold f_X5_segmentOf
  refine Yd.neg (nI_nle hS hS2) ?_
  exact Yd.bind (Yd.all fun _ => nI_dv hr hS2 hS) (Yd.ret _)
theorem q_segCount {n S : Nat} (hn : n ≤ 96) (hS : 4 ≤ S) (hS2 : S ≤ 32) : Yd (fun k => f_X5_segmentCount k (nI n) (nI S)) (nI (ct_ n S)) := by
  unfold f_X5_segmentCount
  rw [nI_add, show nI (n + S) - 1 = nI (n + S - 1) from nI_sub (b := 1) (by omega)]
  exact Yd.bind (q_segOf (by omega) (by omega) (by omega)) (Yd.ret _)
theorem q_first (k S : Nat) : Yd (fun n => f_X5_firstRowOf n (nI k) (nI S)) (nI (k * S)) := by
  unfold f_X5_firstRowOf
  exact Yd.retE (nI_mul _ _)
theorem q_start (k S : Nat) : Yd (fun n => f_X5_startOf n (nI k) (nI S)) (nI (k * S * 24)) := by
  unfold f_X5_startOf
  exact Yd.bind (q_first k S) (Yd.retE (nI_mul _ 24))
theorem q_rowsIn {n S k : Nat} (hn : n ≤ 96) (hS : S ≤ 32) (hk : k * S < n) : Yd (fun q => f_X5_rowsIn q (nI k) (nI n) (nI S)) (nI (mr n S k)) := by
  unfold f_X5_rowsIn
  refine Yd.bind (q_first k S) (Yd.retE ?_)
  rw [nI_sub (by omega), nI_min S (n - k * S) (by omega) (by omega)]
  rfl
/-- the class's bits hold the column V of n rows, cut into segments of S rows with the encodings E -/
def IB (V : Nat → Int32) (n S : Nat) (E : Nat → Nat) (en bc a : Nat → Int32) : Prop :=
  ∀ k, k * S < n → en k = nI (E k) ∧ E k ≤ 5 ∧ psb (sg V (k * S)) (mr n S k) (E k) = true ∧ bc k = nI (sz (sg V (k * S)) (mr n S k) (E k)) ∧ hasb a (k * S * 24) (enc (sg V (k * S)) (mr n S k) (E k))
theorem seg_bd {V : Nat → Int32} {n S k : Nat} (hb : Bd V n) (hk : k * S < n) : Bd (sg V (k * S)) (mr n S k) := by
  intro j hj
  unfold sg
  unfold mr at hj
  exact hb _ (by omega)
theorem seg_room {n S k : Nat} (hn : n ≤ 96) (hS : 4 ≤ S) (hS2 : S ≤ 32) (hk : k * S < n) : k * S * 24 + 24 * S ≤ 3072 := by omega
theorem enc_room {V : Nat → Int32} {n S k e : Nat} (hb : Bd V n) (hn : n ≤ 96) (hS : 4 ≤ S) (hS2 : S ≤ 32) (hk : k * S < n) : (enc (sg V (k * S)) (mr n S k) e).length ≤ 24 * S := by
  have hm : 0 < mr n S k := by unfold mr; omega
  have hm2 : mr n S k ≤ S := by unfold mr; omega
  rw [enc_len hm]
  have := sz_le (e := e) hm (by omega) (seg_bd hb hk)
  omega
end PuP
