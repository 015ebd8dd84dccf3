/-! bits: written one behind another; the list of a segment's bits; its length -/
section PuK
abbrev wo (P : Nat) (a : Nat → Int32) (L : List Int32) : Int32 × (Nat → Int32) := (nI (P + L.length), bl a P L)
theorem wo_app (P : Nat) (a : Nat → Int32) (L1 L2 : List Int32) : wo (P + L1.length) (bl a P L1) L2 = wo P a (L1 ++ L2) := by
  unfold wo
  rw [bl_app, List.length_append, Nat.add_assoc]
theorem nI_neg1 : nI 0 - 1 < 0 := by decide
theorem p_put {x : Int32} {bt : Nat → Int32} {P w : Nat} (h : P + w ≤ 2000) : Yd (fun n => f_X6_put n x (nI w) (nI P) bt) (wo P bt (bo x w)) := by
  have key : ∀ w P bt, P + w ≤ 2000 → Yd (fun n => f_X6_put_4 n x (nI w - 1) (nI P) bt) (wo P bt (bo x w)) := by
    intro w
    induction w with
    | zero =>
      intro P bt h
      refine s_X6_put_4 ?_
      unfold f_X6_put_4_s
      exact Yd.pos nI_neg1 (Yd.ret _)
    | succ w ih =>
      intro P bt h
      refine s_X6_put_4 ?_
      unfold f_X6_put_4_s
      rw [nI_s1]
      refine Yd.neg (nI_pos (by omega)) ?_
      refine Yd.wr (by omega) (by omega) ?_
      rw [nI_1, ← Int32.sub_eq_add_neg]
      have k := ih (P + 1) (upd bt P ((x >>> (nI w &&& 31)) &&& 1)) (by omega)
      refine k.eq ?_
      show (nI (P + 1 + (bo x w).length), _) = (nI (P + (bo x (w + 1)).length), _)
      rw [bo_len, bo_len, show P + 1 + w = P + (w + 1) by omega]
      rfl
  unfold f_X6_put
  exact key w P bt h
theorem q_write {x : Int32} {a : Nat → Int32} {P w : Nat} (h : P + w ≤ 3072) : Yd (fun n => f_X0_write n x (nI w) (nI P) a) (wo P a (bo x w)) := by
  have key : ∀ w P a, P + w ≤ 3072 → Yd (fun n => f_X0_write_4 n x (nI w - 1) (nI P) a) (wo P a (bo x w)) := by
    intro w
    induction w with
    | zero =>
      intro P a h
      refine s_X0_write_4 ?_
      unfold f_X0_write_4_s
      exact Yd.pos nI_neg1 (Yd.ret _)
    | succ w ih =>
      intro P a h
      refine s_X0_write_4 ?_
      unfold f_X0_write_4_s
      rw [nI_s1]
      refine Yd.neg (nI_pos (by omega)) ?_
      refine Yd.neg (nI_pos (by omega)) ?_
      refine Yd.neg (nI_ge (a := P) (b := 3072) (by omega) (by omega)) ?_
      refine Yd.wr (by omega) (by omega) ?_
      rw [nI_1, ← Int32.sub_eq_add_neg]
      have k := ih (P + 1) (upd a P ((x >>> (nI w &&& 31)) &&& 1)) (by omega)
      refine k.eq ?_
      show (nI (P + 1 + (bo x w).length), _) = (nI (P + (bo x (w + 1)).length), _)
      rw [bo_len, bo_len, show P + 1 + w = P + (w + 1) by omega]
      rfl
  unfold f_X0_write
  exact key w P a h
theorem p_putValue {v : Int32} {bt : Nat → Int32} {P : Nat} (h : P + 18 ≤ 2000) : Yd (fun n => f_X6_putValue n v (nI P) bt) (wo P bt (vb v)) := by
  unfold f_X6_putValue
  exact Yd.bind (p_put (w := 18) h) (Yd.ret _)
theorem q_writeValue {v : Int32} {a : Nat → Int32} {P : Nat} (h : P + 18 ≤ 3072) : Yd (fun n => f_X1_writeValue n v (nI P) a) (wo P a (vb v)) := by
  unfold f_X1_writeValue
  exact Yd.bind (q_write (w := 18) h) (Yd.ret _)
def rl (g : Nat → Int32) (m : Nat) : Nat → Nat
  | 0 => 0
  | k + 1 => if k + 1 < m ∧ g (k + 1) = g k then rl g m k + 1 else 0
def rF (g : Nat → Int32) (m k : Nat) : List Int32 := if k + 1 < m ∧ g (k + 1) = g k then [] else vb (g k) ++ bo (nI (rl g m k + 1)) 6
/-- the bits of a segment with an encoding -/
def enc (g : Nat → Int32) (m e : Nat) : List Int32 :=
  if e = 0 then cat (fun k => vb (g k)) m
  else if e = 1 then vb (g 0)
  else if e = 2 then cat (rF g m) m
  else if e = 3 then (bo (nI (dn g m)) 6 ++ cat (fun i => vb ((dl g m).getD i 0)) (dn g m)) ++ cat (fun k => bo (nI (cb (g k) (dl g m))) (wd (dn g m - 1))) m
  else if e = 4 then (vb (mn g (m - 1)) ++ bo (nI (fw g m)) 5) ++ cat (fun k => bo (g k - mn g (m - 1)) (fw g m)) m
  else (vb (g 0) ++ bo (nI (dw g (m - 1))) 5) ++ cat (fun k => bo (fo (g (k + 1) - g k)) (dw g (m - 1))) (m - 1)
theorem cat_len {F : Nat → List Int32} {c : Nat} : ∀ {m : Nat}, (∀ k, k < m → (F k).length = c) → (cat F m).length = m * c
  | 0, _ => by simp [cat]
  | m + 1, h => by
    unfold cat
    rw [List.length_append, cat_len (fun k hk => h k (by omega)), h m (by omega), Nat.succ_mul]
theorem cat_le (F : Nat → List Int32) : ∀ (m k : Nat), k < m → (cat F k).length + (F k).length ≤ (cat F m).length
  | 0, k, h => by omega
  | m + 1, k, h => by
    unfold cat
    rw [List.length_append]
    by_cases c : k = m
    · rw [c]
      cases m <;> simp [cat]
    · have := cat_le F m k (by omega)
      cases k <;> simp only [cat, List.length_nil, List.length_append] at this ⊢ <;> omega
theorem rF_len (g : Nat → Int32) (m : Nat) : ∀ k, k < m → (cat (rF g m) k).length = 24 * (rn g k - 1)
  | 0, _ => by simp [cat, rn]
  | k + 1, h => by
    have ih := rF_len g m k (by omega)
    have hr : 1 ≤ rn g k := by
      cases k with
      | zero => simp [rn]
      | succ k =>
        unfold rn
        have : ∀ j, 1 ≤ rn g j := fun j => by
          induction j with
          | zero => simp [rn]
          | succ j ih => unfold rn; omega
        have := this k
        omega
    unfold cat
    rw [List.length_append, ih]
    unfold rF
    show _ = 24 * (rn g k + (if g (k + 1) = g k then 0 else 1) - 1)
    by_cases c : g (k + 1) = g k
    · rw [if_pos ⟨h, c⟩, if_pos c]
      rfl
    · rw [if_neg (fun h9 => c h9.2), if_neg c, List.length_append, bo_len, bo_len]
      omega
theorem rn_pos (g : Nat → Int32) : ∀ j, 1 ≤ rn g j
  | 0 => Nat.le_refl _
  | j + 1 => by have := rn_pos g j; unfold rn; omega
theorem enc_len {g : Nat → Int32} {m e : Nat} (hm : 0 < m) : (enc g m e).length = sz g m e := by
  unfold enc sz
  by_cases h0 : e = 0
  · rw [if_pos h0, if_pos h0, cat_len (c := 18) (fun k _ => bo_len _ _), Nat.mul_comm]
  rw [if_neg h0, if_neg h0]
  by_cases h1 : e = 1
  · rw [if_pos h1, if_pos h1, bo_len]
  rw [if_neg h1, if_neg h1]
  by_cases h2 : e = 2
  · rw [if_pos h2, if_pos h2]
    obtain ⟨j, rfl⟩ : ∃ j, m = j + 1 := ⟨m - 1, by omega⟩
    show (cat (rF g (j + 1)) j ++ rF g (j + 1) j).length = 24 * rn g j
    rw [List.length_append, rF_len g (j + 1) j (by omega)]
    unfold rF
    rw [if_neg (fun h9 => absurd h9.1 (by omega)), List.length_append, bo_len, bo_len]
    have := rn_pos g j
    omega
  rw [if_neg h2, if_neg h2]
  by_cases h3 : e = 3
  · rw [if_pos h3, if_pos h3, List.length_append, List.length_append, bo_len, cat_len (c := 18) (fun k _ => bo_len _ _), cat_len (c := wd (dn g m - 1)) (fun k _ => bo_len _ _), Nat.mul_comm (dn g m) 18]
  rw [if_neg h3, if_neg h3]
  by_cases h4 : e = 4
  · rw [if_pos h4, if_pos h4, List.length_append, List.length_append, bo_len, bo_len, cat_len (c := fw g m) (fun k _ => bo_len _ _)]
  rw [if_neg h4, if_neg h4, List.length_append, List.length_append, bo_len, bo_len, cat_len (c := dw g (m - 1)) (fun k _ => bo_len _ _)]
theorem wd_tab : ∀ m, m < 33 → 0 < m → 6 + 18 * m + m * wd (m - 1) ≤ 24 * max m 4 := by decide
theorem fw_le {g : Nat → Int32} {m : Nat} (hm : 0 < m) (hb : Bd g m) : fw g m ≤ 18 := by
  obtain ⟨k1, hk1, e1⟩ := mn_mem g (m - 1)
  obtain ⟨k2, hk2, e2⟩ := mx_mem g (m - 1)
  have b1 := hb k1 (by omega)
  have b2 := hb k2 (by omega)
  unfold fw
  apply wd_le.mpr
  rw [e1, e2]
  omega
theorem dn_pos {g : Nat → Int32} {m : Nat} (hm : 0 < m) : 0 < dn g m := List.length_pos_of_mem (dl_mem.mpr ⟨0, hm, rfl⟩)
theorem sz_le {g : Nat → Int32} {m e : Nat} (hm : 0 < m) (hm2 : m ≤ 32) (hb : Bd g m) : sz g m e ≤ 24 * max m 4 := by
  have h1 := rn_le g (m - 1)
  have h2 : dn g m ≤ m := dl_len g m
  have h3 := fw_le hm hb
  have h4 := dw_le g (m - 1) m (by omega) hb
  unfold sz
  by_cases c0 : e = 0
  · rw [if_pos c0]; omega
  rw [if_neg c0]
  by_cases c1 : e = 1
  · rw [if_pos c1]; omega
  rw [if_neg c1]
  by_cases c2 : e = 2
  · rw [if_pos c2]; omega
  rw [if_neg c2]
  by_cases c3 : e = 3
  · rw [if_pos c3]
    have h5 := wd_tab m (by omega) hm
    have h6 : wd (dn g m - 1) ≤ wd (m - 1) := wd_mono (by omega)
    have h7 : m * wd (dn g m - 1) ≤ m * wd (m - 1) := Nat.mul_le_mul_left _ h6
    omega
  rw [if_neg c3]
  by_cases c4 : e = 4
  · rw [if_pos c4]
    have h7 : m * fw g m ≤ m * 18 := Nat.mul_le_mul_left _ h3
    omega
  rw [if_neg c4]
  have h7 : (m - 1) * dw g (m - 1) ≤ (m - 1) * 19 := Nat.mul_le_mul_left _ h4
  omega
end PuK
