/-! the class: a profile is studied -/
section PuI
def Rep (di : Nat → Int32) (L : List Int32) : Prop := ∀ i (h : i < L.length), di i = L[i]
theorem q_fold (x : Int32) : Yd (fun n => f_X2_fold n x) (fo x) := by
  unfold f_X2_fold fo
  by_cases h : x < 0
  · exact Yd.pos h (Yd.retE (if_pos h).symm)
  · exact Yd.neg h (Yd.retE (if_neg h).symm)
theorem q_width {x : Nat} (hx : x < 2 ^ 30) : Yd (fun n => f_X2_widthOf n (nI x)) (nI (wd x)) := by
  have hw : wd x ≤ 30 := wd_le.mpr hx
  have key : ∀ d k, k + d = wd x → Yd (fun n => f_X2_widthOf_2 n (nI x) (nI k)) (nI (wd x)) := by
    intro d
    induction d with
    | zero =>
      intro k hk
      refine s_X2_widthOf_2 ?_
      unfold f_X2_widthOf_2_s
      by_cases h30 : k = 30
      · refine Yd.pos (nI_le (a := 30) (b := k) (by omega) (by omega)) (Yd.retE (by rw [show k = wd x by omega]))
      · refine Yd.neg (nI_ge (a := k) (b := 30) (by omega) (by omega)) ?_
        rw [sh_one (by omega)]
        have h1 : x < 2 ^ k := wd_le.mp (by omega)
        have h2 : 2 ^ k ≤ 2 ^ 30 := Nat.pow_le_pow_right (by omega) (by omega)
        exact Yd.pos (nI_lt h1 (by omega)) (Yd.retE (by rw [show k = wd x by omega]))
    | succ d ih =>
      intro k hk
      refine s_X2_widthOf_2 ?_
      unfold f_X2_widthOf_2_s
      refine Yd.neg (nI_ge (a := k) (b := 30) (by omega) (by omega)) ?_
      rw [sh_one (by omega)]
      have h1 : 2 ^ k ≤ x := wd_lt.mp (by omega)
      refine Yd.neg (nI_nlt h1 (by omega)) ?_
      rw [nI_1]
      exact ih (k + 1) (by omega)
  unfold f_X2_widthOf
  exact key (wd x) 0 (by omega)
theorem insR_of_mem {v : Int32} : ∀ {L : List Int32}, Srt L → v ∈ L → insR v L = L
  | [], _, h => absurd h (by simp)
  | a :: L, hs, h => by
    obtain ⟨ha, hL⟩ := List.pairwise_cons.mp hs
    unfold insR
    by_cases h1 : a < v
    · rw [if_pos h1]
      have h2 : v ∈ L := by
        rcases List.mem_cons.mp h with h3 | h3
        · exact absurd (h3 ▸ h1) (i_irr _)
        · exact h3
      rw [insR_of_mem hL h2]
    · rw [if_neg h1]
      by_cases h2 : a = v
      · rw [if_pos h2]
      · rcases List.mem_cons.mp h with h3 | h3
        · exact absurd h3.symm h2
        · exact absurd (ha v h3) h1
theorem insR_get {v : Int32} : ∀ {L : List Int32}, Srt L → ¬ v ∈ L → ∀ i, (insR v L)[i]? = if i < cb v L then L[i]? else if i = cb v L then some v else L[i - 1]?
  | [], _, _, i => by
    cases i with
    | zero => simp [insR, cb]
    | succ i => simp [insR, cb]
  | a :: L, hs, hn, i => by
    obtain ⟨ha, hL⟩ := List.pairwise_cons.mp hs
    have hn2 : ¬ v ∈ L := fun h => hn (List.mem_cons_of_mem _ h)
    have hna : ¬ a = v := fun h => hn (by rw [h]; exact List.mem_cons_self)
    unfold insR
    by_cases h1 : a < v
    · have ih := insR_get hL hn2
      have ec : cb v (a :: L) = cb v L + 1 := by simp [cb, List.countP_cons, h1]
      rw [if_pos h1, ec]
      cases i with
      | zero => simp
      | succ i =>
        rw [List.getElem?_cons_succ, ih i]
        by_cases c1 : i < cb v L
        · rw [if_pos c1, if_pos (show i + 1 < cb v L + 1 by omega), List.getElem?_cons_succ]
        · by_cases c2 : i = cb v L
          · rw [if_neg c1, if_pos c2, if_neg (show ¬ i + 1 < cb v L + 1 by omega), if_pos (show i + 1 = cb v L + 1 by omega)]
          · rw [if_neg c1, if_neg c2, if_neg (show ¬ i + 1 < cb v L + 1 by omega), if_neg (show ¬ i + 1 = cb v L + 1 by omega)]
            obtain ⟨j, rfl⟩ : ∃ j, i = j + 1 := ⟨i - 1, by omega⟩
            simp
    · rw [if_neg h1, if_neg hna]
      have hva := i_tri h1 hna
      have ec : cb v (a :: L) = 0 := by
        unfold cb
        rw [List.countP_eq_zero]
        intro y hy
        rcases List.mem_cons.mp hy with h2 | h2
        · rw [h2]; simp [h1]
        · have h3 : ¬ y < v := fun h4 => i_irr _ (i_trans (i_trans hva (ha y h2)) h4)
          simp [h3]
      rw [ec]
      cases i with
      | zero => simp
      | succ i => simp
theorem insR_length {v : Int32} : ∀ {L : List Int32}, Srt L → (insR v L).length = L.length + (if v ∈ L then 0 else 1)
  | [], _ => by simp [insR]
  | a :: L, hs => by
    obtain ⟨ha, hL⟩ := List.pairwise_cons.mp hs
    have ih := insR_length (v := v) hL
    unfold insR
    by_cases h1 : a < v
    · have hne : ¬ v = a := fun h2 => by subst h2; exact i_irr _ h1
      rw [if_pos h1]
      simp only [List.length_cons, List.mem_cons, hne, false_or]
      omega
    · rw [if_neg h1]
      by_cases h2 : a = v
      · rw [if_pos h2, if_pos (by rw [h2]; exact List.mem_cons_self)]
        rfl
      · rw [if_neg h2]
        have hva := i_tri h1 h2
        have hnm : ¬ v ∈ a :: L := by
          intro h3
          rcases List.mem_cons.mp h3 with h4 | h4
          · exact h2 h4.symm
          · exact i_irr _ (i_trans hva (ha v h4))
        rw [if_neg hnm]
        rfl
/-- behind c - j shifts -/
def shf (di : Nat → Int32) (j c : Nat) : Nat → Int32 := fun i => if j < i ∧ i ≤ c then di (i - 1) else di i
theorem q_shift {v : Int32} {di : Nat → Int32} {p c : Nat} (hp : p ≤ c) (hc : c < 32) : ∀ d j, p + d = j → j ≤ c → Yd (fun n => f_X2_addDifferent_59 n v (nI p) (nI j) (nI c) (shf di j c)) (nI (c + 1), upd (shf di p c) p v) := by
  intro d
  induction d with
  | zero =>
    intro j hj hjc
    refine s_X2_addDifferent_59 ?_
    unfold f_X2_addDifferent_59_s
    refine Yd.pos (nI_le (by omega) (by omega)) ?_
    refine Yd.bind (q_put (by omega) (by omega)) (Yd.retE ?_)
    rw [nI_1, show j = p by omega]
  | succ d ih =>
    intro j hj hjc
    obtain ⟨i, rfl⟩ : ∃ i, j = i + 1 := ⟨j - 1, by omega⟩
    refine s_X2_addDifferent_59 ?_
    unfold f_X2_addDifferent_59_s
    refine Yd.neg (nI_ge (by omega) (by omega)) ?_
    rw [nI_s1, nI_m1]
    refine Yd.bind (q_get (by omega) (by omega)) ?_
    refine Yd.bind (q_put (by omega) (by omega)) ?_
    have e : upd (shf di (i + 1) c) (i + 1) (shf di (i + 1) c i) = shf di i c := by
      funext x
      unfold upd shf
      by_cases c1 : x = i + 1
      · subst c1
        rw [if_pos rfl, if_neg (by omega), if_pos (by omega)]
        rfl
      · rw [if_neg c1]
        by_cases c2 : i + 1 < x ∧ x ≤ c
        · rw [if_pos c2, if_pos (by omega)]
        · rw [if_neg c2, if_neg (by omega)]
    rw [e]
    exact ih i (by omega) (by omega)
theorem q_adddiff {v : Int32} {di : Nat → Int32} {L : List Int32} (hs : Srt L) (hr : Rep di L) (hl : L.length < 32) : ∃ di', Yd (fun n => f_X2_addDifferent n v (nI L.length) di) (nI (insR v L).length, di') ∧ Rep di' (insR v L) := by
  have hcb : cb v L ≤ L.length := List.countP_le_length
  have hlen := insR_length (v := v) hs
  -- what comes behind the counting loop
  have tail : ∃ di', (Yd (fun n => if nI L.length ≤ nI (cb v L) then (f_X2_addDifferent_59 n v (nI (cb v L)) (nI L.length) (nI L.length) di) else ((f_X3_get n 32 (nI (cb v L)) di).bind fun u7 => if u7 = v then (some (nI L.length, di)) else (f_X2_addDifferent_59 n v (nI (cb v L)) (nI L.length) (nI L.length) di))) (nI (insR v L).length, di')) ∧ Rep di' (insR v L) := by
    by_cases hm : v ∈ L
    · obtain ⟨h1, h2⟩ := srt_mem hs hm
      refine ⟨di, ?_, by rw [insR_of_mem hs hm]; exact hr⟩
      rw [insR_of_mem hs hm]
      refine Yd.neg (nI_ge h1 (by omega)) ?_
      refine Yd.bind (q_get (by omega) (by omega)) ?_
      exact Yd.pos (by rw [hr _ h1, h2]) (Yd.ret _)
    · rw [if_neg hm] at hlen
      refine ⟨upd (shf di (cb v L) L.length) (cb v L) v, ?_, ?_⟩
      · rw [hlen]
        have e0 : di = shf di L.length L.length := by
          funext x
          unfold shf
          rw [if_neg (by omega)]
        have k := q_shift (v := v) (di := di) hcb hl (L.length - cb v L) L.length (by omega) (Nat.le_refl _)
        rw [← e0] at k
        by_cases c1 : cb v L = L.length
        · exact Yd.pos (nI_le (by omega) (by omega)) k
        · refine Yd.neg (nI_ge (by omega) (by omega)) ?_
          refine Yd.bind (q_get (by omega) (by omega)) ?_
          refine Yd.neg ?_ k
          intro h3
          have hlt : cb v L < L.length := by omega
          rw [hr _ hlt] at h3
          exact hm (by rw [← h3]; exact List.getElem_mem hlt)
      · intro i hi
        have hg := insR_get hs hm i
        rw [List.getElem?_eq_getElem hi] at hg
        apply Option.some.inj
        rw [hg]
        unfold upd shf
        by_cases c1 : i < cb v L
        · rw [if_pos c1, if_neg (by omega), if_neg (by omega), List.getElem?_eq_getElem (by omega), hr i (by omega)]
        · rw [if_neg c1]
          by_cases c2 : i = cb v L
          · rw [if_pos c2, if_pos c2]
          · rw [if_neg c2, if_neg c2, if_pos (by omega), List.getElem?_eq_getElem (by omega), hr (i - 1) (by omega)]
  obtain ⟨di', ht, hR⟩ := tail
  refine ⟨di', ?_, hR⟩
  have key : ∀ d i, i + d = L.length → Yd (fun n => f_X2_addDifferent_4 n v (nI (cb v (L.take i))) (nI i) (nI L.length) di) (nI (insR v L).length, di') := by
    intro d
    induction d with
    | zero =>
      intro i hi
      refine s_X2_addDifferent_4 ?_
      unfold f_X2_addDifferent_4_s
      refine Yd.pos (nI_le (by omega) (by omega)) ?_
      rw [show i = L.length by omega, List.take_length]
      exact ht
    | succ d ih =>
      intro i hi
      have hlt : i < L.length := by omega
      have h4 : cb v (L.take i) ≤ i := by
        have := List.countP_le_length (p := fun x => decide (x < v)) (l := L.take i)
        rw [List.length_take] at this
        unfold cb
        omega
      refine s_X2_addDifferent_4 ?_
      unfold f_X2_addDifferent_4_s
      refine Yd.neg (nI_ge hlt (by omega)) ?_
      refine Yd.bind (q_get (by omega) (by omega)) ?_
      rw [hr i hlt]
      have ih1 := ih (i + 1) (by omega)
      have et : cb v (L.take (i + 1)) = cb v (L.take i) + (if L[i] < v then 1 else 0) := by
        unfold cb
        rw [List.take_succ_eq_append_getElem hlt, List.countP_append]
        by_cases c1 : L[i] < v <;> simp [c1]
      rw [et] at ih1
      rw [nI_1]
      by_cases c1 : v ≤ L[i]
      · refine Yd.pos c1 ?_
        have c2 : ¬ L[i] < v := fun h5 => by
          have h6 := Int32.le_iff_toInt_le.mp c1
          have h7 := Int32.lt_iff_toInt_lt.mp h5
          omega
        rw [if_neg c2] at ih1
        exact ih1
      · refine Yd.neg c1 ?_
        have c2 : L[i] < v := by
          have h6 : ¬ v.toInt ≤ (L[i]).toInt := fun h7 => c1 (Int32.le_iff_toInt_le.mpr h7)
          exact Int32.lt_iff_toInt_lt.mpr (by omega)
        rw [if_pos c2] at ih1
        rw [nI_1]
        exact ih1
  unfold f_X2_addDifferent
  exact key L.length 0 (by omega)
theorem dl_head {g : Nat → Int32} {m : Nat} (hm : 0 < m) (h : 0 < (dl g m).length) : (dl g m)[0] = mn g (m - 1) := by
  obtain ⟨k, hk, e⟩ := dl_mem.mp (List.getElem_mem h)
  obtain ⟨k2, hk2, e2⟩ := mn_mem g (m - 1)
  have h1 := mn_le g (m - 1) k (by omega)
  have hmem : mn g (m - 1) ∈ dl g m := dl_mem.mpr ⟨k2, by omega, e2.symm⟩
  obtain ⟨i, hi, e3⟩ := List.mem_iff_getElem.mp hmem
  apply Int32.toInt_inj.mp
  by_cases c1 : i = 0
  · subst c1
    rw [e3]
  · have h2 := List.pairwise_iff_getElem.mp (dl_srt g m) 0 i h hi (by omega)
    have h3 := Int32.lt_iff_toInt_lt.mp h2
    rw [e3, ← e] at h3
    rw [← e]
    omega
theorem dl_last {g : Nat → Int32} {m : Nat} (hm : 0 < m) (h : (dl g m).length - 1 < (dl g m).length) : (dl g m)[(dl g m).length - 1] = mx g (m - 1) := by
  obtain ⟨k, hk, e⟩ := dl_mem.mp (List.getElem_mem h)
  obtain ⟨k2, hk2, e2⟩ := mx_mem g (m - 1)
  have h1 := mx_ge g (m - 1) k (by omega)
  have hmem : mx g (m - 1) ∈ dl g m := dl_mem.mpr ⟨k2, by omega, e2.symm⟩
  obtain ⟨i, hi, e3⟩ := List.mem_iff_getElem.mp hmem
  apply Int32.toInt_inj.mp
  by_cases c1 : i = (dl g m).length - 1
  · subst c1
    rw [e3]
  · have h2 := List.pairwise_iff_getElem.mp (dl_srt g m) i ((dl g m).length - 1) hi h (by omega)
    have h3 := Int32.lt_iff_toInt_lt.mp h2
    rw [e3, ← e] at h3
    rw [← e]
    omega
/-- the greatest folded difference -/
def mf (g : Nat → Int32) : Nat → Nat
  | 0 => 0
  | k + 1 => max (mf g k) (foN (dI g k))
theorem mf_dw (g : Nat → Int32) : ∀ k, wd (mf g k) = dw g k
  | 0 => by simp [mf, dw, wd]
  | k + 1 => by
    unfold mf dw
    rw [wd_max, mf_dw g k]
theorem mf_lt (g : Nat → Int32) : ∀ (k m : Nat), k + 1 ≤ m → Bd g m → mf g k < 524288
  | 0, _, _, _ => by unfold mf; omega
  | k + 1, m, h, hb => by
    have ih := mf_lt g k m (by omega) hb
    have b1 := hb (k + 1) (by omega)
    have b2 := hb k (by omega)
    have h1 : foN (dI g k) < 524288 := foN_lt (by unfold dI; omega)
    unfold mf
    omega
end PuI
