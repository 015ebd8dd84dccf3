/-! the class reads a segment back: the dictionary, and all encodings -/
section PuO
variable {g co a : Nat → Int32} {s m P : Nat}
theorem u_dict2 {li : Nat → Int32} {w : Nat} (h : s + m ≤ 96) (hm2 : m ≤ 32) (hr : Rep li (dl g m)) (hw : w = wd (dn g m - 1)) (hh : hasb a P (cat (fun k => bo (nI (cb (g k) (dl g m))) w) m)) (hP : P + m * w ≤ 3072) :
    ∀ d k, k + d = m → ∃ pl, Yd (fun n => f_X1_unpackDictionary_49 n (nI s) (nI m) (nI w) (nI k) (nI (P + k * w)) a (fl co s k g) li) (pl, fl co s m g, li) := by
  have hd2 : dn g m ≤ m := dl_len _ _
  have hw5 : w ≤ 5 := by rw [hw]; exact wd_le.mpr (by omega)
  intro d
  induction d with
  | zero =>
    intro k hk
    refine ⟨nI (P + k * w), ?_⟩
    refine s_X1_unpackDictionary_49 ?_
    unfold f_X1_unpackDictionary_49_s
    refine Yd.pos (nI_le (by omega) (by omega)) (Yd.retE ?_)
    rw [show k = m by omega]
  | succ d ih =>
    intro k hk
    obtain ⟨pl, ih1⟩ := ih (k + 1) (by omega)
    refine ⟨pl, ?_⟩
    have hmem : g k ∈ dl g m := dl_mem.mpr ⟨k, by omega, rfl⟩
    obtain ⟨q1, q2⟩ := srt_mem (dl_srt g m) hmem
    have hk1 := hasb_cat hh (show k < m by omega)
    rw [cat_len (c := w) (fun k _ => bo_len _ _)] at hk1
    have hmul : (k + 1) * w ≤ m * w := Nat.mul_le_mul_right _ (by omega)
    rw [Nat.succ_mul] at hmul
    have hx1 : cb (g k) (dl g m) < 2 ^ w := by
      have h1 : dn g m - 1 < 2 ^ w := wd_le.mp (by omega)
      have h2 : cb (g k) (dl g m) < dn g m := q1
      omega
    refine s_X1_unpackDictionary_49 ?_
    unfold f_X1_unpackDictionary_49_s
    refine Yd.neg (nI_ge (by omega) (by omega)) ?_
    refine Yd.bind (q_read hk1 hx1 (by omega) (by omega)) ?_
    refine Yd.bind (a := g k) ?_ ?_
    · have k1 := q_get (a := li) (N := 32) (i := cb (g k) (dl g m)) (by have : cb (g k) (dl g m) < dn g m := q1; omega) (by omega)
      rw [hr _ q1, q2] at k1
      exact k1
    refine Yd.bind (q_cput (by omega)) ?_
    rw [nI_1]
    show Yd (fun n => f_X1_unpackDictionary_49 n (nI s) (nI m) (nI w) (nI (k + 1)) (nI (P + k * w + w)) a (fl co s (k + 1) g) li) _
    rw [show P + k * w + w = P + (k + 1) * w by rw [Nat.succ_mul]; omega]
    exact ih1
theorem u_dict1 {w : Nat} (hm2 : m ≤ 32) (hb : Bd g m) (hh : hasb a P (cat (fun i => vb ((dl g m).getD i 0)) (dn g m))) (hP : P + 18 * dn g m ≤ 3072)
    (hend : ∀ li : Nat → Int32, Rep li (dl g m) → ∃ pl li', Yd (fun n => f_X1_unpackDictionary_49 n (nI s) (nI m) (nI w) 0 (nI (P + 18 * dn g m)) a co li) (pl, fl co s m g, li')) :
    ∀ d i, i + d = dn g m → ∀ li : Nat → Int32, (∀ j (h : j < (dl g m).length), j < i → li j = (dl g m)[j]) → ∃ pl li', Yd (fun n => f_X1_unpackDictionary_21 n (nI s) (nI m) (nI (dn g m)) (nI w) (nI i) (nI (P + 18 * i)) a co li) (pl, fl co s m g, li') := by
  have hd2 : dn g m ≤ m := dl_len _ _
  intro d
  induction d with
  | zero =>
    intro i hi li hli
    obtain ⟨pl, li', k⟩ := hend li (fun j hj => hli j hj (by have : j < dn g m := hj; omega))
    refine ⟨pl, li', ?_⟩
    refine s_X1_unpackDictionary_21 ?_
    unfold f_X1_unpackDictionary_21_s
    refine Yd.pos (nI_le (by omega) (by omega)) ?_
    rw [show i = dn g m by omega]
    exact k
  | succ d ih =>
    intro i hi li hli
    have hlt : i < (dl g m).length := by show i < dn g m; omega
    have ev : (dl g m).getD i 0 = (dl g m)[i] := by
      rw [List.getD_eq_getElem?_getD, List.getElem?_eq_getElem hlt]
      rfl
    obtain ⟨q, hq, eq⟩ := dl_mem.mp (List.getElem_mem hlt)
    have hk1 := hasb_cat hh (show i < dn g m by omega)
    rw [cat_len (c := 18) (fun k _ => bo_len _ _), Nat.mul_comm, ev] at hk1
    obtain ⟨pl, li', ih1⟩ := ih (i + 1) (by omega) (upd li i (dl g m)[i]) (fun j hj hji => by
      by_cases c : j = i
      · subst c; rw [upd_self]
      · rw [upd_ne c]; exact hli j hj (by omega))
    refine ⟨pl, li', ?_⟩
    refine s_X1_unpackDictionary_21 ?_
    unfold f_X1_unpackDictionary_21_s
    refine Yd.neg (nI_ge (by omega) (by omega)) ?_
    refine Yd.bind (q_readValue hk1 (by rw [← eq]; exact hb q hq) (by omega)) ?_
    refine Yd.bind (q_put (by omega) (by omega)) ?_
    rw [nI_1]
    exact ih1
theorem rn_one (g : Nat → Int32) : ∀ n, rn g n = 1 → ∀ k, k ≤ n → g k = g 0
  | 0, _, k, hk => by rw [show k = 0 by omega]
  | n + 1, h, k, hk => by
    have hp := rn_pos g n
    have h1 : rn g n + (if g (n + 1) = g n then 0 else 1) = 1 := h
    by_cases c : g (n + 1) = g n
    · rw [if_pos c] at h1
      have ih := rn_one g n (by omega)
      by_cases c2 : k = n + 1
      · rw [c2, c]; exact ih n (Nat.le_refl _)
      · exact ih k (by omega)
    · rw [if_neg c] at h1
      omega
theorem q_unpack {e : Nat} (h : s + m ≤ 96) (hm : 0 < m) (hm2 : m ≤ 32) (hb : Bd g m) (he : e ≤ 5) (hp : psb g m e = true) (hh : hasb a P (enc g m e)) (hP : P + (enc g m e).length ≤ 3072) (li : Nat → Int32) :
    ∃ pl li', Yd (fun n => f_X1_unpack n (nI e) (nI s) (nI m) (nI P) a co li) (pl, fl co s m g, li') := by
  have hd := dn_pos (g := g) hm
  have hd2 : dn g m ≤ m := dl_len _ _
  unfold f_X1_unpack
  by_cases h0 : e = 0
  · subst h0
    have hl : (enc g m 0).length = 18 * m := enc_len hm
    obtain ⟨pl, k⟩ := u_plain (co := co) h hb hh (by omega) m 0 (by omega)
    rw [fl_0] at k
    refine ⟨pl, li, Yd.pos rfl (Yd.bind (a := (pl, fl co s m g)) ?_ (Yd.ret _))⟩
    unfold f_X1_unpackPlain
    exact k
  by_cases h1 : e = 1
  · subst h1
    have hl : (enc g m 1).length = 18 := enc_len hm
    have h1r : rn g (m - 1) = 1 := by simpa [psb] using hp
    have k := u_const (co := co) (a := a) (g := g) (pl := nI (P + 18)) h (v := g 0) (fun k hk => rn_one g (m - 1) h1r k (by omega)) m 0 (by omega)
    rw [fl_0] at k
    refine ⟨nI (P + 18), li, Yd.neg (by decide) (Yd.pos rfl (Yd.bind (a := (nI (P + 18), fl co s m g)) ?_ (Yd.ret _)))⟩
    unfold f_X1_unpackConstant
    exact Yd.bind (q_readValue (v := g 0) hh (hb 0 hm) (by omega)) k
  by_cases h2 : e = 2
  · subst h2
    obtain ⟨pl, k⟩ := u_runs (co := co) h hm2 hb hh hP m 0 (by omega) 0 0 (by omega) (by omega) rfl (fun j q1 q2 => by omega)
    rw [fl_0] at k
    refine ⟨pl, li, Yd.neg (by decide) (Yd.neg (by decide) (Yd.pos rfl (Yd.bind (a := (pl, fl co s m g)) ?_ (Yd.ret _))))⟩
    unfold f_X1_unpackRuns
    exact k
  by_cases h3 : e = 3
  · subst h3
    have hl : (enc g m 3).length = 6 + 18 * dn g m + m * wd (dn g m - 1) := enc_len hm
    have hh2 : hasb a P ((bo (nI (dn g m)) 6 ++ cat (fun i => vb ((dl g m).getD i 0)) (dn g m)) ++ cat (fun k => bo (nI (cb (g k) (dl g m))) (wd (dn g m - 1))) m) := hh
    obtain ⟨hA, hB⟩ := hasb_app hh2
    obtain ⟨hA1, hA2⟩ := hasb_app hA
    rw [List.length_append, bo_len, cat_len (c := 18) (fun k _ => bo_len _ _)] at hB
    rw [bo_len] at hA2
    obtain ⟨pl, li', k⟩ := u_dict1 (co := co) (s := s) (w := wd (dn g m - 1)) (P := P + 6) hm2 hb hA2 (by omega) (fun li2 hr => by
      have hB2 : hasb a (P + 6 + 18 * dn g m) (cat (fun k => bo (nI (cb (g k) (dl g m))) (wd (dn g m - 1))) m) := by
        rw [show P + 6 + 18 * dn g m = P + (6 + dn g m * 18) by omega]
        exact hB
      obtain ⟨pl2, k2⟩ := u_dict2 (co := co) h hm2 hr rfl hB2 (by omega) m 0 (by omega)
      rw [fl_0] at k2
      rw [Nat.zero_mul] at k2
      exact ⟨pl2, li2, k2⟩) (dn g m) 0 (by omega) li (fun j hj q => by omega)
    refine ⟨pl, li', Yd.neg (by decide) (Yd.neg (by decide) (Yd.neg (by decide) (Yd.pos rfl (Yd.bind (a := (pl, fl co s m g, li')) ?_ (Yd.ret _)))))⟩
    unfold f_X1_unpackDictionary
    refine Yd.bind (q_read (w := 6) hA1 (by omega) (by omega) (by omega)) ?_
    refine Yd.bind (a := nI (wd (dn g m - 1))) ?_ ?_
    · show Yd (fun n => f_X2_widthOf n (nI (dn g m) - 1)) _
      rw [show nI (dn g m) - 1 = nI (dn g m - 1) from nI_sub (b := 1) hd]
      exact q_width (by omega)
    exact k
  by_cases h4 : e = 4
  · subst h4
    have hl : (enc g m 4).length = 23 + m * fw g m := enc_len hm
    have hfw := fw_le hm hb
    have hh2 : hasb a P ((vb (mn g (m - 1)) ++ bo (nI (fw g m)) 5) ++ cat (fun k => bo (g k - mn g (m - 1)) (fw g m)) m) := hh
    obtain ⟨hA, hB⟩ := hasb_app hh2
    obtain ⟨hA1, hA2⟩ := hasb_app hA
    rw [List.length_append, bo_len, bo_len] at hB
    rw [bo_len] at hA2
    obtain ⟨k1, hk1, e1⟩ := mn_mem g (m - 1)
    obtain ⟨k2, hk2, e2⟩ := mx_mem g (m - 1)
    have b1 := hb k1 (by omega)
    have hx : ∀ k, k < m → ∃ x, x < 2 ^ fw g m ∧ g k - mn g (m - 1) = nI x := by
      intro k hk
      have bk := hb k hk
      have h5 := mn_le g (m - 1) k (by omega)
      have h6 := mx_ge g (m - 1) k (by omega)
      refine ⟨((g k).toInt - (mn g (m - 1)).toInt).toNat, ?_, ?_⟩
      · have h7 : ((mx g (m - 1)).toInt - (mn g (m - 1)).toInt).toNat < 2 ^ fw g m := wd_le.mp (Nat.le_refl _)
        omega
      · apply of_toInt
        rw [sub_toInt (by omega) (by rw [e1]; omega)]
        omega
    obtain ⟨pl, k⟩ := u_frame (co := co) (P := P + 23) h (by omega) hx hB (by omega) m 0 (by omega)
    rw [fl_0] at k
    refine ⟨pl, li, Yd.neg (by decide) (Yd.neg (by decide) (Yd.neg (by decide) (Yd.neg (by decide) (Yd.pos rfl (Yd.bind (a := (pl, fl co s m g)) ?_ (Yd.ret _))))))⟩
    unfold f_X1_unpackFrame
    refine Yd.bind (q_readValue hA1 (by rw [e1]; exact b1) (by omega)) ?_
    refine Yd.bind (q_read (w := 5) hA2 (by omega) (by omega) (by omega)) ?_
    rw [Nat.zero_mul] at k
    exact k
  have h5 : e = 5 := by omega
  subst h5
  have hl : (enc g m 5).length = 23 + (m - 1) * dw g (m - 1) := enc_len hm
  have hdw := dw_le g (m - 1) m (by omega) hb
  have hh2 : hasb a P ((vb (g 0) ++ bo (nI (dw g (m - 1))) 5) ++ cat (fun k => bo (fo (g (k + 1) - g k)) (dw g (m - 1))) (m - 1)) := hh
  obtain ⟨hA, hB⟩ := hasb_app hh2
  obtain ⟨hA1, hA2⟩ := hasb_app hA
  rw [List.length_append, bo_len, bo_len] at hB
  rw [bo_len] at hA2
  obtain ⟨pl, k⟩ := u_delta (co := co) (P := P + 23) h hb rfl hB (by omega) (m - 1) 0 (by omega)
  refine ⟨pl, li, Yd.neg (by decide) (Yd.neg (by decide) (Yd.neg (by decide) (Yd.neg (by decide) (Yd.neg (by decide) (Yd.bind (a := (pl, fl co s m g)) ?_ (Yd.ret _))))))⟩
  unfold f_X1_unpackDelta
  refine Yd.bind (q_readValue hA1 (hb 0 hm) (by omega)) ?_
  refine Yd.bind (q_read (w := 5) hA2 (by omega) (by omega) (by omega)) ?_
  refine Yd.bind (a := fl co s 1 g) ?_ ?_
  · have k1 := q_cput (g := g) (co := co) (s := s) (k := 0) (by omega)
    rw [fl_0] at k1
    rw [show nI s + nI 0 = nI s from nI_add s 0] at k1
    exact k1
  rw [Nat.zero_mul] at k
  exact k
end PuO
