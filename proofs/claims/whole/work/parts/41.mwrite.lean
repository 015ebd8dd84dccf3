/-! the reference writes the bits of a segment -/
section PuL
variable {mv bt : Nat → Int32} {s m : Nat}
theorem p_put' {x : Int32} {L : List Int32} {w : Nat} (h : L.length + w ≤ 2000) : Yd (fun n => f_X6_put n x (nI w) (wo 0 bt L).1 (wo 0 bt L).2) (wo 0 bt (L ++ bo x w)) :=
  (p_put (P := 0 + L.length) (bt := bl bt 0 L) (by omega)).eq (wo_app _ _ _ _)
theorem p_pv' {v : Int32} {L : List Int32} (h : L.length + 18 ≤ 2000) : Yd (fun n => f_X6_putValue n v (wo 0 bt L).1 (wo 0 bt L).2) (wo 0 bt (L ++ vb v)) :=
  (p_putValue (P := 0 + L.length) (bt := bl bt 0 L) (by omega)).eq (wo_app _ _ _ _)
theorem w57_none {e : Nat} (h3 : e ≠ 3) (h4 : e ≠ 4) (h5 : e ≠ 5) (he : e < 100) (L : List Int32) : Yd (fun n => f_X6_write_57 n (nI e) (nI s) (nI m) (wo 0 bt L).1 mv (wo 0 bt L).2) (wo 0 bt L) := by
  unfold f_X6_write_57
  refine Yd.neg (e_ne (j := 3) h3 he (by omega)) ?_
  refine Yd.neg (e_ne (j := 4) h4 he (by omega)) ?_
  exact Yd.neg (e_ne (j := 5) h5 he (by omega)) (Yd.ret _)
theorem w_plain (h : s + m ≤ 96) (hc : (cat (fun k => vb (sg mv s k)) m).length ≤ 2000) : ∀ d k, k + d = m → Yd (fun n => f_X6_write_11 n (nI 0) (nI k) (nI s) (nI m) (wo 0 bt (cat (fun k => vb (sg mv s k)) k)).1 mv (wo 0 bt (cat (fun k => vb (sg mv s k)) k)).2) (wo 0 bt (cat (fun k => vb (sg mv s k)) m)) := by
  intro d
  induction d with
  | zero =>
    intro k hk
    refine s_X6_write_11 ?_
    unfold f_X6_write_11_s
    refine Yd.pos (nI_le (by omega) (by omega)) ?_
    refine Yd.neg (by decide) ?_
    refine Yd.neg (by decide) ?_
    rw [show k = m by omega]
    exact w57_none (by omega) (by omega) (by omega) (by omega) _
  | succ d ih =>
    intro k hk
    refine s_X6_write_11 ?_
    unfold f_X6_write_11_s
    refine Yd.neg (nI_ge (by omega) (by omega)) ?_
    refine Yd.bind (p_at (by omega)) ?_
    have hl := cat_le (fun k => vb (sg mv s k)) m k (by omega)
    rw [bo_len] at hl
    refine Yd.bind (p_pv' (by omega)) ?_
    rw [nI_1]
    exact ih (k + 1) (by omega)
theorem w_runs (h : s + m ≤ 96) (hm2 : m ≤ 32) (hc : (cat (rF (sg mv s) m) m).length ≤ 2000) : ∀ d k, k + d = m → Yd (fun n => f_X6_writeRuns_4 n (nI (rl (sg mv s) m k)) (nI k) (nI s) (nI m) (wo 0 bt (cat (rF (sg mv s) m) k)).1 mv (wo 0 bt (cat (rF (sg mv s) m) k)).2) (wo 0 bt (cat (rF (sg mv s) m) m)) := by
  intro d
  induction d with
  | zero =>
    intro k hk
    refine s_X6_writeRuns_4 ?_
    unfold f_X6_writeRuns_4_s
    refine Yd.pos (nI_le (by omega) (by omega)) ?_
    rw [show k = m by omega]
    exact Yd.ret _
  | succ d ih =>
    intro k hk
    have ih1 := ih (k + 1) (by omega)
    have hl := cat_le (rF (sg mv s) m) m k (by omega)
    refine s_X6_writeRuns_4 ?_
    unfold f_X6_writeRuns_4_s
    refine Yd.neg (nI_ge (by omega) (by omega)) ?_
    rw [nI_1, nI_1]
    -- a run ends here
    have fin : ¬ (k + 1 < m ∧ sg mv s (k + 1) = sg mv s k) → Yd (fun n => ((f_X6_at n (nI k) (nI s) mv).bind fun u8 => (f_X6_putValue n u8 (wo 0 bt (cat (rF (sg mv s) m) k)).1 (wo 0 bt (cat (rF (sg mv s) m) k)).2).bind fun u9 => (f_X6_put n (nI (rl (sg mv s) m k + 1)) 6 u9.1 u9.2).bind fun u10 => f_X6_writeRuns_4 n 0 (nI (k + 1)) (nI s) (nI m) u10.1 mv u10.2)) (wo 0 bt (cat (rF (sg mv s) m) m)) := by
      intro hn
      have eF : rF (sg mv s) m k = vb (sg mv s k) ++ bo (nI (rl (sg mv s) m k + 1)) 6 := if_neg hn
      have eR : rl (sg mv s) m (k + 1) = 0 := if_neg hn
      rw [eF, List.length_append, bo_len, bo_len] at hl
      refine Yd.bind (p_at (by omega)) ?_
      refine Yd.bind (p_pv' (by omega)) ?_
      refine Yd.bind (p_put' (w := 6) (by rw [List.length_append, bo_len]; omega)) ?_
      rw [eR] at ih1
      rw [show cat (rF (sg mv s) m) (k + 1) = cat (rF (sg mv s) m) k ++ rF (sg mv s) m k from rfl, eF, ← List.append_assoc] at ih1
      exact ih1
    by_cases c1 : k + 1 < m
    · refine Yd.neg (nI_ge c1 (by omega)) ?_
      refine Yd.bind (p_newrun (by omega)) ?_
      by_cases c2 : sg mv s (k + 1) = sg mv s k
      · have e1 : nr (sg mv s) (k + 1) = false := by simp [nr, c2]
        rw [e1]
        refine Yd.pos (by decide) ?_
        have eF : rF (sg mv s) m k = [] := if_pos ⟨c1, c2⟩
        have eR : rl (sg mv s) m (k + 1) = rl (sg mv s) m k + 1 := if_pos ⟨c1, c2⟩
        rw [eR, show cat (rF (sg mv s) m) (k + 1) = cat (rF (sg mv s) m) k ++ rF (sg mv s) m k from rfl, eF, List.append_nil] at ih1
        exact ih1
      · have e1 : nr (sg mv s) (k + 1) = true := by simp [nr, c2]
        rw [e1]
        exact Yd.neg (by decide) (fin (fun h9 => c2 h9.2))
    · exact Yd.pos (nI_le (by omega) (by omega)) (fin (fun h9 => c1 h9.1))
theorem w_frame {A : List Int32} (h : s + m ≤ 96) (hm : 0 < m) (hb : Bd (sg mv s) m) (hc : (A ++ cat (fun k => bo (sg mv s k - mn (sg mv s) (m - 1)) (fw (sg mv s) m)) m).length ≤ 2000) :
    ∀ d k, k + d = m → Yd (fun n => f_X6_write_90 n (nI 4) (nI k) (nI s) (nI m) (wo 0 bt (A ++ cat (fun k => bo (sg mv s k - mn (sg mv s) (m - 1)) (fw (sg mv s) m)) k)).1 mv (wo 0 bt (A ++ cat (fun k => bo (sg mv s k - mn (sg mv s) (m - 1)) (fw (sg mv s) m)) k)).2) (wo 0 bt (A ++ cat (fun k => bo (sg mv s k - mn (sg mv s) (m - 1)) (fw (sg mv s) m)) m)) := by
  rw [List.length_append] at hc
  intro d
  induction d with
  | zero =>
    intro k hk
    refine s_X6_write_90 ?_
    unfold f_X6_write_90_s
    refine Yd.pos (nI_le (by omega) (by omega)) ?_
    refine Yd.neg (by decide) ?_
    rw [show k = m by omega]
    exact Yd.ret _
  | succ d ih =>
    intro k hk
    refine s_X6_write_90 ?_
    unfold f_X6_write_90_s
    refine Yd.neg (nI_ge (by omega) (by omega)) ?_
    refine Yd.bind (p_at (by omega)) ?_
    refine Yd.bind (p_least h hm) ?_
    refine Yd.bind (p_frame h hm hb) ?_
    have hl := cat_le (fun k => bo (sg mv s k - mn (sg mv s) (m - 1)) (fw (sg mv s) m)) m k (by omega)
    rw [bo_len] at hl
    refine Yd.bind (p_put' (by rw [List.length_append]; omega)) ?_
    rw [nI_1, List.append_assoc]
    exact ih (k + 1) (by omega)
theorem w_delta {A : List Int32} (h : s + m ≤ 96) (hm : 0 < m) (hb : Bd (sg mv s) m) (hc : (A ++ cat (fun k => bo (fo (sg mv s (k + 1) - sg mv s k)) (dw (sg mv s) (m - 1))) (m - 1)).length ≤ 2000) :
    ∀ d k, k + 1 + d = m → Yd (fun n => f_X6_write_147 n (nI (k + 1)) (nI s) (nI m) (wo 0 bt (A ++ cat (fun k => bo (fo (sg mv s (k + 1) - sg mv s k)) (dw (sg mv s) (m - 1))) k)).1 mv (wo 0 bt (A ++ cat (fun k => bo (fo (sg mv s (k + 1) - sg mv s k)) (dw (sg mv s) (m - 1))) k)).2) (wo 0 bt (A ++ cat (fun k => bo (fo (sg mv s (k + 1) - sg mv s k)) (dw (sg mv s) (m - 1))) (m - 1))) := by
  rw [List.length_append] at hc
  intro d
  induction d with
  | zero =>
    intro k hk
    refine s_X6_write_147 ?_
    unfold f_X6_write_147_s
    refine Yd.pos (nI_le (by omega) (by omega)) ?_
    rw [show m - 1 = k by omega]
    exact Yd.ret _
  | succ d ih =>
    intro k hk
    refine s_X6_write_147 ?_
    unfold f_X6_write_147_s
    refine Yd.neg (nI_ge (by omega) (by omega)) ?_
    refine Yd.bind (p_at (by omega)) ?_
    rw [nI_s1]
    refine Yd.bind (p_at (by omega)) ?_
    refine Yd.bind (p_folded _) ?_
    refine Yd.bind (p_delta h hm hb) ?_
    have hl := cat_le (fun k => bo (fo (sg mv s (k + 1) - sg mv s k)) (dw (sg mv s) (m - 1))) (m - 1) k (by omega)
    rw [bo_len] at hl
    refine Yd.bind (p_put' (by rw [List.length_append]; omega)) ?_
    rw [nI_1, List.append_assoc]
    exact ih (k + 1) (by omega)
theorem w_dict2 {A : List Int32} (h : s + m ≤ 96) (hm : 0 < m) (hc : (A ++ cat (fun k => bo (nI (cb (sg mv s k) (dl (sg mv s) m))) (wd (dn (sg mv s) m - 1))) m).length ≤ 2000) :
    ∀ d k, k + d = m → Yd (fun n => f_X6_writeDictionary_57 n (nI (dn (sg mv s) m)) (nI k) (nI s) (nI m) (wo 0 bt (A ++ cat (fun k => bo (nI (cb (sg mv s k) (dl (sg mv s) m))) (wd (dn (sg mv s) m - 1))) k)).1 mv (wo 0 bt (A ++ cat (fun k => bo (nI (cb (sg mv s k) (dl (sg mv s) m))) (wd (dn (sg mv s) m - 1))) k)).2) (wo 0 bt (A ++ cat (fun k => bo (nI (cb (sg mv s k) (dl (sg mv s) m))) (wd (dn (sg mv s) m - 1))) m)) := by
  rw [List.length_append] at hc
  have hd := dn_pos (g := sg mv s) hm
  have hd2 : dn (sg mv s) m ≤ m := dl_len _ _
  intro d
  induction d with
  | zero =>
    intro k hk
    refine s_X6_writeDictionary_57 ?_
    unfold f_X6_writeDictionary_57_s
    refine Yd.pos (nI_le (by omega) (by omega)) ?_
    rw [show k = m by omega]
    exact Yd.ret _
  | succ d ih =>
    intro k hk
    refine s_X6_writeDictionary_57 ?_
    unfold f_X6_writeDictionary_57_s
    refine Yd.neg (nI_ge (by omega) (by omega)) ?_
    refine Yd.bind (p_at (by omega)) ?_
    refine Yd.bind (p_db h) ?_
    rw [show nI (dn (sg mv s) m) - 1 = nI (dn (sg mv s) m - 1) from nI_sub (b := 1) hd, nI_l (by omega)]
    refine Yd.bind (p_width (by omega)) ?_
    have hl := cat_le (fun k => bo (nI (cb (sg mv s k) (dl (sg mv s) m))) (wd (dn (sg mv s) m - 1))) m k (by omega)
    rw [bo_len] at hl
    refine Yd.bind (p_put' (by rw [List.length_append]; omega)) ?_
    rw [nI_1, List.append_assoc]
    exact ih (k + 1) (by omega)
theorem w_dict1 {A : List Int32} {R : Int32 × (Nat → Int32)} (h : s + m ≤ 96) (hm : 0 < m) (hc : (A ++ cat (fun i => vb ((dl (sg mv s) m).getD i 0)) (dn (sg mv s) m)).length ≤ 2000)
    (hend : Yd (fun n => f_X6_writeDictionary_57 n (nI (dn (sg mv s) m)) 0 (nI s) (nI m) (wo 0 bt (A ++ cat (fun i => vb ((dl (sg mv s) m).getD i 0)) (dn (sg mv s) m))).1 mv (wo 0 bt (A ++ cat (fun i => vb ((dl (sg mv s) m).getD i 0)) (dn (sg mv s) m))).2) R) :
    ∀ d i, i + d = dn (sg mv s) m → Yd (fun n => f_X6_writeDictionary_14 n 14 (nI (dn (sg mv s) m)) (nI i) 0 (nI s) (nI m) (wo 0 bt (A ++ cat (fun i => vb ((dl (sg mv s) m).getD i 0)) i)).1 mv (wo 0 bt (A ++ cat (fun i => vb ((dl (sg mv s) m).getD i 0)) i)).2) R := by
  rw [List.length_append] at hc
  have hd2 : dn (sg mv s) m ≤ m := dl_len _ _
  intro d
  induction d with
  | zero =>
    intro i hi
    refine s_X6_writeDictionary_14 ?_
    unfold f_X6_writeDictionary_14_s
    refine Yd.pos rfl ?_
    refine Yd.pos (nI_le (by omega) (by omega)) ?_
    rw [show i = dn (sg mv s) m by omega]
    exact hend
  | succ d ih =>
    intro i hi
    have hlt : i < (dl (sg mv s) m).length := by show i < dn (sg mv s) m; omega
    have hl := cat_le (fun i => vb ((dl (sg mv s) m).getD i 0)) (dn (sg mv s) m) i (by omega)
    rw [bo_len] at hl
    obtain ⟨K, hK, eK⟩ := dl_mem.mp (List.getElem_mem hlt)
    have ih1 := ih (i + 1) (by omega)
    have inner : ∀ d2 k, k + d2 = K → Yd (fun n => f_X6_writeDictionary_14 n 21 (nI (dn (sg mv s) m)) (nI i) (nI k) (nI s) (nI m) (wo 0 bt (A ++ cat (fun i => vb ((dl (sg mv s) m).getD i 0)) i)).1 mv (wo 0 bt (A ++ cat (fun i => vb ((dl (sg mv s) m).getD i 0)) i)).2) R := by
      intro d2
      have hit : ∀ k, k ≤ K → cb (sg mv s k) (dl (sg mv s) m) = i → Yd (fun n => f_X6_writeDictionary_14 n 21 (nI (dn (sg mv s) m)) (nI i) (nI k) (nI s) (nI m) (wo 0 bt (A ++ cat (fun i => vb ((dl (sg mv s) m).getD i 0)) i)).1 mv (wo 0 bt (A ++ cat (fun i => vb ((dl (sg mv s) m).getD i 0)) i)).2) R := by
        intro k hk ec
        have hmem : sg mv s k ∈ dl (sg mv s) m := dl_mem.mpr ⟨k, by omega, rfl⟩
        obtain ⟨q1, q2⟩ := srt_mem (dl_srt (sg mv s) m) hmem
        have ev : (dl (sg mv s) m).getD i 0 = sg mv s k := by
          rw [List.getD_eq_getElem?_getD, List.getElem?_eq_getElem hlt]
          simp only [ec] at q2
          exact q2
        refine s_X6_writeDictionary_14 ?_
        unfold f_X6_writeDictionary_14_s
        refine Yd.neg (by decide) ?_
        refine Yd.bind (p_at (by omega)) ?_
        refine Yd.bind (p_db h) ?_
        rw [ec]
        refine Yd.pos rfl ?_
        refine Yd.bind (p_at (by omega)) ?_
        refine Yd.bind (p_pv' (by rw [List.length_append]; omega)) ?_
        rw [nI_1, List.append_assoc, ← ev]
        exact ih1
      induction d2 with
      | zero =>
        intro k hk
        refine hit k (by omega) ?_
        rw [show k = K by omega, eK]
        exact srt_idx (dl_srt (sg mv s) m) i hlt
      | succ d2 ih2 =>
        intro k hk
        by_cases ec : cb (sg mv s k) (dl (sg mv s) m) = i
        · exact hit k (by omega) ec
        · have hcb := cb_le (sg mv s) (sg mv s k) m
          refine s_X6_writeDictionary_14 ?_
          unfold f_X6_writeDictionary_14_s
          refine Yd.neg (by decide) ?_
          refine Yd.bind (p_at (by omega)) ?_
          refine Yd.bind (p_db h) ?_
          refine Yd.neg (fun h9 => ec ((nI_eq (by omega) (by omega)).mp h9)) ?_
          rw [nI_1]
          exact ih2 (k + 1) (by omega)
    refine s_X6_writeDictionary_14 ?_
    unfold f_X6_writeDictionary_14_s
    refine Yd.pos rfl ?_
    refine Yd.neg (nI_ge (by omega) (by omega)) ?_
    exact inner K 0 (by omega)
theorem p_write {b0 : Int32} {e : Nat} (h : s + m ≤ 96) (hm : 0 < m) (hm2 : m ≤ 32) (hb : Bd (sg mv s) m) (he : e ≤ 5) :
    Yd (fun n => f_X6_write n (nI e) (nI s) (nI m) b0 mv bt) (wo 0 bt (enc (sg mv s) m e)) := by
  have hs := sz_le (e := e) hm hm2 hb
  have hlen := enc_len (g := sg mv s) (e := e) hm
  have hcap : (enc (sg mv s) m e).length ≤ 2000 := by omega
  clear hs hlen
  unfold f_X6_write
  by_cases h0 : e = 0
  · subst h0
    exact Yd.pos rfl (w_plain h hcap m 0 (by omega))
  refine Yd.neg (e_ne (j := 0) h0 (by omega) (by omega)) ?_
  by_cases h1 : e = 1
  · subst h1
    refine Yd.pos rfl ?_
    refine Yd.bind (p_at (k := 0) (by omega)) ?_
    refine Yd.bind (p_putValue (P := 0) (by omega)) ?_
    refine Yd.neg (by decide) ?_
    exact w57_none (by omega) (by omega) (by omega) (by omega) _
  refine Yd.neg (e_ne (j := 1) h1 (by omega) (by omega)) ?_
  by_cases h2 : e = 2
  · subst h2
    refine Yd.pos rfl ?_
    refine Yd.bind (a := wo 0 bt (enc (sg mv s) m 2)) ?_ ?_
    · unfold f_X6_writeRuns
      exact w_runs h hm2 hcap m 0 (by omega)
    · exact w57_none (by omega) (by omega) (by omega) (by omega) _
  refine Yd.neg (e_ne (j := 2) h2 (by omega) (by omega)) ?_
  unfold f_X6_write_57
  by_cases h3 : e = 3
  · subst h3
    refine Yd.pos rfl ?_
    refine Yd.bind (a := wo 0 bt (enc (sg mv s) m 3)) ?_ ?_
    · unfold f_X6_writeDictionary
      have e3 : enc (sg mv s) m 3 = (bo (nI (dn (sg mv s) m)) 6 ++ cat (fun i => vb ((dl (sg mv s) m).getD i 0)) (dn (sg mv s) m)) ++ cat (fun k => bo (nI (cb (sg mv s k) (dl (sg mv s) m))) (wd (dn (sg mv s) m - 1))) m := rfl
      rw [e3] at hcap ⊢
      have hc2 : (bo (nI (dn (sg mv s) m)) 6 ++ cat (fun i => vb ((dl (sg mv s) m).getD i 0)) (dn (sg mv s) m)).length ≤ 2000 := by
        rw [List.length_append] at hcap
        omega
      refine Yd.bind (p_diff h hb) ?_
      refine Yd.bind (p_put (P := 0) (w := 6) (by omega)) ?_
      have k := w_dict2 (bt := bt) h hm hcap m 0 (by omega)
      simp only [cat, List.append_nil] at k
      have k2 := w_dict1 (A := bo (nI (dn (sg mv s) m)) 6) h hm hc2 k (dn (sg mv s) m) 0 (by omega)
      simp only [cat, List.append_nil] at k2
      exact k2
    · refine Yd.neg (by decide) ?_
      refine Yd.neg (by decide) ?_
      exact Yd.ret _
  refine Yd.neg (e_ne (j := 3) h3 (by omega) (by omega)) ?_
  by_cases h4 : e = 4
  · subst h4
    have e4 : enc (sg mv s) m 4 = (vb (mn (sg mv s) (m - 1)) ++ bo (nI (fw (sg mv s) m)) 5) ++ cat (fun k => bo (sg mv s k - mn (sg mv s) (m - 1)) (fw (sg mv s) m)) m := rfl
    rw [e4] at hcap ⊢
    refine Yd.pos rfl ?_
    refine Yd.bind (p_least h hm) ?_
    refine Yd.bind (p_putValue (P := 0) (by omega)) ?_
    refine Yd.bind (p_frame h hm hb) ?_
    refine Yd.bind (p_put' (w := 5) (by rw [bo_len]; omega)) ?_
    have k := w_frame (bt := bt) h hm hb hcap m 0 (by omega)
    simp only [cat, List.append_nil] at k
    exact k
  refine Yd.neg (e_ne (j := 4) h4 (by omega) (by omega)) ?_
  have h5 : e = 5 := by omega
  subst h5
  have e5 : enc (sg mv s) m 5 = (vb (sg mv s 0) ++ bo (nI (dw (sg mv s) (m - 1))) 5) ++ cat (fun k => bo (fo (sg mv s (k + 1) - sg mv s k)) (dw (sg mv s) (m - 1))) (m - 1) := rfl
  rw [e5] at hcap ⊢
  refine Yd.pos rfl ?_
  refine Yd.bind (p_at (k := 0) (by omega)) ?_
  refine Yd.bind (p_putValue (P := 0) (by omega)) ?_
  refine Yd.bind (p_delta h hm hb) ?_
  refine Yd.bind (p_put' (w := 5) (by rw [bo_len]; omega)) ?_
  have k := w_delta (bt := bt) h hm hb hcap (m - 1) 0 (by omega)
  simp only [cat, List.append_nil] at k
  exact k
end PuL
