/-! the class packs a studied segment -/
section PuM
variable {co a : Nat → Int32} {s m P : Nat}
theorem q_w' {x : Int32} {L : List Int32} {w : Nat} (h : P + L.length + w ≤ 3072) : Yd (fun n => f_X0_write n x (nI w) (wo P a L).1 (wo P a L).2) (wo P a (L ++ bo x w)) :=
  (q_write (P := P + L.length) (a := bl a P L) (by omega)).eq (wo_app _ _ _ _)
theorem q_v' {v : Int32} {L : List Int32} (h : P + L.length + 18 ≤ 3072) : Yd (fun n => f_X1_writeValue n v (wo P a L).1 (wo P a L).2) (wo P a (L ++ vb v)) :=
  (q_writeValue (P := P + L.length) (a := bl a P L) (by omega)).eq (wo_app _ _ _ _)
theorem q_col {k : Nat} (h : s + k < 96) : Yd (fun n => f_X3_get n 96 (nI s + nI k) co) (sg co s k) := by
  rw [nI_add]
  exact q_get h (by omega)
theorem k_plain (h : s + m ≤ 96) (hc : P + (cat (fun k => vb (sg co s k)) m).length ≤ 3072) : ∀ d k, k + d = m → Yd (fun n => f_X1_packPlain_2 n (nI s) (nI m) (nI k) (wo P a (cat (fun k => vb (sg co s k)) k)).1 (wo P a (cat (fun k => vb (sg co s k)) k)).2 co) (wo P a (cat (fun k => vb (sg co s k)) m)) := by
  intro d
  induction d with
  | zero =>
    intro k hk
    refine s_X1_packPlain_2 ?_
    unfold f_X1_packPlain_2_s
    refine Yd.pos (nI_le (by omega) (by omega)) ?_
    rw [show k = m by omega]
    exact Yd.ret _
  | succ d ih =>
    intro k hk
    refine s_X1_packPlain_2 ?_
    unfold f_X1_packPlain_2_s
    refine Yd.neg (nI_ge (by omega) (by omega)) ?_
    refine Yd.bind (q_col (by omega)) ?_
    have hl := cat_le (fun k => vb (sg co s k)) m k (by omega)
    rw [bo_len] at hl
    refine Yd.bind (q_v' (by omega)) ?_
    rw [nI_1]
    exact ih (k + 1) (by omega)
theorem k_runs (h : s + m ≤ 96) (hm2 : m ≤ 32) (hc : P + (cat (rF (sg co s) m) m).length ≤ 3072) : ∀ d k, k + d = m → Yd (fun n => f_X1_packRuns_5 n (nI s) (nI m) (nI (rl (sg co s) m k)) (nI k) (wo P a (cat (rF (sg co s) m) k)).1 (wo P a (cat (rF (sg co s) m) k)).2 co) (wo P a (cat (rF (sg co s) m) m)) := by
  intro d
  induction d with
  | zero =>
    intro k hk
    refine s_X1_packRuns_5 ?_
    unfold f_X1_packRuns_5_s
    refine Yd.pos (nI_le (by omega) (by omega)) ?_
    rw [show k = m by omega]
    exact Yd.ret _
  | succ d ih =>
    intro k hk
    have ih1 := ih (k + 1) (by omega)
    have hl := cat_le (rF (sg co s) m) m k (by omega)
    refine s_X1_packRuns_5 ?_
    unfold f_X1_packRuns_5_s
    refine Yd.neg (nI_ge (by omega) (by omega)) ?_
    refine Yd.bind (q_col (by omega)) ?_
    rw [nI_1, nI_1]
    have fin : ¬ (k + 1 < m ∧ sg co s (k + 1) = sg co s k) → Yd (fun n => ((f_X1_writeValue n (sg co s k) (wo P a (cat (rF (sg co s) m) k)).1 (wo P a (cat (rF (sg co s) m) k)).2).bind fun u9 => (f_X0_write n (nI (rl (sg co s) m k + 1)) 6 u9.1 u9.2).bind fun u10 => f_X1_packRuns_5 n (nI s) (nI m) 0 (nI (k + 1)) u10.1 u10.2 co)) (wo P a (cat (rF (sg co s) m) m)) := by
      intro hn
      have eF : rF (sg co s) m k = vb (sg co s k) ++ bo (nI (rl (sg co s) m k + 1)) 6 := if_neg hn
      have eR : rl (sg co s) m (k + 1) = 0 := if_neg hn
      rw [eF, List.length_append, bo_len, bo_len] at hl
      refine Yd.bind (q_v' (by omega)) ?_
      refine Yd.bind (q_w' (w := 6) (by rw [List.length_append, bo_len]; omega)) ?_
      rw [eR] at ih1
      rw [show cat (rF (sg co s) m) (k + 1) = cat (rF (sg co s) m) k ++ rF (sg co s) m k from rfl, eF, ← List.append_assoc] at ih1
      exact ih1
    by_cases c1 : k + 1 = m
    · exact Yd.pos (by rw [c1]) (fin (fun h9 => absurd h9.1 (by omega)))
    · refine Yd.neg (fun h9 => c1 ((nI_eq (by omega) (by omega)).mp h9)) ?_
      refine Yd.bind (a := sg co s (k + 1)) ?_ ?_
      · rw [nI_add, nI_1]
        exact q_get (by omega) (by omega)
      by_cases c2 : sg co s (k + 1) = sg co s k
      · refine Yd.pos c2 ?_
        have eF : rF (sg co s) m k = [] := if_pos ⟨by omega, c2⟩
        have eR : rl (sg co s) m (k + 1) = rl (sg co s) m k + 1 := if_pos ⟨by omega, c2⟩
        rw [eR, show cat (rF (sg co s) m) (k + 1) = cat (rF (sg co s) m) k ++ rF (sg co s) m k from rfl, eF, List.append_nil] at ih1
        exact ih1
      · exact Yd.neg c2 (fin (fun h9 => c2 h9.2))
theorem k_frame {A : List Int32} {v le0 fd0 : Int32} {w : Nat} (h : s + m ≤ 96) (hc : P + (A ++ cat (fun k => bo (sg co s k - v) w) m).length ≤ 3072) :
    ∀ d k, k + d = m → Yd (fun n => f_X1_packFrame_35 n (nI s) (nI m) v (nI w) (nI k) (wo P a (A ++ cat (fun k => bo (sg co s k - v) w) k)).1 (wo P a (A ++ cat (fun k => bo (sg co s k - v) w) k)).2 co le0 fd0) (wo P a (A ++ cat (fun k => bo (sg co s k - v) w) m)) := by
  rw [List.length_append] at hc
  intro d
  induction d with
  | zero =>
    intro k hk
    refine s_X1_packFrame_35 ?_
    unfold f_X1_packFrame_35_s
    refine Yd.pos (nI_le (by omega) (by omega)) ?_
    rw [show k = m by omega]
    exact Yd.ret _
  | succ d ih =>
    intro k hk
    refine s_X1_packFrame_35 ?_
    unfold f_X1_packFrame_35_s
    refine Yd.neg (nI_ge (by omega) (by omega)) ?_
    refine Yd.bind (q_col (by omega)) ?_
    have hl := cat_le (fun k => bo (sg co s k - v) w) m k (by omega)
    rw [bo_len] at hl
    refine Yd.bind (q_w' (by rw [List.length_append]; omega)) ?_
    rw [nI_1, List.append_assoc]
    exact ih (k + 1) (by omega)
theorem k_delta {A : List Int32} {dd0 : Int32} {w : Nat} (h : s + m ≤ 96) (hc : P + (A ++ cat (fun k => bo (fo (sg co s (k + 1) - sg co s k)) w) (m - 1)).length ≤ 3072) :
    ∀ d k, k + 1 + d = m → Yd (fun n => f_X1_packDelta_36 n (nI s) (nI m) (sg co s k) (nI w) (nI (k + 1)) (wo P a (A ++ cat (fun k => bo (fo (sg co s (k + 1) - sg co s k)) w) k)).1 (wo P a (A ++ cat (fun k => bo (fo (sg co s (k + 1) - sg co s k)) w) k)).2 co dd0) (wo P a (A ++ cat (fun k => bo (fo (sg co s (k + 1) - sg co s k)) w) (m - 1))) := by
  rw [List.length_append] at hc
  intro d
  induction d with
  | zero =>
    intro k hk
    refine s_X1_packDelta_36 ?_
    unfold f_X1_packDelta_36_s
    refine Yd.pos (nI_le (by omega) (by omega)) ?_
    rw [show m - 1 = k by omega]
    exact Yd.ret _
  | succ d ih =>
    intro k hk
    refine s_X1_packDelta_36 ?_
    unfold f_X1_packDelta_36_s
    refine Yd.neg (nI_ge (by omega) (by omega)) ?_
    refine Yd.bind (q_col (by omega)) ?_
    refine Yd.bind (q_fold _) ?_
    have hl := cat_le (fun k => bo (fo (sg co s (k + 1) - sg co s k)) w) (m - 1) k (by omega)
    rw [bo_len] at hl
    refine Yd.bind (q_w' (by rw [List.length_append]; omega)) ?_
    rw [nI_1, List.append_assoc]
    exact ih (k + 1) (by omega)
theorem k_dict2 {A : List Int32} {di : Nat → Int32} (h : s + m ≤ 96) (hm2 : m ≤ 32) (hr : Rep di (dl (sg co s) m)) (hc : P + (A ++ cat (fun k => bo (nI (cb (sg co s k) (dl (sg co s) m))) (wd (dn (sg co s) m - 1))) m).length ≤ 3072) :
    ∀ d k, k + d = m → Yd (fun n => f_X1_packDictionary_49 n (nI s) (nI m) (nI k) (wo P a (A ++ cat (fun k => bo (nI (cb (sg co s k) (dl (sg co s) m))) (wd (dn (sg co s) m - 1))) k)).1 (wo P a (A ++ cat (fun k => bo (nI (cb (sg co s k) (dl (sg co s) m))) (wd (dn (sg co s) m - 1))) k)).2 co (nI (dn (sg co s) m)) (nI (wd (dn (sg co s) m - 1))) di) (wo P a (A ++ cat (fun k => bo (nI (cb (sg co s k) (dl (sg co s) m))) (wd (dn (sg co s) m - 1))) m)) := by
  rw [List.length_append] at hc
  have hd2 : (dl (sg co s) m).length ≤ m := dl_len _ _
  intro d
  induction d with
  | zero =>
    intro k hk
    refine s_X1_packDictionary_49 ?_
    unfold f_X1_packDictionary_49_s
    refine Yd.pos (nI_le (by omega) (by omega)) ?_
    rw [show k = m by omega]
    exact Yd.ret _
  | succ d ih =>
    intro k hk
    refine s_X1_packDictionary_49 ?_
    unfold f_X1_packDictionary_49_s
    refine Yd.neg (nI_ge (by omega) (by omega)) ?_
    refine Yd.bind (q_col (by omega)) ?_
    have hmem : sg co s k ∈ dl (sg co s) m := dl_mem.mpr ⟨k, by omega, rfl⟩
    refine Yd.bind (a := nI (cb (sg co s k) (dl (sg co s) m))) ?_ ?_
    · unfold f_X2_indexOf
      have k1 := q_find (dl_srt (sg co s) m) (N := 32) (by omega) (by omega) hr (sg co s k)
      rw [if_pos hmem] at k1
      exact Yd.bind k1 (Yd.ret _)
    refine Yd.bind (a := nI (wd (dn (sg co s) m - 1))) (by unfold f_X2_indexWidth; exact Yd.ret _) ?_
    have hl := cat_le (fun k => bo (nI (cb (sg co s k) (dl (sg co s) m))) (wd (dn (sg co s) m - 1))) m k (by omega)
    rw [bo_len] at hl
    refine Yd.bind (q_w' (by rw [List.length_append]; omega)) ?_
    rw [nI_1, List.append_assoc]
    exact ih (k + 1) (by omega)
theorem k_dict1 {A : List Int32} {di : Nat → Int32} {R : Int32 × (Nat → Int32)} (hm2 : m ≤ 32) (hr : Rep di (dl (sg co s) m)) (hc : P + (A ++ cat (fun i => vb ((dl (sg co s) m).getD i 0)) (dn (sg co s) m)).length ≤ 3072)
    (hend : Yd (fun n => f_X1_packDictionary_49 n (nI s) (nI m) 0 (wo P a (A ++ cat (fun i => vb ((dl (sg co s) m).getD i 0)) (dn (sg co s) m))).1 (wo P a (A ++ cat (fun i => vb ((dl (sg co s) m).getD i 0)) (dn (sg co s) m))).2 co (nI (dn (sg co s) m)) (nI (wd (dn (sg co s) m - 1))) di) R) :
    ∀ d i, i + d = dn (sg co s) m → Yd (fun n => f_X1_packDictionary_21 n (nI s) (nI m) (nI (dn (sg co s) m)) (nI i) (wo P a (A ++ cat (fun i => vb ((dl (sg co s) m).getD i 0)) i)).1 (wo P a (A ++ cat (fun i => vb ((dl (sg co s) m).getD i 0)) i)).2 co (nI (dn (sg co s) m)) (nI (wd (dn (sg co s) m - 1))) di) R := by
  rw [List.length_append] at hc
  have hd2 : dn (sg co s) m ≤ m := dl_len _ _
  intro d
  induction d with
  | zero =>
    intro i hi
    refine s_X1_packDictionary_21 ?_
    unfold f_X1_packDictionary_21_s
    refine Yd.pos (nI_le (by omega) (by omega)) ?_
    rw [show i = dn (sg co s) m by omega]
    exact hend
  | succ d ih =>
    intro i hi
    have hlt : i < (dl (sg co s) m).length := by show i < dn (sg co s) m; omega
    have hl := cat_le (fun i => vb ((dl (sg co s) m).getD i 0)) (dn (sg co s) m) i (by omega)
    rw [bo_len] at hl
    have ev : (dl (sg co s) m).getD i 0 = di i := by
      rw [List.getD_eq_getElem?_getD, List.getElem?_eq_getElem hlt, hr i hlt]
      rfl
    refine s_X1_packDictionary_21 ?_
    unfold f_X1_packDictionary_21_s
    refine Yd.neg (nI_ge (by omega) (by omega)) ?_
    refine Yd.bind (a := di i) ?_ ?_
    · unfold f_X2_differentAt
      exact Yd.bind (q_get (by omega) (by omega)) (Yd.ret _)
    refine Yd.bind (q_v' (by rw [List.length_append]; omega)) ?_
    rw [nI_1, List.append_assoc, ← ev]
    exact ih (i + 1) (by omega)
theorem wo0 (P : Nat) (a : Nat → Int32) : wo P a [] = (nI P, a) := rfl
theorem q_pack {fr my rc dc le iw fd dd : Int32} {ru di : Nat → Int32} {e : Nat} (hP : PR (sg co s) s m fr my rc dc le iw fd dd ru di) (h : s + m ≤ 96) (hm : 0 < m) (hm2 : m ≤ 32) (he : e ≤ 5) (hc : P + (enc (sg co s) m e).length ≤ 3072) :
    Yd (fun n => f_X1_pack n (nI e) (nI s) (nI m) (nI P) a co dc le iw fd dd di) (wo P a (enc (sg co s) m e)) := by
  obtain ⟨e1, e2, e3, e4, e5, e6, e7, e8, e9, e10⟩ := hP
  have hd := dn_pos (g := sg co s) hm
  unfold f_X1_pack
  by_cases h0 : e = 0
  · subst h0
    refine Yd.pos rfl ?_
    refine Yd.bind (a := wo P a (enc (sg co s) m 0)) ?_ (Yd.ret _)
    unfold f_X1_packPlain
    exact k_plain h hc m 0 (by omega)
  refine Yd.neg (e_ne (j := 0) h0 (by omega) (by omega)) ?_
  by_cases h1 : e = 1
  · subst h1
    refine Yd.pos rfl ?_
    refine Yd.bind (q_get (i := s) (by omega) (by omega)) ?_
    have hc1 : P + (vb (sg co s 0)).length ≤ 3072 := hc
    rw [bo_len] at hc1
    exact Yd.bind (q_writeValue (P := P) hc1) (Yd.ret _)
  refine Yd.neg (e_ne (j := 1) h1 (by omega) (by omega)) ?_
  by_cases h2 : e = 2
  · subst h2
    refine Yd.pos rfl ?_
    refine Yd.bind (a := wo P a (enc (sg co s) m 2)) ?_ (Yd.ret _)
    unfold f_X1_packRuns
    exact k_runs h hm2 hc m 0 (by omega)
  refine Yd.neg (e_ne (j := 2) h2 (by omega) (by omega)) ?_
  by_cases h3 : e = 3
  · subst h3
    refine Yd.pos rfl ?_
    refine Yd.bind (a := wo P a (enc (sg co s) m 3)) ?_ (Yd.ret _)
    unfold f_X1_packDictionary
    have e3' : enc (sg co s) m 3 = (bo (nI (dn (sg co s) m)) 6 ++ cat (fun i => vb ((dl (sg co s) m).getD i 0)) (dn (sg co s) m)) ++ cat (fun k => bo (nI (cb (sg co s k) (dl (sg co s) m))) (wd (dn (sg co s) m - 1))) m := rfl
    rw [e3'] at hc ⊢
    have hc2 : P + (bo (nI (dn (sg co s) m)) 6 ++ cat (fun i => vb ((dl (sg co s) m).getD i 0)) (dn (sg co s) m)).length ≤ 3072 := by
      rw [List.length_append] at hc
      omega
    have hc3 : P + 6 ≤ 3072 := by
      rw [List.length_append, bo_len] at hc2
      omega
    refine Yd.bind (a := dc) (by unfold f_X2_differentCount; exact Yd.ret _) ?_
    refine Yd.bind (q_write (P := P) (w := 6) hc3) ?_
    rw [e4, e6]
    have k := k_dict2 (a := a) h hm2 e10 hc m 0 (by omega)
    simp only [cat, List.append_nil] at k
    have k2 := k_dict1 (A := bo (nI (dn (sg co s) m)) 6) hm2 e10 hc2 k (dn (sg co s) m) 0 (by omega)
    simp only [cat, List.append_nil] at k2
    exact k2
  refine Yd.neg (e_ne (j := 3) h3 (by omega) (by omega)) ?_
  by_cases h4 : e = 4
  · subst h4
    refine Yd.pos rfl ?_
    refine Yd.bind (a := wo P a (enc (sg co s) m 4)) ?_ (Yd.ret _)
    unfold f_X1_packFrame
    have e4' : enc (sg co s) m 4 = (vb (mn (sg co s) (m - 1)) ++ bo (nI (fw (sg co s) m)) 5) ++ cat (fun k => bo (sg co s k - mn (sg co s) (m - 1)) (fw (sg co s) m)) m := rfl
    rw [e4'] at hc ⊢
    have hc2 : P + 23 ≤ 3072 := by
      rw [List.length_append, List.length_append, bo_len, bo_len] at hc
      omega
    refine Yd.bind (a := mn (sg co s) (m - 1)) (by unfold f_X2_least; exact Yd.retE e5) ?_
    refine Yd.bind (a := nI (fw (sg co s) m)) (by unfold f_X2_frameWidth; exact Yd.retE e7) ?_
    refine Yd.bind (q_writeValue (P := P) (by omega)) ?_
    refine Yd.bind (q_w' (w := 5) (by rw [bo_len]; omega)) ?_
    have k := k_frame (a := a) (le0 := le) (fd0 := fd) h hc m 0 (by omega)
    simp only [cat, List.append_nil] at k
    exact k
  refine Yd.neg (e_ne (j := 4) h4 (by omega) (by omega)) ?_
  have h5 : e = 5 := by omega
  subst h5
  refine Yd.bind (a := wo P a (enc (sg co s) m 5)) ?_ (Yd.ret _)
  unfold f_X1_packDelta
  have e5' : enc (sg co s) m 5 = (vb (sg co s 0) ++ bo (nI (dw (sg co s) (m - 1))) 5) ++ cat (fun k => bo (fo (sg co s (k + 1) - sg co s k)) (dw (sg co s) (m - 1))) (m - 1) := rfl
  rw [e5'] at hc ⊢
  have hc2 : P + 23 ≤ 3072 := by
    rw [List.length_append, List.length_append, bo_len, bo_len] at hc
    omega
  refine Yd.bind (q_get (i := s) (by omega) (by omega)) ?_
  refine Yd.bind (a := nI (dw (sg co s) (m - 1))) (by unfold f_X2_deltaWidth; exact Yd.retE e8) ?_
  refine Yd.bind (q_writeValue (P := P) (by omega)) ?_
  refine Yd.bind (q_w' (w := 5) (by rw [bo_len]; omega)) ?_
  have k := k_delta (a := a) (dd0 := dd) h hc (m - 1) 0 (by omega)
  simp only [cat, List.append_nil] at k
  exact k
end PuM
