/-! the class: Profile.study -/
section PuJ
abbrev PRr (g : Nat → Int32) (s m : Nat) (r : Int32 × Int32 × Int32 × Int32 × Int32 × Int32 × Int32 × Int32 × (Nat → Int32) × (Nat → Int32)) : Prop := PR g s m r.1 r.2.1 r.2.2.1 r.2.2.2.1 r.2.2.2.2.1 r.2.2.2.2.2.1 r.2.2.2.2.2.2.1 r.2.2.2.2.2.2.2.1 r.2.2.2.2.2.2.2.2.1 r.2.2.2.2.2.2.2.2.2
theorem upd_self (a : Nat → Int32) (i : Nat) (x : Int32) : upd a i x i = x := by unfold upd; rw [if_pos rfl]
theorem upd_ne {a : Nat → Int32} {i j : Nat} {x : Int32} (h : j ≠ i) : upd a i x j = a j := by unfold upd; rw [if_neg h]
theorem q_study_loop {co : Nat → Int32} {s m : Nat} (h : s + m ≤ 96) (hm : 0 < m) (hm2 : m ≤ 32) (hb : Bd (sg co s) m) (le0 iw0 fd0 dd0 : Int32) :
    ∀ d i, i + d = m → ∀ (z4 : Int32) (ru di : Nat → Int32), (0 < i → z4 = sg co s (i - 1)) → (∀ j, j < i → ru j = nI (rn (sg co s) j)) → Rep di (dl (sg co s) i) →
      ∃ r, Yd (fun n => f_X2_study_28 n (nI s) (nI m) (nI (mf (sg co s) (i - 1))) z4 (nI i) co (nI s) (nI m) (nI (rb (sg co s) i)) (nI (dl (sg co s) i).length) le0 iw0 fd0 dd0 ru di) r ∧ PRr (sg co s) s m r := by
  intro d
  induction d with
  | zero =>
    intro i hi z4 ru di hz hru hdi
    have ei : i = m := by omega
    subst ei
    have hl := dl_len (sg co s) i
    have hd : 0 < (dl (sg co s) i).length := List.length_pos_of_mem (dl_mem.mpr ⟨0, hm, rfl⟩)
    have hlast : (dl (sg co s) i).length - 1 < (dl (sg co s) i).length := by omega
    have eh := dl_head hm hd
    have el := dl_last hm hlast
    obtain ⟨k1, hk1, e1⟩ := mn_mem (sg co s) (i - 1)
    obtain ⟨k2, hk2, e2⟩ := mx_mem (sg co s) (i - 1)
    have b1 := hb k1 (by omega)
    have b2 := hb k2 (by omega)
    have hle := mx_ge (sg co s) (i - 1) k1 hk1
    have e3 : (mx (sg co s) (i - 1) - mn (sg co s) (i - 1)) = nI ((mx (sg co s) (i - 1)).toInt - (mn (sg co s) (i - 1)).toInt).toNat := by
      apply of_toInt
      rw [sub_toInt (by rw [e2]; omega) (by rw [e1]; omega)]
      rw [e1]
      omega
    have hmf := mf_lt (sg co s) (i - 1) i (by omega) hb
    refine ⟨(nI s, nI i, nI (rb (sg co s) i), nI (dl (sg co s) i).length, mn (sg co s) (i - 1), nI (wd (dn (sg co s) i - 1)), nI (fw (sg co s) i), nI (dw (sg co s) (i - 1)), ru, di), ?_, ?_⟩
    · refine s_X2_study_28 ?_
      unfold f_X2_study_28_s
      refine Yd.pos (nI_le (Nat.le_refl _) (by omega)) ?_
      refine Yd.bind (q_get (i := 0) (by omega) (by omega)) ?_
      rw [show nI (dl (sg co s) i).length - 1 = nI ((dl (sg co s) i).length - 1) from nI_sub (b := 1) hd]
      refine Yd.bind (q_width (by omega)) ?_
      refine Yd.bind (q_get (by omega) (by omega)) ?_
      rw [hdi 0 hd, hdi _ hlast, eh, el, e3]
      refine Yd.bind (q_width (by rw [e1, e2]; omega)) ?_
      refine Yd.bind (q_width (by omega)) (Yd.retE ?_)
      rw [mf_dw]
      rfl
    · obtain ⟨j, rfl⟩ : ∃ j, i = j + 1 := ⟨i - 1, by omega⟩
      exact ⟨rfl, rfl, by show nI (rb (sg co s) (j + 1)) = nI (rn (sg co s) j); rw [rb_rn], rfl, rfl, rfl, rfl, rfl, hru, hdi⟩
  | succ d ih =>
    intro i hi z4 ru di hz hru hdi
    have hl := dl_len (sg co s) i
    obtain ⟨di', ha, hr'⟩ := q_adddiff (v := sg co s i) (dl_srt (sg co s) i) hdi (by omega)
    have hget : Yd (fun n => f_X3_get n 96 (nI s + nI i) co) (sg co s i) := by
      rw [nI_add]
      exact q_get (by omega) (by omega)
    have hru2 : ∀ x : Int32, x = nI (rn (sg co s) i) → ∀ j, j < i + 1 → upd ru i x j = nI (rn (sg co s) j) := by
      intro x hx j hj
      by_cases c : j = i
      · subst c; rw [upd_self, hx]
      · rw [upd_ne c]; exact hru j (by omega)
    by_cases c0 : i = 0
    · subst c0
      obtain ⟨r, hY, hPR⟩ := ih 1 (by omega) (sg co s 0) (upd ru 0 (nI 1)) di' (fun _ => rfl) (hru2 _ rfl) hr'
      refine ⟨r, ?_, hPR⟩
      refine s_X2_study_28 ?_
      unfold f_X2_study_28_s
      refine Yd.neg (nI_ge (by omega) (by omega)) ?_
      refine Yd.bind hget ?_
      refine Yd.pos rfl ?_
      refine Yd.bind ha ?_
      refine Yd.pos (by decide) ?_
      refine Yd.bind (q_put (by omega) (by omega)) ?_
      exact hY
    · obtain ⟨j, rfl⟩ : ∃ j, i = j + 1 := ⟨i - 1, by omega⟩
      have ez : z4 = sg co s j := hz (by omega)
      subst ez
      obtain ⟨e1, e2⟩ := diff_fo (sg co s) (k := j) (m := m) (by omega) hb
      have hmf := mf_lt (sg co s) j m (by omega) hb
      have hrb : rb (sg co s) (j + 1) = rn (sg co s) j := rb_rn _ j
      have hrb2 : rb (sg co s) (j + 1 + 1) = rn (sg co s) (j + 1) := rb_rn _ (j + 1)
      have emf : (if nI (mf (sg co s) j) < nI (foN (dI (sg co s) j)) then nI (foN (dI (sg co s) j)) else nI (mf (sg co s) j)) = nI (mf (sg co s) (j + 1)) := nI_max _ _ (by omega) (by omega)
      by_cases c1 : sg co s (j + 1) = sg co s j
      · have hmem : sg co s (j + 1) ∈ dl (sg co s) (j + 1) := dl_mem.mpr ⟨j, by omega, c1.symm⟩
        have edl : dl (sg co s) (j + 1 + 1) = dl (sg co s) (j + 1) := insR_of_mem (dl_srt _ _) hmem
        have ern : rn (sg co s) (j + 1) = rn (sg co s) j := by
          show rn (sg co s) j + _ = _
          rw [if_pos c1]
          rfl
        obtain ⟨r, hY, hPR⟩ := ih (j + 2) (by omega) (sg co s (j + 1)) (upd ru (j + 1) (nI (rb (sg co s) (j + 1)))) di (fun _ => rfl) (hru2 _ (by rw [hrb, ern])) (by rw [edl]; exact hdi)
        refine ⟨r, ?_, hPR⟩
        rw [edl, hrb2, ern, ← hrb] at hY
        refine s_X2_study_28 ?_
        unfold f_X2_study_28_s
        refine Yd.neg (nI_ge (by omega) (by omega)) ?_
        refine Yd.bind hget ?_
        refine Yd.neg (nI_ne0 (by omega) (by omega)) ?_
        refine Yd.pos c1 ?_
        refine Yd.neg (nI_nle (by omega) (by omega)) ?_
        refine Yd.bind (q_fold _) ?_
        refine Yd.bind (q_put (by omega) (by omega)) ?_
        rw [e1, nI_1]
        rw [show j + 2 - 1 = j + 1 from rfl, ← emf] at hY
        exact hY
      · have ern : rn (sg co s) (j + 1) = rn (sg co s) j + 1 := by
          show rn (sg co s) j + _ = _
          rw [if_neg c1]
        obtain ⟨r, hY, hPR⟩ := ih (j + 2) (by omega) (sg co s (j + 1)) (upd ru (j + 1) (nI (rb (sg co s) (j + 1)) + 1)) di' (fun _ => rfl) (hru2 _ (by rw [hrb, ern, nI_1])) hr'
        refine ⟨r, ?_, hPR⟩
        rw [hrb2, ern, ← hrb, ← nI_1 (rb (sg co s) (j + 1))] at hY
        refine s_X2_study_28 ?_
        unfold f_X2_study_28_s
        refine Yd.neg (nI_ge (by omega) (by omega)) ?_
        refine Yd.bind hget ?_
        refine Yd.neg (nI_ne0 (by omega) (by omega)) ?_
        refine Yd.neg c1 ?_
        refine Yd.bind ha ?_
        refine Yd.neg (nI_nle (by omega) (by omega)) ?_
        refine Yd.bind (q_fold _) ?_
        refine Yd.bind (q_put (by omega) (by omega)) ?_
        rw [e1, nI_1 (j + 1)]
        rw [show j + 2 - 1 = j + 1 from rfl, ← emf] at hY
        exact hY
theorem q_study {co : Nat → Int32} {s m : Nat} (h : s + m ≤ 96) (hm : 0 < m) (hm2 : m ≤ 32) (hb : Bd (sg co s) m) (fr0 my0 rc0 dc0 le0 iw0 fd0 dd0 : Int32) (ru0 di0 : Nat → Int32) :
    ∃ r, Yd (fun n => f_X2_study n (nI s) (nI m) co fr0 my0 rc0 dc0 le0 iw0 fd0 dd0 ru0 di0) r ∧ PRr (sg co s) s m r := by
  unfold f_X2_study
  exact q_study_loop h hm hm2 hb le0 iw0 fd0 dd0 m 0 (by omega) 0 ru0 di0 (fun h => by omega) (fun j hj => by omega) (fun i hi => absurd hi (by simp [dl]))
end PuJ
