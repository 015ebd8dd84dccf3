/-! the class loads, studies and stores a segment -/
section PuQ
variable {V co : Nat → Int32} {n S k : Nat}
/-- the column holds the rows of a segment -/
def Cl (co V : Nat → Int32) (s m : Nat) : Prop := ∀ i, s ≤ i → i < s + m → co i = V i
theorem Cl.ag {s m : Nat} (h : Cl co V s m) : Ag (sg co s) (sg V s) m := fun j hj => h (s + j) (by omega) (by omega)
theorem fl_cl (co V : Nat → Int32) (s m : Nat) : Cl (fl co s m (sg V s)) V s m := by
  intro i h1 h2
  unfold fl sg
  rw [if_pos ⟨h1, h2⟩, show s + (i - s) = i by omega]
theorem fl_ne {co V : Nat → Int32} {s m i : Nat} (h : ¬ (s ≤ i ∧ i < s + m)) : fl co s m (sg V s) i = co i := by
  unfold fl
  rw [if_neg h]
theorem q_load {E : Nat → Nat} {en bc a li : Nat → Int32} {pl : Int32} (hI : IB V n S E en bc a) (hb : Bd V n) (hn : n ≤ 96) (hS : 4 ≤ S) (hS2 : S ≤ 32) (hk : k * S < n) :
    ∃ pl' li', Yd (fun q => f_X5_load q (nI k) (nI n) (nI S) en pl a co li) (pl', fl co (k * S) (mr n S k) (sg V (k * S)), li') := by
  obtain ⟨i1, i2, i3, i4, i5⟩ := hI k hk
  have hm : 0 < mr n S k := by unfold mr; omega
  have hm2 : mr n S k ≤ S := by unfold mr; omega
  have hm3 : k * S + mr n S k ≤ n := by unfold mr; omega
  have hk24 : k < 24 := by
    have h1 := (ct_lt (n := n) (S := S) (k := k) (by omega)).mpr hk
    have h2 := ct_le hS hn
    omega
  have hr := enc_room (e := E k) hb hn hS hS2 hk
  obtain ⟨pl', li', hu⟩ := q_unpack (co := co) (s := k * S) (by omega) hm (by omega) (seg_bd hb hk) i2 i3 i5 (by omega) li
  refine ⟨pl', li', ?_⟩
  unfold f_X5_load
  refine Yd.bind (q_start k S) ?_
  refine Yd.bind (a := nI (k * S * 24)) (by unfold f_X0_moveTo; exact Yd.ret _) ?_
  refine Yd.bind (q_get (by omega) (by omega)) ?_
  rw [i1]
  refine Yd.bind (q_first k S) ?_
  refine Yd.bind (q_rowsIn hn hS2 hk) ?_
  exact Yd.bind hu (Yd.ret _)
/-- what a store leaves: its tuple, and that the profile is the segment's -/
abbrev StT : Type := (Nat → Int32) × (Nat → Int32) × Int32 × (Nat → Int32) × Int32 × Int32 × Int32 × Int32 × Int32 × Int32 × Int32 × Int32 × (Nat → Int32) × (Nat → Int32)
theorem q_store {e : Nat} {en bc a : Nat → Int32} {pl fr0 my0 rc0 dc0 le0 iw0 fd0 dd0 : Int32} {ru0 di0 : Nat → Int32} (hb : Bd V n) (hn : n ≤ 96) (hS : 4 ≤ S) (hS2 : S ≤ 32) (hk : k * S < n) (hc : Cl co V (k * S) (mr n S k)) (he : e ≤ 5) (hp : psb (sg V (k * S)) (mr n S k) e = true) :
    ∃ (pl' : Int32) (r : Int32 × Int32 × Int32 × Int32 × Int32 × Int32 × Int32 × Int32 × (Nat → Int32) × (Nat → Int32)), Yd (fun q => f_X5_store q (nI k) (nI e) (nI n) (nI S) en bc pl a co fr0 my0 rc0 dc0 le0 iw0 fd0 dd0 ru0 di0) ((upd en k (nI e), upd bc k (nI (sz (sg V (k * S)) (mr n S k) e)), pl', bl a (k * S * 24) (enc (sg V (k * S)) (mr n S k) e), r) : StT) ∧ PRr (sg V (k * S)) (k * S) (mr n S k) r := by
  have hm : 0 < mr n S k := by unfold mr; omega
  have hm2 : mr n S k ≤ S := by unfold mr; omega
  have hm3 : k * S + mr n S k ≤ n := by unfold mr; omega
  have hk24 : k < 24 := by
    have h1 := (ct_lt (n := n) (S := S) (k := k) (by omega)).mpr hk
    have h2 := ct_le hS hn
    omega
  have hr := enc_room (e := e) hb hn hS hS2 hk
  have hag := hc.ag
  have hbd := seg_bd hb hk
  obtain ⟨r, hY, hPR⟩ := q_study (co := co) (s := k * S) (m := mr n S k) (by omega) hm (by omega) (Bd_cg hag.symm hbd) fr0 my0 rc0 dc0 le0 iw0 fd0 dd0 ru0 di0
  have hPR2 : PRr (sg V (k * S)) (k * S) (mr n S k) r := PR_cg hag hm hPR
  have hpk := q_pack (a := a) (P := k * S * 24) (e := e) hPR (by omega) hm (by omega) he (by rw [enc_cg hag hm]; omega)
  rw [enc_cg hag hm] at hpk
  have hsz := q_size hPR2 hm (by omega) he
  have esz : szI (sg V (k * S)) (mr n S k) e = nI (sz (sg V (k * S)) (mr n S k) e) := by unfold szI; rw [if_pos hp]
  rw [esz] at hsz
  refine ⟨nI (k * S * 24 + (enc (sg V (k * S)) (mr n S k) e).length), r, ?_, hPR2⟩
  unfold f_X5_store
  refine Yd.bind (q_first k S) ?_
  refine Yd.bind (q_rowsIn hn hS2 hk) ?_
  refine Yd.bind hY ?_
  refine Yd.bind (q_start k S) ?_
  refine Yd.bind (a := nI (k * S * 24)) (by unfold f_X0_moveTo; exact Yd.ret _) ?_
  refine Yd.bind (q_first k S) ?_
  refine Yd.bind (q_rowsIn hn hS2 hk) ?_
  refine Yd.bind hpk ?_
  refine Yd.bind (q_put (by omega) (by omega)) ?_
  refine Yd.bind hsz ?_
  refine Yd.bind (q_put (by omega) (by omega)) ?_
  exact Yd.ret _
theorem q_cstudy {E : Nat → Nat} {en bc a li : Nat → Int32} {pl fr0 my0 rc0 dc0 le0 iw0 fd0 dd0 : Int32} {ru0 di0 : Nat → Int32} (hI : IB V n S E en bc a) (hb : Bd V n) (hn : n ≤ 96) (hS : 4 ≤ S) (hS2 : S ≤ 32) (hk : k * S < n) :
    ∃ (pl' : Int32) (li' : Nat → Int32) (r : Int32 × Int32 × Int32 × Int32 × Int32 × Int32 × Int32 × Int32 × (Nat → Int32) × (Nat → Int32)), Yd (fun q => f_X5_study q (nI k) (nI n) (nI S) en pl a co fr0 my0 rc0 dc0 le0 iw0 fd0 dd0 ru0 di0 li) (pl', fl co (k * S) (mr n S k) (sg V (k * S)), r.1, r.2.1, r.2.2.1, r.2.2.2.1, r.2.2.2.2.1, r.2.2.2.2.2.1, r.2.2.2.2.2.2.1, r.2.2.2.2.2.2.2.1, r.2.2.2.2.2.2.2.2.1, r.2.2.2.2.2.2.2.2.2, li') ∧ PRr (sg V (k * S)) (k * S) (mr n S k) r := by
  have hm : 0 < mr n S k := by unfold mr; omega
  have hm2 : mr n S k ≤ S := by unfold mr; omega
  have hm3 : k * S + mr n S k ≤ n := by unfold mr; omega
  obtain ⟨pl', li', hl⟩ := q_load (co := co) (li := li) (pl := pl) hI hb hn hS hS2 hk
  have hag := (fl_cl co V (k * S) (mr n S k)).ag
  have hbd := seg_bd hb hk
  obtain ⟨r, hY, hPR⟩ := q_study (co := fl co (k * S) (mr n S k) (sg V (k * S))) (s := k * S) (m := mr n S k) (by omega) hm (by omega) (Bd_cg hag.symm hbd) fr0 my0 rc0 dc0 le0 iw0 fd0 dd0 ru0 di0
  refine ⟨pl', li', r, ?_, PR_cg hag hm hPR⟩
  unfold f_X5_study
  refine Yd.bind hl ?_
  refine Yd.bind (q_first k S) ?_
  refine Yd.bind (q_rowsIn hn hS2 hk) ?_
  exact Yd.bind hY (Yd.ret _)
/-- a stored segment; the others stay -/
theorem IB_store {E : Nat → Nat} {en bc a : Nat → Int32} {e : Nat} (hI : ∀ j, j * S < n → j ≠ k → en j = nI (E j) ∧ E j ≤ 5 ∧ psb (sg V (j * S)) (mr n S j) (E j) = true ∧ bc j = nI (sz (sg V (j * S)) (mr n S j) (E j)) ∧ hasb a (j * S * 24) (enc (sg V (j * S)) (mr n S j) (E j)))
    (hb : Bd V n) (hn : n ≤ 96) (hS : 4 ≤ S) (hS2 : S ≤ 32) (hk : k * S < n) (he : e ≤ 5) (hp : psb (sg V (k * S)) (mr n S k) e = true) :
    IB V n S (fun j => if j = k then e else E j) (upd en k (nI e)) (upd bc k (nI (sz (sg V (k * S)) (mr n S k) e))) (bl a (k * S * 24) (enc (sg V (k * S)) (mr n S k) e)) := by
  intro j hj
  by_cases c : j = k
  · subst c
    dsimp only
    rw [if_pos rfl, upd_self, upd_self]
    exact ⟨rfl, he, hp, rfl, hasb_bl _ _ _⟩
  · dsimp only
    rw [if_neg c, upd_ne c, upd_ne c]
    obtain ⟨i1, i2, i3, i4, i5⟩ := hI j hj c
    refine ⟨i1, i2, i3, i4, hasb_bl_ne i5 ?_⟩
    have r1 := enc_room (e := E j) hb hn hS hS2 hj
    have r2 := enc_room (e := e) hb hn hS hS2 hk
    rcases Nat.lt_or_gt_of_ne c with d | d
    · left
      have : (j + 1) * S ≤ k * S := Nat.mul_le_mul_right _ d
      rw [Nat.succ_mul] at this
      omega
    · right
      have : (k + 1) * S ≤ j * S := Nat.mul_le_mul_right _ d
      rw [Nat.succ_mul] at this
      omega
theorem q_loadCol {E : Nat → Nat} {en bc a : Nat → Int32} (hI : IB V n S E en bc a) (hb : Bd V n) (hn : n ≤ 96) (hS : 4 ≤ S) (hS2 : S ≤ 32) :
    ∀ d k, k + d = ct_ n S → ∀ (co li : Nat → Int32) (pl : Int32), (∀ i, i < k * S → i < n → co i = V i) → ∃ pl' co' li', Yd (fun q => f_X5_loadColumn_7 q (nI (ct_ n S)) (nI k) (nI n) (nI S) en pl a co li) (pl', co', li') ∧ ∀ i, i < n → co' i = V i := by
  have hct := ct_le hS hn
  intro d
  induction d with
  | zero =>
    intro k hk co li pl hco
    refine ⟨pl, co, li, ?_, ?_⟩
    · refine s_X5_loadColumn_7 ?_
      unfold f_X5_loadColumn_7_s
      exact Yd.pos (nI_le (by omega) (by omega)) (Yd.ret _)
    · intro i hi
      have h1 : ¬ k * S < n := fun h => by
        have := (ct_lt (n := n) (S := S) (k := k) (by omega)).mpr h
        omega
      exact hco i (by omega) hi
  | succ d ih =>
    intro k hk co li pl hco
    have hkn : k * S < n := (ct_lt (by omega)).mp (by omega)
    obtain ⟨pl1, li1, h1⟩ := q_load (co := co) (li := li) (pl := pl) hI hb hn hS hS2 hkn
    obtain ⟨pl2, co2, li2, h2, h3⟩ := ih (k + 1) (by omega) (fl co (k * S) (mr n S k) (sg V (k * S))) li1 pl1 (fun i hi1 hi2 => by
      rw [Nat.succ_mul] at hi1
      by_cases c : k * S ≤ i
      · exact fl_cl co V (k * S) (mr n S k) i c (by unfold mr; omega)
      · rw [fl_ne (by omega)]
        exact hco i (by omega) hi2)
    refine ⟨pl2, co2, li2, ?_, h3⟩
    refine s_X5_loadColumn_7 ?_
    unfold f_X5_loadColumn_7_s
    refine Yd.neg (nI_ge (by omega) (by omega)) ?_
    refine Yd.bind h1 ?_
    rw [nI_1]
    exact h2
theorem q_loadColumn {E : Nat → Nat} {en bc a li : Nat → Int32} {pl : Int32} (hI : IB V n S E en bc a) (hb : Bd V n) (hn : n ≤ 96) (hS : 4 ≤ S) (hS2 : S ≤ 32) :
    ∃ pl' co' li', Yd (fun q => f_X5_loadColumn q (nI n) (nI S) en pl a co li) (pl', co', li') ∧ ∀ i, i < n → co' i = V i := by
  obtain ⟨pl', co', li', h1, h2⟩ := q_loadCol hI hb hn hS hS2 (ct_ n S) 0 (by omega) co li pl (fun i hi => by omega)
  refine ⟨pl', co', li', ?_, h2⟩
  unfold f_X5_loadColumn
  exact Yd.bind (q_segCount hn hS hS2) h1
end PuQ
