/-! the calls: cut, set, setSegmentSize -/
section PuY
variable {rc ss pr tc : Int32} {tk tf tz tw en bc a : Nat → Int32} {ro si mp mq : Int32} {mk ma mb mw mv me : Nat → Int32}
variable {th st my bb pl fr0 my0 rc0 dc0 le0 iw0 fd0 dd0 : Int32} {bt co li ru0 di0 : Nat → Int32}
theorem p_changed {F NR S : Nat} {ro : Int32} (hF : F ≤ 96) (hS : 4 ≤ S) (hS2 : S ≤ 32) : Yd (fun q => f_X6_changed q (nI F) (nI NR) ro (nI S) me) (nI NR, fl me (F / S) (96 - F / S) (fun _ => 0)) := by
  have hd : F / S ≤ 96 := Nat.le_trans (Nat.div_le_self _ _) hF
  have key : ∀ d j, F / S + j + d = 96 → Yd (fun q => f_X6_changed_7 q (nI NR) (nI (F / S + j)) ro (nI S) (fl me (F / S) j (fun _ => 0))) (nI NR, fl me (F / S) (96 - F / S) (fun _ => 0)) := by
    intro d
    induction d with
    | zero =>
      intro j hj
      refine s_X6_changed_7 ?_
      unfold f_X6_changed_7_s
      refine Yd.pos (nI_le (a := 96) (by omega) (by omega)) (Yd.retE ?_)
      rw [show j = 96 - F / S by omega]
    | succ d ih =>
      intro j hj
      refine s_X6_changed_7 ?_
      unfold f_X6_changed_7_s
      refine Yd.neg (nI_ge (b := 96) (by omega) (by omega)) ?_
      refine Yd.wr (by omega) (by omega) ?_
      rw [nI_1]
      have e := fl_step me (F / S) j (fun _ => (0 : Int32))
      rw [e]
      exact ih (j + 1) (by omega)
  unfold f_X6_changed
  refine Yd.bind (Yd.all fun _ => nI_dv (by omega) (by omega) (by omega)) ?_
  have k := key (96 - F / S) 0 (by omega)
  rw [fl_0] at k
  exact k
def IBk (V : Nat → Int32) (n S : Nat) (E : Nat → Nat) (en bc a : Nat → Int32) (K : Nat) : Prop :=
  ∀ k, k < K → k * S < n → en k = nI (E k) ∧ E k ≤ 5 ∧ psb (sg V (k * S)) (mr n S k) (E k) = true ∧ bc k = nI (sz (sg V (k * S)) (mr n S k) (E k)) ∧ hasb a (k * S * 24) (enc (sg V (k * S)) (mr n S k) (E k))
theorem psb0 (g : Nat → Int32) (m : Nat) : psb g m 0 = true := rfl
theorem IBk_store {V : Nat → Int32} {n S k : Nat} {E : Nat → Nat} (hI : IBk V n S E en bc a k) (hb : Bd V n) (hn : n ≤ 96) (hS : 4 ≤ S) (hS2 : S ≤ 32) (hk : k * S < n) (h0 : E k = 0) :
    IBk V n S E (upd en k (nI 0)) (upd bc k (nI (sz (sg V (k * S)) (mr n S k) 0))) (bl a (k * S * 24) (enc (sg V (k * S)) (mr n S k) 0)) (k + 1) := by
  intro j hjk hj
  by_cases c : j = k
  · subst c
    rw [upd_self, upd_self, h0]
    exact ⟨rfl, by omega, psb0 _ _, rfl, hasb_bl _ _ _⟩
  · rw [upd_ne c, upd_ne c]
    obtain ⟨i1, i2, i3, i4, i5⟩ := hI j (by omega) hj
    refine ⟨i1, i2, i3, i4, hasb_bl_ne i5 ?_⟩
    have r1 := enc_room (e := E j) hb hn hS hS2 hj
    left
    have : (j + 1) * S ≤ k * S := Nat.mul_le_mul_right _ (by omega)
    rw [Nat.succ_mul] at this
    omega
theorem IB_cg {V W : Nat → Int32} {n n' S k : Nat} {e : Nat} (hk : k * S < n) (hk' : k * S < n') (hS : 0 < S) (hm : mr n S k = mr n' S k) (hag : ∀ i, k * S ≤ i → i < k * S + mr n S k → V i = W i)
    (h : en k = nI e ∧ e ≤ 5 ∧ psb (sg V (k * S)) (mr n S k) e = true ∧ bc k = nI (sz (sg V (k * S)) (mr n S k) e) ∧ hasb a (k * S * 24) (enc (sg V (k * S)) (mr n S k) e)) :
    en k = nI e ∧ e ≤ 5 ∧ psb (sg W (k * S)) (mr n' S k) e = true ∧ bc k = nI (sz (sg W (k * S)) (mr n' S k) e) ∧ hasb a (k * S * 24) (enc (sg W (k * S)) (mr n' S k) e) := by
  have hm0 : 0 < mr n S k := by unfold mr; omega
  have ag : Ag (sg V (k * S)) (sg W (k * S)) (mr n S k) := fun j hj => hag _ (by omega) (by omega)
  rw [← hm, ← psb_cg ag hm0, ← sz_cg ag hm0, ← enc_cg ag hm0]
  exact h
theorem div_lo (r S : Nat) : r / S * S ≤ r := Nat.div_mul_le_self r S
theorem div_hi {r S : Nat} (hS : 0 < S) : r < r / S * S + S := by
  have h1 := Nat.div_add_mod r S
  have h2 := Nat.mod_lt r hS
  rw [Nat.mul_comm] at h1
  omega
/-- a segment before that of row r ends before r -/
theorem seg_before {j r S : Nat} (h : j < r / S) : j * S + S ≤ r := by
  have h1 : (j + 1) * S ≤ r / S * S := Nat.mul_le_mul_right _ h
  have h2 := div_lo r S
  rw [Nat.succ_mul] at h1
  omega
theorem seg_after {j r S : Nat} (hS : 0 < S) (h : r / S < j) : r < j * S := by
  have h1 : (r / S + 1) * S ≤ j * S := Nat.mul_le_mul_right _ h
  have h2 := div_hi (r := r) hS
  rw [Nat.succ_mul] at h1
  omega
theorem op_cut (x : Int32) (R : Rl rc ss pr tc tk tf tz tw en bc a ro si mp mq mk ma mb mw mv me) :
    (∃ pl' Z, Yd (fun n => f_X5_cut n x rc ss en bc pl a co fr0 my0 rc0 dc0 le0 iw0 fd0 dd0 ru0 di0 li) (.inl (xA, rc, en, bc, pl', a, Z)) ∧ Yd (fun n => f_X6_cut n x th ro si me) (0, 1, ro, me)) ∨
    (∃ r rc' en' bc' pl' a' Z me', Yd (fun n => f_X5_cut n x rc ss en bc pl a co fr0 my0 rc0 dc0 le0 iw0 fd0 dd0 ru0 di0 li) (.inr (r, rc', en', bc', pl', a', Z)) ∧ Yd (fun n => f_X6_cut n x th ro si me) (r, 0, rc', me') ∧ Rl rc' ss pr tc tk tf tz tw en' bc' a' rc' si mp mq mk ma mb mw mv me') := by
  obtain ⟨n, S, Q, p, E, ⟨rfl, rfl, rfl, rfl, rfl, rfl, rfl, rfl⟩, ⟨h1, h2, h3, h4, h5⟩, hb, hq, hI, hm⟩ := R
  have hf1 : ∀ t, Yd (fun q => f_X6_fail q 1 t) ((0, 1) : Int32 × Int32) := fun t => by unfold f_X6_fail; exact Yd.ret _
  rcases sg_cases x with c | ⟨M, hM, rfl⟩
  · left
    refine ⟨pl, (co, fr0, my0, rc0, dc0, le0, iw0, fd0, dd0, ru0, di0, li), by unfold f_X5_cut; exact Yd.pos c (Yd.ret _), ?_⟩
    unfold f_X6_cut
    have hf : ¬ (0 ≤ x ∧ x ≤ nI n) := fun h => by
      have q1 := Int32.lt_iff_toInt_lt.mp c
      have q2 := Int32.le_iff_toInt_le.mp h.1
      omega
    exact Yd.bind ((p_isInI x 0 (nI n)).eq (decide_eq_false hf)) (Yd.pos pb_f (Yd.bind (hf1 _) (Yd.ret _)))
  · by_cases c2 : M ≤ n
    · right
      have hin : Yd (fun q => f_X6_isIn q (nI M).toInt64 0 (nI n)) true := (p_isInN (lo := 0) hM (by omega) (by omega)).eq (decide_eq_true ⟨by omega, c2⟩)
      by_cases c0 : M = 0
      · subst c0
        refine ⟨nI n, nI n, en, bc, pl, a, (co, fr0, my0, rc0, dc0, le0, iw0, fd0, dd0, ru0, di0, li), me, ?_, ?_, n, S, Q, p, E, ⟨rfl, rfl, rfl, rfl, rfl, rfl, rfl, rfl⟩, ⟨h1, h2, h3, h4, h5⟩, hb, hq, hI, hm⟩
        · unfold f_X5_cut
          exact Yd.neg (by decide) (Yd.pos (nI_le (by omega) (by omega)) (Yd.pos (by decide) (Yd.ret _)))
        · unfold f_X6_cut
          exact Yd.bind hin (Yd.neg pb_t (Yd.pos (by decide) (Yd.ret _)))
      · have hS0 : 0 < S := by omega
        have hlo := div_lo (n - M) S
        have hhi := div_hi (r := n - M) hS0
        generalize hk : (n - M) / S = k at hlo hhi
        have hkn : k * S < n := by omega
        obtain ⟨pl1, li1, hL⟩ := q_load (co := co) (li := li) (pl := pl) hI hb h1 h2 h3 hkn
        have hb' : Bd mv (n - M) := fun i hi => hb i (by omega)
        have hct' := ct_le (n := n - M) h2 (by omega)
        have hmE : ∀ j, j * S < n - M → fl me k (96 - k) (fun _ => 0) j = nI ((fun j => if j < k then E j else 0) j) := by
          intro j hj
          dsimp only
          unfold fl
          have hj2 : j < 24 := Nat.lt_of_lt_of_le ((ct_lt (n := n - M) (S := S) hS0).mpr hj) hct'
          by_cases cj : j < k
          · rw [if_neg (by omega), if_pos cj]
            exact hm j (by omega)
          · rw [if_pos (by omega), if_neg cj]
            rfl
        have hmod : Yd (fun q => f_X6_cut q (nI M) th (nI n) (nI S) me) (nI (n - M), 0, nI (n - M), fl me k (96 - k) (fun _ => 0)) := by
          unfold f_X6_cut
          refine Yd.bind hin (Yd.neg pb_t (Yd.neg (nI_nle (by omega) hM) ?_))
          rw [nI_sub c2]
          have k1 := p_changed (me := me) (F := n - M) (NR := n - M) (S := S) (ro := nI n) (by omega) h2 h3
          rw [hk] at k1
          exact Yd.bind k1 (Yd.ret _)
        have hpre : IBk mv (n - M) S (fun j => if j < k then E j else 0) en bc a k := by
          intro j hjk hj
          dsimp only
          rw [if_pos hjk]
          have hsb := seg_before (j := j) (r := n - M) (S := S) (by omega)
          refine IB_cg (n := n) (by omega) hj hS0 ?_ (fun i _ _ => rfl) (hI j (by omega))
          unfold mr
          omega
        by_cases c3 : k * S < n - M
        · have hm0 : mr (n - M) S k ≤ mr n S k := by unfold mr; omega
          have hcl : Cl (fl co (k * S) (mr n S k) (sg mv (k * S))) mv (k * S) (mr (n - M) S k) := fun i q1 q2 => fl_cl co mv (k * S) (mr n S k) i q1 (by omega)
          obtain ⟨pl2, r2, hst, -⟩ := q_store (V := mv) (n := n - M) (co := fl co (k * S) (mr n S k) (sg mv (k * S))) (en := en) (bc := bc) (a := a) (pl := pl1) (fr0 := fr0) (my0 := my0) (rc0 := rc0) (dc0 := dc0) (le0 := le0) (iw0 := iw0) (fd0 := fd0) (dd0 := dd0) (ru0 := ru0) (di0 := di0) hb' (by omega) h2 h3 c3 hcl (Nat.zero_le 5) (psb0 _ _)
          have hI2 := IBk_store hpre hb' (by omega) h2 h3 c3 (if_neg (by omega))
          refine ⟨nI (n - M), nI (n - M), _, _, pl2, _, (fl co (k * S) (mr n S k) (sg mv (k * S)), r2.1, r2.2.1, r2.2.2.1, r2.2.2.2.1, r2.2.2.2.2.1, r2.2.2.2.2.2.1, r2.2.2.2.2.2.2.1, r2.2.2.2.2.2.2.2.1, r2.2.2.2.2.2.2.2.2.1, r2.2.2.2.2.2.2.2.2.2, li1), _, ?_, hmod, n - M, S, Q, p, _, ⟨rfl, rfl, rfl, rfl, rfl, rfl, rfl, rfl⟩, ⟨by omega, h2, h3, h4, h5⟩, hb', hq, fun j hj => hI2 j ?_ hj, hmE⟩
          · unfold f_X5_cut
            refine Yd.neg (nI_pos hM) (Yd.pos (nI_le c2 (by omega)) (Yd.neg (nI_nle (by omega) hM) ?_))
            rw [nI_sub c2]
            have q1 := q_segOf (r := n - M) (S := S) (by omega) hS0 (by omega)
            rw [hk] at q1
            refine Yd.bind q1 (Yd.bind hL (Yd.bind (q_segCount (by omega) h2 h3) ?_))
            refine Yd.neg (nI_ge ((ct_lt hS0).mpr c3) (by omega)) ?_
            exact Yd.bind hst (Yd.ret _)
          · rcases Nat.lt_or_ge k j with q | q
            · have := seg_after (r := n - M) (S := S) (j := j) hS0 (by omega)
              omega
            · omega
        · refine ⟨nI (n - M), nI (n - M), en, bc, pl1, a, (fl co (k * S) (mr n S k) (sg mv (k * S)), fr0, my0, rc0, dc0, le0, iw0, fd0, dd0, ru0, di0, li1), _, ?_, hmod, n - M, S, Q, p, _, ⟨rfl, rfl, rfl, rfl, rfl, rfl, rfl, rfl⟩, ⟨by omega, h2, h3, h4, h5⟩, hb', hq, fun j hj => hpre j ?_ hj, hmE⟩
          · unfold f_X5_cut
            refine Yd.neg (nI_pos hM) (Yd.pos (nI_le c2 (by omega)) (Yd.neg (nI_nle (by omega) hM) ?_))
            rw [nI_sub c2]
            have q1 := q_segOf (r := n - M) (S := S) (by omega) hS0 (by omega)
            rw [hk] at q1
            refine Yd.bind q1 (Yd.bind hL (Yd.bind (q_segCount (by omega) h2 h3) ?_))
            have hcc : ct_ (n - M) S ≤ k := by
              rcases Nat.lt_or_ge k (ct_ (n - M) S) with q | q
              · exact absurd ((ct_lt hS0).mp q) c3
              · exact q
            have hk3 : k ≤ 96 := by rw [← hk]; exact Nat.le_trans (Nat.div_le_self _ _) (by omega)
            exact Yd.pos (nI_le hcc (by omega)) (Yd.ret _)
          · rcases Nat.lt_or_ge j k with q | q
            · exact q
            · have : k * S ≤ j * S := Nat.mul_le_mul_right _ q
              omega
    · left
      refine ⟨pl, (co, fr0, my0, rc0, dc0, le0, iw0, fd0, dd0, ru0, di0, li), by unfold f_X5_cut; exact Yd.neg (nI_pos hM) (Yd.neg (nI_ge (by omega) hM) (Yd.ret _)), ?_⟩
      unfold f_X6_cut
      exact Yd.bind ((p_isInN (lo := 0) hM (by omega) (by omega)).eq (decide_eq_false (fun h => c2 h.2))) (Yd.pos pb_f (Yd.bind (hf1 _) (Yd.ret _)))
theorem op_set (x y : Int32) (R : Rl rc ss pr tc tk tf tz tw en bc a ro si mp mq mk ma mb mw mv me) :
    (∃ X c pl' Z, (X = xI ∧ c = 1 ∨ X = xA ∧ c = 2) ∧ Yd (fun n => f_X5_set n x y rc ss en bc pl a co fr0 my0 rc0 dc0 le0 iw0 fd0 dd0 ru0 di0 li) (.inl (X, en, bc, pl', a, Z)) ∧ Yd (fun n => f_X6_set n x y th ro si mv me) (0, c, mv, me)) ∨
    (∃ r en' bc' pl' a' Z mv' me', Yd (fun n => f_X5_set n x y rc ss en bc pl a co fr0 my0 rc0 dc0 le0 iw0 fd0 dd0 ru0 di0 li) (.inr (r, en', bc', pl', a', Z)) ∧ Yd (fun n => f_X6_set n x y th ro si mv me) (r, 0, mv', me') ∧ Rl rc ss pr tc tk tf tz tw en' bc' a' ro si mp mq mk ma mb mw mv' me') := by
  obtain ⟨n, S, Q, p, E, ⟨rfl, rfl, rfl, rfl, rfl, rfl, rfl, rfl⟩, ⟨h1, h2, h3, h4, h5⟩, hb, hq, hI, hm⟩ := R
  have hf1 : ∀ t, Yd (fun q => f_X6_fail q 1 t) ((0, 1) : Int32 × Int32) := fun t => by unfold f_X6_fail; exact Yd.ret _
  have hf2 : ∀ t, Yd (fun q => f_X6_fail q 2 t) ((0, 2) : Int32 × Int32) := fun t => by unfold f_X6_fail; exact Yd.ret _
  have bad : (x < 0 ∨ ∃ k, k < 2 ^ 31 ∧ x = nI k ∧ n ≤ k) → Yd (fun q => f_X6_set q x y th (nI n) (nI S) mv me) (0, 1, mv, me) := by
    intro h
    unfold f_X6_set
    have hf : ¬ (0 ≤ x ∧ x ≤ nI n - 1) := by
      intro q
      rcases h with c | ⟨k, hk, rfl, hnk⟩
      · have q1 := Int32.lt_iff_toInt_lt.mp c
        have q2 := Int32.le_iff_toInt_le.mp q.1
        omega
      · have e : (nI n - 1).toInt = (n : Int) - 1 := by
          have e1 : (1 : Int32).toInt = 1 := by decide
          rw [Int32.toInt_sub, nI_toInt (by omega), e1, Int.bmod_eq_of_le] <;> omega
        have q2 := Int32.le_iff_toInt_le.mp q.2
        rw [e, nI_toInt hk] at q2
        omega
    exact Yd.bind ((p_isInI x 0 (nI n - 1)).eq (decide_eq_false hf)) (Yd.pos pb_f (Yd.bind (hf1 _) (Yd.ret _)))
  rcases sg_cases x with c | ⟨r, hr, rfl⟩
  · left
    refine ⟨xI, 1, pl, (co, fr0, my0, rc0, dc0, le0, iw0, fd0, dd0, ru0, di0, li), Or.inl ⟨rfl, rfl⟩, ?_, bad (Or.inl c)⟩
    unfold f_X5_set
    exact Yd.bind (a := (Sum.inl xI : String ⊕ Unit)) (by unfold f_X5_checkRow; exact Yd.pos c (Yd.ret _)) (Yd.ret _)
  · by_cases c2 : r < n
    · have hchk : Yd (fun q => f_X5_checkRow q (nI r) (nI n)) (Sum.inr () : String ⊕ Unit) := by unfold f_X5_checkRow; exact Yd.neg (nI_pos hr) (Yd.pos (nI_lt c2 (by omega)) (Yd.ret _))
      have hin : Yd (fun q => f_X6_isIn q (nI r).toInt64 0 (nI n - 1)) true := by
        rw [show nI n - 1 = nI (n - 1) from nI_sub (b := 1) (by omega)]
        exact (p_isInN (lo := 0) hr (by omega) (by omega)).eq (decide_eq_true ⟨by omega, by omega⟩)
      cases hv : isV y.toInt64 with
      | false =>
        left
        refine ⟨xA, 2, pl, (co, fr0, my0, rc0, dc0, le0, iw0, fd0, dd0, ru0, di0, li), Or.inr ⟨rfl, rfl⟩, ?_, ?_⟩
        · unfold f_X5_set
          exact Yd.bind hchk (Yd.bind ((q_isValue _).eq hv) (Yd.pos pb_f (Yd.ret _)))
        · unfold f_X6_set
          exact Yd.bind hin (Yd.neg pb_t (Yd.bind ((p_isValue _).eq hv) (Yd.pos pb_f (Yd.bind (hf2 _) (Yd.ret _)))))
      | true =>
        right
        have hyb : -100000 ≤ y.toInt ∧ y.toInt ≤ 100000 := by
          have := of_decide_eq_true hv
          rw [toInt64_toInt] at this
          exact this
        have hS0 : 0 < S := by omega
        have hlo := div_lo r S
        have hhi := div_hi (r := r) hS0
        generalize hk : r / S = k at hlo hhi
        have hkn : k * S < n := by omega
        have hk24 : k < 24 := Nat.lt_of_lt_of_le ((ct_lt (n := n) (S := S) hS0).mpr hkn) (ct_le h2 h1)
        obtain ⟨pl1, li1, hL⟩ := q_load (co := co) (li := li) (pl := pl) hI hb h1 h2 h3 hkn
        have hb' : Bd (upd mv r y) n := by
          intro i hi
          by_cases ci : i = r
          · subst ci; rw [upd_self]; exact hyb
          · rw [upd_ne ci]; exact hb i hi
        have hmr : r < k * S + mr n S k := by unfold mr; omega
        have ev : fl co (k * S) (mr n S k) (sg mv (k * S)) r = mv r := fl_cl co mv _ _ r (by omega) hmr
        have hcl : Cl (upd (fl co (k * S) (mr n S k) (sg mv (k * S))) r y) (upd mv r y) (k * S) (mr n S k) := by
          intro i q1 q2
          by_cases ci : i = r
          · subst ci; rw [upd_self, upd_self]
          · rw [upd_ne ci, upd_ne ci]; exact fl_cl co mv _ _ i q1 q2
        obtain ⟨pl2, r2, hst, -⟩ := q_store (V := upd mv r y) (co := upd (fl co (k * S) (mr n S k) (sg mv (k * S))) r y) (en := en) (bc := bc) (a := a) (pl := pl1) (fr0 := fr0) (my0 := my0) (rc0 := rc0) (dc0 := dc0) (le0 := le0) (iw0 := iw0) (fd0 := fd0) (dd0 := dd0) (ru0 := ru0) (di0 := di0) hb' h1 h2 h3 hkn hcl (Nat.zero_le 5) (psb0 _ _)
        have hI2 := IB_store (V := upd mv r y) (k := k) (E := E) (en := en) (bc := bc) (a := a) (e := 0) (fun j hj hjk => by
          refine IB_cg (n := n) hj hj hS0 rfl (fun i q1 q2 => ?_) (hI j hj)
          rw [upd_ne]
          intro hir
          subst hir
          have h9 : mr n S j ≤ S := by unfold mr; omega
          rcases Nat.lt_or_gt_of_ne hjk with d | d
          · have := seg_before (j := j) (r := i) (S := S) (by omega)
            omega
          · have := seg_after (j := j) (r := i) (S := S) hS0 (by omega)
            omega) hb' h1 h2 h3 hkn (Nat.zero_le 5) (psb0 _ _)
        have hm' : ∀ j, j * S < n → upd me k 0 j = nI ((fun j => if j = k then 0 else E j) j) := by
          intro j hj
          dsimp only
          by_cases cj : j = k
          · subst cj; rw [upd_self, if_pos rfl]; rfl
          · rw [upd_ne cj, if_neg cj]; exact hm j hj
        refine ⟨mv r, _, _, pl2, _, (upd (fl co (k * S) (mr n S k) (sg mv (k * S))) r y, r2.1, r2.2.1, r2.2.2.1, r2.2.2.2.1, r2.2.2.2.2.1, r2.2.2.2.2.2.1, r2.2.2.2.2.2.2.1, r2.2.2.2.2.2.2.2.1, r2.2.2.2.2.2.2.2.2.1, r2.2.2.2.2.2.2.2.2.2, li1), upd mv r y, upd me k 0, ?_, ?_, n, S, Q, p, _, ⟨rfl, rfl, rfl, rfl, rfl, rfl, rfl, rfl⟩, ⟨h1, h2, h3, h4, h5⟩, hb', hq, hI2, hm'⟩
        · unfold f_X5_set
          refine Yd.bind hchk (Yd.bind ((q_isValue _).eq hv) (Yd.neg pb_t ?_))
          have q1 := q_segOf (r := r) (S := S) hr hS0 (by omega)
          rw [hk] at q1
          refine Yd.bind q1 (Yd.bind hL ?_)
          have g1 := q_get (a := fl co (k * S) (mr n S k) (sg mv (k * S))) (N := 96) (i := r) (by omega) (by omega)
          rw [ev] at g1
          refine Yd.bind g1 (Yd.bind (q_put (by omega) (by omega)) (Yd.bind hst (Yd.ret _)))
        · unfold f_X6_set
          refine Yd.bind hin (Yd.neg pb_t (Yd.bind ((p_isValue _).eq hv) (Yd.neg pb_t ?_)))
          refine Yd.rd (by omega) (by omega) (Yd.wr (by omega) (by omega) ?_)
          refine Yd.bind (Yd.all fun _ => nI_dv hr (by omega) hS0) ?_
          rw [hk]
          exact Yd.wr (by omega) (by omega) (Yd.ret _)
    · left
      refine ⟨xI, 1, pl, (co, fr0, my0, rc0, dc0, le0, iw0, fd0, dd0, ru0, di0, li), Or.inl ⟨rfl, rfl⟩, ?_, bad (Or.inr ⟨r, hr, rfl, by omega⟩)⟩
      unfold f_X5_set
      exact Yd.bind (a := (Sum.inl xI : String ⊕ Unit)) (by unfold f_X5_checkRow; exact Yd.neg (nI_pos hr) (Yd.neg (nI_nlt (by omega) hr) (Yd.ret _))) (Yd.ret _)
end PuY
