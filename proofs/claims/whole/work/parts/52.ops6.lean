/-! the calls: choose, use -/
section PuW
variable {rc ss pr tc : Int32} {tk tf tz tw en bc a : Nat → Int32} {ro si mp mq : Int32} {mk ma mb mw mv me : Nat → Int32}
variable {th st my bb pl fr0 my0 rc0 dc0 le0 iw0 fd0 dd0 : Int32} {bt co li ru0 di0 : Nat → Int32}
/-- the best encoding of a segment -/
def bE (p : Int32) (mk ma mb mw V : Nat → Int32) (n S Q k : Nat) : Nat := be (Sc p mk ma mb mw (sg V (k * S)) (k * S) (mr n S k) Q) (psb (sg V (k * S)) (mr n S k)) 5
theorem bE_ok (p : Int32) (mk ma mb mw V : Nat → Int32) (n S Q k : Nat) : bE p mk ma mb mw V n S Q k ≤ 5 ∧ psb (sg V (k * S)) (mr n S k) (bE p mk ma mb mw V n S Q k) = true := ⟨be_le _ _ 5, be_P _ _ rfl 5⟩
theorem Sc_cg {p : Int32} {g : Nat → Int32} {s m Q : Nat} (h : QQ Q tk tf tz tw mk ma mb mw) : Sc p tk tf tz tw g s m Q = Sc p mk ma mb mw g s m Q := funext fun _ => sr_cg h Q (Nat.le_refl _)
abbrev ZT : Type := (Nat → Int32) × Int32 × Int32 × Int32 × Int32 × Int32 × Int32 × Int32 × Int32 × (Nat → Int32) × (Nat → Int32) × (Nat → Int32)
theorem ch_loop {n S Q p : Nat} (h1 : n ≤ 96) (h2 : 4 ≤ S) (h3 : S ≤ 32) (h4 : Q ≤ 20) (hb : Bd mv n) (hq : QQ Q tk tf tz tw mk ma mb mw) :
    ∀ d k, k + d = ct_ n S → ∀ (E : Nat → Nat) (en bc a me : Nat → Int32) (z pl : Int32) (co : Nat → Int32) (fr0 my0 rc0 dc0 le0 iw0 fd0 dd0 : Int32) (ru0 di0 li : Nat → Int32) (st my : Int32), IB mv n S E en bc a → (∀ k, k * S < n → me k = nI (E k)) →
      ∃ (z' : Int32) (en' bc' : Nat → Int32) (pl' : Int32) (a' : Nat → Int32) (Z : ZT) (st' my' : Int32) (me' : Nat → Int32) (E' : Nat → Nat), Yd (fun q => f_X5_choose_9 q z (nI (ct_ n S)) (nI k) (nI n) (nI S) (nI p) (nI Q) tk tf tz tw en bc pl a co fr0 my0 rc0 dc0 le0 iw0 fd0 dd0 ru0 di0 li) (z', en', bc', pl', a', Z) ∧ Yd (fun q => f_X6_choose__9 q z (nI k) 0 (nI n) (nI S) (nI p) (nI Q) st my mv me mk ma mb mw) (z', 0, st', my', me') ∧ IB mv n S E' en' bc' a' ∧ ∀ k, k * S < n → me' k = nI (E' k) := by
  obtain ⟨qk1, qk2⟩ := QQ_ok hq
  have hct := ct_le h2 h1
  intro d
  induction d with
  | zero =>
    intro k hk E en bc a me z pl co fr0 my0 rc0 dc0 le0 iw0 fd0 dd0 ru0 di0 li st my hI hm
    refine ⟨z, en, bc, pl, a, (co, fr0, my0, rc0, dc0, le0, iw0, fd0, dd0, ru0, di0, li), st, my, me, E, ?_, ?_, hI, hm⟩
    · refine s_X5_choose_9 ?_
      unfold f_X5_choose_9_s
      exact Yd.pos (nI_le (by omega) (by omega)) (Yd.ret _)
    · refine s_X6_choose__9 ?_
      unfold f_X6_choose__9_s
      exact Yd.bind (p_segs h1 h2 h3) (Yd.pos (nI_le (by omega) (by omega)) (Yd.ret _))
  | succ d ih =>
    intro k hk E en bc a me z pl co fr0 my0 rc0 dc0 le0 iw0 fd0 dd0 ru0 di0 li st my hI hm
    have hkn : k * S < n := (ct_lt (by omega)).mp (by omega)
    have hm0 : 0 < mr n S k := by unfold mr; omega
    have hm1 : mr n S k ≤ S := by unfold mr; omega
    have hm2 : k * S + mr n S k ≤ n := by unfold mr; omega
    obtain ⟨i1, i2, i3, i4, i5⟩ := hI k hkn
    obtain ⟨b1, b2⟩ := bE_ok (nI p) mk ma mb mw mv n S Q k
    obtain ⟨pl1, li1, r, hY, hPR⟩ := q_cstudy (co := co) (li := li) (pl := pl) (fr0 := fr0) (my0 := my0) (rc0 := rc0) (dc0 := dc0) (le0 := le0) (iw0 := iw0) (fd0 := fd0) (dd0 := dd0) (ru0 := ru0) (di0 := di0) hI hb h1 h2 h3 hkn
    have hbest := q_best (p := nI p) (tw := tw) hPR h4 qk1 (by omega) hm0 (by omega)
    rw [Sc_cg hq] at hbest
    have mbest := p_best (p := nI p) (mw := mw) h4 qk2 (by omega) hm0 (seg_bd hb hkn)
    have g2 := q_get (a := en) (N := 24) (i := k) (by omega) (by omega)
    rw [i1] at g2
    by_cases c : bE (nI p) mk ma mb mw mv n S Q k = E k
    · have hm' : ∀ j, j * S < n → upd me k (nI (bE (nI p) mk ma mb mw mv n S Q k)) j = nI (E j) := by
        intro j hj
        by_cases cj : j = k
        · subst cj; rw [upd_self, c]
        · rw [upd_ne cj]; exact hm j hj
      obtain ⟨z', en', bc', pl', a', Z, st', my', me', E', q1, q2, q3, q4⟩ := ih (k + 1) (by omega) E en bc a (upd me k (nI (bE (nI p) mk ma mb mw mv n S Q k))) z pl1 (fl co (k * S) (mr n S k) (sg mv (k * S))) r.1 r.2.1 r.2.2.1 r.2.2.2.1 r.2.2.2.2.1 r.2.2.2.2.2.1 r.2.2.2.2.2.2.1 r.2.2.2.2.2.2.2.1 r.2.2.2.2.2.2.2.2.1 r.2.2.2.2.2.2.2.2.2 li1 (nI (k * S)) (nI (mr n S k)) hI hm'
      refine ⟨z', en', bc', pl', a', Z, st', my', me', E', ?_, ?_, q3, q4⟩
      · refine s_X5_choose_9 ?_
        unfold f_X5_choose_9_s
        refine Yd.neg (nI_ge (by omega) (by omega)) ?_
        refine Yd.bind hY (Yd.bind hbest (Yd.bind g2 ?_))
        refine Yd.pos (congrArg nI c) ?_
        rw [nI_1]
        exact q1
      · refine s_X6_choose__9 ?_
        unfold f_X6_choose__9_s
        refine Yd.bind (p_segs h1 h2 h3) (Yd.neg (nI_ge (by omega) (by omega)) ?_)
        refine Yd.bind (p_chs h1 h3 hkn) (Yd.bind mbest ?_)
        refine Yd.rd (by omega) (by omega) ?_
        refine Yd.pos (by rw [hm k hkn]; exact congrArg nI c) ?_
        refine Yd.wr (by omega) (by omega) ?_
        rw [nI_1, Int32.add_zero]
        exact q2
    · obtain ⟨pl2, r2, hst, hPR2⟩ := q_store (V := mv) (co := fl co (k * S) (mr n S k) (sg mv (k * S))) (en := en) (bc := bc) (a := a) (pl := pl1) (fr0 := r.1) (my0 := r.2.1) (rc0 := r.2.2.1) (dc0 := r.2.2.2.1) (le0 := r.2.2.2.2.1) (iw0 := r.2.2.2.2.2.1) (fd0 := r.2.2.2.2.2.2.1) (dd0 := r.2.2.2.2.2.2.2.1) (ru0 := r.2.2.2.2.2.2.2.2.1) (di0 := r.2.2.2.2.2.2.2.2.2) hb h1 h2 h3 hkn (fl_cl co mv _ _) b1 b2
      have hI2 := IB_store (k := k) (fun j hj _ => hI j hj) hb h1 h2 h3 hkn b1 b2
      have hm' : ∀ j, j * S < n → upd me k (nI (bE (nI p) mk ma mb mw mv n S Q k)) j = nI ((fun j => if j = k then bE (nI p) mk ma mb mw mv n S Q k else E j) j) := by
        intro j hj
        dsimp only
        by_cases cj : j = k
        · subst cj; rw [upd_self, if_pos rfl]
        · rw [upd_ne cj, if_neg cj]; exact hm j hj
      obtain ⟨z', en', bc', pl', a', Z, st', my', me', E', q1, q2, q3, q4⟩ := ih (k + 1) (by omega) _ _ _ _ (upd me k (nI (bE (nI p) mk ma mb mw mv n S Q k))) (z + 1) pl2 (fl co (k * S) (mr n S k) (sg mv (k * S))) r2.1 r2.2.1 r2.2.2.1 r2.2.2.2.1 r2.2.2.2.2.1 r2.2.2.2.2.2.1 r2.2.2.2.2.2.2.1 r2.2.2.2.2.2.2.2.1 r2.2.2.2.2.2.2.2.2.1 r2.2.2.2.2.2.2.2.2.2 li1 (nI (k * S)) (nI (mr n S k)) hI2 hm'
      have hne : ¬ nI (bE (nI p) mk ma mb mw mv n S Q k) = nI (E k) := e_ne c (by omega) (by omega)
      refine ⟨z', en', bc', pl', a', Z, st', my', me', E', ?_, ?_, q3, q4⟩
      · refine s_X5_choose_9 ?_
        unfold f_X5_choose_9_s
        refine Yd.neg (nI_ge (by omega) (by omega)) ?_
        refine Yd.bind hY (Yd.bind hbest (Yd.bind g2 ?_))
        refine Yd.neg hne ?_
        refine Yd.bind hst ?_
        rw [nI_1]
        exact q1
      · refine s_X6_choose__9 ?_
        unfold f_X6_choose__9_s
        refine Yd.bind (p_segs h1 h2 h3) (Yd.neg (nI_ge (by omega) (by omega)) ?_)
        refine Yd.bind (p_chs h1 h3 hkn) (Yd.bind mbest ?_)
        refine Yd.rd (by omega) (by omega) ?_
        refine Yd.neg (by rw [hm k hkn]; exact hne) ?_
        refine Yd.wr (by omega) (by omega) ?_
        rw [nI_1]
        exact q2
theorem op_choose (R : Rl rc ss pr tc tk tf tz tw en bc a ro si mp mq mk ma mb mw mv me) :
    ∃ (r : Int32) (en' bc' : Nat → Int32) (pl' : Int32) (a' : Nat → Int32) (Z : ZT) (st' my' : Int32) (me' : Nat → Int32), Yd (fun n => f_X5_choose n rc ss pr tc tk tf tz tw en bc pl a co fr0 my0 rc0 dc0 le0 iw0 fd0 dd0 ru0 di0 li) (r, en', bc', pl', a', Z) ∧ Yd (fun n => f_X6_choose_ n th ro si mp mq st my mv me mk ma mb mw) (r, 0, st', my', me') ∧ Rl rc ss pr tc tk tf tz tw en' bc' a' ro si mp mq mk ma mb mw mv me' := by
  obtain ⟨n, S, Q, p, E, ⟨rfl, rfl, rfl, rfl, rfl, rfl, rfl, rfl⟩, ⟨h1, h2, h3, h4, h5⟩, hb, hq, hI, hm⟩ := R
  obtain ⟨z', en', bc', pl', a', Z, st', my', me', E', q1, q2, q3, q4⟩ := ch_loop (p := p) h1 h2 h3 h4 hb hq (ct_ n S) 0 (by omega) E en bc a me 0 pl co fr0 my0 rc0 dc0 le0 iw0 fd0 dd0 ru0 di0 li st my hI hm
  refine ⟨z', en', bc', pl', a', Z, st', my', me', ?_, ?_, n, S, Q, p, E', ⟨rfl, rfl, rfl, rfl, rfl, rfl, rfl, rfl⟩, ⟨h1, h2, h3, h4, h5⟩, hb, hq, q3, q4⟩
  · unfold f_X5_choose
    exact Yd.bind (q_segCount h1 h2 h3) q1
  · unfold f_X6_choose_
    exact q2
theorem op_use (x y : Int32) (R : Rl rc ss pr tc tk tf tz tw en bc a ro si mp mq mk ma mb mw mv me) :
    (∃ X c pl' Z st' my', (X = xI ∧ c = 1 ∨ X = xA ∧ c = 2) ∧ Yd (fun n => f_X5_use n x y rc ss en bc pl a co fr0 my0 rc0 dc0 le0 iw0 fd0 dd0 ru0 di0 li) (.inl (X, en, bc, pl', a, Z)) ∧ Yd (fun n => f_X6_use n x y th ro si st my mv me) (0, c, st', my', me)) ∨
    (∃ r en' bc' pl' a' Z st' my' me', Yd (fun n => f_X5_use n x y rc ss en bc pl a co fr0 my0 rc0 dc0 le0 iw0 fd0 dd0 ru0 di0 li) (.inr (r, en', bc', pl', a', Z)) ∧ Yd (fun n => f_X6_use n x y th ro si st my mv me) (r, 0, st', my', me') ∧ Rl rc ss pr tc tk tf tz tw en' bc' a' ro si mp mq mk ma mb mw mv me') := by
  obtain ⟨n, S, Q, p, E, ⟨rfl, rfl, rfl, rfl, rfl, rfl, rfl, rfl⟩, ⟨h1, h2, h3, h4, h5⟩, hb, hq, hI, hm⟩ := R
  have hf2 : ∀ t, Yd (fun q => f_X6_fail q 2 t) ((0, 2) : Int32 × Int32) := fun t => by unfold f_X6_fail; exact Yd.ret _
  rcases en_cases y with ⟨e, he, rfl, hce⟩ | ⟨hy, hce⟩
  · rcases p_asks (th := th) (st := st) (my := my) (e := e) x h1 h2 h3 he with ⟨k, hk, rfl, ha⟩ | ⟨hx, ha⟩
    · have hm0 : 0 < mr n S k := by unfold mr; omega
      have hm1 : mr n S k ≤ S := by unfold mr; omega
      have hm2 : k * S + mr n S k ≤ n := by unfold mr; omega
      have hk24 : k < 24 := Nat.lt_of_lt_of_le ((ct_lt (n := n) (S := S) (by omega)).mpr hk) (ct_le h2 h1)
      obtain ⟨i1, i2, i3, i4, i5⟩ := hI k hk
      obtain ⟨pl1, li1, r, hY, hPR⟩ := q_cstudy (co := co) (li := li) (pl := pl) (fr0 := fr0) (my0 := my0) (rc0 := rc0) (dc0 := dc0) (le0 := le0) (iw0 := iw0) (fd0 := fd0) (dd0 := dd0) (ru0 := ru0) (di0 := di0) hI hb h1 h2 h3 hk
      cases hp : psb (sg mv (k * S)) (mr n S k) e with
      | false =>
        left
        refine ⟨xA, 2, pl1, (fl co (k * S) (mr n S k) (sg mv (k * S)), r.1, r.2.1, r.2.2.1, r.2.2.2.1, r.2.2.2.2.1, r.2.2.2.2.2.1, r.2.2.2.2.2.2.1, r.2.2.2.2.2.2.2.1, r.2.2.2.2.2.2.2.2.1, r.2.2.2.2.2.2.2.2.2, li1), nI (k * S), nI (mr n S k), Or.inr ⟨rfl, rfl⟩, ?_, ?_⟩
        · unfold f_X5_use
          refine Yd.bind ((q_checkSeg h1 h2 h3).1 ⟨k, hk, rfl⟩) (Yd.bind hce (Yd.bind hY ?_))
          refine Yd.bind (q_possible hPR (by omega) (by omega)) ?_
          rw [hp]
          exact Yd.pos pb_f (Yd.ret _)
        · unfold f_X6_use
          refine Yd.bind ha (Yd.neg pb_t ?_)
          refine Yd.bind (p_possible (by omega) hm0 (by omega)) ?_
          rw [hp]
          exact Yd.pos pb_f (Yd.bind (hf2 _) (Yd.ret _))
      | true =>
        right
        obtain ⟨pl2, r2, hst, hPR2⟩ := q_store (V := mv) (co := fl co (k * S) (mr n S k) (sg mv (k * S))) (en := en) (bc := bc) (a := a) (pl := pl1) (fr0 := r.1) (my0 := r.2.1) (rc0 := r.2.2.1) (dc0 := r.2.2.2.1) (le0 := r.2.2.2.2.1) (iw0 := r.2.2.2.2.2.1) (fd0 := r.2.2.2.2.2.2.1) (dd0 := r.2.2.2.2.2.2.2.1) (ru0 := r.2.2.2.2.2.2.2.2.1) (di0 := r.2.2.2.2.2.2.2.2.2) hb h1 h2 h3 hk (fl_cl co mv _ _) he hp
        have hI2 := IB_store (k := k) (fun j hj _ => hI j hj) hb h1 h2 h3 hk he hp
        have hm' : ∀ j, j * S < n → upd me k (nI e) j = nI ((fun j => if j = k then e else E j) j) := by
          intro j hj
          dsimp only
          by_cases cj : j = k
          · subst cj; rw [upd_self, if_pos rfl]
          · rw [upd_ne cj, if_neg cj]; exact hm j hj
        have g2 := q_get (a := en) (N := 24) (i := k) (by omega) (by omega)
        rw [i1] at g2
        refine ⟨nI (E k), _, _, pl2, _, (fl co (k * S) (mr n S k) (sg mv (k * S)), r2.1, r2.2.1, r2.2.2.1, r2.2.2.2.1, r2.2.2.2.2.1, r2.2.2.2.2.2.1, r2.2.2.2.2.2.2.1, r2.2.2.2.2.2.2.2.1, r2.2.2.2.2.2.2.2.2.1, r2.2.2.2.2.2.2.2.2.2, li1), nI (k * S), nI (mr n S k), upd me k (nI e), ?_, ?_, n, S, Q, p, _, ⟨rfl, rfl, rfl, rfl, rfl, rfl, rfl, rfl⟩, ⟨h1, h2, h3, h4, h5⟩, hb, hq, hI2, hm'⟩
        · unfold f_X5_use
          refine Yd.bind ((q_checkSeg h1 h2 h3).1 ⟨k, hk, rfl⟩) (Yd.bind hce (Yd.bind hY ?_))
          refine Yd.bind (q_possible hPR (by omega) (by omega)) ?_
          rw [hp]
          refine Yd.neg pb_t (Yd.bind g2 (Yd.bind hst (Yd.ret _)))
        · unfold f_X6_use
          refine Yd.bind ha (Yd.neg pb_t ?_)
          refine Yd.bind (p_possible (by omega) hm0 (by omega)) ?_
          rw [hp]
          refine Yd.neg pb_t ?_
          refine Yd.rd (by omega) (by omega) (Yd.wr (by omega) (by omega) (Yd.retE ?_))
          rw [hm k hk]
    · left
      refine ⟨xI, 1, pl, (co, fr0, my0, rc0, dc0, le0, iw0, fd0, dd0, ru0, di0, li), st, my, Or.inl ⟨rfl, rfl⟩, ?_, ?_⟩
      · unfold f_X5_use
        exact Yd.bind ((q_checkSeg h1 h2 h3).2 hx) (Yd.ret _)
      · unfold f_X6_use
        exact Yd.bind ha (Yd.pos pb_f (Yd.ret _))
  · left
    refine ⟨xI, 1, pl, (co, fr0, my0, rc0, dc0, le0, iw0, fd0, dd0, ru0, di0, li), st, my, Or.inl ⟨rfl, rfl⟩, ?_, ?_⟩
    · unfold f_X5_use
      rcases p_asks (th := th) (st := st) (my := my) (e := 0) x h1 h2 h3 (by omega) with ⟨k, hk, rfl, -⟩ | ⟨hx, -⟩
      · exact Yd.bind ((q_checkSeg h1 h2 h3).1 ⟨k, hk, rfl⟩) (Yd.bind hce (Yd.ret _))
      · exact Yd.bind ((q_checkSeg h1 h2 h3).2 hx) (Yd.ret _)
    · unfold f_X6_use
      exact Yd.bind (p_asks_bad h1 h2 h3 hy) (Yd.pos pb_f (Yd.ret _))
end PuW
