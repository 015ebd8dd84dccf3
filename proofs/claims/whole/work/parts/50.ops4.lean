/-! the calls: sizeWith, costWith, scoreWith, answer -/
section PuU
variable {rc ss pr tc : Int32} {tk tf tz tw en bc a : Nat → Int32} {ro si mp mq : Int32} {mk ma mb mw mv me : Nat → Int32}
variable {th st my bb pl fr0 my0 rc0 dc0 le0 iw0 fd0 dd0 : Int32} {bt co li ru0 di0 : Nat → Int32}
theorem sr_cg {p : Int32} {g : Nat → Int32} {s m e Q : Nat} (h : QQ Q tk tf tz tw mk ma mb mw) : ∀ q, q ≤ Q → sr p tk tf tz tw g s m e q = sr p mk ma mb mw g s m e q
  | 0, _ => rfl
  | q + 1, hq => by
    obtain ⟨e1, e2, e3, e4, -, -⟩ := h q (by omega)
    unfold sr
    rw [sr_cg h q (by omega), e1, e2, e3, e4]
theorem QQ_ok {Q : Nat} (h : QQ Q tk tf tz tw mk ma mb mw) : (∀ q, q < Q → Qok (tk q) (tf q) (tz q)) ∧ ∀ q, q < Q → Qok (mk q) (ma q) (mb q) := by
  constructor
  · intro q hq
    obtain ⟨e1, e2, e3, e4, e5, -⟩ := h q hq
    rw [e1, e2, e3]
    exact e5
  · intro q hq
    exact (h q hq).2.2.2.2.1
/-- an encoding's number, or none -/
theorem en_cases (y : Int32) : (∃ e, e ≤ 5 ∧ y = nI e ∧ Yd (fun q => f_X5_checkEncoding q y) (.inr ())) ∨ (¬ (0 ≤ y ∧ y ≤ 5) ∧ Yd (fun q => f_X5_checkEncoding q y) (.inl xI)) := by
  rcases sg_cases y with c | ⟨e, he, rfl⟩
  · right
    refine ⟨fun h => ?_, by unfold f_X5_checkEncoding; exact Yd.pos c (Yd.ret _)⟩
    have q1 := Int32.lt_iff_toInt_lt.mp c
    have q2 := Int32.le_iff_toInt_le.mp h.1
    omega
  · by_cases c2 : e ≤ 5
    · left
      exact ⟨e, c2, rfl, by unfold f_X5_checkEncoding; exact Yd.neg (nI_pos he) (Yd.pos (nI_le (b := 5) c2 (by omega)) (Yd.ret _))⟩
    · right
      refine ⟨fun h => c2 ((nI_leI (b := 5) he (by omega)).mp h.2), by unfold f_X5_checkEncoding; exact Yd.neg (nI_pos he) (Yd.neg (nI_ge (a := 5) (by omega) he) (Yd.ret _))⟩
theorem p_asks_bad {n S : Nat} {x y : Int32} (hn : n ≤ 96) (hS : 4 ≤ S) (hS2 : S ≤ 32) (hy : ¬ (0 ≤ y ∧ y ≤ 5)) : Yd (fun q => f_X6_asks q x y th (nI n) (nI S) st my) (false, 1, st, my) := by
  have hct := ct_le hS hn
  have hseg : ∃ b, Yd (fun q => f_X6_isSegment q x (nI n) (nI S)) b := by
    unfold f_X6_isSegment
    rcases sg_cases x with c | ⟨k, hk, rfl⟩
    · exact ⟨false, Yd.pos c (Yd.ret _)⟩
    · by_cases c2 : k < ct_ n S
      · exact ⟨true, Yd.neg (nI_pos hk) (Yd.bind (p_segs hn hS hS2) (Yd.neg (nI_ge c2 (by omega)) (Yd.ret _)))⟩
      · exact ⟨false, Yd.neg (nI_pos hk) (Yd.bind (p_segs hn hS hS2) (Yd.pos (nI_le (by omega) (by omega)) (Yd.ret _)))⟩
  obtain ⟨b, hb⟩ := hseg
  unfold f_X6_asks
  refine Yd.bind hb ?_
  cases b with
  | false => exact Yd.pos pb_f (Yd.neg (by decide) (Yd.neg (by decide) (Yd.ret _)))
  | true =>
    refine Yd.neg pb_t ?_
    refine Yd.bind ((p_isInI y 0 5).eq (decide_eq_false hy)) ?_
    exact Yd.pos pb_f (Yd.neg (by decide) (Yd.neg (by decide) (Yd.ret _)))
theorem op_sizeWith (x y : Int32) (R : Rl rc ss pr tc tk tf tz tw en bc a ro si mp mq mk ma mb mw mv me) :
    ∃ st' my' Z, (Yd (fun n => f_X5_sizeWith n x y rc ss en pl a co fr0 my0 rc0 dc0 le0 iw0 fd0 dd0 ru0 di0 li) (.inl (xI, Z)) ∧ Yd (fun n => f_X6_sizeWith n x y th ro si st my mv) (0, 1, st', my')) ∨ (∃ r, Yd (fun n => f_X5_sizeWith n x y rc ss en pl a co fr0 my0 rc0 dc0 le0 iw0 fd0 dd0 ru0 di0 li) (.inr (r, Z)) ∧ Yd (fun n => f_X6_sizeWith n x y th ro si st my mv) (r, 0, st', my')) := by
  obtain ⟨n, S, Q, p, E, ⟨rfl, rfl, rfl, rfl, rfl, rfl, rfl, rfl⟩, ⟨h1, h2, h3, h4, h5⟩, hb, hq, hI, hm⟩ := R
  rcases en_cases y with ⟨e, he, rfl, hce⟩ | ⟨hy, hce⟩
  · rcases p_asks (th := th) (st := st) (my := my) (e := e) x h1 h2 h3 he with ⟨k, hk, rfl, ha⟩ | ⟨hx, ha⟩
    · have hm0 : 0 < mr n S k := by unfold mr; omega
      have hm1 : mr n S k ≤ S := by unfold mr; omega
      have hm2 : k * S + mr n S k ≤ n := by unfold mr; omega
      obtain ⟨pl', li', r, hY, hPR⟩ := q_cstudy (co := co) (li := li) (pl := pl) (fr0 := fr0) (my0 := my0) (rc0 := rc0) (dc0 := dc0) (le0 := le0) (iw0 := iw0) (fd0 := fd0) (dd0 := dd0) (ru0 := ru0) (di0 := di0) hI hb h1 h2 h3 hk
      refine ⟨nI (k * S), nI (mr n S k), (pl', fl co (k * S) (mr n S k) (sg mv (k * S)), r.1, r.2.1, r.2.2.1, r.2.2.2.1, r.2.2.2.2.1, r.2.2.2.2.2.1, r.2.2.2.2.2.2.1, r.2.2.2.2.2.2.2.1, r.2.2.2.2.2.2.2.2.1, r.2.2.2.2.2.2.2.2.2, li'), Or.inr ⟨szI (sg mv (k * S)) (mr n S k) e, ?_, ?_⟩⟩
      · unfold f_X5_sizeWith
        refine Yd.bind ((q_checkSeg h1 h2 h3).1 ⟨k, hk, rfl⟩) ?_
        refine Yd.bind hce ?_
        refine Yd.bind hY ?_
        exact Yd.bind (q_size hPR hm0 (by omega) he) (Yd.ret _)
      · unfold f_X6_sizeWith
        refine Yd.bind ha (Yd.neg pb_t ?_)
        refine Yd.bind (p_possible (by omega) hm0 (by omega)) ?_
        unfold szI
        cases hp : psb (sg mv (k * S)) (mr n S k) e with
        | true => exact Yd.neg pb_t (Yd.bind (p_size (by omega) hm0 (seg_bd hb hk) he) (Yd.retE rfl))
        | false => exact Yd.pos pb_f (Yd.retE rfl)
    · refine ⟨st, my, (pl, co, fr0, my0, rc0, dc0, le0, iw0, fd0, dd0, ru0, di0, li), Or.inl ⟨?_, ?_⟩⟩
      · unfold f_X5_sizeWith
        exact Yd.bind ((q_checkSeg h1 h2 h3).2 hx) (Yd.ret _)
      · unfold f_X6_sizeWith
        exact Yd.bind ha (Yd.pos pb_f (Yd.ret _))
  · refine ⟨st, my, (pl, co, fr0, my0, rc0, dc0, le0, iw0, fd0, dd0, ru0, di0, li), Or.inl ⟨?_, ?_⟩⟩
    · unfold f_X5_sizeWith
      rcases p_asks (th := th) (st := st) (my := my) (e := 0) x h1 h2 h3 (by omega) with ⟨k, hk, rfl, -⟩ | ⟨hx, -⟩
      · exact Yd.bind ((q_checkSeg h1 h2 h3).1 ⟨k, hk, rfl⟩) (Yd.bind hce (Yd.ret _))
      · exact Yd.bind ((q_checkSeg h1 h2 h3).2 hx) (Yd.ret _)
    · unfold f_X6_sizeWith
      exact Yd.bind (p_asks_bad h1 h2 h3 hy) (Yd.pos pb_f (Yd.ret _))
theorem op_scoreWith (x y : Int32) (R : Rl rc ss pr tc tk tf tz tw en bc a ro si mp mq mk ma mb mw mv me) :
    ∃ st' my' Z, (Yd (fun n => f_X5_scoreWith n x y rc ss pr tc tk tf tz tw en pl a co fr0 my0 rc0 dc0 le0 iw0 fd0 dd0 ru0 di0 li) (.inl (xI, Z)) ∧ Yd (fun n => f_X6_scoreWith n x y th ro si mp mq st my mv mk ma mb mw) (0, 1, st', my')) ∨ (∃ r, Yd (fun n => f_X5_scoreWith n x y rc ss pr tc tk tf tz tw en pl a co fr0 my0 rc0 dc0 le0 iw0 fd0 dd0 ru0 di0 li) (.inr (r, Z)) ∧ Yd (fun n => f_X6_scoreWith n x y th ro si mp mq st my mv mk ma mb mw) (r, 0, st', my')) := by
  obtain ⟨n, S, Q, p, E, ⟨rfl, rfl, rfl, rfl, rfl, rfl, rfl, rfl⟩, ⟨h1, h2, h3, h4, h5⟩, hb, hq, hI, hm⟩ := R
  obtain ⟨qk1, qk2⟩ := QQ_ok hq
  rcases en_cases y with ⟨e, he, rfl, hce⟩ | ⟨hy, hce⟩
  · rcases p_asks (th := th) (st := st) (my := my) (e := e) x h1 h2 h3 he with ⟨k, hk, rfl, ha⟩ | ⟨hx, ha⟩
    · have hm0 : 0 < mr n S k := by unfold mr; omega
      have hm1 : mr n S k ≤ S := by unfold mr; omega
      have hm2 : k * S + mr n S k ≤ n := by unfold mr; omega
      obtain ⟨pl', li', r, hY, hPR⟩ := q_cstudy (co := co) (li := li) (pl := pl) (fr0 := fr0) (my0 := my0) (rc0 := rc0) (dc0 := dc0) (le0 := le0) (iw0 := iw0) (fd0 := fd0) (dd0 := dd0) (ru0 := ru0) (di0 := di0) hI hb h1 h2 h3 hk
      refine ⟨nI (k * S), nI (mr n S k), (pl', fl co (k * S) (mr n S k) (sg mv (k * S)), r.1, r.2.1, r.2.2.1, r.2.2.2.1, r.2.2.2.2.1, r.2.2.2.2.2.1, r.2.2.2.2.2.2.1, r.2.2.2.2.2.2.2.1, r.2.2.2.2.2.2.2.2.1, r.2.2.2.2.2.2.2.2.2, li'), Or.inr ⟨if psb (sg mv (k * S)) (mr n S k) e then sr (nI p) mk ma mb mw (sg mv (k * S)) (k * S) (mr n S k) e Q else -1, ?_, ?_⟩⟩
      · unfold f_X5_scoreWith
        refine Yd.bind ((q_checkSeg h1 h2 h3).1 ⟨k, hk, rfl⟩) ?_
        refine Yd.bind hce ?_
        refine Yd.bind hY ?_
        refine Yd.bind (q_possible hPR (by omega) (by omega)) ?_
        cases hp : psb (sg mv (k * S)) (mr n S k) e with
        | true =>
          refine Yd.neg pb_t (Yd.bind (q_score hPR h4 qk1 (by omega) hm0 (by omega) he hp) (Yd.retE ?_))
          rw [sr_cg hq Q (Nat.le_refl _)]
          rfl
        | false => exact Yd.pos pb_f (Yd.retE rfl)
      · unfold f_X6_scoreWith
        refine Yd.bind ha (Yd.neg pb_t ?_)
        refine Yd.bind (p_possible (by omega) hm0 (by omega)) ?_
        cases hp : psb (sg mv (k * S)) (mr n S k) e with
        | true => exact Yd.neg pb_t (Yd.bind (p_score h4 qk2 (by omega) hm0 (seg_bd hb hk) he) (Yd.retE rfl))
        | false => exact Yd.pos pb_f (Yd.retE rfl)
    · refine ⟨st, my, (pl, co, fr0, my0, rc0, dc0, le0, iw0, fd0, dd0, ru0, di0, li), Or.inl ⟨?_, ?_⟩⟩
      · unfold f_X5_scoreWith
        exact Yd.bind ((q_checkSeg h1 h2 h3).2 hx) (Yd.ret _)
      · unfold f_X6_scoreWith
        exact Yd.bind ha (Yd.pos pb_f (Yd.ret _))
  · refine ⟨st, my, (pl, co, fr0, my0, rc0, dc0, le0, iw0, fd0, dd0, ru0, di0, li), Or.inl ⟨?_, ?_⟩⟩
    · unfold f_X5_scoreWith
      rcases p_asks (th := th) (st := st) (my := my) (e := 0) x h1 h2 h3 (by omega) with ⟨k, hk, rfl, -⟩ | ⟨hx, -⟩
      · exact Yd.bind ((q_checkSeg h1 h2 h3).1 ⟨k, hk, rfl⟩) (Yd.bind hce (Yd.ret _))
      · exact Yd.bind ((q_checkSeg h1 h2 h3).2 hx) (Yd.ret _)
    · unfold f_X6_scoreWith
      exact Yd.bind (p_asks_bad h1 h2 h3 hy) (Yd.pos pb_f (Yd.ret _))
/-- a query's number, or none -/
theorem qu_cases {Q : Nat} (x : Int32) (hQ : Q ≤ 20) : (∃ q, q < Q ∧ x = nI q ∧ Yd (fun k => f_X5_checkQuery k x (nI Q)) (.inr ())) ∨ ((x < 0 ∨ ∃ q, q < 2 ^ 31 ∧ x = nI q ∧ Q ≤ q) ∧ Yd (fun k => f_X5_checkQuery k x (nI Q)) (.inl xI)) := by
  have hc : Yd (fun k => f_X4_count k (nI Q)) (nI Q) := by unfold f_X4_count; exact Yd.ret _
  rcases sg_cases x with c | ⟨q, hq, rfl⟩
  · right
    exact ⟨Or.inl c, by unfold f_X5_checkQuery; exact Yd.pos c (Yd.ret _)⟩
  · by_cases c2 : q < Q
    · left
      exact ⟨q, c2, rfl, by unfold f_X5_checkQuery; exact Yd.neg (nI_pos hq) (Yd.bind hc (Yd.pos (nI_lt c2 (by omega)) (Yd.ret _)))⟩
    · right
      exact ⟨Or.inr ⟨q, hq, rfl, by omega⟩, by unfold f_X5_checkQuery; exact Yd.neg (nI_pos hq) (Yd.bind hc (Yd.neg (nI_nlt (by omega) hq) (Yd.ret _)))⟩
theorem op_costWith (z x y : Int32) (R : Rl rc ss pr tc tk tf tz tw en bc a ro si mp mq mk ma mb mw mv me) :
    ∃ st' my' Z, (Yd (fun n => f_X5_costWith n z x y rc ss tc tk tf tz en pl a co fr0 my0 rc0 dc0 le0 iw0 fd0 dd0 ru0 di0 li) (.inl (xI, Z)) ∧ Yd (fun n => f_X6_costWith n z x y th ro si mq st my mv mk ma mb) (0, 1, st', my')) ∨ (∃ r, Yd (fun n => f_X5_costWith n z x y rc ss tc tk tf tz en pl a co fr0 my0 rc0 dc0 le0 iw0 fd0 dd0 ru0 di0 li) (.inr (r, Z)) ∧ Yd (fun n => f_X6_costWith n z x y th ro si mq st my mv mk ma mb) (r, 0, st', my')) := by
  obtain ⟨n, S, Q, p, E, ⟨rfl, rfl, rfl, rfl, rfl, rfl, rfl, rfl⟩, ⟨h1, h2, h3, h4, h5⟩, hb, hq, hI, hm⟩ := R
  obtain ⟨qk1, qk2⟩ := QQ_ok hq
  have hf1 : ∀ t, Yd (fun q => f_X6_fail q 1 t) ((0, 1) : Int32 × Int32) := fun t => by unfold f_X6_fail; exact Yd.ret _
  rcases qu_cases (Q := Q) z h4 with ⟨q, hqQ, rfl, hcq⟩ | ⟨hz, hcq⟩
  · rcases en_cases y with ⟨e, he, rfl, hce⟩ | ⟨hy, hce⟩
    · rcases p_asks (th := th) (st := st) (my := my) (e := e) x h1 h2 h3 he with ⟨k, hk, rfl, ha⟩ | ⟨hx, ha⟩
      · have hm0 : 0 < mr n S k := by unfold mr; omega
        have hm1 : mr n S k ≤ S := by unfold mr; omega
        have hm2 : k * S + mr n S k ≤ n := by unfold mr; omega
        obtain ⟨pl', li', r, hY, hPR⟩ := q_cstudy (co := co) (li := li) (pl := pl) (fr0 := fr0) (my0 := my0) (rc0 := rc0) (dc0 := dc0) (le0 := le0) (iw0 := iw0) (fd0 := fd0) (dd0 := dd0) (ru0 := ru0) (di0 := di0) hI hb h1 h2 h3 hk
        obtain ⟨e1, e2, e3, e4, -, -⟩ := hq q hqQ
        refine ⟨nI (k * S), nI (mr n S k), (pl', fl co (k * S) (mr n S k) (sg mv (k * S)), r.1, r.2.1, r.2.2.1, r.2.2.2.1, r.2.2.2.2.1, r.2.2.2.2.2.1, r.2.2.2.2.2.2.1, r.2.2.2.2.2.2.2.1, r.2.2.2.2.2.2.2.2.1, r.2.2.2.2.2.2.2.2.2, li'), Or.inr ⟨if psb (sg mv (k * S)) (mr n S k) e then nI (cq (sg mv (k * S)) (k * S) (mr n S k) e (mk q) (ma q) (mb q)) else -1, ?_, ?_⟩⟩
        · unfold f_X5_costWith
          refine Yd.bind hcq ?_
          refine Yd.bind ((q_checkSeg h1 h2 h3).1 ⟨k, hk, rfl⟩) ?_
          refine Yd.bind hce ?_
          refine Yd.bind hY ?_
          refine Yd.bind (q_possible hPR (by omega) (by omega)) ?_
          cases hp : psb (sg mv (k * S)) (mr n S k) e with
          | true =>
            refine Yd.neg pb_t (Yd.bind (q_cost hPR (by omega) (qk1 q hqQ) (by omega) hm0 (by omega) he) (Yd.retE ?_))
            rw [e1, e2, e3]
            rfl
          | false => exact Yd.pos pb_f (Yd.retE rfl)
        · unfold f_X6_costWith
          refine Yd.bind ha (Yd.neg pb_t ?_)
          refine Yd.neg (nI_pos (by omega)) (Yd.pos (nI_lt hqQ (by omega)) ?_)
          refine Yd.bind (p_possible (by omega) hm0 (by omega)) ?_
          cases hp : psb (sg mv (k * S)) (mr n S k) e with
          | true => exact Yd.neg pb_t (Yd.bind (p_cost (by omega) (qk2 q hqQ) (by omega) hm0 (seg_bd hb hk) he) (Yd.retE rfl))
          | false => exact Yd.pos pb_f (Yd.retE rfl)
      · refine ⟨st, my, (pl, co, fr0, my0, rc0, dc0, le0, iw0, fd0, dd0, ru0, di0, li), Or.inl ⟨?_, ?_⟩⟩
        · unfold f_X5_costWith
          exact Yd.bind hcq (Yd.bind ((q_checkSeg h1 h2 h3).2 hx) (Yd.ret _))
        · unfold f_X6_costWith
          exact Yd.bind ha (Yd.pos pb_f (Yd.bind (hf1 _) (Yd.ret _)))
    · refine ⟨st, my, (pl, co, fr0, my0, rc0, dc0, le0, iw0, fd0, dd0, ru0, di0, li), Or.inl ⟨?_, ?_⟩⟩
      · unfold f_X5_costWith
        refine Yd.bind hcq ?_
        rcases p_asks (th := th) (st := st) (my := my) (e := 0) x h1 h2 h3 (by omega) with ⟨k, hk, rfl, -⟩ | ⟨hx, -⟩
        · exact Yd.bind ((q_checkSeg h1 h2 h3).1 ⟨k, hk, rfl⟩) (Yd.bind hce (Yd.ret _))
        · exact Yd.bind ((q_checkSeg h1 h2 h3).2 hx) (Yd.ret _)
      · unfold f_X6_costWith
        exact Yd.bind (p_asks_bad h1 h2 h3 hy) (Yd.pos pb_f (Yd.bind (hf1 _) (Yd.ret _)))
  · have hcl : Yd (fun k => f_X5_costWith k z x y (nI n) (nI S) (nI Q) tk tf tz en pl a co fr0 my0 rc0 dc0 le0 iw0 fd0 dd0 ru0 di0 li) (.inl (xI, pl, co, fr0, my0, rc0, dc0, le0, iw0, fd0, dd0, ru0, di0, li)) := by
      unfold f_X5_costWith
      exact Yd.bind hcq (Yd.ret _)
    have fin : ∀ s1 m1, Yd (fun k => (if z < 0 then ((f_X6_fail k 1 (0 : Int32)).bind fun u5 => some (u5.1, u5.2, s1, m1)) else (if z < nI Q then ((f_X6_isPossible k y s1 m1 mv).bind fun u7 => if (pr_b u7) = 0 then (some ((-1), (0 : Int32), s1, m1)) else ((f_X6_costOf k z y s1 m1 mv mk ma mb).bind fun u9 => some (u9, (0 : Int32), s1, m1))) else ((f_X6_fail k 1 (0 : Int32)).bind fun u10 => some (u10.1, u10.2, s1, m1))))) (0, 1, s1, m1) := by
      intro s1 m1
      rcases hz with c | ⟨q, hq2, rfl, hqQ⟩
      · exact Yd.pos c (Yd.bind (hf1 _) (Yd.ret _))
      · exact Yd.neg (nI_pos hq2) (Yd.neg (nI_nlt hqQ hq2) (Yd.bind (hf1 _) (Yd.ret _)))
    rcases en_cases y with ⟨e, he, rfl, hce⟩ | ⟨hy, hce⟩
    · rcases p_asks (th := th) (st := st) (my := my) (e := e) x h1 h2 h3 he with ⟨k, hk, rfl, ha⟩ | ⟨hx, ha⟩
      · refine ⟨nI (k * S), nI (mr n S k), _, Or.inl ⟨hcl, ?_⟩⟩
        unfold f_X6_costWith
        exact Yd.bind ha (Yd.neg pb_t (fin _ _))
      · refine ⟨st, my, _, Or.inl ⟨hcl, ?_⟩⟩
        unfold f_X6_costWith
        exact Yd.bind ha (Yd.pos pb_f (Yd.bind (hf1 _) (Yd.ret _)))
    · refine ⟨st, my, _, Or.inl ⟨hcl, ?_⟩⟩
      unfold f_X6_costWith
      exact Yd.bind (p_asks_bad h1 h2 h3 hy) (Yd.pos pb_f (Yd.bind (hf1 _) (Yd.ret _)))
end PuU
