/-! class and reference side by side: the relation of their states; the calls, one after another -/
section PuR
def QQ (Q : Nat) (tk tf tz tw mk ma mb mw : Nat → Int32) : Prop := ∀ q, q < Q → tk q = mk q ∧ tf q = ma q ∧ tz q = mb q ∧ tw q = mw q ∧ Qok (mk q) (ma q) (mb q) ∧ ∃ w, 1 ≤ w ∧ w ≤ 100 ∧ mw q = nI w
def Rl0 (n S Q p : Nat) (E : Nat → Nat) (rc ss pr tc : Int32) (tk tf tz tw en bc a : Nat → Int32) (ro si mp mq : Int32) (mk ma mb mw mv me : Nat → Int32) : Prop :=
  (rc = nI n ∧ ss = nI S ∧ pr = nI p ∧ tc = nI Q ∧ ro = nI n ∧ si = nI S ∧ mp = nI p ∧ mq = nI Q) ∧ (n ≤ 96 ∧ 4 ≤ S ∧ S ≤ 32 ∧ Q ≤ 20 ∧ p ≤ 100) ∧ Bd mv n ∧ QQ Q tk tf tz tw mk ma mb mw ∧ IB mv n S E en bc a ∧ ∀ k, k * S < n → me k = nI (E k)
/-- the states of class and reference agree -/
def Rl (rc ss pr tc : Int32) (tk tf tz tw en bc a : Nat → Int32) (ro si mp mq : Int32) (mk ma mb mw mv me : Nat → Int32) : Prop :=
  ∃ n S Q p E, Rl0 n S Q p E rc ss pr tc tk tf tz tw en bc a ro si mp mq mk ma mb mw mv me
abbrev xA : String := "java/lang/IllegalArgumentException"
abbrev xS : String := "java/lang/IllegalStateException"
abbrev xI : String := "java/lang/IndexOutOfBoundsException"
variable {rc ss pr tc : Int32} {tk tf tz tw en bc a : Nat → Int32} {ro si mp mq : Int32} {mk ma mb mw mv me : Nat → Int32}
variable {th st my bb pl : Int32} {bt co li : Nat → Int32}
theorem p_isIn (x : Int64) (lo hi : Int32) : Yd (fun n => f_X6_isIn n x lo hi) (decide (lo.toInt64 ≤ x ∧ x ≤ hi.toInt64)) := by
  unfold f_X6_isIn
  by_cases c1 : x < lo.toInt64
  · refine Yd.pos ((cmp_lt0 _ _).mpr c1) (Yd.retE ?_)
    have h1 := Int64.lt_iff_toInt_lt.mp c1
    have : ¬ (lo.toInt64 ≤ x ∧ x ≤ hi.toInt64) := fun h => by have := Int64.le_iff_toInt_le.mp h.1; omega
    simp [this]
  · refine Yd.neg (fun h => c1 ((cmp_lt0 _ _).mp h)) ?_
    have h1 : ¬ x.toInt < lo.toInt64.toInt := fun h => c1 (Int64.lt_iff_toInt_lt.mpr h)
    by_cases c2 : hi.toInt64 < x
    · refine Yd.pos ((cmp_gt0 _ _).mpr c2) (Yd.retE ?_)
      have h2 := Int64.lt_iff_toInt_lt.mp c2
      have : ¬ (lo.toInt64 ≤ x ∧ x ≤ hi.toInt64) := fun h => by have := Int64.le_iff_toInt_le.mp h.2; omega
      simp [this]
    · refine Yd.neg (fun h => c2 ((cmp_gt0 _ _).mp h)) (Yd.retE ?_)
      have h2 : ¬ hi.toInt64.toInt < x.toInt := fun h => c2 (Int64.lt_iff_toInt_lt.mpr h)
      have : lo.toInt64 ≤ x ∧ x ≤ hi.toInt64 := ⟨Int64.le_iff_toInt_le.mpr (by omega), Int64.le_iff_toInt_le.mpr (by omega)⟩
      simp [this]
theorem p_isInI (y lo hi : Int32) : Yd (fun n => f_X6_isIn n y.toInt64 lo hi) (decide (lo ≤ y ∧ y ≤ hi)) := by
  have h := p_isIn y.toInt64 lo hi
  simp only [Int32.toInt64_le] at h
  exact h
theorem p_isInN {j lo hi : Nat} (hj : j < 2 ^ 31) (hl : lo < 2 ^ 31) (hh : hi < 2 ^ 31) : Yd (fun n => f_X6_isIn n (nI j).toInt64 (nI lo) (nI hi)) (decide (lo ≤ j ∧ j ≤ hi)) := by
  refine (p_isInI _ _ _).eq ?_
  rw [decide_eq_decide, nI_leI hl hj, nI_leI hj hh]
theorem p_segs {n S : Nat} (hn : n ≤ 96) (hS : 4 ≤ S) (hS2 : S ≤ 32) : Yd (fun q => f_X6_segments q (nI S) (nI n)) (nI (ct_ n S)) := by
  unfold f_X6_segments
  rw [nI_add, show nI (n + S) - 1 = nI (n + S - 1) from nI_sub (b := 1) (by omega)]
  exact Yd.bind (Yd.all fun _ => nI_dv (by omega) (by omega) (by omega)) (Yd.ret _)
theorem p_chs {n S k : Nat} (hn : n ≤ 96) (hS2 : S ≤ 32) (hk : k * S < n) : Yd (fun q => f_X6_choose q (nI k) (nI S) (nI n) st my) (nI (k * S), nI (mr n S k)) := by
  unfold f_X6_choose
  refine Yd.retE ?_
  rw [nI_mul, nI_sub (by omega), nI_min S (n - k * S) (by omega) (by omega)]
  rfl
/-- a number, negative or not -/
theorem sg_cases (x : Int32) : x < 0 ∨ ∃ j, j < 2 ^ 31 ∧ x = nI j := by
  by_cases c : x < 0
  · exact Or.inl c
  · exact Or.inr (nI_of c)
theorem pb_t : ¬ pr_b true = 0 := by decide
theorem pb_f : pr_b false = 0 := by decide
/-- the reference looks at a segment, or refuses -/
theorem p_asks {n S : Nat} {e : Nat} (x : Int32) (hn : n ≤ 96) (hS : 4 ≤ S) (hS2 : S ≤ 32) (he : e ≤ 5) :
    (∃ k, k * S < n ∧ x = nI k ∧ Yd (fun q => f_X6_asks q x (nI e) th (nI n) (nI S) st my) (true, 0, nI (k * S), nI (mr n S k))) ∨ ((x < 0 ∨ ∃ k, k < 2 ^ 31 ∧ x = nI k ∧ ct_ n S ≤ k) ∧ Yd (fun q => f_X6_asks q x (nI e) th (nI n) (nI S) st my) (false, 1, st, my)) := by
  have hct := ct_le hS hn
  rcases sg_cases x with c | ⟨k, hk, rfl⟩
  · right
    refine ⟨Or.inl c, ?_⟩
    unfold f_X6_asks
    refine Yd.bind (a := false) (by unfold f_X6_isSegment; exact Yd.pos c (Yd.ret _)) ?_
    exact Yd.pos pb_f (Yd.neg (by decide) (Yd.neg (by decide) (Yd.ret _)))
  · by_cases c2 : k < ct_ n S
    · have hkn := (ct_lt (n := n) (S := S) (k := k) (by omega)).mp c2
      left
      refine ⟨k, hkn, rfl, ?_⟩
      unfold f_X6_asks
      refine Yd.bind (a := true) ?_ ?_
      · unfold f_X6_isSegment
        exact Yd.neg (nI_pos hk) (Yd.bind (p_segs hn hS hS2) (Yd.neg (nI_ge c2 (by omega)) (Yd.ret _)))
      refine Yd.neg pb_t ?_
      refine Yd.bind (a := true) ((p_isInN (lo := 0) (hi := 5) (by omega) (by omega) (by omega)).eq (by simp [he])) ?_
      refine Yd.neg pb_t ?_
      refine Yd.pos rfl ?_
      refine Yd.bind (p_chs hn hS2 hkn) ?_
      exact Yd.pos rfl (Yd.ret _)
    · right
      refine ⟨Or.inr ⟨k, hk, rfl, by omega⟩, ?_⟩
      unfold f_X6_asks
      refine Yd.bind (a := false) ?_ ?_
      · unfold f_X6_isSegment
        exact Yd.neg (nI_pos hk) (Yd.bind (p_segs hn hS hS2) (Yd.pos (nI_le (by omega) (by omega)) (Yd.ret _)))
      exact Yd.pos pb_f (Yd.neg (by decide) (Yd.neg (by decide) (Yd.ret _)))
theorem q_checkSeg {n S : Nat} {x : Int32} (hn : n ≤ 96) (hS : 4 ≤ S) (hS2 : S ≤ 32) : ((∃ k, k * S < n ∧ x = nI k) → Yd (fun q => f_X5_checkSegment q x (nI n) (nI S)) (.inr ())) ∧ ((x < 0 ∨ ∃ k, k < 2 ^ 31 ∧ x = nI k ∧ ct_ n S ≤ k) → Yd (fun q => f_X5_checkSegment q x (nI n) (nI S)) (.inl xI)) := by
  have hct := ct_le hS hn
  constructor
  · rintro ⟨k, hk, rfl⟩
    have c2 := (ct_lt (n := n) (S := S) (k := k) (by omega)).mpr hk
    unfold f_X5_checkSegment
    exact Yd.neg (nI_pos (by omega)) (Yd.bind (q_segCount hn hS hS2) (Yd.pos (nI_lt c2 (by omega)) (Yd.ret _)))
  · rintro (c | ⟨k, hk, rfl, h⟩)
    · unfold f_X5_checkSegment
      exact Yd.pos c (Yd.ret _)
    · unfold f_X5_checkSegment
      exact Yd.neg (nI_pos hk) (Yd.bind (q_segCount hn hS hS2) (Yd.neg (nI_nlt h (by omega)) (Yd.ret _)))
theorem op_rows (R : Rl rc ss pr tc tk tf tz tw en bc a ro si mp mq mk ma mb mw mv me) : ∃ r, Yd (fun n => f_X5_rows n rc) r ∧ Yd (fun n => f_X6_rows n th ro) (r, 0) := by
  obtain ⟨n, S, Q, p, E, ⟨rfl, rfl, rfl, rfl, rfl, rfl, rfl, rfl⟩, hh⟩ := R
  exact ⟨nI n, Yd.ret _, Yd.ret _⟩
theorem op_segmentCount (R : Rl rc ss pr tc tk tf tz tw en bc a ro si mp mq mk ma mb mw mv me) : ∃ r, Yd (fun n => f_X5_segmentCount n rc ss) r ∧ Yd (fun n => f_X6_segmentCount n th ro si) (r, 0) := by
  obtain ⟨n, S, Q, p, E, ⟨rfl, rfl, rfl, rfl, rfl, rfl, rfl, rfl⟩, ⟨h1, h2, h3, h4, h5⟩, hh⟩ := R
  refine ⟨nI (ct_ n S), q_segCount h1 h2 h3, ?_⟩
  unfold f_X6_segmentCount
  exact Yd.bind (p_segs h1 h2 h3) (Yd.ret _)
theorem op_clearQueries (R : Rl rc ss pr tc tk tf tz tw en bc a ro si mp mq mk ma mb mw mv me) : ∃ r, Yd (fun n => f_X5_clearQueries n tc) (r, 0) ∧ Yd (fun n => f_X6_clearQueries n th mq) (r, 0, 0) ∧ Rl rc ss pr 0 tk tf tz tw en bc a ro si mp 0 mk ma mb mw mv me := by
  obtain ⟨n, S, Q, p, E, ⟨rfl, rfl, rfl, rfl, rfl, rfl, rfl, rfl⟩, ⟨h1, h2, h3, h4, h5⟩, hb, hq, hI, hm⟩ := R
  refine ⟨nI Q, ?_, Yd.ret _, n, S, 0, p, E, ⟨rfl, rfl, rfl, rfl, rfl, rfl, rfl, rfl⟩, ⟨h1, h2, h3, by omega, h5⟩, hb, fun q hq => by omega, hI, hm⟩
  unfold f_X5_clearQueries
  exact Yd.bind (a := (nI Q, 0)) (by unfold f_X4_clear; exact Yd.ret _) (Yd.ret _)
theorem op_setPrice (x : Int32) (R : Rl rc ss pr tc tk tf tz tw en bc a ro si mp mq mk ma mb mw mv me) :
    (Yd (fun n => f_X5_setPrice n x pr) (.inl (xA, pr)) ∧ Yd (fun n => f_X6_setPrice n x th mp) (0, 1, mp)) ∨ (∃ r, Yd (fun n => f_X5_setPrice n x pr) (.inr (r, x)) ∧ Yd (fun n => f_X6_setPrice n x th mp) (r, 0, x) ∧ Rl rc ss x tc tk tf tz tw en bc a ro si x mq mk ma mb mw mv me) := by
  obtain ⟨n, S, Q, p, E, ⟨rfl, rfl, rfl, rfl, rfl, rfl, rfl, rfl⟩, ⟨h1, h2, h3, h4, h5⟩, hb, hq, hI, hm⟩ := R
  have bad : ¬ (0 ≤ x ∧ x ≤ 100) → Yd (fun n => f_X6_setPrice n x th (nI p)) (0, 1, nI p) := by
    intro h
    unfold f_X6_setPrice
    refine Yd.bind ((p_isInI x 0 100).eq (decide_eq_false h)) (Yd.pos pb_f ?_)
    exact Yd.bind (a := (0, 1)) (by unfold f_X6_fail; exact Yd.ret _) (Yd.ret _)
  rcases sg_cases x with c | ⟨k, hk, rfl⟩
  · left
    refine ⟨by unfold f_X5_setPrice; exact Yd.pos c (Yd.ret _), bad (fun h => ?_)⟩
    have q1 := Int32.lt_iff_toInt_lt.mp c
    have q2 := Int32.le_iff_toInt_le.mp h.1
    omega
  · by_cases c2 : k ≤ 100
    · right
      refine ⟨nI p, ?_, ?_, n, S, Q, k, E, ⟨rfl, rfl, rfl, rfl, rfl, rfl, rfl, rfl⟩, ⟨h1, h2, h3, h4, c2⟩, hb, hq, hI, hm⟩
      · unfold f_X5_setPrice
        exact Yd.neg (nI_pos hk) (Yd.pos (nI_le (b := 100) c2 (by omega)) (Yd.ret _))
      · unfold f_X6_setPrice
        refine Yd.bind ((p_isInN (lo := 0) (hi := 100) hk (by omega) (by omega)).eq (decide_eq_true ⟨by omega, c2⟩)) (Yd.neg pb_t (Yd.ret _))
    · left
      refine ⟨by unfold f_X5_setPrice; exact Yd.neg (nI_pos hk) (Yd.neg (nI_ge (a := 100) (by omega) hk) (Yd.ret _)), bad (fun h => ?_)⟩
      exact c2 ((nI_leI (b := 100) hk (by omega)).mp h.2)
theorem op_value (x : Int32) (R : Rl rc ss pr tc tk tf tz tw en bc a ro si mp mq mk ma mb mw mv me) :
    (∃ pl' co' li', Yd (fun n => f_X5_value n x rc ss en pl a co li) (.inl (xI, pl', co', li')) ∧ Yd (fun n => f_X6_value n x th ro mv) (0, 1)) ∨ (∃ r pl' co' li', Yd (fun n => f_X5_value n x rc ss en pl a co li) (.inr (r, pl', co', li')) ∧ Yd (fun n => f_X6_value n x th ro mv) (r, 0)) := by
  obtain ⟨n, S, Q, p, E, ⟨rfl, rfl, rfl, rfl, rfl, rfl, rfl, rfl⟩, ⟨h1, h2, h3, h4, h5⟩, hb, hq, hI, hm⟩ := R
  have bad : (x < 0 ∨ ∃ k, k < 2 ^ 31 ∧ x = nI k ∧ n ≤ k) → Yd (fun q => f_X6_value q x th (nI n) mv) (0, 1) := by
    intro h
    unfold f_X6_value
    have hf : ¬ (0 ≤ x ∧ x ≤ nI n - 1) := by
      intro q
      rcases h with c | ⟨k, hk, rfl, hnk⟩
      · have q1 := Int32.lt_iff_toInt_lt.mp c
        have q2 := Int32.le_iff_toInt_le.mp q.1
        omega
      · have e : (nI n - 1).toInt = (n : Int) - 1 := by
          have e1 : (1 : Int32).toInt = 1 := by decide
          rw [Int32.toInt_sub, nI_toInt (by omega), e1, Int.bmod_eq_of_le] <;> omega
        have q2 := Int32.le_iff_toInt_le.mp q.2
        rw [e, nI_toInt hk] at q2
        omega
    refine Yd.bind ((p_isInI x 0 (nI n - 1)).eq (decide_eq_false hf)) (Yd.pos pb_f ?_)
    exact Yd.bind (a := (0, 1)) (by unfold f_X6_fail; exact Yd.ret _) (Yd.ret _)
  rcases sg_cases x with c | ⟨k, hk, rfl⟩
  · left
    refine ⟨pl, co, li, ?_, bad (Or.inl c)⟩
    unfold f_X5_value
    exact Yd.bind (a := (Sum.inl xI : String ⊕ Unit)) (by unfold f_X5_checkRow; exact Yd.pos c (Yd.ret _)) (Yd.ret _)
  · by_cases c2 : k < n
    · right
      have hS0 : 0 < S := by omega
      have hkn : k / S * S < n := Nat.lt_of_le_of_lt (Nat.div_mul_le_self k S) c2
      obtain ⟨pl', li', hl⟩ := q_load (co := co) (li := li) (pl := pl) hI hb h1 h2 h3 hkn
      have hmod := Nat.div_add_mod k S
      have hml := Nat.mod_lt k hS0
      rw [Nat.mul_comm] at hmod
      have ev : fl co (k / S * S) (mr n S (k / S)) (sg mv (k / S * S)) k = mv k := fl_cl co mv _ _ k (by omega) (by unfold mr; omega)
      refine ⟨mv k, pl', fl co (k / S * S) (mr n S (k / S)) (sg mv (k / S * S)), li', ?_, ?_⟩
      · unfold f_X5_value
        refine Yd.bind (a := (Sum.inr () : String ⊕ Unit)) (by unfold f_X5_checkRow; exact Yd.neg (nI_pos hk) (Yd.pos (nI_lt c2 (by omega)) (Yd.ret _))) ?_
        refine Yd.bind (q_segOf hk hS0 (by omega)) ?_
        refine Yd.bind hl ?_
        have k1 := q_get (a := fl co (k / S * S) (mr n S (k / S)) (sg mv (k / S * S))) (N := 96) (i := k) (by omega) (by omega)
        rw [ev] at k1
        exact Yd.bind k1 (Yd.ret _)
      · unfold f_X6_value
        rw [show nI n - 1 = nI (n - 1) from nI_sub (b := 1) (by omega)]
        refine Yd.bind ((p_isInN (lo := 0) hk (by omega) (by omega)).eq (decide_eq_true ⟨by omega, by omega⟩)) (Yd.neg pb_t ?_)
        exact Yd.rd (by omega) (by omega) (Yd.ret _)
    · left
      refine ⟨pl, co, li, ?_, bad (Or.inr ⟨k, hk, rfl, by omega⟩)⟩
      unfold f_X5_value
      exact Yd.bind (a := (Sum.inl xI : String ⊕ Unit)) (by unfold f_X5_checkRow; exact Yd.neg (nI_pos hk) (Yd.neg (nI_nlt (by omega) hk) (Yd.ret _))) (Yd.ret _)
theorem op_encoding (x : Int32) (R : Rl rc ss pr tc tk tf tz tw en bc a ro si mp mq mk ma mb mw mv me) :
    ∃ st' my', (Yd (fun n => f_X5_encoding n x rc ss en) (.inl xI) ∧ Yd (fun n => f_X6_encoding n x th ro si st my me) (0, 1, st', my')) ∨ (∃ r, Yd (fun n => f_X5_encoding n x rc ss en) (.inr r) ∧ Yd (fun n => f_X6_encoding n x th ro si st my me) (r, 0, st', my')) := by
  obtain ⟨n, S, Q, p, E, ⟨rfl, rfl, rfl, rfl, rfl, rfl, rfl, rfl⟩, ⟨h1, h2, h3, h4, h5⟩, hb, hq, hI, hm⟩ := R
  rcases p_asks (th := th) (st := st) (my := my) (e := 0) x h1 h2 h3 (by omega) with ⟨k, hk, rfl, ha⟩ | ⟨hx, ha⟩
  · refine ⟨nI (k * S), nI (mr n S k), Or.inr ⟨nI (E k), ?_, ?_⟩⟩
    · unfold f_X5_encoding
      refine Yd.bind ((q_checkSeg h1 h2 h3).1 ⟨k, hk, rfl⟩) ?_
      have hk24 : k < 24 := Nat.lt_of_lt_of_le ((ct_lt (n := n) (S := S) (by omega)).mpr hk) (ct_le h2 h1)
      have k1 := q_get (a := en) (N := 24) hk24 (by omega)
      rw [(hI k hk).1] at k1
      exact Yd.bind k1 (Yd.ret _)
    · unfold f_X6_encoding
      have hk24 : k < 24 := Nat.lt_of_lt_of_le ((ct_lt (n := n) (S := S) (by omega)).mpr hk) (ct_le h2 h1)
      refine Yd.bind ha (Yd.neg pb_t ?_)
      refine Yd.rd (by omega) (by omega) (Yd.retE ?_)
      rw [hm k hk]
  · refine ⟨st, my, Or.inl ⟨?_, ?_⟩⟩
    · unfold f_X5_encoding
      exact Yd.bind ((q_checkSeg h1 h2 h3).2 hx) (Yd.ret _)
    · unfold f_X6_encoding
      exact Yd.bind ha (Yd.pos pb_f (Yd.ret _))
theorem op_bitCount (x : Int32) (R : Rl rc ss pr tc tk tf tz tw en bc a ro si mp mq mk ma mb mw mv me) :
    ∃ st' my', (Yd (fun n => f_X5_bitCount n x rc ss bc) (.inl xI) ∧ Yd (fun n => f_X6_bitCount n x th ro si st my mv me) (0, 1, st', my')) ∨ (∃ r, Yd (fun n => f_X5_bitCount n x rc ss bc) (.inr r) ∧ Yd (fun n => f_X6_bitCount n x th ro si st my mv me) (r, 0, st', my')) := by
  obtain ⟨n, S, Q, p, E, ⟨rfl, rfl, rfl, rfl, rfl, rfl, rfl, rfl⟩, ⟨h1, h2, h3, h4, h5⟩, hb, hq, hI, hm⟩ := R
  rcases p_asks (th := th) (st := st) (my := my) (e := 0) x h1 h2 h3 (by omega) with ⟨k, hk, rfl, ha⟩ | ⟨hx, ha⟩
  · have hk24 : k < 24 := Nat.lt_of_lt_of_le ((ct_lt (n := n) (S := S) (by omega)).mpr hk) (ct_le h2 h1)
    obtain ⟨i1, i2, i3, i4, i5⟩ := hI k hk
    refine ⟨nI (k * S), nI (mr n S k), Or.inr ⟨nI (sz (sg mv (k * S)) (mr n S k) (E k)), ?_, ?_⟩⟩
    · unfold f_X5_bitCount
      refine Yd.bind ((q_checkSeg h1 h2 h3).1 ⟨k, hk, rfl⟩) ?_
      have k1 := q_get (a := bc) (N := 24) hk24 (by omega)
      rw [i4] at k1
      exact Yd.bind k1 (Yd.ret _)
    · unfold f_X6_bitCount
      refine Yd.bind ha (Yd.neg pb_t ?_)
      refine Yd.rd (by omega) (by omega) ?_
      rw [hm k hk]
      refine Yd.bind (p_size (by unfold mr; omega) (by unfold mr; omega) (seg_bd hb hk) i2) (Yd.ret _)
  · refine ⟨st, my, Or.inl ⟨?_, ?_⟩⟩
    · unfold f_X5_bitCount
      exact Yd.bind ((q_checkSeg h1 h2 h3).2 hx) (Yd.ret _)
    · unfold f_X6_bitCount
      exact Yd.bind ha (Yd.pos pb_f (Yd.ret _))
end PuR
