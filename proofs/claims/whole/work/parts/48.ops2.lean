/-! the calls: bit, size, digest, answer, addQuery -/
section PuS
variable {rc ss pr tc : Int32} {tk tf tz tw en bc a : Nat → Int32} {ro si mp mq : Int32} {mk ma mb mw mv me : Nat → Int32}
variable {th st my bb pl : Int32} {bt co li : Nat → Int32}
theorem op_bit (x y : Int32) (R : Rl rc ss pr tc tk tf tz tw en bc a ro si mp mq mk ma mb mw mv me) :
    ∃ st' my' bb' bt', (Yd (fun n => f_X5_bit n x y rc ss bc a) (.inl xI) ∧ Yd (fun n => f_X6_bit n x y th ro si st my bb mv me bt) (0, 1, st', my', bb', bt')) ∨ (∃ r, Yd (fun n => f_X5_bit n x y rc ss bc a) (.inr r) ∧ Yd (fun n => f_X6_bit n x y th ro si st my bb mv me bt) (r, 0, st', my', bb', bt')) := by
  obtain ⟨n, S, Q, p, E, ⟨rfl, rfl, rfl, rfl, rfl, rfl, rfl, rfl⟩, ⟨h1, h2, h3, h4, h5⟩, hb, hq, hI, hm⟩ := R
  rcases p_asks (th := th) (st := st) (my := my) (e := 0) x h1 h2 h3 (by omega) with ⟨k, hk, rfl, ha⟩ | ⟨hx, ha⟩
  · have hk24 : k < 24 := Nat.lt_of_lt_of_le ((ct_lt (n := n) (S := S) (by omega)).mpr hk) (ct_le h2 h1)
    obtain ⟨i1, i2, i3, i4, i5⟩ := hI k hk
    have hm0 : 0 < mr n S k := by unfold mr; omega
    have hm1 : mr n S k ≤ S := by unfold mr; omega
    have hm2 : k * S + mr n S k ≤ n := by unfold mr; omega
    have hw := p_write (bt := bt) (b0 := bb) (mv := mv) (s := k * S) (m := mr n S k) (e := E k) (by omega) hm0 (by omega) (seg_bd hb hk) i2
    have hl := enc_len (g := sg mv (k * S)) (e := E k) hm0
    have hcap := sz_le (e := E k) hm0 (by omega) (seg_bd hb hk)
    have hroom := enc_room (e := E k) hb h1 h2 h3 hk
    have hmod : ∀ R, Yd (fun q => (if y < 0 then ((f_X6_fail q 1 (0 : Int32)).bind fun u6 => some (u6.1, u6.2, nI (k * S), nI (mr n S k), (wo 0 bt (enc (sg mv (k * S)) (mr n S k) (E k))).1, (wo 0 bt (enc (sg mv (k * S)) (mr n S k) (E k))).2)) else (if (wo 0 bt (enc (sg mv (k * S)) (mr n S k) (E k))).1 ≤ y then ((f_X6_fail q 1 (0 : Int32)).bind fun u8 => some (u8.1, u8.2, nI (k * S), nI (mr n S k), (wo 0 bt (enc (sg mv (k * S)) (mr n S k) (E k))).1, (wo 0 bt (enc (sg mv (k * S)) (mr n S k) (E k))).2)) else ((pr_rd (wo 0 bt (enc (sg mv (k * S)) (mr n S k) (E k))).2 2000 y).bind fun v9 => some (v9, (0 : Int32), nI (k * S), nI (mr n S k), (wo 0 bt (enc (sg mv (k * S)) (mr n S k) (E k))).1, (wo 0 bt (enc (sg mv (k * S)) (mr n S k) (E k))).2))))) R → Yd (fun q => f_X6_bit q (nI k) y th (nI n) (nI S) st my bb mv me bt) R := by
      intro R hR
      unfold f_X6_bit
      refine Yd.bind ha (Yd.neg pb_t ?_)
      refine Yd.rd (by omega) (by omega) ?_
      rw [hm k hk]
      exact Yd.bind hw hR
    have hbc := q_get (a := bc) (N := 24) hk24 (by omega)
    rw [i4] at hbc
    refine ⟨nI (k * S), nI (mr n S k), (wo 0 bt (enc (sg mv (k * S)) (mr n S k) (E k))).1, (wo 0 bt (enc (sg mv (k * S)) (mr n S k) (E k))).2, ?_⟩
    rcases sg_cases y with c | ⟨j, hj, rfl⟩
    · left
      constructor
      · unfold f_X5_bit
        refine Yd.bind ((q_checkSeg h1 h2 h3).1 ⟨k, hk, rfl⟩) ?_
        exact Yd.pos c (Yd.ret _)
      · refine hmod _ (Yd.pos c ?_)
        exact Yd.bind (a := (0, 1)) (by unfold f_X6_fail; exact Yd.ret _) (Yd.ret _)
    · by_cases c2 : j < sz (sg mv (k * S)) (mr n S k) (E k)
      · right
        have hjl : j < (enc (sg mv (k * S)) (mr n S k) (E k)).length := by omega
        refine ⟨(enc (sg mv (k * S)) (mr n S k) (E k))[j], ?_, ?_⟩
        · unfold f_X5_bit
          refine Yd.bind ((q_checkSeg h1 h2 h3).1 ⟨k, hk, rfl⟩) ?_
          refine Yd.neg (nI_pos hj) ?_
          refine Yd.bind hbc ?_
          refine Yd.pos (nI_lt c2 (by omega)) ?_
          refine Yd.bind (q_start k S) ?_
          rw [nI_add]
          refine Yd.bind (a := (enc (sg mv (k * S)) (mr n S k) (E k))[j]) ?_ (Yd.ret _)
          unfold f_X0_bitAt
          refine Yd.neg (nI_pos (by omega)) ?_
          refine Yd.neg (nI_ge (a := k * S * 24 + j) (b := 3072) (by omega) (by omega)) ?_
          refine Yd.rd (by omega) (by omega) (Yd.retE ?_)
          exact i5 j hjl
        · refine hmod _ (Yd.neg (nI_pos hj) ?_)
          refine Yd.neg (nI_ge (a := j) (b := 0 + (enc (sg mv (k * S)) (mr n S k) (E k)).length) (by omega) (by omega)) ?_
          refine Yd.rd (by omega) (by omega) (Yd.retE ?_)
          have e := hasb_bl bt 0 (enc (sg mv (k * S)) (mr n S k) (E k)) j hjl
          rw [Nat.zero_add] at e
          show (bl bt 0 (enc (sg mv (k * S)) (mr n S k) (E k)) j, _) = _
          rw [e]
      · left
        constructor
        · unfold f_X5_bit
          refine Yd.bind ((q_checkSeg h1 h2 h3).1 ⟨k, hk, rfl⟩) ?_
          refine Yd.neg (nI_pos hj) ?_
          refine Yd.bind hbc ?_
          exact Yd.neg (nI_nlt (by omega) (by omega)) (Yd.ret _)
        · refine hmod _ (Yd.neg (nI_pos hj) ?_)
          refine Yd.pos (nI_le (b := j) (a := 0 + (enc (sg mv (k * S)) (mr n S k) (E k)).length) (by omega) (by omega)) ?_
          exact Yd.bind (a := (0, 1)) (by unfold f_X6_fail; exact Yd.ret _) (Yd.ret _)
  · refine ⟨st, my, bb, bt, Or.inl ⟨?_, ?_⟩⟩
    · unfold f_X5_bit
      exact Yd.bind ((q_checkSeg h1 h2 h3).2 hx) (Yd.ret _)
    · unfold f_X6_bit
      exact Yd.bind ha (Yd.pos pb_f (Yd.ret _))
/-- the bits of the first k segments -/
def tb (V : Nat → Int32) (n S : Nat) (E : Nat → Nat) : Nat → Int32
  | 0 => 0
  | k + 1 => tb V n S E k + nI (sz (sg V (k * S)) (mr n S k) (E k))
theorem q_allSize {n S : Nat} {E : Nat → Nat} (hI : IB mv n S E en bc a) (h1 : n ≤ 96) (h2 : 4 ≤ S) (h3 : S ≤ 32) : Yd (fun q => f_X5_size q (nI n) (nI S) bc) (tb mv n S E (ct_ n S)) := by
  have hct := ct_le h2 h1
  have key : ∀ d k, k + d = ct_ n S → Yd (fun q => f_X5_size_9 q (tb mv n S E k) (nI (ct_ n S)) (nI k) (nI n) (nI S) bc) (tb mv n S E (ct_ n S)) := by
    intro d
    induction d with
    | zero =>
      intro k hk
      refine s_X5_size_9 ?_
      unfold f_X5_size_9_s
      refine Yd.pos (nI_le (by omega) (by omega)) (Yd.retE ?_)
      rw [show k = ct_ n S by omega]
    | succ d ih =>
      intro k hk
      have hkn : k * S < n := (ct_lt (by omega)).mp (by omega)
      refine s_X5_size_9 ?_
      unfold f_X5_size_9_s
      refine Yd.neg (nI_ge (by omega) (by omega)) ?_
      have k1 := q_get (a := bc) (N := 24) (i := k) (by omega) (by omega)
      rw [(hI k hkn).2.2.2.1] at k1
      refine Yd.bind k1 ?_
      rw [nI_1]
      exact ih (k + 1) (by omega)
  unfold f_X5_size
  exact Yd.bind (q_segCount h1 h2 h3) (key (ct_ n S) 0 (by omega))
theorem p_allBits {n S : Nat} {E : Nat → Nat} (hI : IB mv n S E en bc a) (hb : Bd mv n) (hm : ∀ k, k * S < n → me k = nI (E k)) (h1 : n ≤ 96) (h2 : 4 ≤ S) (h3 : S ≤ 32) : ∃ st' my', Yd (fun q => f_X6_allBits q (nI n) (nI S) st my mv me) (tb mv n S E (ct_ n S), st', my') := by
  have hct := ct_le h2 h1
  have key : ∀ d k, k + d = ct_ n S → ∀ st my, ∃ st' my', Yd (fun q => f_X6_allBits_4 q (tb mv n S E k) (nI k) (nI n) (nI S) st my mv me) (tb mv n S E (ct_ n S), st', my') := by
    intro d
    induction d with
    | zero =>
      intro k hk st my
      refine ⟨st, my, ?_⟩
      refine s_X6_allBits_4 ?_
      unfold f_X6_allBits_4_s
      refine Yd.bind (p_segs h1 h2 h3) ?_
      refine Yd.pos (nI_le (by omega) (by omega)) (Yd.retE ?_)
      rw [show k = ct_ n S by omega]
    | succ d ih =>
      intro k hk st my
      have hkn : k * S < n := (ct_lt (by omega)).mp (by omega)
      obtain ⟨st', my', ih1⟩ := ih (k + 1) (by omega) (nI (k * S)) (nI (mr n S k))
      refine ⟨st', my', ?_⟩
      refine s_X6_allBits_4 ?_
      unfold f_X6_allBits_4_s
      refine Yd.bind (p_segs h1 h2 h3) ?_
      refine Yd.neg (nI_ge (by omega) (by omega)) ?_
      refine Yd.bind (p_chs h1 h3 hkn) ?_
      refine Yd.rd (by omega) (by omega) ?_
      rw [hm k hkn]
      refine Yd.bind (p_size (by unfold mr; omega) (by unfold mr; omega) (seg_bd hb hkn) (hI k hkn).2.1) ?_
      rw [nI_1]
      exact ih1
  unfold f_X6_allBits
  exact key (ct_ n S) 0 (by omega) st my
theorem op_size (R : Rl rc ss pr tc tk tf tz tw en bc a ro si mp mq mk ma mb mw mv me) : ∃ r st' my', Yd (fun n => f_X5_size n rc ss bc) r ∧ Yd (fun n => f_X6_size n th ro si st my mv me) (r, 0, st', my') := by
  obtain ⟨n, S, Q, p, E, ⟨rfl, rfl, rfl, rfl, rfl, rfl, rfl, rfl⟩, ⟨h1, h2, h3, h4, h5⟩, hb, hq, hI, hm⟩ := R
  obtain ⟨st', my', hk⟩ := p_allBits (st := st) (my := my) hI hb hm h1 h2 h3
  refine ⟨_, st', my', q_allSize hI h1 h2 h3, ?_⟩
  unfold f_X6_size
  exact Yd.bind hk (Yd.ret _)
/-- a checksum goes on over a list of bits -/
def dg (d : Int64) : List Int32 → Int64
  | [] => d
  | x :: L => dg (d * 31 + x.toInt64) L
theorem dg_app : ∀ (L M : List Int32) (d : Int64), dg d (L ++ M) = dg (dg d L) M
  | [], _, _ => rfl
  | x :: L, M, d => by show dg _ (L ++ M) = dg (dg _ L) M; rw [dg_app L M]
theorem dg_take {L : List Int32} {i : Nat} (h : i < L.length) (d : Int64) : dg d (L.take (i + 1)) = dg d (L.take i) * 31 + (L[i]).toInt64 := by
  rw [List.take_succ_eq_append_getElem h, dg_app]
  rfl
def dgs (V : Nat → Int32) (n S : Nat) (E : Nat → Nat) (d : Int64) : Nat → Int64
  | 0 => d
  | k + 1 => dg ((dgs V n S E d k * 31 + (nI (E k)).toInt64) * 31 + (nI (sz (sg V (k * S)) (mr n S k) (E k))).toInt64) (enc (sg V (k * S)) (mr n S k) (E k))
theorem op_digest (R : Rl rc ss pr tc tk tf tz tw en bc a ro si mp mq mk ma mb mw mv me) : ∃ r st' my' bb' bt', Yd (fun n => f_X5_digest n rc ss pr tc en bc a) r ∧ Yd (fun n => f_X6_digest n th ro si mp mq st my bb mv me bt) (r, 0, st', my', bb', bt') := by
  obtain ⟨n, S, Q, p, E, ⟨rfl, rfl, rfl, rfl, rfl, rfl, rfl, rfl⟩, ⟨h1, h2, h3, h4, h5⟩, hb, hq, hI, hm⟩ := R
  have hct := ct_le h2 h1
  generalize hd0 : ((((((((109 : Int64) * 31) + (nI n).toInt64) * 31) + (nI S).toInt64) * 31) + (nI p).toInt64) * 31) + (nI Q).toInt64 = d0
  have seg : ∀ k, k * S < n → ∀ d, Yd (fun q => f_X5_digestOf q (nI k) d (nI S) en bc a) (dg ((d * 31 + (nI (E k)).toInt64) * 31 + (nI (sz (sg mv (k * S)) (mr n S k) (E k))).toInt64) (enc (sg mv (k * S)) (mr n S k) (E k))) := by
    intro k hk d
    have hk24 : k < 24 := Nat.lt_of_lt_of_le ((ct_lt (n := n) (S := S) (by omega)).mpr hk) hct
    obtain ⟨i1, i2, i3, i4, i5⟩ := hI k hk
    have hm0 : 0 < mr n S k := by unfold mr; omega
    have hl := enc_len (g := sg mv (k * S)) (e := E k) hm0
    have hroom := enc_room (e := E k) hb h1 h2 h3 hk
    generalize hD : (d * 31 + (nI (E k)).toInt64) * 31 + (nI (sz (sg mv (k * S)) (mr n S k) (E k))).toInt64 = D
    have key : ∀ r i, i + r = sz (sg mv (k * S)) (mr n S k) (E k) → Yd (fun q => f_X5_digestOf_49 q (nI (k * S * 24)) (nI (sz (sg mv (k * S)) (mr n S k) (E k))) (dg D ((enc (sg mv (k * S)) (mr n S k) (E k)).take i)) (nI i) (nI S) en bc a) (dg D (enc (sg mv (k * S)) (mr n S k) (E k))) := by
      intro r
      induction r with
      | zero =>
        intro i hi
        refine s_X5_digestOf_49 ?_
        unfold f_X5_digestOf_49_s
        refine Yd.pos (nI_le (by omega) (by omega)) (Yd.retE ?_)
        rw [show i = (enc (sg mv (k * S)) (mr n S k) (E k)).length by omega, List.take_length]
      | succ r ih =>
        intro i hi
        have hil : i < (enc (sg mv (k * S)) (mr n S k) (E k)).length := by omega
        refine s_X5_digestOf_49 ?_
        unfold f_X5_digestOf_49_s
        refine Yd.neg (nI_ge (by omega) (by omega)) ?_
        rw [nI_add]
        refine Yd.bind (a := (enc (sg mv (k * S)) (mr n S k) (E k))[i]) ?_ ?_
        · unfold f_X0_bitAt
          refine Yd.neg (nI_pos (by omega)) ?_
          refine Yd.neg (nI_ge (a := k * S * 24 + i) (b := 3072) (by omega) (by omega)) ?_
          exact Yd.rd (by omega) (by omega) (Yd.retE (i5 i hil))
        have ih1 := ih (i + 1) (by omega)
        rw [dg_take hil] at ih1
        rw [nI_1]
        exact ih1
    unfold f_X5_digestOf
    refine Yd.bind (q_start k S) ?_
    have g1 := q_get (a := bc) (N := 24) hk24 (by omega)
    rw [i4] at g1
    refine Yd.bind g1 ?_
    have g2 := q_get (a := en) (N := 24) hk24 (by omega)
    rw [i1] at g2
    refine Yd.bind g2 ?_
    rw [hD]
    exact key _ 0 (Nat.zero_add _)
  have ck : ∀ d k, k + d = ct_ n S → Yd (fun q => f_X5_digest_63 q (dgs mv n S E d0 k) (nI (ct_ n S)) (nI k) (nI n) (nI S) (nI p) (nI Q) en bc a) (dgs mv n S E d0 (ct_ n S)) := by
    intro d
    induction d with
    | zero =>
      intro k hk
      refine s_X5_digest_63 ?_
      unfold f_X5_digest_63_s
      refine Yd.pos (nI_le (by omega) (by omega)) (Yd.retE ?_)
      rw [show k = ct_ n S by omega]
    | succ d ih =>
      intro k hk
      have hkn : k * S < n := (ct_lt (by omega)).mp (by omega)
      refine s_X5_digest_63 ?_
      unfold f_X5_digest_63_s
      refine Yd.neg (nI_ge (by omega) (by omega)) ?_
      refine Yd.bind (seg k hkn _) ?_
      rw [nI_1]
      exact ih (k + 1) (by omega)
  have mk' : ∀ d k, k + d = ct_ n S → ∀ st my bb bt, ∃ st' my' bb' bt', Yd (fun q => f_X6_digest_47 q 47 (dgs mv n S E d0 k) (nI k) 0 0 (nI n) (nI S) (nI p) (nI Q) st my bb mv me bt) (dgs mv n S E d0 (ct_ n S), 0, st', my', bb', bt') := by
    intro d
    induction d with
    | zero =>
      intro k hk st my bb bt
      refine ⟨st, my, bb, bt, ?_⟩
      refine s_X6_digest_47 ?_
      unfold f_X6_digest_47_s
      refine Yd.pos rfl ?_
      refine Yd.bind (p_segs h1 h2 h3) ?_
      refine Yd.pos (nI_le (by omega) (by omega)) (Yd.retE ?_)
      rw [show k = ct_ n S by omega]
    | succ d ih =>
      intro k hk st my bb bt
      have hkn : k * S < n := (ct_lt (by omega)).mp (by omega)
      obtain ⟨i1, i2, i3, i4, i5⟩ := hI k hkn
      have hm0 : 0 < mr n S k := by unfold mr; omega
      have hm1 : mr n S k ≤ S := by unfold mr; omega
      have hm2 : k * S + mr n S k ≤ n := by unfold mr; omega
      have hl := enc_len (g := sg mv (k * S)) (e := E k) hm0
      have hcap := sz_le (e := E k) hm0 (by omega) (seg_bd hb hkn)
      generalize hD : (dgs mv n S E d0 k * 31 + (nI (E k)).toInt64) * 31 + (nI (sz (sg mv (k * S)) (mr n S k) (E k))).toInt64 = D
      have eD : dgs mv n S E d0 (k + 1) = dg D (enc (sg mv (k * S)) (mr n S k) (E k)) := by rw [← hD]; rfl
      obtain ⟨st', my', bb', bt', ih1⟩ := ih (k + 1) (by omega) (nI (k * S)) (nI (mr n S k)) (wo 0 bt (enc (sg mv (k * S)) (mr n S k) (E k))).1 (wo 0 bt (enc (sg mv (k * S)) (mr n S k) (E k))).2
      refine ⟨st', my', bb', bt', ?_⟩
      rw [eD] at ih1
      have inner : ∀ r i, i + r = (enc (sg mv (k * S)) (mr n S k) (E k)).length → Yd (fun q => f_X6_digest_47 q 105 (dg D ((enc (sg mv (k * S)) (mr n S k) (E k)).take i)) (nI k) (nI i) 0 (nI n) (nI S) (nI p) (nI Q) (nI (k * S)) (nI (mr n S k)) (wo 0 bt (enc (sg mv (k * S)) (mr n S k) (E k))).1 mv me (wo 0 bt (enc (sg mv (k * S)) (mr n S k) (E k))).2) (dgs mv n S E d0 (ct_ n S), 0, st', my', bb', bt') := by
        intro r
        induction r with
        | zero =>
          intro i hi
          refine s_X6_digest_47 ?_
          unfold f_X6_digest_47_s
          refine Yd.neg (by decide) ?_
          refine Yd.pos (nI_le (a := 0 + (enc (sg mv (k * S)) (mr n S k) (E k)).length) (by omega) (by omega)) ?_
          rw [show i = (enc (sg mv (k * S)) (mr n S k) (E k)).length by omega, List.take_length, nI_1]
          exact ih1
        | succ r ih2 =>
          intro i hi
          have hil : i < (enc (sg mv (k * S)) (mr n S k) (E k)).length := by omega
          refine s_X6_digest_47 ?_
          unfold f_X6_digest_47_s
          refine Yd.neg (by decide) ?_
          refine Yd.neg (nI_ge (b := 0 + (enc (sg mv (k * S)) (mr n S k) (E k)).length) (by omega) (by omega)) ?_
          refine Yd.rd (by omega) (by omega) ?_
          have e := hasb_bl bt 0 (enc (sg mv (k * S)) (mr n S k) (E k)) i hil
          rw [Nat.zero_add] at e
          have ih3 := ih2 (i + 1) (by omega)
          rw [dg_take hil, ← e] at ih3
          rw [nI_1]
          exact ih3
      refine s_X6_digest_47 ?_
      unfold f_X6_digest_47_s
      refine Yd.pos rfl ?_
      refine Yd.bind (p_segs h1 h2 h3) ?_
      refine Yd.neg (nI_ge (by omega) (by omega)) ?_
      refine Yd.bind (p_chs h1 h3 hkn) ?_
      refine Yd.rd (by omega) (by omega) ?_
      rw [hm k hkn]
      refine Yd.bind (p_write (by omega) hm0 (by omega) (seg_bd hb hkn) i2) ?_
      refine Yd.rd (by omega) (by omega) ?_
      rw [hm k hkn]
      have k9 := inner _ 0 (by rw [Nat.zero_add])
      rw [← hD, ← hl] at k9
      have e9 : 0 + (enc (sg mv (k * S)) (mr n S k) (E k)).length = (enc (sg mv (k * S)) (mr n S k) (E k)).length := Nat.zero_add _
      rw [show (wo 0 bt (enc (sg mv (k * S)) (mr n S k) (E k))).1 = nI (enc (sg mv (k * S)) (mr n S k) (E k)).length from congrArg nI e9] at k9 ⊢
      exact k9
  obtain ⟨st', my', bb', bt', hM⟩ := mk' (ct_ n S) 0 (by omega) st my bb bt
  refine ⟨dgs mv n S E d0 (ct_ n S), st', my', bb', bt', ?_, ?_⟩
  · unfold f_X5_digest
    refine Yd.bind (a := nI Q) (by unfold f_X4_count; exact Yd.ret _) ?_
    refine Yd.bind (q_segCount h1 h2 h3) ?_
    rw [hd0]
    exact ck (ct_ n S) 0 (by omega)
  · unfold f_X6_digest
    rw [show (3379 : Int64) = 109 * 31 from rfl, hd0]
    exact hM
end PuS
