/-! the law from its entry to its loop -/
section LwS
theorem st_i0 : Cond.instantiable RX0 2 ∈ lw_tbl := List.mem_append_right _ (List.mem_of_getElem? (i := 59) (by decide +kernel))
theorem st_i1 : Cond.instantiable RX1 4 ∈ lw_tbl := List.mem_append_right _ (List.mem_of_getElem? (i := 114) (by decide +kernel))
theorem st_i2 : Cond.instantiable RX2 11 ∈ lw_tbl := List.mem_append_right _ (List.mem_of_getElem? (i := 72) (by decide +kernel))
theorem st_i3 : Cond.instantiable RX3 1 ∈ lw_tbl := List.mem_append_right _ (List.mem_of_getElem? (i := 30) (by decide +kernel))
theorem st_i4 : Cond.instantiable RX4 5 ∈ lw_tbl := List.mem_append_right _ (List.mem_of_getElem? (i := 24) (by decide +kernel))
theorem st_i5 : Cond.instantiable RX5 10 ∈ lw_tbl := List.mem_append_right _ (List.mem_of_getElem? (i := 16) (by decide +kernel))
theorem st_i6 : Cond.instantiable RX6 15 ∈ lw_tbl := List.mem_append_right _ (List.mem_of_getElem? (i := 727) (by decide +kernel))
theorem st_n5 : Cond.initialized RX5 ∈ lw_tbl := List.mem_append_right _ (List.mem_of_getElem? (i := 1) (by decide +kernel))
theorem st_n6 : Cond.initialized RX6 ∈ lw_tbl := List.mem_append_right _ (List.mem_of_getElem? (i := 7) (by decide +kernel))
theorem st_n7 : Cond.initialized Bundle.tN ∈ lw_tbl := List.mem_append_right _ (List.mem_of_getElem? (i := 8) (by decide +kernel))
theorem st_c5 : Cond.classLink RL 8 RX5 ∈ lw_tbl := List.mem_append_right _ (List.mem_of_getElem? (i := 15) (by decide +kernel))
theorem st_c6 : Cond.classLink RL 69 RX6 ∈ lw_tbl := List.mem_append_right _ (List.mem_of_getElem? (i := 726) (by decide +kernel))
theorem st_m5 : Cond.methodLink RL 68 yX5_init ∈ lw_tbl := List.mem_append_right _ (List.mem_of_getElem? (i := 17) (by decide +kernel))
theorem st_m6 : Cond.methodLink RL 71 yX6_init ∈ lw_tbl := List.mem_append_right _ (List.mem_of_getElem? (i := 728) (by decide +kernel))
theorem st_v5 : Cond.instanceMethod yX5_init ∈ lw_tbl := List.mem_append_right _ (List.mem_of_getElem? (i := 18) (by decide +kernel))
theorem st_v6 : Cond.instanceMethod yX6_init ∈ lw_tbl := List.mem_append_right _ (List.mem_of_getElem? (i := 729) (by decide +kernel))
theorem st_aI : Cond.arrayClass .int ∈ lw_tbl := List.mem_append_right _ (List.mem_of_getElem? (i := 39) (by decide +kernel))
theorem st_aL : Cond.arrayClass .long ∈ lw_tbl := List.mem_append_right _ (List.mem_of_getElem? (i := 1018) (by decide +kernel))
theorem st_l1 : Cond.laysStatic Bundle.tN "UNASSIGNED_STACK" Bundle.steD ∈ lw_tbl := List.mem_append_right _ (List.mem_of_getElem? (i := 505) (by decide +kernel))
theorem st_l2 : Cond.laysStatic Bundle.tN "SUPPRESSED_SENTINEL" Bundle.listD ∈ lw_tbl := List.mem_append_right _ (List.mem_of_getElem? (i := 507) (by decide +kernel))
set_option maxRecDepth 20000 in
theorem st_s1 : ∀ q ∈ fr_strs, Cond.stringRef RX5 q.1 q.2 ∈ lw_tbl := by decide +kernel
set_option maxRecDepth 20000 in
theorem st_xw : ∀ w ∈ fr_xw, w ∈ lw_tbl := by decide +kernel
set_option maxRecDepth 20000 in
theorem st_s2 : ∀ q ∈ fr_strs, Cond.exactly (.string RX5 q.1) "java/lang/String" ∈ flatC (Jvm.Cond.and given_1 narrow_1) := by decide +kernel
theorem st_r1 : Cond.isRef (.static Bundle.tN "UNASSIGNED_STACK" Bundle.steD) ∈ flatC (Jvm.Cond.and given_1 narrow_1) := List.mem_of_getElem? (i := 4) (by decide +kernel)
theorem st_r2 : Cond.isRef (.static Bundle.tN "SUPPRESSED_SENTINEL" Bundle.listD) ∈ flatC (Jvm.Cond.and given_1 narrow_1) := List.mem_of_getElem? (i := 5) (by decide +kernel)
theorem st_k1 : Cond.not (.castable xS xA) ∈ flatC (Jvm.Cond.and given_1 narrow_1) := List.mem_of_getElem? (i := 13) (by decide +kernel)
theorem st_k2 : Cond.not (.castable xA xI) ∈ flatC (Jvm.Cond.and given_1 narrow_1) := List.mem_of_getElem? (i := 31) (by decide +kernel)
theorem st_flag {l : Launch} (h : l.flags = flags0) : l.stackTraces = false := by
  unfold Launch.stackTraces
  rw [h]
  decide +kernel
theorem st_Z {s : State} {args : Array Value} (hts : ∀ w ∈ lw_tbl, w.before args s = true) (hgv : (Jvm.Cond.and given_1 narrow_1).before args s = true) : fr_ZL (fun q : Nat => s.heap.size ≤ q) s s.heap := by
  have hfl := flat_of_before _ hgv
  have hnA : ∀ a : Nat, a < s.heap.size → ¬ (fun q : Nat => s.heap.size ≤ q) a := fun a h1 h2 => absurd h1 (Nat.not_lt.mpr h2)
  refine ⟨⟨vx_Zqof (hts _ st_l1) (hts _ st_n7) (hfl _ st_r1) hnA, vx_Zqof (hts _ st_l2) (hts _ st_n7) (hfl _ st_r2) hnA, fun q hq => ?_, fun w hw => va_Nw.of (fr_xw_t w hw) (hts w (st_xw w hw))⟩, va_Nc.of (hfl _ st_k1), va_Nc.of (hfl _ st_k2)⟩
  obtain ⟨a, c, cell, k, h1, -⟩ := Cond.exactly_spec (hfl _ (st_s2 q hq))
  exact ⟨a, vk_R.of (hts _ (st_s1 q hq)) h1⟩
theorem st_K {s : State} {args : Array Value} (hts : ∀ w ∈ lw_tbl, w.before args s = true) : ∃ (D : va_G) (cI cL : ClassId), va_K D vwCl [(cI, .int), (cL, .long)] s := by
  obtain ⟨c0, iS0, hKn0⟩ := u_known (C := RX0) (T := TX0) (N := 2) (n := 2) hts inX0 (hts _ st_i0)
  obtain ⟨c1, iS1, hKn1⟩ := u_known (C := RX1) (T := TX1) (N := 4) (n := 4) hts inX1 (hts _ st_i1)
  obtain ⟨c2, iS2, hKn2⟩ := u_known (C := RX2) (T := TX2) (N := 11) (n := 11) hts inX2 (hts _ st_i2)
  obtain ⟨c3, iS3, hKn3⟩ := u_known (C := RX3) (T := TX3) (N := 1) (n := 1) hts inX3 (hts _ st_i3)
  obtain ⟨c4, iS4, hKn4⟩ := u_known (C := RX4) (T := TX4) (N := 5) (n := 5) hts inX4 (hts _ st_i4)
  obtain ⟨c5, iS5, hKn5⟩ := u_known (C := RX5) (T := TX5) (N := 10) (n := 10) hts inX5 (hts _ st_i5)
  obtain ⟨c6, iS6, hKn6⟩ := u_known (C := RX6) (T := TX6) (N := 15) (n := 15) hts inX6 (hts _ st_i6)
  obtain ⟨cI, kI, pI, fI, gI, eI⟩ := Cond.arrayClass_spec (hts _ st_aI)
  obtain ⟨cL, kL, pL, fL, gL, eL⟩ := Cond.arrayClass_spec (hts _ st_aL)
  refine ⟨(fun k => match k with | 0 => c0 | 1 => c1 | 2 => c2 | 3 => c3 | 4 => c4 | 5 => c5 | _ => c6, fun k => match k with | 0 => iS0 | 1 => iS1 | 2 => iS2 | 3 => iS3 | 4 => iS4 | 5 => iS5 | _ => iS6), cI, cL, ?_, ?_⟩
  · intro k q hq
    match k, hq with
    | 0, hq => cases hq; exact hKn0
    | 1, hq => cases hq; exact hKn1
    | 2, hq => cases hq; exact hKn2
    | 3, hq => cases hq; exact hKn3
    | 4, hq => cases hq; exact hKn4
    | 5, hq => cases hq; exact hKn5
    | 6, hq => cases hq; exact hKn6
    | k + 7, hq => exact absurd (List.getElem?_eq_some_iff.mp hq).1 (show ¬ k + 7 < 7 by omega)
  · intro k q hq
    match k, hq with
    | 0, hq => cases hq; exact ⟨fun n z => ⟨fun k h => (by cases h), kI, gI, pI, eI⟩, fI⟩
    | 1, hq => cases hq; exact ⟨fun n z => ⟨fun k h => (by cases h), kL, gL, pL, eL⟩, fL⟩
    | k + 2, hq => exact absurd (List.getElem?_eq_some_iff.mp hq).1 (show ¬ k + 2 < 2 by omega)
theorem st_R : Rl 0 16 1 0 (fun _ => 0) (fun _ => 0) (fun _ => 0) (fun _ => 0) (fun _ => 0) (fun _ => 0) (fun _ => 0) 0 16 1 0 (fun _ => 0) (fun _ => 0) (fun _ => 0) (fun _ => 0) (fun _ => 0) (fun _ => 0) :=
  ⟨0, 16, 0, 1, fun _ => 0, ⟨by decide, by decide, by decide, by decide, by decide, by decide, by decide, by decide⟩, ⟨by decide, by decide, by decide, by decide, by decide⟩, fun j hj => absurd hj (Nat.not_lt_zero _), fun q hq => absurd hq (Nat.not_lt_zero _), fun k hk => absurd hk (Nat.not_lt_zero _), fun k hk => absurd hk (Nat.not_lt_zero _)⟩
set_option maxHeartbeats 4000000 in
set_option maxRecDepth 100000 in
/-- the law, from its entry -/
theorem whole_start {p : Program} {e : Env} {s : State} {m : MethodId} {below : List Frame} {meth : Method} {c : Code} (l : Launch) (hflags : l.flags = flags0) {b L : Nat} {xs : Nat → Int32} (hL : L ≤ 2560) (C0 : lw_At p s m meth c b L xs) : W p l e room_1 s m #[Value.ref b] below meth c s.heap [] 0 0 (lw_Z below #[Value.ref b] s) (entryFrame m ([Value.ref b] : List Value).toArray 9) := by
  obtain ⟨hx, hb, hr, hml, hown, hts0, hX, hbl, hlocks, hgv⟩ := id C0
  have hown : s.vm.findClass RL = some m.cls := hown
  have hb : c.code = cL_law := hb
  have hts : ∀ w ∈ wsL_law, w.before #[Value.ref b] s = true := fun w h => hts0 w (wsL_law_in w h)
  have hA : ∀ q : Nat, s.heap.size ≤ q → (fun q : Nat => s.heap.size ≤ q) q := fun _ h => h
  have hbA : ¬ (fun q : Nat => s.heap.size ≤ q) b := Nat.not_le.mpr hbl
  have hZ := st_Z hts0 hgv
  obtain ⟨D, cI, cL, hK⟩ := st_K hts0
  have hKi : va_K D vwCl [(cI, .int)] s := hK.sub [0] rfl
  have hC : LX p l s m #[Value.ref b] c (fun q : Nat => s.heap.size ≤ q) s.heap D cI cL b L xs := ⟨hx, hb, hml, hown, hts, hA, hK, hZ, hX, hbl, hbA, st_flag hflags⟩
  have hS : va_S (fun q : Nat => s.heap.size ≤ q) s.heap s.heap [] := va_S.rf
  have hP : va_P D vwCl [] s.heap := fun k q h => by simp at h
  have hD : va_D (fun q : Nat => s.heap.size ≤ q) [] := ⟨fun i j p q h => by simp at h, fun k q h => by simp at h⟩
  have hl := lv_entry ([.ref b]) (n := 9) (Nat.le_of_ble_eq_true rfl)
  rw [lg_entry_eq]
  generalize (lg_sl ([.ref b]) ++ List.replicate (9 - (lg_sl ([.ref b])).length) Slot.unset).toArray = ls at hl ⊢
  have hl : lv_has ls 9 [(0, .ref b)] := hl
  refine va_new (ci := 5) (fs := [.int 0, .int 0, .int 0, .null, .null, .null, .null, .null, .null, .null]) (C := RX5) (T := TX5) (N := 10) hx hb hts0 inX5 tyX5 tyX5_ok hown (hts0 _ st_c5) (hts0 _ st_i5) (hts0 _ st_n5) hK hP hD hS hA rfl (fun j hj => by rcases (show j = 0 ∨ j = 1 ∨ j = 2 ∨ j = 3 ∨ j = 4 ∨ j = 5 ∨ j = 6 ∨ j = 7 ∨ j = 8 ∨ j = 9 by omega) with rfl | rfl | rfl | rfl | rfl | rfl | rfl | rfl | rfl | rfl <;> rfl) (Nat.le_of_ble_eq_true rfl) (Nat.le_of_ble_eq_true rfl) dL_law_0 (fun q5 H hP hD hS => ?_)
  have hP : va_P D vwCl [(q5, .inr (5, [.int 0, .int 0, .int 0, .null, .null, .null, .null, .null, .null, .null]))] H := hP
  have hD : va_D (fun q : Nat => s.heap.size ≤ q) [(q5, .inr (5, [.int 0, .int 0, .int 0, .null, .null, .null, .null, .null, .null, .null]))] := hD
  refine lv_dup hx hb dL_law_3 rfl ?_
  refine fr_vI (As := []) ⟨hx, hb, hml, hown, hts⟩ hKi hP hD hS hA (n_X5_init l D cI q5) (cwI 0 hts gL_law_X5_init rfl rfl rfl (hts0 _ st_n5) (hts0 _ st_m5) (hts0 _ st_v5) rfl (by decide +kernel) ⟨Nat.le_of_ble_eq_true rfl, Nat.le_of_ble_eq_true rfl⟩) [] [0] [] rfl rfl (by decide) (by decide) (by decide) rfl hl.1 (Nat.le_of_ble_eq_true rfl) dL_law_4 ⟨Nat.le_of_ble_eq_true rfl, Nat.le_of_ble_eq_true rfl⟩ rfl (fun u H locs hP hD hS => ?_)
  have hP : va_P D vwCl [(q5, .inr (5, [.int 0, .int 16, .int 1, .ref (u 0), .ref (u 9), .ref (u 11), .ref (u 13), .ref (u 15), .ref (u 17), .ref (u 22)])), ((u 0), .inr (4, [.ref (u 1), .ref (u 3), .ref (u 5), .ref (u 7), .int 0])), ((u 1), .inr (3, [.ref (u 2)])), ((u 2), .inl (cI, 20, .inl (fun _ => 0))), ((u 3), .inr (3, [.ref (u 4)])), ((u 4), .inl (cI, 20, .inl (fun _ => 0))), ((u 5), .inr (3, [.ref (u 6)])), ((u 6), .inl (cI, 20, .inl (fun _ => 0))), ((u 7), .inr (3, [.ref (u 8)])), ((u 8), .inl (cI, 20, .inl (fun _ => 0))), ((u 9), .inr (3, [.ref (u 10)])), ((u 10), .inl (cI, 24, .inl (fun _ => 0))), ((u 11), .inr (3, [.ref (u 12)])), ((u 12), .inl (cI, 24, .inl (fun _ => 0))), ((u 13), .inr (0, [.ref (u 14), .int 0])), ((u 14), .inl (cI, 3072, .inl (fun _ => 0))), ((u 15), .inr (3, [.ref (u 16)])), ((u 16), .inl (cI, 96, .inl (fun _ => 0))), ((u 17), .inr (2, [.ref (u 15), .ref (u 18), .ref (u 20), .int 0, .int 0, .int 0, .int 0, .int 0, .int 0, .int 0, .int 0])), ((u 18), .inr (3, [.ref (u 19)])), ((u 19), .inl (cI, 32, .inl (fun _ => 0))), ((u 20), .inr (3, [.ref (u 21)])), ((u 21), .inl (cI, 32, .inl (fun _ => 0))), ((u 22), .inr (1, [.ref (u 15), .ref (u 17), .ref (u 13), .ref (u 23)])), ((u 23), .inr (3, [.ref (u 24)])), ((u 24), .inl (cI, 32, .inl (fun _ => 0)))] H := hP
  have hD : va_D (fun q : Nat => s.heap.size ≤ q) [(q5, .inr (5, [.int 0, .int 16, .int 1, .ref (u 0), .ref (u 9), .ref (u 11), .ref (u 13), .ref (u 15), .ref (u 17), .ref (u 22)])), ((u 0), .inr (4, [.ref (u 1), .ref (u 3), .ref (u 5), .ref (u 7), .int 0])), ((u 1), .inr (3, [.ref (u 2)])), ((u 2), .inl (cI, 20, .inl (fun _ => 0))), ((u 3), .inr (3, [.ref (u 4)])), ((u 4), .inl (cI, 20, .inl (fun _ => 0))), ((u 5), .inr (3, [.ref (u 6)])), ((u 6), .inl (cI, 20, .inl (fun _ => 0))), ((u 7), .inr (3, [.ref (u 8)])), ((u 8), .inl (cI, 20, .inl (fun _ => 0))), ((u 9), .inr (3, [.ref (u 10)])), ((u 10), .inl (cI, 24, .inl (fun _ => 0))), ((u 11), .inr (3, [.ref (u 12)])), ((u 12), .inl (cI, 24, .inl (fun _ => 0))), ((u 13), .inr (0, [.ref (u 14), .int 0])), ((u 14), .inl (cI, 3072, .inl (fun _ => 0))), ((u 15), .inr (3, [.ref (u 16)])), ((u 16), .inl (cI, 96, .inl (fun _ => 0))), ((u 17), .inr (2, [.ref (u 15), .ref (u 18), .ref (u 20), .int 0, .int 0, .int 0, .int 0, .int 0, .int 0, .int 0, .int 0])), ((u 18), .inr (3, [.ref (u 19)])), ((u 19), .inl (cI, 32, .inl (fun _ => 0))), ((u 20), .inr (3, [.ref (u 21)])), ((u 21), .inl (cI, 32, .inl (fun _ => 0))), ((u 22), .inr (1, [.ref (u 15), .ref (u 17), .ref (u 13), .ref (u 23)])), ((u 23), .inr (3, [.ref (u 24)])), ((u 24), .inl (cI, 32, .inl (fun _ => 0)))] := hD
  refine lv_astore_n (lv' := [(1, .ref q5), (0, .ref b)]) hx hb dL_law_7 rfl hl (by decide) rfl (fun ls hl => ?_)
  refine va_new (ci := 6) (fs := [.int 0, .int 0, .null, .int 0, .null, .int 0, .int 0, .null, .null, .null, .null, .int 0, .int 0, .int 0, .null]) (C := RX6) (T := TX6) (N := 15) hx hb hts0 inX6 tyX6 tyX6_ok hown (hts0 _ st_c6) (hts0 _ st_i6) (hts0 _ st_n6) hK hP hD hS hA rfl (fun j hj => by rcases (show j = 0 ∨ j = 1 ∨ j = 2 ∨ j = 3 ∨ j = 4 ∨ j = 5 ∨ j = 6 ∨ j = 7 ∨ j = 8 ∨ j = 9 ∨ j = 10 ∨ j = 11 ∨ j = 12 ∨ j = 13 ∨ j = 14 by omega) with rfl | rfl | rfl | rfl | rfl | rfl | rfl | rfl | rfl | rfl | rfl | rfl | rfl | rfl | rfl <;> rfl) (Nat.le_of_ble_eq_true rfl) (Nat.le_of_ble_eq_true rfl) dL_law_8 (fun q6 H hP hD hS => ?_)
  have hP : va_P D vwCl [(q5, .inr (5, [.int 0, .int 16, .int 1, .ref (u 0), .ref (u 9), .ref (u 11), .ref (u 13), .ref (u 15), .ref (u 17), .ref (u 22)])), ((u 0), .inr (4, [.ref (u 1), .ref (u 3), .ref (u 5), .ref (u 7), .int 0])), ((u 1), .inr (3, [.ref (u 2)])), ((u 2), .inl (cI, 20, .inl (fun _ => 0))), ((u 3), .inr (3, [.ref (u 4)])), ((u 4), .inl (cI, 20, .inl (fun _ => 0))), ((u 5), .inr (3, [.ref (u 6)])), ((u 6), .inl (cI, 20, .inl (fun _ => 0))), ((u 7), .inr (3, [.ref (u 8)])), ((u 8), .inl (cI, 20, .inl (fun _ => 0))), ((u 9), .inr (3, [.ref (u 10)])), ((u 10), .inl (cI, 24, .inl (fun _ => 0))), ((u 11), .inr (3, [.ref (u 12)])), ((u 12), .inl (cI, 24, .inl (fun _ => 0))), ((u 13), .inr (0, [.ref (u 14), .int 0])), ((u 14), .inl (cI, 3072, .inl (fun _ => 0))), ((u 15), .inr (3, [.ref (u 16)])), ((u 16), .inl (cI, 96, .inl (fun _ => 0))), ((u 17), .inr (2, [.ref (u 15), .ref (u 18), .ref (u 20), .int 0, .int 0, .int 0, .int 0, .int 0, .int 0, .int 0, .int 0])), ((u 18), .inr (3, [.ref (u 19)])), ((u 19), .inl (cI, 32, .inl (fun _ => 0))), ((u 20), .inr (3, [.ref (u 21)])), ((u 21), .inl (cI, 32, .inl (fun _ => 0))), ((u 22), .inr (1, [.ref (u 15), .ref (u 17), .ref (u 13), .ref (u 23)])), ((u 23), .inr (3, [.ref (u 24)])), ((u 24), .inl (cI, 32, .inl (fun _ => 0))), (q6, .inr (6, [.int 0, .int 0, .null, .int 0, .null, .int 0, .int 0, .null, .null, .null, .null, .int 0, .int 0, .int 0, .null]))] H := hP
  have hD : va_D (fun q : Nat => s.heap.size ≤ q) [(q5, .inr (5, [.int 0, .int 16, .int 1, .ref (u 0), .ref (u 9), .ref (u 11), .ref (u 13), .ref (u 15), .ref (u 17), .ref (u 22)])), ((u 0), .inr (4, [.ref (u 1), .ref (u 3), .ref (u 5), .ref (u 7), .int 0])), ((u 1), .inr (3, [.ref (u 2)])), ((u 2), .inl (cI, 20, .inl (fun _ => 0))), ((u 3), .inr (3, [.ref (u 4)])), ((u 4), .inl (cI, 20, .inl (fun _ => 0))), ((u 5), .inr (3, [.ref (u 6)])), ((u 6), .inl (cI, 20, .inl (fun _ => 0))), ((u 7), .inr (3, [.ref (u 8)])), ((u 8), .inl (cI, 20, .inl (fun _ => 0))), ((u 9), .inr (3, [.ref (u 10)])), ((u 10), .inl (cI, 24, .inl (fun _ => 0))), ((u 11), .inr (3, [.ref (u 12)])), ((u 12), .inl (cI, 24, .inl (fun _ => 0))), ((u 13), .inr (0, [.ref (u 14), .int 0])), ((u 14), .inl (cI, 3072, .inl (fun _ => 0))), ((u 15), .inr (3, [.ref (u 16)])), ((u 16), .inl (cI, 96, .inl (fun _ => 0))), ((u 17), .inr (2, [.ref (u 15), .ref (u 18), .ref (u 20), .int 0, .int 0, .int 0, .int 0, .int 0, .int 0, .int 0, .int 0])), ((u 18), .inr (3, [.ref (u 19)])), ((u 19), .inl (cI, 32, .inl (fun _ => 0))), ((u 20), .inr (3, [.ref (u 21)])), ((u 21), .inl (cI, 32, .inl (fun _ => 0))), ((u 22), .inr (1, [.ref (u 15), .ref (u 17), .ref (u 13), .ref (u 23)])), ((u 23), .inr (3, [.ref (u 24)])), ((u 24), .inl (cI, 32, .inl (fun _ => 0))), (q6, .inr (6, [.int 0, .int 0, .null, .int 0, .null, .int 0, .int 0, .null, .null, .null, .null, .int 0, .int 0, .int 0, .null]))] := hD
  refine lv_dup hx hb dL_law_11 rfl ?_
  refine fr_vI (As := []) ⟨hx, hb, hml, hown, hts⟩ hKi hP hD hS hA (n_X6_init l D cI q6) (cwI 0 hts gL_law_X6_init rfl rfl rfl (hts0 _ st_n6) (hts0 _ st_m6) (hts0 _ st_v6) rfl (by decide +kernel) ⟨Nat.le_of_ble_eq_true rfl, Nat.le_of_ble_eq_true rfl⟩) [(q5, .inr (5, [.int 0, .int 16, .int 1, .ref (u 0), .ref (u 9), .ref (u 11), .ref (u 13), .ref (u 15), .ref (u 17), .ref (u 22)])), ((u 0), .inr (4, [.ref (u 1), .ref (u 3), .ref (u 5), .ref (u 7), .int 0])), ((u 1), .inr (3, [.ref (u 2)])), ((u 2), .inl (cI, 20, .inl (fun _ => 0))), ((u 3), .inr (3, [.ref (u 4)])), ((u 4), .inl (cI, 20, .inl (fun _ => 0))), ((u 5), .inr (3, [.ref (u 6)])), ((u 6), .inl (cI, 20, .inl (fun _ => 0))), ((u 7), .inr (3, [.ref (u 8)])), ((u 8), .inl (cI, 20, .inl (fun _ => 0))), ((u 9), .inr (3, [.ref (u 10)])), ((u 10), .inl (cI, 24, .inl (fun _ => 0))), ((u 11), .inr (3, [.ref (u 12)])), ((u 12), .inl (cI, 24, .inl (fun _ => 0))), ((u 13), .inr (0, [.ref (u 14), .int 0])), ((u 14), .inl (cI, 3072, .inl (fun _ => 0))), ((u 15), .inr (3, [.ref (u 16)])), ((u 16), .inl (cI, 96, .inl (fun _ => 0))), ((u 17), .inr (2, [.ref (u 15), .ref (u 18), .ref (u 20), .int 0, .int 0, .int 0, .int 0, .int 0, .int 0, .int 0, .int 0])), ((u 18), .inr (3, [.ref (u 19)])), ((u 19), .inl (cI, 32, .inl (fun _ => 0))), ((u 20), .inr (3, [.ref (u 21)])), ((u 21), .inl (cI, 32, .inl (fun _ => 0))), ((u 22), .inr (1, [.ref (u 15), .ref (u 17), .ref (u 13), .ref (u 23)])), ((u 23), .inr (3, [.ref (u 24)])), ((u 24), .inl (cI, 32, .inl (fun _ => 0)))] [26] [0, 1, 2, 3, 4, 5, 6, 7, 8, 9, 10, 11, 12, 13, 14, 15, 16, 17, 18, 19, 20, 21, 22, 23, 24, 25] rfl rfl (by decide) (by decide) (by decide) rfl hl.1 (Nat.le_of_ble_eq_true rfl) dL_law_12 ⟨Nat.le_of_ble_eq_true rfl, Nat.le_of_ble_eq_true rfl⟩ rfl (fun w H locs hP hD hS => ?_)
  have hP : va_P D vwCl [(q5, .inr (5, [.int 0, .int 16, .int 1, .ref (u 0), .ref (u 9), .ref (u 11), .ref (u 13), .ref (u 15), .ref (u 17), .ref (u 22)])), ((u 0), .inr (4, [.ref (u 1), .ref (u 3), .ref (u 5), .ref (u 7), .int 0])), ((u 1), .inr (3, [.ref (u 2)])), ((u 2), .inl (cI, 20, .inl (fun _ => 0))), ((u 3), .inr (3, [.ref (u 4)])), ((u 4), .inl (cI, 20, .inl (fun _ => 0))), ((u 5), .inr (3, [.ref (u 6)])), ((u 6), .inl (cI, 20, .inl (fun _ => 0))), ((u 7), .inr (3, [.ref (u 8)])), ((u 8), .inl (cI, 20, .inl (fun _ => 0))), ((u 9), .inr (3, [.ref (u 10)])), ((u 10), .inl (cI, 24, .inl (fun _ => 0))), ((u 11), .inr (3, [.ref (u 12)])), ((u 12), .inl (cI, 24, .inl (fun _ => 0))), ((u 13), .inr (0, [.ref (u 14), .int 0])), ((u 14), .inl (cI, 3072, .inl (fun _ => 0))), ((u 15), .inr (3, [.ref (u 16)])), ((u 16), .inl (cI, 96, .inl (fun _ => 0))), ((u 17), .inr (2, [.ref (u 15), .ref (u 18), .ref (u 20), .int 0, .int 0, .int 0, .int 0, .int 0, .int 0, .int 0, .int 0])), ((u 18), .inr (3, [.ref (u 19)])), ((u 19), .inl (cI, 32, .inl (fun _ => 0))), ((u 20), .inr (3, [.ref (u 21)])), ((u 21), .inl (cI, 32, .inl (fun _ => 0))), ((u 22), .inr (1, [.ref (u 15), .ref (u 17), .ref (u 13), .ref (u 23)])), ((u 23), .inr (3, [.ref (u 24)])), ((u 24), .inl (cI, 32, .inl (fun _ => 0))), (q6, .inr (6, [.int 0, .int 0, .ref (w 0), .int 16, .ref (w 1), .int 1, .int 0, .ref (w 2), .ref (w 3), .ref (w 4), .ref (w 5), .int 0, .int 0, .int 0, .ref (w 6)])), ((w 0), .inl (cI, 96, .inl (fun _ => 0))), ((w 1), .inl (cI, 96, .inl (fun _ => 0))), ((w 2), .inl (cI, 20, .inl (fun _ => 0))), ((w 3), .inl (cI, 20, .inl (fun _ => 0))), ((w 4), .inl (cI, 20, .inl (fun _ => 0))), ((w 5), .inl (cI, 20, .inl (fun _ => 0))), ((w 6), .inl (cI, 2000, .inl (fun _ => 0)))] H := hP
  have hD : va_D (fun q : Nat => s.heap.size ≤ q) [(q5, .inr (5, [.int 0, .int 16, .int 1, .ref (u 0), .ref (u 9), .ref (u 11), .ref (u 13), .ref (u 15), .ref (u 17), .ref (u 22)])), ((u 0), .inr (4, [.ref (u 1), .ref (u 3), .ref (u 5), .ref (u 7), .int 0])), ((u 1), .inr (3, [.ref (u 2)])), ((u 2), .inl (cI, 20, .inl (fun _ => 0))), ((u 3), .inr (3, [.ref (u 4)])), ((u 4), .inl (cI, 20, .inl (fun _ => 0))), ((u 5), .inr (3, [.ref (u 6)])), ((u 6), .inl (cI, 20, .inl (fun _ => 0))), ((u 7), .inr (3, [.ref (u 8)])), ((u 8), .inl (cI, 20, .inl (fun _ => 0))), ((u 9), .inr (3, [.ref (u 10)])), ((u 10), .inl (cI, 24, .inl (fun _ => 0))), ((u 11), .inr (3, [.ref (u 12)])), ((u 12), .inl (cI, 24, .inl (fun _ => 0))), ((u 13), .inr (0, [.ref (u 14), .int 0])), ((u 14), .inl (cI, 3072, .inl (fun _ => 0))), ((u 15), .inr (3, [.ref (u 16)])), ((u 16), .inl (cI, 96, .inl (fun _ => 0))), ((u 17), .inr (2, [.ref (u 15), .ref (u 18), .ref (u 20), .int 0, .int 0, .int 0, .int 0, .int 0, .int 0, .int 0, .int 0])), ((u 18), .inr (3, [.ref (u 19)])), ((u 19), .inl (cI, 32, .inl (fun _ => 0))), ((u 20), .inr (3, [.ref (u 21)])), ((u 21), .inl (cI, 32, .inl (fun _ => 0))), ((u 22), .inr (1, [.ref (u 15), .ref (u 17), .ref (u 13), .ref (u 23)])), ((u 23), .inr (3, [.ref (u 24)])), ((u 24), .inl (cI, 32, .inl (fun _ => 0))), (q6, .inr (6, [.int 0, .int 0, .ref (w 0), .int 16, .ref (w 1), .int 1, .int 0, .ref (w 2), .ref (w 3), .ref (w 4), .ref (w 5), .int 0, .int 0, .int 0, .ref (w 6)])), ((w 0), .inl (cI, 96, .inl (fun _ => 0))), ((w 1), .inl (cI, 96, .inl (fun _ => 0))), ((w 2), .inl (cI, 20, .inl (fun _ => 0))), ((w 3), .inl (cI, 20, .inl (fun _ => 0))), ((w 4), .inl (cI, 20, .inl (fun _ => 0))), ((w 5), .inl (cI, 20, .inl (fun _ => 0))), ((w 6), .inl (cI, 2000, .inl (fun _ => 0)))] := hD
  refine lv_astore_n (lv' := [(2, .ref q6), (1, .ref q5), (0, .ref b)]) hx hb dL_law_15 rfl hl (by decide) rfl (fun ls hl => ?_)
  refine lv_iconst (v := 1) hx hb dL_law_16 (by decide) ?_
  refine va_newa (atype := .long) hx hb (hts0 _ st_aL) (ty := .long) rfl hK hP hD hS hA (a0 := (1, .inr (.inl (fun _ => 0)))) (fun cA => rfl) (by decide) (show (1 : Int32).toNatClampNeg = 1 by decide) (Nat.le_of_ble_eq_true rfl) (Nat.le_of_ble_eq_true rfl) (Nat.le_of_ble_eq_true rfl) dL_law_17 (fun q9 cA H hK2 hP hD hS => ?_)
  have hc1 := (hK2.2 2 (cA, .long) rfl).2
  have hc0 := (hK.2 1 (cL, .long) rfl).2
  have he : cA = cL := Option.some.inj (Eq.trans (Eq.symm hc1) hc0)
  subst he
  refine lv_astore_n (lv' := [(3, .ref q9), (2, .ref q6), (1, .ref q5), (0, .ref b)]) hx hb dL_law_19 rfl hl (by decide) rfl (fun ls hl => ?_)
  refine lv_iconst (v := 0) hx hb dL_law_20 (by decide) ?_
  refine lv_istore (lv' := [(4, .int 0), (3, .ref q9), (2, .ref q6), (1, .ref q5), (0, .ref b)]) hx hb dL_law_21 hl (by decide) rfl (fun ls hl => ?_)
  refine W.base ?_
  exact law_loop (q := fun k => ([q5, u 0, u 1, u 2, u 3, u 4, u 5, u 6, u 7, u 8, u 9, u 10, u 11, u 12, u 13, u 14, u 15, u 16, u 17, u 18, u 19, u 20, u 21, u 22, u 23, u 24, q6, w 0, w 1, w 2, w 3, w 4, w 5, w 6, q9] : List Nat).getD k 0) hC hr hlocks hL 513 0 rfl s.drawn _ _ ls (Drawn.sameBut.refl s.drawn lw_cs) (Nat.zero_le _) ⟨0, 16, 1, 0, (fun _ => 0), (fun _ => 0), (fun _ => 0), (fun _ => 0), (fun _ => 0), (fun _ => 0), 0, (fun _ => 0), (fun _ => 0), 0, 0, 0, 0, 0, 0, 0, 0, (fun _ => 0), (fun _ => 0), (fun _ => 0), 0, 0, 16, 1, 0, 0, 0, 0, (fun _ => 0), (fun _ => 0), (fun _ => 0), (fun _ => 0), (fun _ => 0), (fun _ => 0), (fun _ => 0), (fun _ => 0), hP, hD, hS, st_R⟩ (lv_sub hl [4, 3, 2, 1, 0] rfl)
end LwS
