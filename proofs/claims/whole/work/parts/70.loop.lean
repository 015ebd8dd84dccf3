/-! the law's loop, by the number of calls done -/
section LwL
theorem lp_in {L t : Nat} (hL : L ≤ 2560) (hd : ¬ Int32.ofNat L - 5 < nI (5 * t)) (ht : 5 * t ≤ L) : 5 * t + 5 ≤ L := by
  rcases Nat.lt_or_ge L 5 with h | h
  · exfalso
    have h0 : t = 0 := by omega
    subst h0
    apply hd
    rcases (show L = 0 ∨ L = 1 ∨ L = 2 ∨ L = 3 ∨ L = 4 by omega) with rfl | rfl | rfl | rfl | rfl <;> decide
  · rcases Nat.lt_or_ge L (5 * t + 5) with h2 | h2
    · exfalso
      apply hd
      have e : Int32.ofNat L - 5 = nI (L - 5) := nI_sub (a := L) (b := 5) h
      rw [e]
      exact nI_lt (by omega) (by omega)
    · exact h2
theorem lp_at {L t : Nat} (hL : L ≤ 2560) (h : 5 * t + 5 ≤ L) (k : Nat) (hk : k < 5) : vp_in (nI (5 * t) + nI k) L := by
  rw [nI_add]
  exact nI_in (by omega) (by omega)
set_option maxHeartbeats 4000000 in
set_option maxRecDepth 100000 in
theorem law_loop {p : Program} {l : Launch} {e : Env} {s : State} {m : MethodId} {below : List Frame} {meth : Method} {c : Code} {D : va_G} {cI cL : ClassId} {q : Nat → Nat} {sb L : Nat} {xs : Nat → Int32} (hC : LX p l s m #[Value.ref sb] c (fun q : Nat => s.heap.size ≤ q) s.heap D cI cL sb L xs) (hr : meth.sig.returnType = ret) (hlocks : meth.locks = false) (hL : L ≤ 2560) :
    ∀ (r t : Nat), t + r = 513 → ∀ (d0 : Drawn) (H : Heap) (locs : List Loc) (ls : Array Slot), s.drawn.sameBut d0 lw_cs → 5 * t ≤ L → LI D (fun q : Nat => s.heap.size ≤ q) s.heap cI cL q H locs → lv_has ls 9 [(0, .ref sb), (1, .ref (q 0)), (2, .ref (q 26)), (3, .ref (q 34)), (4, .int (nI (5 * t)))] → W p l e room_1 (s.setDrawn d0) m #[Value.ref sb] below meth c H locs (35 + t) (5722 + 6 * t) (lw_Z below #[Value.ref sb] s) (F0 m 23 ls []) := by
  intro r
  induction r with
  | zero =>
    intro t ht d0 H locs ls hd0 h5
    omega
  | succ r ih =>
    intro t ht d0 H locs ls hd0 h5 hI hl
    obtain ⟨hx, hb, hml, hown, hts, hA, hK, hZ, hX, hbl, hbA, hnt⟩ := id hC
    have hS : va_S (fun q : Nat => s.heap.size ≤ q) s.heap H locs := by
      obtain ⟨rc, ss, pr, tc, tk, tf, tz, tw, en, bc, pl, a, co, fr0, my0, rc0, dc0, le0, iw0, fd0, dd0, ru0, di0, li, th, ro, si, mp, mq, st, my, bb, mv, me, mk, ma, mb, mw, bt, ot, hP, hD, hS, hR⟩ := hI
      exact hS
    refine lv_iload hx hb dL_law_23 (lv_at hl 4 rfl) ?_
    refine lv_aload_n hx hb dL_law_25 rfl (lv_at hl 0 rfl) ?_
    refine va_slen (s := s.setDrawn d0) hx hb hX hbl hbA hS dL_law_26 ?_
    refine lv_iconst (v := 5) hx hb dL_law_27 (by decide) ?_
    refine lv_isub hx hb dL_law_28 ?_
    refine lv_icmp_gt (tgt := 1355) hx hb dL_law_29 (by decide) (fun _ => ?_) (fun hge => ?_)
    · refine lv_iconst (v := 1) hx hb dL_law_1355 (by decide) ?_
      refine va_forget (fun q hq => hS.2.2 q hq) ?_
      refine W.widen (k := 1073) (n := 13678) (by omega) (by omega) ?_
      exact lw_ret hd0 hx hb hr hlocks dL_law_1356
    · have h6 : 5 * t + 5 ≤ L := lp_in hL hge h5
      have hin0 : vp_in (nI (5 * t)) L := nI_in (by omega) (by omega)
      have hin : vp_in (nI (5 * t) + 1) L ∧ vp_in (nI (5 * t) + 2) L ∧ vp_in (nI (5 * t) + 3) L ∧ vp_in (nI (5 * t) + 4) L := ⟨lp_at hL h6 1 (by decide), lp_at hL h6 2 (by decide), lp_at hL h6 3 (by decide), lp_at hL h6 4 (by decide)⟩
      have hfit : 35 + t + 1 ≤ room_1.cells ∧ 5722 + 6 * t + 6 ≤ room_1.slots := ⟨Nat.le_trans (show 35 + t + 1 ≤ 1073 by omega) (Nat.le_of_ble_eq_true rfl), Nat.le_trans (show 5722 + 6 * t + 6 ≤ 13678 by omega) (Nat.le_of_ble_eq_true rfl)⟩
      have hnext : ∀ (d1 : Drawn) (H : Heap) (locs : List Loc) (ls : Array Slot), s.drawn.sameBut d1 lw_cs → LI D (fun q : Nat => s.heap.size ≤ q) s.heap cI cL q H locs → lv_has ls 9 [(0, .ref sb), (1, .ref (q 0)), (2, .ref (q 26)), (3, .ref (q 34)), (4, .int (nI (5 * t)))] → W p l e room_1 (s.setDrawn d1) m #[Value.ref sb] below meth c H locs (35 + t + 1) (5722 + 6 * t + 6) (lw_Z below #[Value.ref sb] s) (F0 m 1349 ls []) := by
        intro d1 H locs ls hd1 hI hl
        have e5 : nI (5 * t) + Int32.ofInt 5 = nI (5 * (t + 1)) := nI_add (5 * t) 5
        refine lv_iinc (v := nI (5 * (t + 1))) (lv' := [(4, .int (nI (5 * (t + 1)))), (0, .ref sb), (1, .ref (q 0)), (2, .ref (q 26)), (3, .ref (q 34))]) hx hb dL_law_1349 hl (k := 4) rfl e5 (by decide) rfl (fun ls hl => ?_)
        refine lv_goto (tgt := 23) hx hb dL_law_1352 (by decide) ?_
        have e1 : 35 + t + 1 = 35 + (t + 1) := by omega
        have e2 : 5722 + 6 * t + 6 = 5722 + 6 * (t + 1) := by omega
        rw [e1, e2]
        exact ih (t + 1) (by omega) d1 H locs ls hd1 (by omega) hI (lv_sub hl [1, 2, 3, 4, 0] rfl)
      refine lv_aload_n hx hb dL_law_32 rfl (lv_at hl 0 rfl) ?_
      refine lv_iload hx hb dL_law_33 (lv_at hl 4 rfl) ?_
      refine va_sld (s := s.setDrawn d0) hx hb hX hbl hbA hS hin0 dL_law_35 ?_
      refine lv_bipush (v := 31) hx hb dL_law_36 (by decide) ?_
      refine lv_iand hx hb dL_law_38 ?_
      generalize xs (nI (5 * t)).toNatClampNeg &&& 31 = x
      by_cases c0 : x = 0
      · refine lv_tableIn (off := 113) (tgt := 152) hx hb dL_law_39 (by rw [c0]; decide) (by rw [c0]; decide) (by rw [c0]; rfl) (by decide) ?_
        exact lc_append (hC.drawn d0) hin hI hl hfit (fun H locs ls hI hl => hnext d0 H locs ls hd0 hI hl)
      by_cases c1 : x = 1
      · refine lv_tableIn (off := 181) (tgt := 220) hx hb dL_law_39 (by rw [c1]; decide) (by rw [c1]; decide) (by rw [c1]; rfl) (by decide) ?_
        exact lc_climb (hC.drawn d0) hin hI hl hfit (fun H locs ls hI hl => hnext d0 H locs ls hd0 hI hl)
      by_cases c2 : x = 2
      · refine lv_tableIn (off := 261) (tgt := 300) hx hb dL_law_39 (by rw [c2]; decide) (by rw [c2]; decide) (by rw [c2]; rfl) (by decide) ?_
        exact lc_set (hC.drawn d0) hin hI hl hfit (fun H locs ls hI hl => hnext d0 H locs ls hd0 hI hl)
      by_cases c3 : x = 3
      · refine lv_tableIn (off := 329) (tgt := 368) hx hb dL_law_39 (by rw [c3]; decide) (by rw [c3]; decide) (by rw [c3]; rfl) (by decide) ?_
        exact lc_cut (hC.drawn d0) hin hI hl hfit (fun H locs ls hI hl => hnext d0 H locs ls hd0 hI hl)
      by_cases c4 : x = 4
      · refine lv_tableIn (off := 385) (tgt := 424) hx hb dL_law_39 (by rw [c4]; decide) (by rw [c4]; decide) (by rw [c4]; rfl) (by decide) ?_
        exact lc_rows (hC.drawn d0) hin hI hl hfit (fun H locs ls hI hl => hnext d0 H locs ls hd0 hI hl)
      by_cases c5 : x = 5
      · refine lv_tableIn (off := 398) (tgt := 437) hx hb dL_law_39 (by rw [c5]; decide) (by rw [c5]; decide) (by rw [c5]; rfl) (by decide) ?_
        exact lc_value (hC.drawn d0) hin hI hl hfit (fun H locs ls hI hl => hnext d0 H locs ls hd0 hI hl)
      by_cases c6 : x = 6
      · refine lv_tableIn (off := 454) (tgt := 493) hx hb dL_law_39 (by rw [c6]; decide) (by rw [c6]; decide) (by rw [c6]; rfl) (by decide) ?_
        exact lc_setSegmentSize (hC.drawn d0) hin hI hl hfit (fun H locs ls hI hl => hnext d0 H locs ls hd0 hI hl)
      by_cases c7 : x = 7
      · refine lv_tableIn (off := 510) (tgt := 549) hx hb dL_law_39 (by rw [c7]; decide) (by rw [c7]; decide) (by rw [c7]; rfl) (by decide) ?_
        exact lc_segmentCount (hC.drawn d0) hin hI hl hfit (fun H locs ls hI hl => hnext d0 H locs ls hd0 hI hl)
      by_cases c8 : x = 8
      · refine lv_tableIn (off := 523) (tgt := 562) hx hb dL_law_39 (by rw [c8]; decide) (by rw [c8]; decide) (by rw [c8]; rfl) (by decide) ?_
        exact lc_addQuery (hC.drawn d0) hin hI hl hfit (fun H locs ls hI hl => hnext d0 H locs ls hd0 hI hl)
      by_cases c9 : x = 9
      · refine lv_tableIn (off := 615) (tgt := 654) hx hb dL_law_39 (by rw [c9]; decide) (by rw [c9]; decide) (by rw [c9]; rfl) (by decide) ?_
        exact lc_clearQueries (hC.drawn d0) hin hI hl hfit (fun H locs ls hI hl => hnext d0 H locs ls hd0 hI hl)
      by_cases c10 : x = 10
      · refine lv_tableIn (off := 628) (tgt := 667) hx hb dL_law_39 (by rw [c10]; decide) (by rw [c10]; decide) (by rw [c10]; rfl) (by decide) ?_
        exact lc_setPrice (hC.drawn d0) hin hI hl hfit (fun H locs ls hI hl => hnext d0 H locs ls hd0 hI hl)
      by_cases c11 : x = 11
      · refine lv_tableIn (off := 684) (tgt := 723) hx hb dL_law_39 (by rw [c11]; decide) (by rw [c11]; decide) (by rw [c11]; rfl) (by decide) ?_
        exact lc_answer (hC.drawn d0) hin hI hl hfit (fun H locs ls hI hl => hnext d0 H locs ls hd0 hI hl)
      by_cases c12 : x = 12
      · refine lv_tableIn (off := 739) (tgt := 778) hx hb dL_law_39 (by rw [c12]; decide) (by rw [c12]; decide) (by rw [c12]; rfl) (by decide) ?_
        exact lc_sizeWith (hC.drawn d0) hin hI hl hfit (fun H locs ls hI hl => hnext d0 H locs ls hd0 hI hl)
      by_cases c13 : x = 13
      · refine lv_tableIn (off := 807) (tgt := 846) hx hb dL_law_39 (by rw [c13]; decide) (by rw [c13]; decide) (by rw [c13]; rfl) (by decide) ?_
        exact lc_costWith (hC.drawn d0) hin hI hl hfit (fun H locs ls hI hl => hnext d0 H locs ls hd0 hI hl)
      by_cases c14 : x = 14
      · refine lv_tableIn (off := 887) (tgt := 926) hx hb dL_law_39 (by rw [c14]; decide) (by rw [c14]; decide) (by rw [c14]; rfl) (by decide) ?_
        exact lc_scoreWith (hC.drawn d0) hin hI hl hfit (fun H locs ls hI hl => hnext d0 H locs ls hd0 hI hl)
      by_cases c15 : x = 15
      · refine lv_tableIn (off := 955) (tgt := 994) hx hb dL_law_39 (by rw [c15]; decide) (by rw [c15]; decide) (by rw [c15]; rfl) (by decide) ?_
        exact lc_choose (hC.drawn d0) hin hI hl hfit (fun H locs ls hI hl => hnext d0 H locs ls hd0 hI hl)
      by_cases c16 : x = 16
      · refine lv_tableIn (off := 968) (tgt := 1007) hx hb dL_law_39 (by rw [c16]; decide) (by rw [c16]; decide) (by rw [c16]; rfl) (by decide) ?_
        exact lc_use (hC.drawn d0) hin hI hl hfit (fun H locs ls hI hl => hnext d0 H locs ls hd0 hI hl)
      by_cases c17 : x = 17
      · refine lv_tableIn (off := 1036) (tgt := 1075) hx hb dL_law_39 (by rw [c17]; decide) (by rw [c17]; decide) (by rw [c17]; rfl) (by decide) ?_
        exact lc_encoding (hC.drawn d0) hin hI hl hfit (fun H locs ls hI hl => hnext d0 H locs ls hd0 hI hl)
      by_cases c18 : x = 18
      · refine lv_tableIn (off := 1092) (tgt := 1131) hx hb dL_law_39 (by rw [c18]; decide) (by rw [c18]; decide) (by rw [c18]; rfl) (by decide) ?_
        exact lc_bitCount (hC.drawn d0) hin hI hl hfit (fun H locs ls hI hl => hnext d0 H locs ls hd0 hI hl)
      by_cases c19 : x = 19
      · refine lv_tableIn (off := 1148) (tgt := 1187) hx hb dL_law_39 (by rw [c19]; decide) (by rw [c19]; decide) (by rw [c19]; rfl) (by decide) ?_
        exact lc_bit (hC.drawn d0) hin hI hl hfit (fun H locs ls hI hl => hnext d0 H locs ls hd0 hI hl)
      by_cases c20 : x = 20
      · refine lv_tableIn (off := 1216) (tgt := 1255) hx hb dL_law_39 (by rw [c20]; decide) (by rw [c20]; decide) (by rw [c20]; rfl) (by decide) ?_
        exact lc_size (hC.drawn d0) hin hI hl hfit (fun H locs ls hI hl => hnext d0 H locs ls hd0 hI hl)
      by_cases c21 : x = 21
      · refine lv_tableIn (off := 1229) (tgt := 1268) hx hb dL_law_39 (by rw [c21]; decide) (by rw [c21]; decide) (by rw [c21]; rfl) (by decide) ?_
        exact lc_score (hC.drawn d0) hin hI hl hfit (fun H locs ls hI hl => hnext d0 H locs ls hd0 hI hl)
      by_cases c22 : x = 22
      · refine lv_tableIn (off := 1242) (tgt := 1281) hx hb dL_law_39 (by rw [c22]; decide) (by rw [c22]; decide) (by rw [c22]; rfl) (by decide) ?_
        exact lc_bestSegmentSize (hC.drawn d0) hin hI hl hfit (fun H locs ls hI hl => hnext d0 H locs ls hd0 hI hl)
      by_cases c23 : x = 23
      · refine lv_tableIn (off := 1255) (tgt := 1294) hx hb dL_law_39 (by rw [c23]; decide) (by rw [c23]; decide) (by rw [c23]; rfl) (by decide) ?_
        exact lc_ratio hC hd0 hI hl hfit hnext
      by_cases c24 : x = 24
      · refine lv_tableIn (off := 1296) (tgt := 1335) hx hb dL_law_39 (by rw [c24]; decide) (by rw [c24]; decide) (by rw [c24]; rfl) (by decide) ?_
        exact lc_digest (hC.drawn d0) hin hI hl hfit (fun H locs ls hI hl => hnext d0 H locs ls hd0 hI hl)
      refine lv_tableOut (tgt := 1349) hx hb dL_law_39 (by have n0 := lv_neT (a := 0) c0 (by decide); have n1 := lv_neT (a := 1) c1 (by decide); have n2 := lv_neT (a := 2) c2 (by decide); have n3 := lv_neT (a := 3) c3 (by decide); have n4 := lv_neT (a := 4) c4 (by decide); have n5 := lv_neT (a := 5) c5 (by decide); have n6 := lv_neT (a := 6) c6 (by decide); have n7 := lv_neT (a := 7) c7 (by decide); have n8 := lv_neT (a := 8) c8 (by decide); have n9 := lv_neT (a := 9) c9 (by decide); have n10 := lv_neT (a := 10) c10 (by decide); have n11 := lv_neT (a := 11) c11 (by decide); have n12 := lv_neT (a := 12) c12 (by decide); have n13 := lv_neT (a := 13) c13 (by decide); have n14 := lv_neT (a := 14) c14 (by decide); have n15 := lv_neT (a := 15) c15 (by decide); have n16 := lv_neT (a := 16) c16 (by decide); have n17 := lv_neT (a := 17) c17 (by decide); have n18 := lv_neT (a := 18) c18 (by decide); have n19 := lv_neT (a := 19) c19 (by decide); have n20 := lv_neT (a := 20) c20 (by decide); have n21 := lv_neT (a := 21) c21 (by decide); have n22 := lv_neT (a := 22) c22 (by decide); have n23 := lv_neT (a := 23) c23 (by decide); have n24 := lv_neT (a := 24) c24 (by decide); omega) (by decide) ?_
      exact W.widen (Nat.le_succ _) (Nat.le_add_right _ _) (hnext d0 H locs ls hd0 hI hl)
end LwL
