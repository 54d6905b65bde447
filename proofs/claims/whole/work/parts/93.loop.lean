/-! ===== the law's loop ===== -/
theorem sw_off : ∀ k, k < 46 → (#[199, 242, 275, 308, 331, 364, 397, 440, 463, 486, 500, 533, 556, 579, 612, 635, 658, 691, 724, 757, 770, 793, 816, 849, 862, 885, 898, 931, 964, 998, 1021, 1044, 1077, 1090, 1103, 1136, 1169, 1212, 1255, 1318, 1341, 1364, 1377, 1390, 1403, 1426] : Array Int)[k]? = some (([199, 242, 275, 308, 331, 364, 397, 440, 463, 486, 500, 533, 556, 579, 612, 635, 658, 691, 724, 757, 770, 793, 816, 849, 862, 885, 898, 931, 964, 998, 1021, 1044, 1077, 1090, 1103, 1136, 1169, 1212, 1255, 1318, 1341, 1364, 1377, 1390, 1403, 1426] : List Int).getD k 0) := by decide +kernel
set_option maxHeartbeats 4000000 in
set_option maxRecDepth 100000 in
theorem law_loop {p : Program} {l : Launch} {e : Env} {sg : State} {m : MethodId} {below : List Frame} {meth : Method} {c : Code} {b LN : Nat} {xs : Nat → Int32} (C0 : lw_At p sg m meth c b LN xs) (hLN : LN ≤ 3072) {dC : Nat → ClassId} {dI : Nat → Nat → Nat} {cy : Nat → ClassId} {aK aV : Nat → Nat} {aT : Nat} {u : Nat → Nat → Nat} {v : Nat → Nat} (hK : va_K (dC, dI) vwCl (tyX cy) sg) (hE : EV aK aV aT (fun q : Nat => sg.heap.size ≤ q) sg sg.heap) : ∀ (n i : Nat), LN < i + n → i ≤ LN + 6 → ∀ (H : Heap) (locs : List Loc) (ls : Array Slot), LI dC dI cy u v (fun q : Nat => sg.heap.size ≤ q) H → va_S (fun q : Nat => sg.heap.size ≤ q) sg.heap H locs → lv_has ls 4 [(0, .ref b), (1, .ref (u 0 0)), (2, .ref (v 0)), (3, .int (nI i))] → W p l e room_1 sg m #[Value.ref b] below meth c H locs 65 2047 (lw_Z below #[Value.ref b] sg) (F0 m 18 ls []) := by
  obtain ⟨hx, hb, hr, hml, hown0, hts0, hX, hbl, hlocks, hgv⟩ := id C0
  have hbA : ¬ (fun q : Nat => sg.heap.size ≤ q) b := Nat.not_le.mpr hbl
  intro n
  induction n with
  | zero =>
    intro i h1 h2 H locs ls hLI hS hl
    refine lv_iload_n hx hb dL_law_18 rfl (lv_at hl 3 rfl) ?_
    refine lv_aload_n hx hb dL_law_19 rfl (lv_at hl 0 rfl) ?_
    refine va_slen hx hb hX hbl hbA hS dL_law_20 ?_
    refine lv_bipush (v := nI 6) hx hb dL_law_21 (by decide) ?_
    refine lv_isub hx hb dL_law_23 ?_
    refine lv_icmp_gt (tgt := 1488) hx hb dL_law_24 (by decide) (fun _ => ?_) (fun h => ?_)
    · refine lv_iconst (v := 1) hx hb dL_law_1488 (by decide) ?_
      refine va_forget hS.2.2 ?_
      refine W.widen (k := 600000) (n := 7302250) (Nat.le_of_ble_eq_true rfl) (Nat.le_of_ble_eq_true rfl) ?_
      exact lw_ret hx hb hr hlocks dL_law_1489
    · exact absurd (lw_gt hLN (by omega) (by omega)) h
  | succ n ih =>
    intro i h1 h2 H locs ls hLI hS hl
    refine lv_iload_n hx hb dL_law_18 rfl (lv_at hl 3 rfl) ?_
    refine lv_aload_n hx hb dL_law_19 rfl (lv_at hl 0 rfl) ?_
    refine va_slen hx hb hX hbl hbA hS dL_law_20 ?_
    refine lv_bipush (v := nI 6) hx hb dL_law_21 (by decide) ?_
    refine lv_isub hx hb dL_law_23 ?_
    refine lv_icmp_gt (tgt := 1488) hx hb dL_law_24 (by decide) (fun _ => ?_) (fun h => ?_)
    · refine lv_iconst (v := 1) hx hb dL_law_1488 (by decide) ?_
      refine va_forget hS.2.2 ?_
      refine W.widen (k := 600000) (n := 7302250) (Nat.le_of_ble_eq_true rfl) (Nat.le_of_ble_eq_true rfl) ?_
      exact lw_ret hx hb hr hlocks dL_law_1489
    · have hi : i + 6 ≤ LN := by
        rcases Nat.lt_or_ge LN (i + 6) with g | g
        · exact absurd (lw_gt hLN (by omega) g) h
        · exact g
      have hk : ∀ (H : Heap) (locs : List Loc) (ls : Array Slot), LI dC dI cy u v (fun q : Nat => sg.heap.size ≤ q) H → va_S (fun q : Nat => sg.heap.size ≤ q) sg.heap H locs → lv_has ls 4 [(0, .ref b), (1, .ref (u 0 0)), (2, .ref (v 0)), (3, .int (nI i))] → W p l e room_1 sg m #[Value.ref b] below meth c H locs 65 2047 (lw_Z below #[Value.ref b] sg) (F0 m 1482 ls []) := by
        intro H locs ls hLI hS hl
        refine lv_iinc (v := nI (i + 6)) (lv' := [(3, .int (nI (i + 6))), (0, .ref b), (1, .ref (u 0 0)), (2, .ref (v 0))]) hx hb dL_law_1482 hl (k := 3) rfl (nI_add i 6) (by decide) rfl (fun ls hl => ?_)
        refine lv_goto (tgt := 18) hx hb dL_law_1485 (by decide) ?_
        exact ih (i + 6) (by omega) (by omega) H locs ls hLI hS (lv_sub hl [1, 2, 3, 0] rfl)
      refine lv_aload_n hx hb dL_law_27 rfl (lv_at hl 0 rfl) ?_
      refine lv_iload_n hx hb dL_law_28 rfl (lv_at hl 3 rfl) ?_
      refine va_sld hx hb hX hbl hbA hS (vp_in_nI (by omega) (by omega)) dL_law_29 ?_
      refine lv_bipush (v := 63) hx hb dL_law_30 (by decide) ?_
      refine lv_iand hx hb dL_law_32 ?_
      obtain ⟨k, hk64, ek⟩ := pk_andE (xs (nI i).toNatClampNeg) (m := 63) 6 (by decide)
      rw [ek]
      have ekt : (nI k).toInt = (k : Int) := nI_toInt (by omega)
      by_cases g : k < 46
      · have inn : ∀ (tgt : Nat), (33 : Int) + ([199, 242, 275, 308, 331, 364, 397, 440, 463, 486, 500, 533, 556, 579, 612, 635, 658, 691, 724, 757, 770, 793, 816, 849, 862, 885, 898, 931, 964, 998, 1021, 1044, 1077, 1090, 1103, 1136, 1169, 1212, 1255, 1318, 1341, 1364, 1377, 1390, 1403, 1426] : List Int).getD k 0 = (tgt : Int) → W p l e room_1 sg m #[Value.ref b] below meth c H locs 65 2047 (lw_Z below #[Value.ref b] sg) (F0 m tgt ls []) → W p l e room_1 sg m #[Value.ref b] below meth c H locs 65 2047 (lw_Z below #[Value.ref b] sg) (F0 m 33 ls [.int (nI k)]) := fun tgt ht kk => lv_tableIn hx hb dL_law_33 (by rw [ekt]; omega) (by rw [ekt]; omega) (by rw [ekt, show ((k : Int) - 0).toNat = k by omega]; exact sw_off k g) ht kk
        show W p l e room_1 sg m #[Value.ref b] below meth c H locs 65 2047 (lw_Z below #[Value.ref b] sg) (F0 m 33 ls [.int (nI k)])
        rcases (show k = 0 ∨ k = 1 ∨ k = 2 ∨ k = 3 ∨ k = 4 ∨ k = 5 ∨ k = 6 ∨ k = 7 ∨ k = 8 ∨ k = 9 ∨ k = 10 ∨ k = 11 ∨ k = 12 ∨ k = 13 ∨ k = 14 ∨ k = 15 ∨ k = 16 ∨ k = 17 ∨ k = 18 ∨ k = 19 ∨ k = 20 ∨ k = 21 ∨ k = 22 ∨ k = 23 ∨ k = 24 ∨ k = 25 ∨ k = 26 ∨ k = 27 ∨ k = 28 ∨ k = 29 ∨ k = 30 ∨ k = 31 ∨ k = 32 ∨ k = 33 ∨ k = 34 ∨ k = 35 ∨ k = 36 ∨ k = 37 ∨ k = 38 ∨ k = 39 ∨ k = 40 ∨ k = 41 ∨ k = 42 ∨ k = 43 ∨ k = 44 ∨ k = 45 by omega) with rfl | rfl | rfl | rfl | rfl | rfl | rfl | rfl | rfl | rfl | rfl | rfl | rfl | rfl | rfl | rfl | rfl | rfl | rfl | rfl | rfl | rfl | rfl | rfl | rfl | rfl | rfl | rfl | rfl | rfl | rfl | rfl | rfl | rfl | rfl | rfl | rfl | rfl | rfl | rfl | rfl | rfl | rfl | rfl | rfl | rfl
        · exact inn 232 (by decide) (la_fill C0 hLN hK hE hi hLI hS hl hk)
        · exact inn 275 (by decide) (la_cell C0 hLN hK hE hi hLI hS hl hk)
        · exact inn 308 (by decide) (la_guard C0 hLN hK hE hi hLI hS hl hk)
        · exact inn 341 (by decide) (la_sight C0 hLN hK hE hi hLI hS hl hk)
        · exact inn 364 (by decide) (la_bather C0 hLN hK hE hi hLI hS hl hk)
        · exact inn 397 (by decide) (la_of C0 hLN hK hE hi hLI hS hl hk)
        · exact inn 430 (by decide) (la_change C0 hLN hK hE hi hLI hS hl hk)
        · exact inn 473 (by decide) (la_go C0 hLN hK hE hi hLI hS hl hk)
        · exact inn 496 (by decide) (la_now C0 hLN hK hE hi hLI hS hl hk)
        · exact inn 519 (by decide) (la_seen C0 hLN hK hE hi hLI hS hl hk)
        · exact inn 533 (by decide) (la_ahead C0 hLN hK hE hi hLI hS hl hk)
        · exact inn 566 (by decide) (la_out C0 hLN hK hE hi hLI hS hl hk)
        · exact inn 589 (by decide) (la_caught C0 hLN hK hE hi hLI hS hl hk)
        · exact inn 612 (by decide) (la_meet C0 hLN hK hE hi hLI hS hl hk)
        · exact inn 645 (by decide) (la_kindFor C0 hLN hK hE hi hLI hS hl hk)
        · exact inn 668 (by decide) (la_sightFor C0 hLN hK hE hi hLI hS hl hk)
        · exact inn 691 (by decide) (la_way C0 hLN hK hE hi hLI hS hl hk)
        · exact inn 724 (by decide) (la_next C0 hLN hK hE hi hLI hS hl hk)
        · exact inn 757 (by decide) (la_steamFor C0 hLN hK hE hi hLI hS hl hk)
        · exact inn 790 (by decide) (la_row C0 hLN hK hE hi hLI hS hl hk)
        · exact inn 803 (by decide) (la_post C0 hLN hK hE hi hLI hS hl hk)
        · exact inn 826 (by decide) (la_posted C0 hLN hK hE hi hLI hS hl hk)
        · exact inn 849 (by decide) (la_trap C0 hLN hK hE hi hLI hS hl hk)
        · exact inn 882 (by decide) (la_enough C0 hLN hK hE hi hLI hS hl hk)
        · exact inn 895 (by decide) (la_fits C0 hLN hK hE hi hLI hS hl hk)
        · exact inn 918 (by decide) (la_swaps C0 hLN hK hE hi hLI hS hl hk)
        · exact inn 931 (by decide) (la_swap C0 hLN hK hE hi hLI hS hl hk)
        · exact inn 964 (by decide) (la_tax C0 hLN hK hE hi hLI hS hl hk)
        · exact inn 997 (by decide) (la_boilers C0 hLN hK hE hi hLI hS hl hk)
        · exact inn 1031 (by decide) (la_steams C0 hLN hK hE hi hLI hS hl hk)
        · exact inn 1054 (by decide) (la_seed C0 hLN hK hE hi hLI hS hl hk)
        · exact inn 1077 (by decide) (la_feed C0 hLN hK hE hi hLI hS hl hk)
        · exact inn 1110 (by decide) (la_wipe C0 hLN hK hE hi hLI hS hl hk)
        · exact inn 1123 (by decide) (la_text C0 hLN hK hE hi hLI hS hl hk)
        · exact inn 1136 (by decide) (la_hold C0 hLN hK hE hi hLI hS hl hk)
        · exact inn 1169 (by decide) (la_as C0 hLN hK hE hi hLI hS hl hk)
        · exact inn 1202 (by decide) (la_sheet C0 hLN hK hE hi hLI hS hl hk)
        · exact inn 1245 (by decide) (la_write C0 hLN hK hE hi hLI hS hl hk)
        · exact inn 1288 (by decide) (la_copy C0 hLN hK hE hi hLI hS hl hk)
        · exact inn 1351 (by decide) (la_load C0 hLN hK hE hi hLI hS hl hk)
        · exact inn 1374 (by decide) (la_judge C0 hLN hK hE hi hLI hS hl hk)
        · exact inn 1397 (by decide) (la_image C0 hLN hK hE hi hLI hS hl hk)
        · exact inn 1410 (by decide) (la_undo C0 hLN hK hE hi hLI hS hl hk)
        · exact inn 1423 (by decide) (la_tear C0 hLN hK hE hi hLI hS hl hk)
        · exact inn 1436 (by decide) (la_count C0 hLN hK hE hi hLI hS hl hk)
        · exact inn 1459 (by decide) (la_status C0 hLN hK hE hi hLI hS hl hk)
      · refine lv_tableOut (tgt := 1482) hx hb dL_law_33 (Or.inr (by rw [ekt]; omega)) (by decide) ?_
        exact hk H locs ls hLI hS hl
