/-! J13_bitCount_95d88 -/
def uJ13_bitCount_95d88 (p1 : Int64) : Option (Int32) :=
  bb_lt (p1 - (((p1.toUInt64 >>> ((1 : Int32).toInt64.toUInt64 &&& Int64.toUInt64 63)).toInt64) &&& (6148914691236517205 : Int64))) (fun (y1 : Int64) => bb_lt ((y1 &&& (3689348814741910323 : Int64)) + (((y1.toUInt64 >>> ((2 : Int32).toInt64.toUInt64 &&& Int64.toUInt64 63)).toInt64) &&& (3689348814741910323 : Int64))) (fun (y2 : Int64) => bb_lt ((y2 + ((y2.toUInt64 >>> ((4 : Int32).toInt64.toUInt64 &&& Int64.toUInt64 63)).toInt64)) &&& (1085102592571150095 : Int64)) (fun (y3 : Int64) => bb_lt (y3 + ((y3.toUInt64 >>> ((8 : Int32).toInt64.toUInt64 &&& Int64.toUInt64 63)).toInt64)) (fun (y4 : Int64) => bb_lt (y4 + ((y4.toUInt64 >>> ((16 : Int32).toInt64.toUInt64 &&& Int64.toUInt64 63)).toInt64)) (fun (y5 : Int64) => bb_lt (y5 + ((y5.toUInt64 >>> ((32 : Int32).toInt64.toUInt64 &&& Int64.toUInt64 63)).toInt64)) (fun (y6 : Int64) => some (y6.toInt32 &&& (127 : Int32))))))))
theorem kdJ13_bitCount_95d88 : yJ13_bitCount_95d88.cls ≠ "java/lang/invoke/MethodHandle" ∧ yJ13_bitCount_95d88.cls ≠ "java/lang/invoke/VarHandle" ∧ (parseMethodDescriptor yJ13_bitCount_95d88.desc).map (fun d => d.parameters.length) = some 1 := by decide +kernel
set_option maxHeartbeats 4000000 in
set_option maxRecDepth 100000 in
theorem kJ13_bitCount_95d88 (l : Launch) (dC : Nat → ClassId) (dI : Nat → Nat → Nat) (cy : Nat → ClassId) (p1 : Int64) (r : Int32) (h : uJ13_bitCount_95d88 p1 = some r) : Met l yJ13_bitCount_95d88 wsJ13_bitCount_95d88 ({ frames := 0, cells := 0, slots := 0, locals := 0 }) (va_Pc [.long p1] (fun U => va_P (dC, dI) vwCl [] U.heap ∧ va_K (dC, dI) vwCl (tyX cy) U)) (vp_Si (fun r2 => r = r2)) 0 0 (fun _ => False) := by
  refine Met.ofW (cc := cJ13_bitCount_95d88) (maxL := 2) (ret := (some .int)) (by decide) rfl ?_
  intro p e s m args below meth c s₁ B hml hv
  obtain ⟨rfl, hP, hK⟩ := hv
  have hx := B.exec
  have hb := B.bytes
  have hr := B.returns
  have hts := atoms_spec (ws := wsJ13_bitCount_95d88) B.pre
  have hown : s.vm.findClass RJ13 = some m.cls := findClass_of_methodNamed B.named
  have hlocks := B.notSynchronized
  have lk1 := hts (Cond.constantLong RJ13 314 (6148914691236517205)) (List.mem_of_getElem? (i := 1) rfl)
  have lk2 := hts (Cond.constantLong RJ13 316 (3689348814741910323)) (List.mem_of_getElem? (i := 2) rfl)
  have lk3 := hts (Cond.constantLong RJ13 318 (1085102592571150095)) (List.mem_of_getElem? (i := 3) rfl)
  have hl := lv_entry ([.long p1]) (n := 2) (Nat.le_of_ble_eq_true rfl)
  rw [lg_entry_eq]
  generalize (lg_sl ([.long p1]) ++ List.replicate (2 - (lg_sl ([.long p1])).length) Slot.unset).toArray = ls at hl ⊢
  have hl : lv_has ls 2 [(0, .long p1)] := hl
  unfold uJ13_bitCount_95d88 at h
  refine bb_cap (fun WW toW ofW => ?_)
  refine lv_lload_n hx hb dJ13_bitCount_95d88_0 rfl (lv_at hl 0 rfl) ?_
  refine lv_lload_n hx hb dJ13_bitCount_95d88_1 rfl (lv_at hl 0 rfl) ?_
  refine lv_iconst (v := (1 : Int32)) hx hb dJ13_bitCount_95d88_2 (by decide) ?_
  refine lv_lushr hx hb dJ13_bitCount_95d88_3 rfl ?_
  refine lv_ldc2 (v := (6148914691236517205 : Int64)) hx hb hown lk1 dJ13_bitCount_95d88_4 ?_
  refine lv_land hx hb dJ13_bitCount_95d88_7 ?_
  refine lv_lsub hx hb dJ13_bitCount_95d88_8 ?_
  refine lv_topl (fun y1 ey1 => ?_)
  replace h := bb_lt_o ey1 h
  refine lv_lstore_n (lv' := [(0, .long y1)]) hx hb dJ13_bitCount_95d88_9 rfl hl (by decide) rfl (fun ls hl => ?_)
  refine lv_lload_n hx hb dJ13_bitCount_95d88_10 rfl (lv_at hl 0 rfl) ?_
  refine lv_ldc2 (v := (3689348814741910323 : Int64)) hx hb hown lk2 dJ13_bitCount_95d88_11 ?_
  refine lv_land hx hb dJ13_bitCount_95d88_14 ?_
  refine lv_lload_n hx hb dJ13_bitCount_95d88_15 rfl (lv_at hl 0 rfl) ?_
  refine lv_iconst (v := (2 : Int32)) hx hb dJ13_bitCount_95d88_16 (by decide) ?_
  refine lv_lushr hx hb dJ13_bitCount_95d88_17 rfl ?_
  refine lv_ldc2 (v := (3689348814741910323 : Int64)) hx hb hown lk2 dJ13_bitCount_95d88_18 ?_
  refine lv_land hx hb dJ13_bitCount_95d88_21 ?_
  refine lv_ladd hx hb dJ13_bitCount_95d88_22 ?_
  refine lv_topl (fun y2 ey2 => ?_)
  replace h := bb_lt_o ey2 h
  refine lv_lstore_n (lv' := [(0, .long y2)]) hx hb dJ13_bitCount_95d88_23 rfl hl (by decide) rfl (fun ls hl => ?_)
  refine lv_lload_n hx hb dJ13_bitCount_95d88_24 rfl (lv_at hl 0 rfl) ?_
  refine lv_lload_n hx hb dJ13_bitCount_95d88_25 rfl (lv_at hl 0 rfl) ?_
  refine lv_iconst (v := (4 : Int32)) hx hb dJ13_bitCount_95d88_26 (by decide) ?_
  refine lv_lushr hx hb dJ13_bitCount_95d88_27 rfl ?_
  refine lv_ladd hx hb dJ13_bitCount_95d88_28 ?_
  refine lv_ldc2 (v := (1085102592571150095 : Int64)) hx hb hown lk3 dJ13_bitCount_95d88_29 ?_
  refine lv_land hx hb dJ13_bitCount_95d88_32 ?_
  refine lv_topl (fun y3 ey3 => ?_)
  replace h := bb_lt_o ey3 h
  refine lv_lstore_n (lv' := [(0, .long y3)]) hx hb dJ13_bitCount_95d88_33 rfl hl (by decide) rfl (fun ls hl => ?_)
  refine lv_lload_n hx hb dJ13_bitCount_95d88_34 rfl (lv_at hl 0 rfl) ?_
  refine lv_lload_n hx hb dJ13_bitCount_95d88_35 rfl (lv_at hl 0 rfl) ?_
  refine lv_bipush (v := (8 : Int32)) hx hb dJ13_bitCount_95d88_36 (by decide) ?_
  refine lv_lushr hx hb dJ13_bitCount_95d88_38 rfl ?_
  refine lv_ladd hx hb dJ13_bitCount_95d88_39 ?_
  refine lv_topl (fun y4 ey4 => ?_)
  replace h := bb_lt_o ey4 h
  refine lv_lstore_n (lv' := [(0, .long y4)]) hx hb dJ13_bitCount_95d88_40 rfl hl (by decide) rfl (fun ls hl => ?_)
  refine lv_lload_n hx hb dJ13_bitCount_95d88_41 rfl (lv_at hl 0 rfl) ?_
  refine lv_lload_n hx hb dJ13_bitCount_95d88_42 rfl (lv_at hl 0 rfl) ?_
  refine lv_bipush (v := (16 : Int32)) hx hb dJ13_bitCount_95d88_43 (by decide) ?_
  refine lv_lushr hx hb dJ13_bitCount_95d88_45 rfl ?_
  refine lv_ladd hx hb dJ13_bitCount_95d88_46 ?_
  refine lv_topl (fun y5 ey5 => ?_)
  replace h := bb_lt_o ey5 h
  refine lv_lstore_n (lv' := [(0, .long y5)]) hx hb dJ13_bitCount_95d88_47 rfl hl (by decide) rfl (fun ls hl => ?_)
  refine lv_lload_n hx hb dJ13_bitCount_95d88_48 rfl (lv_at hl 0 rfl) ?_
  refine lv_lload_n hx hb dJ13_bitCount_95d88_49 rfl (lv_at hl 0 rfl) ?_
  refine lv_bipush (v := (32 : Int32)) hx hb dJ13_bitCount_95d88_50 (by decide) ?_
  refine lv_lushr hx hb dJ13_bitCount_95d88_52 rfl ?_
  refine lv_ladd hx hb dJ13_bitCount_95d88_53 ?_
  refine lv_topl (fun y6 ey6 => ?_)
  replace h := bb_lt_o ey6 h
  refine lv_lstore_n (lv' := [(0, .long y6)]) hx hb dJ13_bitCount_95d88_54 rfl hl (by decide) rfl (fun ls hl => ?_)
  refine lv_lload_n hx hb dJ13_bitCount_95d88_55 rfl (lv_at hl 0 rfl) ?_
  refine lv_l2i hx hb dJ13_bitCount_95d88_56 rfl ?_
  refine lv_bipush (v := (127 : Int32)) hx hb dJ13_bitCount_95d88_57 (by decide) ?_
  refine lv_iand hx hb dJ13_bitCount_95d88_59 ?_
  obtain rfl := bb_some1 h
  exact W.iret hx hb hr (fun t ht hW => ⟨_, rfl, rfl, ht⟩) (fun q hq => by cases hq) dJ13_bitCount_95d88_60
/-! J6_bitCount_0f7a4 -/
def uJ6_bitCount_0f7a4 (p1 : Int32) : Option (Int32) :=
  bb_lt (p1 - (((p1.toUInt32 >>> ((1 : Int32).toUInt32 &&& Int32.toUInt32 31)).toInt32) &&& (1431655765 : Int32))) (fun (y1 : Int32) => bb_lt ((y1 &&& (858993459 : Int32)) + (((y1.toUInt32 >>> ((2 : Int32).toUInt32 &&& Int32.toUInt32 31)).toInt32) &&& (858993459 : Int32))) (fun (y2 : Int32) => bb_lt ((y2 + ((y2.toUInt32 >>> ((4 : Int32).toUInt32 &&& Int32.toUInt32 31)).toInt32)) &&& (252645135 : Int32)) (fun (y3 : Int32) => bb_lt (y3 + ((y3.toUInt32 >>> ((8 : Int32).toUInt32 &&& Int32.toUInt32 31)).toInt32)) (fun (y4 : Int32) => bb_lt (y4 + ((y4.toUInt32 >>> ((16 : Int32).toUInt32 &&& Int32.toUInt32 31)).toInt32)) (fun (y5 : Int32) => some (y5 &&& (63 : Int32)))))))
theorem kdJ6_bitCount_0f7a4 : yJ6_bitCount_0f7a4.cls ≠ "java/lang/invoke/MethodHandle" ∧ yJ6_bitCount_0f7a4.cls ≠ "java/lang/invoke/VarHandle" ∧ (parseMethodDescriptor yJ6_bitCount_0f7a4.desc).map (fun d => d.parameters.length) = some 1 := by decide +kernel
set_option maxHeartbeats 4000000 in
set_option maxRecDepth 100000 in
theorem kJ6_bitCount_0f7a4 (l : Launch) (dC : Nat → ClassId) (dI : Nat → Nat → Nat) (cy : Nat → ClassId) (p1 : Int32) (r : Int32) (h : uJ6_bitCount_0f7a4 p1 = some r) : Met l yJ6_bitCount_0f7a4 wsJ6_bitCount_0f7a4 ({ frames := 0, cells := 0, slots := 0, locals := 0 }) (va_Pc [.int p1] (fun U => va_P (dC, dI) vwCl [] U.heap ∧ va_K (dC, dI) vwCl (tyX cy) U)) (vp_Si (fun r2 => r = r2)) 0 0 (fun _ => False) := by
  refine Met.ofW (cc := cJ6_bitCount_0f7a4) (maxL := 1) (ret := (some .int)) (by decide) rfl ?_
  intro p e s m args below meth c s₁ B hml hv
  obtain ⟨rfl, hP, hK⟩ := hv
  have hx := B.exec
  have hb := B.bytes
  have hr := B.returns
  have hts := atoms_spec (ws := wsJ6_bitCount_0f7a4) B.pre
  have hown : s.vm.findClass RJ6 = some m.cls := findClass_of_methodNamed B.named
  have hlocks := B.notSynchronized
  have lk1 := hts (Cond.constant RJ6 265 (1431655765)) (List.mem_of_getElem? (i := 1) rfl)
  have lk2 := hts (Cond.constant RJ6 266 (858993459)) (List.mem_of_getElem? (i := 2) rfl)
  have lk3 := hts (Cond.constant RJ6 267 (252645135)) (List.mem_of_getElem? (i := 3) rfl)
  have hl := lv_entry ([.int p1]) (n := 1) (Nat.le_of_ble_eq_true rfl)
  rw [lg_entry_eq]
  generalize (lg_sl ([.int p1]) ++ List.replicate (1 - (lg_sl ([.int p1])).length) Slot.unset).toArray = ls at hl ⊢
  have hl : lv_has ls 1 [(0, .int p1)] := hl
  unfold uJ6_bitCount_0f7a4 at h
  refine bb_cap (fun WW toW ofW => ?_)
  refine lv_iload_n hx hb dJ6_bitCount_0f7a4_0 rfl (lv_at hl 0 rfl) ?_
  refine lv_iload_n hx hb dJ6_bitCount_0f7a4_1 rfl (lv_at hl 0 rfl) ?_
  refine lv_iconst (v := (1 : Int32)) hx hb dJ6_bitCount_0f7a4_2 (by decide) ?_
  refine lv_iushr hx hb dJ6_bitCount_0f7a4_3 rfl ?_
  refine lv_ldcw (v := (1431655765 : Int32)) hx hb hown lk1 dJ6_bitCount_0f7a4_4 ?_
  refine lv_iand hx hb dJ6_bitCount_0f7a4_7 ?_
  refine lv_isub hx hb dJ6_bitCount_0f7a4_8 ?_
  refine lv_topi (fun y1 ey1 => ?_)
  replace h := bb_lt_o ey1 h
  refine lv_istore_n (lv' := [(0, .int y1)]) hx hb dJ6_bitCount_0f7a4_9 rfl hl (by decide) rfl (fun ls hl => ?_)
  refine lv_iload_n hx hb dJ6_bitCount_0f7a4_10 rfl (lv_at hl 0 rfl) ?_
  refine lv_ldcw (v := (858993459 : Int32)) hx hb hown lk2 dJ6_bitCount_0f7a4_11 ?_
  refine lv_iand hx hb dJ6_bitCount_0f7a4_14 ?_
  refine lv_iload_n hx hb dJ6_bitCount_0f7a4_15 rfl (lv_at hl 0 rfl) ?_
  refine lv_iconst (v := (2 : Int32)) hx hb dJ6_bitCount_0f7a4_16 (by decide) ?_
  refine lv_iushr hx hb dJ6_bitCount_0f7a4_17 rfl ?_
  refine lv_ldcw (v := (858993459 : Int32)) hx hb hown lk2 dJ6_bitCount_0f7a4_18 ?_
  refine lv_iand hx hb dJ6_bitCount_0f7a4_21 ?_
  refine lv_iadd hx hb dJ6_bitCount_0f7a4_22 ?_
  refine lv_topi (fun y2 ey2 => ?_)
  replace h := bb_lt_o ey2 h
  refine lv_istore_n (lv' := [(0, .int y2)]) hx hb dJ6_bitCount_0f7a4_23 rfl hl (by decide) rfl (fun ls hl => ?_)
  refine lv_iload_n hx hb dJ6_bitCount_0f7a4_24 rfl (lv_at hl 0 rfl) ?_
  refine lv_iload_n hx hb dJ6_bitCount_0f7a4_25 rfl (lv_at hl 0 rfl) ?_
  refine lv_iconst (v := (4 : Int32)) hx hb dJ6_bitCount_0f7a4_26 (by decide) ?_
  refine lv_iushr hx hb dJ6_bitCount_0f7a4_27 rfl ?_
  refine lv_iadd hx hb dJ6_bitCount_0f7a4_28 ?_
  refine lv_ldcw (v := (252645135 : Int32)) hx hb hown lk3 dJ6_bitCount_0f7a4_29 ?_
  refine lv_iand hx hb dJ6_bitCount_0f7a4_32 ?_
  refine lv_topi (fun y3 ey3 => ?_)
  replace h := bb_lt_o ey3 h
  refine lv_istore_n (lv' := [(0, .int y3)]) hx hb dJ6_bitCount_0f7a4_33 rfl hl (by decide) rfl (fun ls hl => ?_)
  refine lv_iload_n hx hb dJ6_bitCount_0f7a4_34 rfl (lv_at hl 0 rfl) ?_
  refine lv_iload_n hx hb dJ6_bitCount_0f7a4_35 rfl (lv_at hl 0 rfl) ?_
  refine lv_bipush (v := (8 : Int32)) hx hb dJ6_bitCount_0f7a4_36 (by decide) ?_
  refine lv_iushr hx hb dJ6_bitCount_0f7a4_38 rfl ?_
  refine lv_iadd hx hb dJ6_bitCount_0f7a4_39 ?_
  refine lv_topi (fun y4 ey4 => ?_)
  replace h := bb_lt_o ey4 h
  refine lv_istore_n (lv' := [(0, .int y4)]) hx hb dJ6_bitCount_0f7a4_40 rfl hl (by decide) rfl (fun ls hl => ?_)
  refine lv_iload_n hx hb dJ6_bitCount_0f7a4_41 rfl (lv_at hl 0 rfl) ?_
  refine lv_iload_n hx hb dJ6_bitCount_0f7a4_42 rfl (lv_at hl 0 rfl) ?_
  refine lv_bipush (v := (16 : Int32)) hx hb dJ6_bitCount_0f7a4_43 (by decide) ?_
  refine lv_iushr hx hb dJ6_bitCount_0f7a4_45 rfl ?_
  refine lv_iadd hx hb dJ6_bitCount_0f7a4_46 ?_
  refine lv_topi (fun y5 ey5 => ?_)
  replace h := bb_lt_o ey5 h
  refine lv_istore_n (lv' := [(0, .int y5)]) hx hb dJ6_bitCount_0f7a4_47 rfl hl (by decide) rfl (fun ls hl => ?_)
  refine lv_iload_n hx hb dJ6_bitCount_0f7a4_48 rfl (lv_at hl 0 rfl) ?_
  refine lv_bipush (v := (63 : Int32)) hx hb dJ6_bitCount_0f7a4_49 (by decide) ?_
  refine lv_iand hx hb dJ6_bitCount_0f7a4_51 ?_
  obtain rfl := bb_some1 h
  exact W.iret hx hb hr (fun t ht hW => ⟨_, rfl, rfl, ht⟩) (fun q hq => by cases hq) dJ6_bitCount_0f7a4_52
/-! X0_isCell -/
def uX0_isCell (p1 : Int32) : Option (Int32) :=
  (if p1 < 0 then some (0 : Int32) else (if (48 : Int32) ≤ p1 then some (0 : Int32) else some (1 : Int32)))
theorem kdX0_isCell : yX0_isCell.cls ≠ "java/lang/invoke/MethodHandle" ∧ yX0_isCell.cls ≠ "java/lang/invoke/VarHandle" ∧ (parseMethodDescriptor yX0_isCell.desc).map (fun d => d.parameters.length) = some 1 := by decide +kernel
set_option maxHeartbeats 4000000 in
set_option maxRecDepth 100000 in
theorem kX0_isCell (l : Launch) (dC : Nat → ClassId) (dI : Nat → Nat → Nat) (cy : Nat → ClassId) (p1 : Int32) (r : Int32) (h : uX0_isCell p1 = some r) : Met l yX0_isCell wsX0_isCell ({ frames := 0, cells := 0, slots := 0, locals := 0 }) (va_Pc [.int p1] (fun U => va_P (dC, dI) vwCl [] U.heap ∧ va_K (dC, dI) vwCl (tyX cy) U)) (vp_Si (fun r2 => r = r2 ∧ narrow .boolean (.int r2) = .int r2)) 0 0 (fun _ => False) := by
  refine Met.ofW (cc := cX0_isCell) (maxL := 1) (ret := (some .boolean)) (by decide) rfl ?_
  intro p e s m args below meth c s₁ B hml hv
  obtain ⟨rfl, hP, hK⟩ := hv
  have hx := B.exec
  have hb := B.bytes
  have hr := B.returns
  have hts := atoms_spec (ws := wsX0_isCell) B.pre
  have hown : s.vm.findClass RX0 = some m.cls := findClass_of_methodNamed B.named
  have hlocks := B.notSynchronized
  have hl := lv_entry ([.int p1]) (n := 1) (Nat.le_of_ble_eq_true rfl)
  rw [lg_entry_eq]
  generalize (lg_sl ([.int p1]) ++ List.replicate (1 - (lg_sl ([.int p1])).length) Slot.unset).toArray = ls at hl ⊢
  have hl : lv_has ls 1 [(0, .int p1)] := hl
  unfold uX0_isCell at h
  refine bb_cap (fun WW toW ofW => ?_)
  refine lv_iload_n hx hb dX0_isCell_0 rfl (lv_at hl 0 rfl) ?_
  refine lv_if_lt (tgt := 14) hx hb dX0_isCell_1 (by decide) (fun c1 => ?_) (fun c1 => ?_)
  · replace h := bb_ifp c1 h
    refine lv_iconst (v := (0 : Int32)) hx hb dX0_isCell_14 (by decide) ?_
    obtain rfl := bb_some1 h
    exact W.zret hx hb hr (by decide) (fun t ht hW => ⟨_, rfl, ⟨rfl, (by decide)⟩, ht⟩) (fun q hq => by cases hq) dX0_isCell_15
  · replace h := bb_ifn c1 h
    refine lv_iload_n hx hb dX0_isCell_4 rfl (lv_at hl 0 rfl) ?_
    refine lv_bipush (v := (48 : Int32)) hx hb dX0_isCell_5 (by decide) ?_
    refine lv_icmp_ge (tgt := 14) hx hb dX0_isCell_7 (by decide) (fun c2 => ?_) (fun c2 => ?_)
    · replace h := bb_ifp c2 h
      refine lv_iconst (v := (0 : Int32)) hx hb dX0_isCell_14 (by decide) ?_
      obtain rfl := bb_some1 h
      exact W.zret hx hb hr (by decide) (fun t ht hW => ⟨_, rfl, ⟨rfl, (by decide)⟩, ht⟩) (fun q hq => by cases hq) dX0_isCell_15
    · replace h := bb_ifn c2 h
      refine lv_iconst (v := (1 : Int32)) hx hb dX0_isCell_10 (by decide) ?_
      refine lv_goto (tgt := 15) hx hb dX0_isCell_11 (by decide) ?_
      obtain rfl := bb_some1 h
      exact W.zret hx hb hr (by decide) (fun t ht hW => ⟨_, rfl, ⟨rfl, (by decide)⟩, ht⟩) (fun q hq => by cases hq) dX0_isCell_15
/-! X0_columnOf -/
def uX0_columnOf (p1 : Int32) : Option (Int32) :=
  some (p1 - p1 / (8 : Int32) * (8 : Int32))
theorem kdX0_columnOf : yX0_columnOf.cls ≠ "java/lang/invoke/MethodHandle" ∧ yX0_columnOf.cls ≠ "java/lang/invoke/VarHandle" ∧ (parseMethodDescriptor yX0_columnOf.desc).map (fun d => d.parameters.length) = some 1 := by decide +kernel
set_option maxHeartbeats 4000000 in
set_option maxRecDepth 100000 in
theorem kX0_columnOf (l : Launch) (dC : Nat → ClassId) (dI : Nat → Nat → Nat) (cy : Nat → ClassId) (p1 : Int32) (r : Int32) (h : uX0_columnOf p1 = some r) : Met l yX0_columnOf wsX0_columnOf ({ frames := 0, cells := 0, slots := 0, locals := 0 }) (va_Pc [.int p1] (fun U => va_P (dC, dI) vwCl [] U.heap ∧ va_K (dC, dI) vwCl (tyX cy) U)) (vp_Si (fun r2 => r = r2)) 0 0 (fun _ => False) := by
  refine Met.ofW (cc := cX0_columnOf) (maxL := 1) (ret := (some .int)) (by decide) rfl ?_
  intro p e s m args below meth c s₁ B hml hv
  obtain ⟨rfl, hP, hK⟩ := hv
  have hx := B.exec
  have hb := B.bytes
  have hr := B.returns
  have hts := atoms_spec (ws := wsX0_columnOf) B.pre
  have hown : s.vm.findClass RX0 = some m.cls := findClass_of_methodNamed B.named
  have hlocks := B.notSynchronized
  have hl := lv_entry ([.int p1]) (n := 1) (Nat.le_of_ble_eq_true rfl)
  rw [lg_entry_eq]
  generalize (lg_sl ([.int p1]) ++ List.replicate (1 - (lg_sl ([.int p1])).length) Slot.unset).toArray = ls at hl ⊢
  have hl : lv_has ls 1 [(0, .int p1)] := hl
  unfold uX0_columnOf at h
  refine bb_cap (fun WW toW ofW => ?_)
  refine lv_iload_n hx hb dX0_columnOf_0 rfl (lv_at hl 0 rfl) ?_
  refine lv_bipush (v := (8 : Int32)) hx hb dX0_columnOf_1 (by decide) ?_
  refine lv_irem hx hb dX0_columnOf_3 (by decide) ?_
  obtain rfl := bb_some1 h
  exact W.iret hx hb hr (fun t ht hW => ⟨_, rfl, rfl, ht⟩) (fun q hq => by cases hq) dX0_columnOf_4
/-! X0_rowOf -/
def uX0_rowOf (p1 : Int32) : Option (Int32) :=
  some (p1 / (8 : Int32))
theorem kdX0_rowOf : yX0_rowOf.cls ≠ "java/lang/invoke/MethodHandle" ∧ yX0_rowOf.cls ≠ "java/lang/invoke/VarHandle" ∧ (parseMethodDescriptor yX0_rowOf.desc).map (fun d => d.parameters.length) = some 1 := by decide +kernel
set_option maxHeartbeats 4000000 in
set_option maxRecDepth 100000 in
theorem kX0_rowOf (l : Launch) (dC : Nat → ClassId) (dI : Nat → Nat → Nat) (cy : Nat → ClassId) (p1 : Int32) (r : Int32) (h : uX0_rowOf p1 = some r) : Met l yX0_rowOf wsX0_rowOf ({ frames := 0, cells := 0, slots := 0, locals := 0 }) (va_Pc [.int p1] (fun U => va_P (dC, dI) vwCl [] U.heap ∧ va_K (dC, dI) vwCl (tyX cy) U)) (vp_Si (fun r2 => r = r2)) 0 0 (fun _ => False) := by
  refine Met.ofW (cc := cX0_rowOf) (maxL := 1) (ret := (some .int)) (by decide) rfl ?_
  intro p e s m args below meth c s₁ B hml hv
  obtain ⟨rfl, hP, hK⟩ := hv
  have hx := B.exec
  have hb := B.bytes
  have hr := B.returns
  have hts := atoms_spec (ws := wsX0_rowOf) B.pre
  have hown : s.vm.findClass RX0 = some m.cls := findClass_of_methodNamed B.named
  have hlocks := B.notSynchronized
  have hl := lv_entry ([.int p1]) (n := 1) (Nat.le_of_ble_eq_true rfl)
  rw [lg_entry_eq]
  generalize (lg_sl ([.int p1]) ++ List.replicate (1 - (lg_sl ([.int p1])).length) Slot.unset).toArray = ls at hl ⊢
  have hl : lv_has ls 1 [(0, .int p1)] := hl
  unfold uX0_rowOf at h
  refine bb_cap (fun WW toW ofW => ?_)
  refine lv_iload_n hx hb dX0_rowOf_0 rfl (lv_at hl 0 rfl) ?_
  refine lv_bipush (v := (8 : Int32)) hx hb dX0_rowOf_1 (by decide) ?_
  refine lv_idiv hx hb dX0_rowOf_3 (by decide) ?_
  obtain rfl := bb_some1 h
  exact W.iret hx hb hr (fun t ht hW => ⟨_, rfl, rfl, ht⟩) (fun q hq => by cases hq) dX0_rowOf_4
/-! X0_columnOfSide -/
def uX0_columnOfSide (p1 : Int32) : Option (Int32) :=
  (if p1 = 0 then some (0 : Int32) else some (7 : Int32))
theorem kdX0_columnOfSide : yX0_columnOfSide.cls ≠ "java/lang/invoke/MethodHandle" ∧ yX0_columnOfSide.cls ≠ "java/lang/invoke/VarHandle" ∧ (parseMethodDescriptor yX0_columnOfSide.desc).map (fun d => d.parameters.length) = some 1 := by decide +kernel
set_option maxHeartbeats 4000000 in
set_option maxRecDepth 100000 in
theorem kX0_columnOfSide (l : Launch) (dC : Nat → ClassId) (dI : Nat → Nat → Nat) (cy : Nat → ClassId) (p1 : Int32) (r : Int32) (h : uX0_columnOfSide p1 = some r) : Met l yX0_columnOfSide wsX0_columnOfSide ({ frames := 0, cells := 0, slots := 0, locals := 0 }) (va_Pc [.int p1] (fun U => va_P (dC, dI) vwCl [] U.heap ∧ va_K (dC, dI) vwCl (tyX cy) U)) (vp_Si (fun r2 => r = r2)) 0 0 (fun _ => False) := by
  refine Met.ofW (cc := cX0_columnOfSide) (maxL := 1) (ret := (some .int)) (by decide) rfl ?_
  intro p e s m args below meth c s₁ B hml hv
  obtain ⟨rfl, hP, hK⟩ := hv
  have hx := B.exec
  have hb := B.bytes
  have hr := B.returns
  have hts := atoms_spec (ws := wsX0_columnOfSide) B.pre
  have hown : s.vm.findClass RX0 = some m.cls := findClass_of_methodNamed B.named
  have hlocks := B.notSynchronized
  have hl := lv_entry ([.int p1]) (n := 1) (Nat.le_of_ble_eq_true rfl)
  rw [lg_entry_eq]
  generalize (lg_sl ([.int p1]) ++ List.replicate (1 - (lg_sl ([.int p1])).length) Slot.unset).toArray = ls at hl ⊢
  have hl : lv_has ls 1 [(0, .int p1)] := hl
  unfold uX0_columnOfSide at h
  refine bb_cap (fun WW toW ofW => ?_)
  refine lv_iload_n hx hb dX0_columnOfSide_0 rfl (lv_at hl 0 rfl) ?_
  refine lv_if_ne (tgt := 8) hx hb dX0_columnOfSide_1 (by decide) (fun c1 => ?_) (fun c1 => ?_)
  · replace h := bb_ifn c1 h
    refine lv_bipush (v := (7 : Int32)) hx hb dX0_columnOfSide_8 (by decide) ?_
    obtain rfl := bb_some1 h
    exact W.iret hx hb hr (fun t ht hW => ⟨_, rfl, rfl, ht⟩) (fun q hq => by cases hq) dX0_columnOfSide_10
  · replace h := bb_ifp c1 h
    refine lv_iconst (v := (0 : Int32)) hx hb dX0_columnOfSide_4 (by decide) ?_
    refine lv_goto (tgt := 10) hx hb dX0_columnOfSide_5 (by decide) ?_
    obtain rfl := bb_some1 h
    exact W.iret hx hb hr (fun t ht hW => ⟨_, rfl, rfl, ht⟩) (fun q hq => by cases hq) dX0_columnOfSide_10
/-! X0_cellsOfSide -/
def uX0_cellsOfSide (p1 : Int32) : Option (Int64) :=
  (if p1 = 0 then some (1103823438081 : Int64) else some (141289400074368 : Int64))
theorem kdX0_cellsOfSide : yX0_cellsOfSide.cls ≠ "java/lang/invoke/MethodHandle" ∧ yX0_cellsOfSide.cls ≠ "java/lang/invoke/VarHandle" ∧ (parseMethodDescriptor yX0_cellsOfSide.desc).map (fun d => d.parameters.length) = some 1 := by decide +kernel
set_option maxHeartbeats 4000000 in
set_option maxRecDepth 100000 in
theorem kX0_cellsOfSide (l : Launch) (dC : Nat → ClassId) (dI : Nat → Nat → Nat) (cy : Nat → ClassId) (p1 : Int32) (r : Int64) (h : uX0_cellsOfSide p1 = some r) : Met l yX0_cellsOfSide wsX0_cellsOfSide ({ frames := 0, cells := 0, slots := 0, locals := 0 }) (va_Pc [.int p1] (fun U => va_P (dC, dI) vwCl [] U.heap ∧ va_K (dC, dI) vwCl (tyX cy) U)) (vp_Sl (fun r2 => r = r2)) 0 0 (fun _ => False) := by
  refine Met.ofW (cc := cX0_cellsOfSide) (maxL := 1) (ret := (some .long)) (by decide) rfl ?_
  intro p e s m args below meth c s₁ B hml hv
  obtain ⟨rfl, hP, hK⟩ := hv
  have hx := B.exec
  have hb := B.bytes
  have hr := B.returns
  have hts := atoms_spec (ws := wsX0_cellsOfSide) B.pre
  have hown : s.vm.findClass RX0 = some m.cls := findClass_of_methodNamed B.named
  have hlocks := B.notSynchronized
  have lk1 := hts (Cond.constantLong RX0 9 (1103823438081)) (List.mem_of_getElem? (i := 1) rfl)
  have lk2 := hts (Cond.constantLong RX0 11 (141289400074368)) (List.mem_of_getElem? (i := 2) rfl)
  have hl := lv_entry ([.int p1]) (n := 1) (Nat.le_of_ble_eq_true rfl)
  rw [lg_entry_eq]
  generalize (lg_sl ([.int p1]) ++ List.replicate (1 - (lg_sl ([.int p1])).length) Slot.unset).toArray = ls at hl ⊢
  have hl : lv_has ls 1 [(0, .int p1)] := hl
  unfold uX0_cellsOfSide at h
  refine bb_cap (fun WW toW ofW => ?_)
  refine lv_iload_n hx hb dX0_cellsOfSide_0 rfl (lv_at hl 0 rfl) ?_
  refine lv_if_ne (tgt := 10) hx hb dX0_cellsOfSide_1 (by decide) (fun c1 => ?_) (fun c1 => ?_)
  · replace h := bb_ifn c1 h
    refine lv_ldc2 (v := (141289400074368 : Int64)) hx hb hown lk2 dX0_cellsOfSide_10 ?_
    obtain rfl := bb_some1 h
    exact W.lret hx hb hr (fun t ht hW => ⟨_, rfl, rfl, ht⟩) (fun q hq => by cases hq) dX0_cellsOfSide_13
  · replace h := bb_ifp c1 h
    refine lv_ldc2 (v := (1103823438081 : Int64)) hx hb hown lk1 dX0_cellsOfSide_4 ?_
    refine lv_goto (tgt := 13) hx hb dX0_cellsOfSide_7 (by decide) ?_
    obtain rfl := bb_some1 h
    exact W.lret hx hb hr (fun t ht hW => ⟨_, rfl, rfl, ht⟩) (fun q hq => by cases hq) dX0_cellsOfSide_13
/-! X0_has -/
def uX0_has (p1 : Int64) (p2 : Int32) : Option (Int32) :=
  (if (lg_cmp (((p1.toUInt64 >>> (p2.toInt64.toUInt64 &&& Int64.toUInt64 63)).toInt64) &&& (1 : Int64)) (0 : Int64)) = 0 then some (0 : Int32) else some (1 : Int32))
theorem kdX0_has : yX0_has.cls ≠ "java/lang/invoke/MethodHandle" ∧ yX0_has.cls ≠ "java/lang/invoke/VarHandle" ∧ (parseMethodDescriptor yX0_has.desc).map (fun d => d.parameters.length) = some 2 := by decide +kernel
set_option maxHeartbeats 4000000 in
set_option maxRecDepth 100000 in
theorem kX0_has (l : Launch) (dC : Nat → ClassId) (dI : Nat → Nat → Nat) (cy : Nat → ClassId) (p1 : Int64) (p2 : Int32) (r : Int32) (h : uX0_has p1 p2 = some r) : Met l yX0_has wsX0_has ({ frames := 0, cells := 0, slots := 0, locals := 0 }) (va_Pc [.long p1, .int p2] (fun U => va_P (dC, dI) vwCl [] U.heap ∧ va_K (dC, dI) vwCl (tyX cy) U)) (vp_Si (fun r2 => r = r2 ∧ narrow .boolean (.int r2) = .int r2)) 0 0 (fun _ => False) := by
  refine Met.ofW (cc := cX0_has) (maxL := 3) (ret := (some .boolean)) (by decide) rfl ?_
  intro p e s m args below meth c s₁ B hml hv
  obtain ⟨rfl, hP, hK⟩ := hv
  have hx := B.exec
  have hb := B.bytes
  have hr := B.returns
  have hts := atoms_spec (ws := wsX0_has) B.pre
  have hown : s.vm.findClass RX0 = some m.cls := findClass_of_methodNamed B.named
  have hlocks := B.notSynchronized
  have hl := lv_entry ([.long p1, .int p2]) (n := 3) (Nat.le_of_ble_eq_true rfl)
  rw [lg_entry_eq]
  generalize (lg_sl ([.long p1, .int p2]) ++ List.replicate (3 - (lg_sl ([.long p1, .int p2])).length) Slot.unset).toArray = ls at hl ⊢
  have hl : lv_has ls 3 [(0, .long p1), (2, .int p2)] := hl
  unfold uX0_has at h
  refine bb_cap (fun WW toW ofW => ?_)
  refine lv_lload_n hx hb dX0_has_0 rfl (lv_at hl 0 rfl) ?_
  refine lv_iload_n hx hb dX0_has_1 rfl (lv_at hl 1 rfl) ?_
  refine lv_lushr hx hb dX0_has_2 rfl ?_
  refine lv_lconst (v := (1 : Int64)) hx hb dX0_has_3 (by decide) ?_
  refine lv_land hx hb dX0_has_4 ?_
  refine lv_lconst (v := (0 : Int64)) hx hb dX0_has_5 (by decide) ?_
  refine W.lcmp hx hb dX0_has_6 ?_
  refine lv_if_eq (tgt := 14) hx hb dX0_has_7 (by decide) (fun c1 => ?_) (fun c1 => ?_)
  · replace h := bb_ifp c1 h
    refine lv_iconst (v := (0 : Int32)) hx hb dX0_has_14 (by decide) ?_
    obtain rfl := bb_some1 h
    exact W.zret hx hb hr (by decide) (fun t ht hW => ⟨_, rfl, ⟨rfl, (by decide)⟩, ht⟩) (fun q hq => by cases hq) dX0_has_15
  · replace h := bb_ifn c1 h
    refine lv_iconst (v := (1 : Int32)) hx hb dX0_has_10 (by decide) ?_
    refine lv_goto (tgt := 15) hx hb dX0_has_11 (by decide) ?_
    obtain rfl := bb_some1 h
    exact W.zret hx hb hr (by decide) (fun t ht hW => ⟨_, rfl, ⟨rfl, (by decide)⟩, ht⟩) (fun q hq => by cases hq) dX0_has_15
/-! X0_apart -/
def uX0_apart (p1 : Int32) (p2 : Int32) : Option (Int32) :=
  bb_b1 (uX0_rowOf p1) (fun (r1 : Int32) => bb_b1 (uX0_rowOf p2) (fun (r4 : Int32) => bb_b1 (uX0_columnOf p1) (fun (r7 : Int32) => bb_b1 (uX0_columnOf p2) (fun (r10 : Int32) => some ((if 0 ≤ (r1 - r4) then (r1 - r4) else 0 - (r1 - r4)) + (if 0 ≤ (r7 - r10) then (r7 - r10) else 0 - (r7 - r10)))))))
theorem kdX0_apart : yX0_apart.cls ≠ "java/lang/invoke/MethodHandle" ∧ yX0_apart.cls ≠ "java/lang/invoke/VarHandle" ∧ (parseMethodDescriptor yX0_apart.desc).map (fun d => d.parameters.length) = some 2 := by decide +kernel
set_option maxHeartbeats 4000000 in
set_option maxRecDepth 100000 in
theorem kX0_apart (l : Launch) (dC : Nat → ClassId) (dI : Nat → Nat → Nat) (cy : Nat → ClassId) (p1 : Int32) (p2 : Int32) (r : Int32) (h : uX0_apart p1 p2 = some r) : Met l yX0_apart wsX0_apart ({ frames := 1, cells := 0, slots := 0, locals := 21 }) (va_Pc [.int p1, .int p2] (fun U => va_P (dC, dI) vwCl [] U.heap ∧ va_K (dC, dI) vwCl (tyX cy) U)) (vp_Si (fun r2 => r = r2)) 0 0 (fun _ => False) := by
  refine Met.ofW (cc := cX0_apart) (maxL := 2) (ret := (some .int)) (by decide) rfl ?_
  intro p e s m args below meth c s₁ B hml hv
  obtain ⟨rfl, hP, hK⟩ := hv
  have hx := B.exec
  have hb := B.bytes
  have hr := B.returns
  have hts := atoms_spec (ws := wsX0_apart) B.pre
  have hown : s.vm.findClass RX0 = some m.cls := findClass_of_methodNamed B.named
  have hlocks := B.notSynchronized
  have lk1 := hts (Cond.methodLink RX0 17 Lib.Math.abs.name) (List.mem_of_getElem? (i := 1) rfl)
  have lk2 := hts (Cond.static Lib.Math.abs.name) (List.mem_of_getElem? (i := 2) rfl)
  have lk3 := hts (Cond.initialized "java/lang/Math") (List.mem_of_getElem? (i := 3) rfl)
  have lk4 := hts (Cond.code Lib.Math.abs.name Lib.Math.abs.code 1 (some .int)) (List.mem_of_getElem? (i := 4) rfl)
  have hl := lv_entry ([.int p1, .int p2]) (n := 2) (Nat.le_of_ble_eq_true rfl)
  rw [lg_entry_eq]
  generalize (lg_sl ([.int p1, .int p2]) ++ List.replicate (2 - (lg_sl ([.int p1, .int p2])).length) Slot.unset).toArray = ls at hl ⊢
  have hl : lv_has ls 2 [(0, .int p1), (1, .int p2)] := hl
  unfold uX0_apart at h
  refine bb_cap (fun WW toW ofW => ?_)
  refine lv_iload_n hx hb dX0_apart_0 rfl (lv_at hl 0 rfl) ?_
  obtain ⟨r1, hc2, h⟩ := bb_b1_o h
  refine vp_callSi (W.runS (As := [.int p1]) (rest := []) ⟨hx, hb, hml, hown, hts⟩ (kX0_rowOf l dC dI cy p1 r1 hc2) (va_cwS 1 hts gX0_apart_X0_rowOf rfl rfl rfl kdX0_rowOf ⟨Nat.le_of_ble_eq_true rfl, Nat.le_of_ble_eq_true rfl⟩) (bb_preS hP hK) rfl rfl hl.1 rfl (lv_room (Nat.le_of_ble_eq_true rfl)) dX0_apart_1 ⟨Nat.zero_le _, Nat.zero_le _⟩) (fun t3 et3 => ?_)
  obtain rfl := et3
  refine lv_iload_n hx hb dX0_apart_4 rfl (lv_at hl 1 rfl) ?_
  obtain ⟨r4, hc5, h⟩ := bb_b1_o h
  refine vp_callSi (W.runS (As := [.int p2]) (rest := [.int r1]) ⟨hx, hb, hml, hown, hts⟩ (kX0_rowOf l dC dI cy p2 r4 hc5) (va_cwS 1 hts gX0_apart_X0_rowOf rfl rfl rfl kdX0_rowOf ⟨Nat.le_of_ble_eq_true rfl, Nat.le_of_ble_eq_true rfl⟩) (bb_preS hP hK) rfl rfl hl.1 rfl (lv_room (Nat.le_of_ble_eq_true rfl)) dX0_apart_5 ⟨Nat.zero_le _, Nat.zero_le _⟩) (fun t6 et6 => ?_)
  obtain rfl := et6
  refine lv_isub hx hb dX0_apart_8 ?_
  refine va_mabs hx hb (hml.trans hl.1.symm) hown lk1 lk2 lk3 lk4 (Nat.le_of_ble_eq_true rfl) (Nat.le_of_ble_eq_true rfl) (Nat.zero_le _) (Nat.zero_le _) dX0_apart_9 ?_
  refine lv_iload_n hx hb dX0_apart_12 rfl (lv_at hl 0 rfl) ?_
  obtain ⟨r7, hc8, h⟩ := bb_b1_o h
  refine vp_callSi (W.runS (As := [.int p1]) (rest := [.int (if 0 ≤ (r1 - r4) then (r1 - r4) else 0 - (r1 - r4))]) ⟨hx, hb, hml, hown, hts⟩ (kX0_columnOf l dC dI cy p1 r7 hc8) (va_cwS 1 hts gX0_apart_X0_columnOf rfl rfl rfl kdX0_columnOf ⟨Nat.le_of_ble_eq_true rfl, Nat.le_of_ble_eq_true rfl⟩) (bb_preS hP hK) rfl rfl hl.1 rfl (lv_room (Nat.le_of_ble_eq_true rfl)) dX0_apart_13 ⟨Nat.zero_le _, Nat.zero_le _⟩) (fun t9 et9 => ?_)
  obtain rfl := et9
  refine lv_iload_n hx hb dX0_apart_16 rfl (lv_at hl 1 rfl) ?_
  obtain ⟨r10, hc11, h⟩ := bb_b1_o h
  refine vp_callSi (W.runS (As := [.int p2]) (rest := [.int r7, .int (if 0 ≤ (r1 - r4) then (r1 - r4) else 0 - (r1 - r4))]) ⟨hx, hb, hml, hown, hts⟩ (kX0_columnOf l dC dI cy p2 r10 hc11) (va_cwS 1 hts gX0_apart_X0_columnOf rfl rfl rfl kdX0_columnOf ⟨Nat.le_of_ble_eq_true rfl, Nat.le_of_ble_eq_true rfl⟩) (bb_preS hP hK) rfl rfl hl.1 rfl (lv_room (Nat.le_of_ble_eq_true rfl)) dX0_apart_17 ⟨Nat.zero_le _, Nat.zero_le _⟩) (fun t12 et12 => ?_)
  obtain rfl := et12
  refine lv_isub hx hb dX0_apart_20 ?_
  refine va_mabs hx hb (hml.trans hl.1.symm) hown lk1 lk2 lk3 lk4 (Nat.le_of_ble_eq_true rfl) (Nat.le_of_ble_eq_true rfl) (Nat.zero_le _) (Nat.zero_le _) dX0_apart_21 ?_
  refine lv_iadd hx hb dX0_apart_24 ?_
  obtain rfl := bb_some1 h
  exact W.iret hx hb hr (fun t ht hW => ⟨_, rfl, rfl, ht⟩) (fun q hq => by cases hq) dX0_apart_25
/-! X0_beside -/
def uX0_beside (p1 : Int32) (p2 : Int32) : Option (Int32) :=
  (if p2 = (1 : Int32) then bb_b1 (uX0_rowOf p1) (fun (r2 : Int32) => (if r2 ≤ 0 then some (-1 : Int32) else some (p1 - (8 : Int32)))) else (if p2 = (2 : Int32) then bb_b1 (uX0_columnOf p1) (fun (r7 : Int32) => (if (7 : Int32) ≤ r7 then some (-1 : Int32) else some (p1 + (1 : Int32)))) else (if p2 = (3 : Int32) then bb_b1 (uX0_rowOf p1) (fun (r12 : Int32) => (if (5 : Int32) ≤ r12 then some (-1 : Int32) else some (p1 + (8 : Int32)))) else (if p2 = (4 : Int32) then bb_b1 (uX0_columnOf p1) (fun (r17 : Int32) => (if r17 ≤ 0 then some (-1 : Int32) else some (p1 - (1 : Int32)))) else some (-1 : Int32)))))
theorem kdX0_beside : yX0_beside.cls ≠ "java/lang/invoke/MethodHandle" ∧ yX0_beside.cls ≠ "java/lang/invoke/VarHandle" ∧ (parseMethodDescriptor yX0_beside.desc).map (fun d => d.parameters.length) = some 2 := by decide +kernel
set_option maxHeartbeats 4000000 in
set_option maxRecDepth 100000 in
theorem kX0_beside (l : Launch) (dC : Nat → ClassId) (dI : Nat → Nat → Nat) (cy : Nat → ClassId) (p1 : Int32) (p2 : Int32) (r : Int32) (h : uX0_beside p1 p2 = some r) : Met l yX0_beside wsX0_beside ({ frames := 1, cells := 0, slots := 0, locals := 20 }) (va_Pc [.int p1, .int p2] (fun U => va_P (dC, dI) vwCl [] U.heap ∧ va_K (dC, dI) vwCl (tyX cy) U)) (vp_Si (fun r2 => r = r2)) 0 0 (fun _ => False) := by
  refine Met.ofW (cc := cX0_beside) (maxL := 2) (ret := (some .int)) (by decide) rfl ?_
  intro p e s m args below meth c s₁ B hml hv
  obtain ⟨rfl, hP, hK⟩ := hv
  have hx := B.exec
  have hb := B.bytes
  have hr := B.returns
  have hts := atoms_spec (ws := wsX0_beside) B.pre
  have hown : s.vm.findClass RX0 = some m.cls := findClass_of_methodNamed B.named
  have hlocks := B.notSynchronized
  have hl := lv_entry ([.int p1, .int p2]) (n := 2) (Nat.le_of_ble_eq_true rfl)
  rw [lg_entry_eq]
  generalize (lg_sl ([.int p1, .int p2]) ++ List.replicate (2 - (lg_sl ([.int p1, .int p2])).length) Slot.unset).toArray = ls at hl ⊢
  have hl : lv_has ls 2 [(0, .int p1), (1, .int p2)] := hl
  unfold uX0_beside at h
  refine bb_cap (fun WW toW ofW => ?_)
  refine lv_iload_n hx hb dX0_beside_0 rfl (lv_at hl 1 rfl) ?_
  by_cases c1 : p2 = (1 : Int32)
  · replace h := bb_ifp c1 h
    refine lv_tableIn (tgt := 32) (off := 31) hx hb dX0_beside_1 (by rw [c1]; decide) (by rw [c1]; decide) (by rw [c1]; decide) (by decide) ?_
    refine lv_iload_n hx hb dX0_beside_32 rfl (lv_at hl 0 rfl) ?_
    obtain ⟨r2, hc3, h⟩ := bb_b1_o h
    refine vp_callSi (W.runS (As := [.int p1]) (rest := []) ⟨hx, hb, hml, hown, hts⟩ (kX0_rowOf l dC dI cy p1 r2 hc3) (va_cwS 1 hts gX0_beside_X0_rowOf rfl rfl rfl kdX0_rowOf ⟨Nat.le_of_ble_eq_true rfl, Nat.le_of_ble_eq_true rfl⟩) (bb_preS hP hK) rfl rfl hl.1 rfl (lv_room (Nat.le_of_ble_eq_true rfl)) dX0_beside_33 ⟨Nat.zero_le _, Nat.zero_le _⟩) (fun t4 et4 => ?_)
    obtain rfl := et4
    refine lv_if_le (tgt := 46) hx hb dX0_beside_36 (by decide) (fun c5 => ?_) (fun c5 => ?_)
    · replace h := bb_ifp c5 h
      refine lv_iconst (v := (-1 : Int32)) hx hb dX0_beside_46 (by decide) ?_
      obtain rfl := bb_some1 h
      exact W.iret hx hb hr (fun t ht hW => ⟨_, rfl, rfl, ht⟩) (fun q hq => by cases hq) dX0_beside_47
    · replace h := bb_ifn c5 h
      refine lv_iload_n hx hb dX0_beside_39 rfl (lv_at hl 0 rfl) ?_
      refine lv_bipush (v := (8 : Int32)) hx hb dX0_beside_40 (by decide) ?_
      refine lv_isub hx hb dX0_beside_42 ?_
      refine lv_goto (tgt := 47) hx hb dX0_beside_43 (by decide) ?_
      obtain rfl := bb_some1 h
      exact W.iret hx hb hr (fun t ht hW => ⟨_, rfl, rfl, ht⟩) (fun q hq => by cases hq) dX0_beside_47
  · replace h := bb_ifn c1 h
    by_cases c6 : p2 = (2 : Int32)
    · replace h := bb_ifp c6 h
      refine lv_tableIn (tgt := 48) (off := 47) hx hb dX0_beside_1 (by rw [c6]; decide) (by rw [c6]; decide) (by rw [c6]; decide) (by decide) ?_
      refine lv_iload_n hx hb dX0_beside_48 rfl (lv_at hl 0 rfl) ?_
      obtain ⟨r7, hc8, h⟩ := bb_b1_o h
      refine vp_callSi (W.runS (As := [.int p1]) (rest := []) ⟨hx, hb, hml, hown, hts⟩ (kX0_columnOf l dC dI cy p1 r7 hc8) (va_cwS 1 hts gX0_beside_X0_columnOf rfl rfl rfl kdX0_columnOf ⟨Nat.le_of_ble_eq_true rfl, Nat.le_of_ble_eq_true rfl⟩) (bb_preS hP hK) rfl rfl hl.1 rfl (lv_room (Nat.le_of_ble_eq_true rfl)) dX0_beside_49 ⟨Nat.zero_le _, Nat.zero_le _⟩) (fun t9 et9 => ?_)
      obtain rfl := et9
      refine lv_bipush (v := (7 : Int32)) hx hb dX0_beside_52 (by decide) ?_
      refine lv_icmp_ge (tgt := 63) hx hb dX0_beside_54 (by decide) (fun c10 => ?_) (fun c10 => ?_)
      · replace h := bb_ifp c10 h
        refine lv_iconst (v := (-1 : Int32)) hx hb dX0_beside_63 (by decide) ?_
        obtain rfl := bb_some1 h
        exact W.iret hx hb hr (fun t ht hW => ⟨_, rfl, rfl, ht⟩) (fun q hq => by cases hq) dX0_beside_64
      · replace h := bb_ifn c10 h
        refine lv_iload_n hx hb dX0_beside_57 rfl (lv_at hl 0 rfl) ?_
        refine lv_iconst (v := (1 : Int32)) hx hb dX0_beside_58 (by decide) ?_
        refine lv_iadd hx hb dX0_beside_59 ?_
        refine lv_goto (tgt := 64) hx hb dX0_beside_60 (by decide) ?_
        obtain rfl := bb_some1 h
        exact W.iret hx hb hr (fun t ht hW => ⟨_, rfl, rfl, ht⟩) (fun q hq => by cases hq) dX0_beside_64
    · replace h := bb_ifn c6 h
      by_cases c11 : p2 = (3 : Int32)
      · replace h := bb_ifp c11 h
        refine lv_tableIn (tgt := 65) (off := 64) hx hb dX0_beside_1 (by rw [c11]; decide) (by rw [c11]; decide) (by rw [c11]; decide) (by decide) ?_
        refine lv_iload_n hx hb dX0_beside_65 rfl (lv_at hl 0 rfl) ?_
        obtain ⟨r12, hc13, h⟩ := bb_b1_o h
        refine vp_callSi (W.runS (As := [.int p1]) (rest := []) ⟨hx, hb, hml, hown, hts⟩ (kX0_rowOf l dC dI cy p1 r12 hc13) (va_cwS 1 hts gX0_beside_X0_rowOf rfl rfl rfl kdX0_rowOf ⟨Nat.le_of_ble_eq_true rfl, Nat.le_of_ble_eq_true rfl⟩) (bb_preS hP hK) rfl rfl hl.1 rfl (lv_room (Nat.le_of_ble_eq_true rfl)) dX0_beside_66 ⟨Nat.zero_le _, Nat.zero_le _⟩) (fun t14 et14 => ?_)
        obtain rfl := et14
        refine lv_iconst (v := (5 : Int32)) hx hb dX0_beside_69 (by decide) ?_
        refine lv_icmp_ge (tgt := 80) hx hb dX0_beside_70 (by decide) (fun c15 => ?_) (fun c15 => ?_)
        · replace h := bb_ifp c15 h
          refine lv_iconst (v := (-1 : Int32)) hx hb dX0_beside_80 (by decide) ?_
          obtain rfl := bb_some1 h
          exact W.iret hx hb hr (fun t ht hW => ⟨_, rfl, rfl, ht⟩) (fun q hq => by cases hq) dX0_beside_81
        · replace h := bb_ifn c15 h
          refine lv_iload_n hx hb dX0_beside_73 rfl (lv_at hl 0 rfl) ?_
          refine lv_bipush (v := (8 : Int32)) hx hb dX0_beside_74 (by decide) ?_
          refine lv_iadd hx hb dX0_beside_76 ?_
          refine lv_goto (tgt := 81) hx hb dX0_beside_77 (by decide) ?_
          obtain rfl := bb_some1 h
          exact W.iret hx hb hr (fun t ht hW => ⟨_, rfl, rfl, ht⟩) (fun q hq => by cases hq) dX0_beside_81
      · replace h := bb_ifn c11 h
        by_cases c16 : p2 = (4 : Int32)
        · replace h := bb_ifp c16 h
          refine lv_tableIn (tgt := 82) (off := 81) hx hb dX0_beside_1 (by rw [c16]; decide) (by rw [c16]; decide) (by rw [c16]; decide) (by decide) ?_
          refine lv_iload_n hx hb dX0_beside_82 rfl (lv_at hl 0 rfl) ?_
          obtain ⟨r17, hc18, h⟩ := bb_b1_o h
          refine vp_callSi (W.runS (As := [.int p1]) (rest := []) ⟨hx, hb, hml, hown, hts⟩ (kX0_columnOf l dC dI cy p1 r17 hc18) (va_cwS 1 hts gX0_beside_X0_columnOf rfl rfl rfl kdX0_columnOf ⟨Nat.le_of_ble_eq_true rfl, Nat.le_of_ble_eq_true rfl⟩) (bb_preS hP hK) rfl rfl hl.1 rfl (lv_room (Nat.le_of_ble_eq_true rfl)) dX0_beside_83 ⟨Nat.zero_le _, Nat.zero_le _⟩) (fun t19 et19 => ?_)
          obtain rfl := et19
          refine lv_if_le (tgt := 95) hx hb dX0_beside_86 (by decide) (fun c20 => ?_) (fun c20 => ?_)
          · replace h := bb_ifp c20 h
            refine lv_iconst (v := (-1 : Int32)) hx hb dX0_beside_95 (by decide) ?_
            obtain rfl := bb_some1 h
            exact W.iret hx hb hr (fun t ht hW => ⟨_, rfl, rfl, ht⟩) (fun q hq => by cases hq) dX0_beside_96
          · replace h := bb_ifn c20 h
            refine lv_iload_n hx hb dX0_beside_89 rfl (lv_at hl 0 rfl) ?_
            refine lv_iconst (v := (1 : Int32)) hx hb dX0_beside_90 (by decide) ?_
            refine lv_isub hx hb dX0_beside_91 ?_
            refine lv_goto (tgt := 96) hx hb dX0_beside_92 (by decide) ?_
            obtain rfl := bb_some1 h
            exact W.iret hx hb hr (fun t ht hW => ⟨_, rfl, rfl, ht⟩) (fun q hq => by cases hq) dX0_beside_96
        · replace h := bb_ifn c16 h
          have q21 := bb_ne (n := 1) (by decide) c1
          have q22 := bb_ne (n := 2) (by decide) c6
          have q23 := bb_ne (n := 3) (by decide) c11
          have q24 := bb_ne (n := 4) (by decide) c16
          refine lv_tableOut (tgt := 97) hx hb dX0_beside_1 (by omega) (by decide) ?_
          refine lv_iconst (v := (-1 : Int32)) hx hb dX0_beside_97 (by decide) ?_
          obtain rfl := bb_some1 h
          exact W.iret hx hb hr (fun t ht hW => ⟨_, rfl, rfl, ht⟩) (fun q hq => by cases hq) dX0_beside_98
/-! X0_allBeside -/
def uX0_allBeside (p1 : Int64) : Option (Int64) :=
  bb_lt (((p1 &&& (-141289400074369 : Int64)) <<< ((1 : Int32).toInt64 &&& 63)) ||| (((p1 &&& (-1103823438082 : Int64)).toUInt64 >>> ((1 : Int32).toInt64.toUInt64 &&& Int64.toUInt64 63)).toInt64)) (fun (y1 : Int64) => some (((y1 ||| (p1 <<< ((8 : Int32).toInt64 &&& 63))) ||| ((p1.toUInt64 >>> ((8 : Int32).toInt64.toUInt64 &&& Int64.toUInt64 63)).toInt64)) &&& (281474976710655 : Int64)))
theorem kdX0_allBeside : yX0_allBeside.cls ≠ "java/lang/invoke/MethodHandle" ∧ yX0_allBeside.cls ≠ "java/lang/invoke/VarHandle" ∧ (parseMethodDescriptor yX0_allBeside.desc).map (fun d => d.parameters.length) = some 1 := by decide +kernel
set_option maxHeartbeats 4000000 in
set_option maxRecDepth 100000 in
theorem kX0_allBeside (l : Launch) (dC : Nat → ClassId) (dI : Nat → Nat → Nat) (cy : Nat → ClassId) (p1 : Int64) (r : Int64) (h : uX0_allBeside p1 = some r) : Met l yX0_allBeside wsX0_allBeside ({ frames := 0, cells := 0, slots := 0, locals := 0 }) (va_Pc [.long p1] (fun U => va_P (dC, dI) vwCl [] U.heap ∧ va_K (dC, dI) vwCl (tyX cy) U)) (vp_Sl (fun r2 => r = r2)) 0 0 (fun _ => False) := by
  refine Met.ofW (cc := cX0_allBeside) (maxL := 4) (ret := (some .long)) (by decide) rfl ?_
  intro p e s m args below meth c s₁ B hml hv
  obtain ⟨rfl, hP, hK⟩ := hv
  have hx := B.exec
  have hb := B.bytes
  have hr := B.returns
  have hts := atoms_spec (ws := wsX0_allBeside) B.pre
  have hown : s.vm.findClass RX0 = some m.cls := findClass_of_methodNamed B.named
  have hlocks := B.notSynchronized
  have lk1 := hts (Cond.constantLong RX0 25 (-141289400074369)) (List.mem_of_getElem? (i := 1) rfl)
  have lk2 := hts (Cond.constantLong RX0 27 (-1103823438082)) (List.mem_of_getElem? (i := 2) rfl)
  have lk3 := hts (Cond.constantLong RX0 29 (281474976710655)) (List.mem_of_getElem? (i := 3) rfl)
  have hl := lv_entry ([.long p1]) (n := 4) (Nat.le_of_ble_eq_true rfl)
  rw [lg_entry_eq]
  generalize (lg_sl ([.long p1]) ++ List.replicate (4 - (lg_sl ([.long p1])).length) Slot.unset).toArray = ls at hl ⊢
  have hl : lv_has ls 4 [(0, .long p1)] := hl
  unfold uX0_allBeside at h
  refine bb_cap (fun WW toW ofW => ?_)
  refine lv_lload_n hx hb dX0_allBeside_0 rfl (lv_at hl 0 rfl) ?_
  refine lv_ldc2 (v := (-141289400074369 : Int64)) hx hb hown lk1 dX0_allBeside_1 ?_
  refine lv_land hx hb dX0_allBeside_4 ?_
  refine lv_iconst (v := (1 : Int32)) hx hb dX0_allBeside_5 (by decide) ?_
  refine lv_lshl hx hb dX0_allBeside_6 rfl ?_
  refine lv_lload_n hx hb dX0_allBeside_7 rfl (lv_at hl 0 rfl) ?_
  refine lv_ldc2 (v := (-1103823438082 : Int64)) hx hb hown lk2 dX0_allBeside_8 ?_
  refine lv_land hx hb dX0_allBeside_11 ?_
  refine lv_iconst (v := (1 : Int32)) hx hb dX0_allBeside_12 (by decide) ?_
  refine lv_lushr hx hb dX0_allBeside_13 rfl ?_
  refine lv_lor hx hb dX0_allBeside_14 ?_
  refine lv_topl (fun y1 ey1 => ?_)
  replace h := bb_lt_o ey1 h
  refine lv_lstore_n (lv' := [(2, .long y1), (0, .long p1)]) hx hb dX0_allBeside_15 rfl hl (by decide) rfl (fun ls hl => ?_)
  refine lv_lload_n hx hb dX0_allBeside_16 rfl (lv_at hl 0 rfl) ?_
  refine lv_lload_n hx hb dX0_allBeside_17 rfl (lv_at hl 1 rfl) ?_
  refine lv_bipush (v := (8 : Int32)) hx hb dX0_allBeside_18 (by decide) ?_
  refine lv_lshl hx hb dX0_allBeside_20 rfl ?_
  refine lv_lor hx hb dX0_allBeside_21 ?_
  refine lv_lload_n hx hb dX0_allBeside_22 rfl (lv_at hl 1 rfl) ?_
  refine lv_bipush (v := (8 : Int32)) hx hb dX0_allBeside_23 (by decide) ?_
  refine lv_lushr hx hb dX0_allBeside_25 rfl ?_
  refine lv_lor hx hb dX0_allBeside_26 ?_
  refine lv_ldc2 (v := (281474976710655 : Int64)) hx hb hown lk3 dX0_allBeside_27 ?_
  refine lv_land hx hb dX0_allBeside_30 ?_
  obtain rfl := bb_some1 h
  exact W.lret hx hb hr (fun t ht hW => ⟨_, rfl, rfl, ht⟩) (fun q hq => by cases hq) dX0_allBeside_31
/-! X1_isMissing -/
def uX1_isMissing (v_t_bits : Int32) : Option (Int32) :=
  (if v_t_bits = 0 then some (1 : Int32) else some (0 : Int32))
theorem kdX1_isMissing : yX1_isMissing.cls = RX1 ∧ yX1_isMissing.cls ≠ "java/lang/invoke/MethodHandle" ∧ yX1_isMissing.cls ≠ "java/lang/invoke/VarHandle" ∧ (parseMethodDescriptor yX1_isMissing.desc).map (fun d => d.parameters.length) = some 0 := by decide +kernel
set_option maxHeartbeats 4000000 in
set_option maxRecDepth 100000 in
theorem kX1_isMissing (l : Launch) (dC : Nat → ClassId) (dI : Nat → Nat → Nat) (cy : Nat → ClassId) (a_t : Nat → Nat) (v_t_bits : Int32) (v_t_length : Int32) (r : Int32) (h : uX1_isMissing v_t_bits = some r) : Met l yX1_isMissing wsX1_isMissing ({ frames := 0, cells := 0, slots := 0, locals := 0 }) (va_Pc [.ref (a_t 0)] (fun U => va_P (dC, dI) vwCl [((a_t 0), oX1 a_t v_t_bits v_t_length)] U.heap ∧ va_K (dC, dI) vwCl (tyX cy) U)) (vp_Si (fun r2 => r = r2 ∧ narrow .boolean (.int r2) = .int r2)) 0 0 (fun _ => False) := by
  refine Met.ofW (cc := cX1_isMissing) (maxL := 1) (ret := (some .boolean)) (by decide) rfl ?_
  intro p e s m args below meth c s₁ B hml hv
  obtain ⟨rfl, hP, hK⟩ := hv
  have hx := B.exec
  have hb := B.bytes
  have hr := B.returns
  have hts := atoms_spec (ws := wsX1_isMissing) B.pre
  have hown : s.vm.findClass RX1 = some m.cls := findClass_of_methodNamed B.named
  have hlocks := B.notSynchronized
  have iwX1 : ∀ w ∈ wsX10, w ∈ wsX1_isMissing := fun w h9 => List.mem_cons_of_mem _ (List.mem_append_right _ (h9))
  have lk1 := hts (Cond.fieldLink RX1 13 "BathBorder$Sheet" "bits" "I") (List.mem_of_getElem? (i := 1) rfl)
  have hl := lv_entry ([.ref (a_t 0)]) (n := 1) (Nat.le_of_ble_eq_true rfl)
  rw [lg_entry_eq]
  generalize (lg_sl ([.ref (a_t 0)]) ++ List.replicate (1 - (lg_sl ([.ref (a_t 0)])).length) Slot.unset).toArray = ls at hl ⊢
  have hl : lv_has ls 1 [(0, .ref (a_t 0))] := hl
  unfold uX1_isMissing at h
  refine bb_cap (fun WW toW ofW => ?_)
  refine lv_aload_n hx hb dX1_isMissing_0 rfl (lv_at hl 0 rfl) ?_
  refine va_get (D := (dC, dI)) (ci := 0) (v := .int v_t_bits) (C := RX1) (T := TX1) (N := 3) hx hb hts iwX1 hown hK hP 0 rfl rfl 1 (by decide) lk1 (fun _ h9 => h9) rfl dX1_isMissing_1 ?_
  refine lv_if_ne (tgt := 11) hx hb dX1_isMissing_4 (by decide) (fun c1 => ?_) (fun c1 => ?_)
  · replace h := bb_ifn c1 h
    refine lv_iconst (v := (0 : Int32)) hx hb dX1_isMissing_11 (by decide) ?_
    obtain rfl := bb_some1 h
    exact W.zret hx hb hr (by decide) (fun t ht hW => ⟨_, rfl, ⟨rfl, (by decide)⟩, ht⟩) (fun q hq => by cases hq) dX1_isMissing_12
  · replace h := bb_ifp c1 h
    refine lv_iconst (v := (1 : Int32)) hx hb dX1_isMissing_7 (by decide) ?_
    refine lv_goto (tgt := 12) hx hb dX1_isMissing_8 (by decide) ?_
    obtain rfl := bb_some1 h
    exact W.zret hx hb hr (by decide) (fun t ht hW => ⟨_, rfl, ⟨rfl, (by decide)⟩, ht⟩) (fun q hq => by cases hq) dX1_isMissing_12
/-! X1_begin -/
def uX1_begin_s20 (v_t_bits_5 : Int32) (v_t_length_6 : Int32) (rec7 : Int32 → (Nat → Int32) → Option ((Int32) × (Int32) × (Nat → Int32))) (x3_3 : Int32) (f_t_numbers_4 : Nat → Int32) : Option ((Int32) × (Int32) × (Nat → Int32)) :=
  (if v_t_length_6 ≤ x3_3 then some (v_t_bits_5, v_t_length_6, f_t_numbers_4) else bb_ix x3_3 40 (rec7 (x3_3 + (1 : Int32)) (upd f_t_numbers_4 x3_3.toNatClampNeg (0 : Int32))))
def uX1_begin (nn : Nat) (p1 : Int32) (p2 : Int32) (v_t_bits : Int32) (v_t_length : Int32) (f_t_numbers : Nat → Int32) : Option ((Int32) × (Int32) × (Nat → Int32)) :=
  bb_cut (fun (z1 : Int32) => bb_loop2 (uX1_begin_s20 p1 z1) nn (0 : Int32) f_t_numbers) (fun k2 => (if p1 = 0 then k2 (0 : Int32) else k2 p2))
theorem kdX1_begin : yX1_begin.cls = RX1 ∧ yX1_begin.cls ≠ "java/lang/invoke/MethodHandle" ∧ yX1_begin.cls ≠ "java/lang/invoke/VarHandle" ∧ (parseMethodDescriptor yX1_begin.desc).map (fun d => d.parameters.length) = some 2 := by decide +kernel
set_option maxHeartbeats 4000000 in
set_option maxRecDepth 100000 in
theorem kX1_begin (l : Launch) (dC : Nat → ClassId) (dI : Nat → Nat → Nat) (cy : Nat → ClassId) (sz : Nat) (a_t : Nat → Nat) (p1 : Int32) (p2 : Int32) (v_t_bits : Int32) (v_t_length : Int32) (f_t_numbers : Nat → Int32) (nn : Nat) (v_t_bits_o : Int32) (v_t_length_o : Int32) (f_t_numbers_o : Nat → Int32) (h : uX1_begin nn p1 p2 v_t_bits v_t_length f_t_numbers = some (v_t_bits_o, v_t_length_o, f_t_numbers_o)) : Met l yX1_begin wsX1_begin ({ frames := 0, cells := 0, slots := 0, locals := 0 }) (va_Pc [.ref (a_t 0), .int p1, .int p2] (fun U => U.heap.size = sz ∧ va_P (dC, dI) vwCl [((a_t 0), oX1 a_t v_t_bits v_t_length), ((a_t 1), .inl (cy 0, 40, .inl f_t_numbers))] U.heap ∧ va_K (dC, dI) vwCl (tyX cy) U ∧ va_D (fun _ => True) [((a_t 0), oX1 a_t v_t_bits v_t_length), ((a_t 1), .inl (cy 0, 40, .inl f_t_numbers))])) (va_Qv (fun (_ : Unit) => True) (fun _ t => va_P (dC, dI) vwCl [((a_t 0), oX1 a_t v_t_bits_o v_t_length_o), ((a_t 1), .inl (cy 0, 40, .inl f_t_numbers_o))] t.heap ∧ va_K (dC, dI) vwCl (tyX cy) t ∧ va_D (va_A [((a_t 0), oX1 a_t v_t_bits v_t_length), ((a_t 1), .inl (cy 0, 40, .inl f_t_numbers))] sz) [((a_t 0), oX1 a_t v_t_bits_o v_t_length_o), ((a_t 1), .inl (cy 0, 40, .inl f_t_numbers_o))]) (va_A [((a_t 0), oX1 a_t v_t_bits v_t_length), ((a_t 1), .inl (cy 0, 40, .inl f_t_numbers))] sz)) 0 0 (va_A [((a_t 0), oX1 a_t v_t_bits v_t_length), ((a_t 1), .inl (cy 0, 40, .inl f_t_numbers))] sz) := by
  refine Met.ofW (cc := cX1_begin) (maxL := 4) (ret := none) (by decide) rfl ?_
  intro p e s m args below meth c s₁ B hml hv
  obtain ⟨rfl, hsz, hP, hK, hD0⟩ := hv
  have hx := B.exec
  have hb := B.bytes
  have hr := B.returns
  have hts := atoms_spec (ws := wsX1_begin) B.pre
  have hown : s.vm.findClass RX1 = some m.cls := findClass_of_methodNamed B.named
  have hlocks := B.notSynchronized
  have iwX1 : ∀ w ∈ wsX10, w ∈ wsX1_begin := fun w h9 => List.mem_cons_of_mem _ (List.mem_append_right _ (h9))
  have lk1 := hts (Cond.fieldLink RX1 13 "BathBorder$Sheet" "bits" "I") (List.mem_of_getElem? (i := 1) rfl)
  have lk2 := hts (Cond.fieldLink RX1 17 "BathBorder$Sheet" "length" "I") (List.mem_of_getElem? (i := 2) rfl)
  have lk3 := hts (Cond.fieldLink RX1 9 "BathBorder$Sheet" "numbers" "[I") (List.mem_of_getElem? (i := 3) rfl)
  subst hsz
  have hD := hD0.self (sz := s.heap.size)
  generalize hAe : va_A [((a_t 0), oX1 a_t v_t_bits v_t_length), ((a_t 1), .inl (cy 0, 40, .inl f_t_numbers))] s.heap.size = A at hD ⊢
  have hA : ∀ q : Nat, s.heap.size ≤ q → A q := fun q h => by rw [← hAe]; exact Or.inr h
  have hS : va_S A s.heap s.heap [] := va_S.rf
  have hP : va_P (dC, dI) vwCl [((a_t 0), oX1 a_t v_t_bits v_t_length), ((a_t 1), .inl (cy 0, 40, .inl f_t_numbers))] s.heap := hP
  have hl := lv_entry ([.ref (a_t 0), .int p1, .int p2]) (n := 4) (Nat.le_of_ble_eq_true rfl)
  rw [lg_entry_eq]
  generalize (lg_sl ([.ref (a_t 0), .int p1, .int p2]) ++ List.replicate (4 - (lg_sl ([.ref (a_t 0), .int p1, .int p2])).length) Slot.unset).toArray = ls at hl ⊢
  have hl : lv_has ls 4 [(0, .ref (a_t 0)), (1, .int p1), (2, .int p2)] := hl
  unfold uX1_begin at h
  refine bb_cap (fun WW toW ofW => ?_)
  refine lv_aload_n hx hb dX1_begin_0 rfl (lv_at hl 0 rfl) ?_
  refine lv_iload_n hx hb dX1_begin_1 rfl (lv_at hl 1 rfl) ?_
  refine va_put (D := (dC, dI)) (ci := 0) (v := .int p1) (ty := .int) (C := RX1) (T := TX1) (N := 3) hx hb hts iwX1 tyX1 tyX1_ok nmX1 hown hK hP hD hS 0 rfl rfl 1 (by decide) lk1 (fun _ h9 => h9) rfl (by decide +kernel) rfl rfl (Nat.le_of_ble_eq_true rfl) dX1_begin_2 (fun H locs hP hD hS => ?_)
  have hP : va_P (dC, dI) vwCl [((a_t 0), oX1 a_t p1 v_t_length), ((a_t 1), .inl (cy 0, 40, .inl f_t_numbers))] H := hP
  have hD : va_D A [((a_t 0), oX1 a_t p1 v_t_length), ((a_t 1), .inl (cy 0, 40, .inl f_t_numbers))] := hD
  refine lv_aload_n hx hb dX1_begin_5 rfl (lv_at hl 0 rfl) ?_
  refine lv_iload_n hx hb dX1_begin_6 rfl (lv_at hl 1 rfl) ?_
  obtain ⟨k2, ek2, h⟩ := bb_cut_o h
  have Jk2 : ∀ (z1 : Int32) (H : Heap) (locs : List Loc) (ls : Array Slot), k2 z1 = some (v_t_bits_o, v_t_length_o, f_t_numbers_o) → va_P (dC, dI) vwCl [((a_t 0), oX1 a_t p1 v_t_length), ((a_t 1), .inl (cy 0, 40, .inl f_t_numbers))] H → va_D A [((a_t 0), oX1 a_t p1 v_t_length), ((a_t 1), .inl (cy 0, 40, .inl f_t_numbers))] → va_S A s.heap H locs → lv_has ls 4 [(0, .ref (a_t 0))] → WW H locs (F0 m 15 ls [.int z1, .ref (a_t 0)]) := by
    intro z1 H locs ls h hP hD hS hl
    refine ofW _ _ _ ?_
    subst ek2
    refine va_put (D := (dC, dI)) (ci := 0) (v := .int z1) (ty := .int) (C := RX1) (T := TX1) (N := 3) hx hb hts iwX1 tyX1 tyX1_ok nmX1 hown hK hP hD hS 0 rfl rfl 2 (by decide) lk2 (fun _ h9 => h9) rfl (by decide +kernel) rfl rfl (Nat.le_of_ble_eq_true rfl) dX1_begin_15 (fun H locs hP hD hS => ?_)
    have hP : va_P (dC, dI) vwCl [((a_t 0), oX1 a_t p1 z1), ((a_t 1), .inl (cy 0, 40, .inl f_t_numbers))] H := hP
    have hD : va_D A [((a_t 0), oX1 a_t p1 z1), ((a_t 1), .inl (cy 0, 40, .inl f_t_numbers))] := hD
    refine lv_iconst (v := (0 : Int32)) hx hb dX1_begin_18 (by decide) ?_
    refine lv_istore_n (lv' := [(3, .int (0 : Int32)), (0, .ref (a_t 0))]) hx hb dX1_begin_19 rfl hl (by decide) rfl (fun ls hl => ?_)
    have L8 : ∀ (n : Nat) (x3_3 : Int32) (f_t_numbers_4 : Nat → Int32) (H : Heap) (locs : List Loc) (ls : Array Slot), bb_loop2 (uX1_begin_s20 p1 z1) n x3_3 f_t_numbers_4 = some (v_t_bits_o, v_t_length_o, f_t_numbers_o) → va_P (dC, dI) vwCl [((a_t 0), oX1 a_t p1 z1), ((a_t 1), .inl (cy 0, 40, .inl f_t_numbers_4))] H → va_D A [((a_t 0), oX1 a_t p1 z1), ((a_t 1), .inl (cy 0, 40, .inl f_t_numbers_4))] → va_S A s.heap H locs → lv_has ls 4 [(0, .ref (a_t 0)), (3, .int x3_3)] → WW H locs (F0 m 20 ls []) := by
      intro n
      induction n with
      | zero => intro x3_3 f_t_numbers_4 H locs ls h; exact (bb_no h).elim
      | succ n ih9 =>
        intro x3_3 f_t_numbers_4 H locs ls h hP hD hS hl
        refine ofW _ _ _ ?_
        obtain ⟨rec7, erec7, h⟩ := bb_loop2_o h
        unfold uX1_begin_s20 at h
        refine lv_iload_n hx hb dX1_begin_20 rfl (lv_at hl 1 rfl) ?_
        refine lv_aload_n hx hb dX1_begin_21 rfl (lv_at hl 0 rfl) ?_
        refine va_get (D := (dC, dI)) (ci := 0) (v := .int z1) (C := RX1) (T := TX1) (N := 3) hx hb hts iwX1 hown hK hP 0 rfl rfl 2 (by decide) lk2 (fun _ h9 => h9) rfl dX1_begin_22 ?_
        refine lv_icmp_ge (tgt := 41) hx hb dX1_begin_25 (by decide) (fun c10 => ?_) (fun c10 => ?_)
        · replace h := bb_ifp c10 h
          obtain ⟨rfl, rfl, rfl⟩ := bb_some3 h
          have hP9 := hP.sub (ws' := [((a_t 0), oX1 a_t p1 z1), ((a_t 1), .inl (cy 0, 40, .inl f_t_numbers_4))]) [0, 1] rfl
          have hD9 := hD.sub (ws' := [((a_t 0), oX1 a_t p1 z1), ((a_t 1), .inl (cy 0, 40, .inl f_t_numbers_4))]) [0, 1] (by decide) rfl
          exact W.vret hx hb hr (fun t ht hW => ⟨⟨(), rfl, trivial, by rw [ht]; exact hP9, va_K.moved hW.alike hK, hD9⟩, hS.F ht⟩) hS.2.2 dX1_begin_41
        · replace h := bb_ifn c10 h
          refine lv_aload_n hx hb dX1_begin_28 rfl (lv_at hl 0 rfl) ?_
          refine va_get (D := (dC, dI)) (ci := 0) (v := .ref (a_t 1)) (C := RX1) (T := TX1) (N := 3) hx hb hts iwX1 hown hK hP 0 rfl rfl 0 (by decide) lk3 (fun _ h9 => h9) rfl dX1_begin_29 ?_
          refine lv_iload_n hx hb dX1_begin_32 rfl (lv_at hl 1 rfl) ?_
          refine lv_iconst (v := (0 : Int32)) hx hb dX1_begin_33 (by decide) ?_
          obtain ⟨hi11, h⟩ := bb_ix_o h
          refine va_iast hx hb hK hP hD hS 1 0 rfl rfl hi11 dX1_begin_34 (fun H locs hP hD hS => ?_)
          have hP : va_P (dC, dI) vwCl [((a_t 0), oX1 a_t p1 z1), ((a_t 1), .inl (cy 0, 40, .inl (upd f_t_numbers_4 x3_3.toNatClampNeg (0 : Int32))))] H := hP
          have hD : va_D A [((a_t 0), oX1 a_t p1 z1), ((a_t 1), .inl (cy 0, 40, .inl (upd f_t_numbers_4 x3_3.toNatClampNeg (0 : Int32))))] := hD
          refine lv_iinc (v := x3_3 + (1 : Int32)) (lv' := [(3, .int (x3_3 + (1 : Int32))), (0, .ref (a_t 0))]) hx hb dX1_begin_35 hl (k := 1) rfl rfl (by decide) rfl (fun ls hl => ?_)
          refine lv_goto (tgt := 20) hx hb dX1_begin_38 (by decide) ?_
          rw [erec7] at h
          exact toW _ _ _ (ih9 (x3_3 + (1 : Int32)) (upd f_t_numbers_4 x3_3.toNatClampNeg (0 : Int32)) _ _ _ h hP hD hS (lv_sub hl [1, 0] rfl))
    exact toW _ _ _ (L8 nn (0 : Int32) f_t_numbers _ _ _ h hP hD hS (lv_sub hl [1, 0] rfl))
  refine lv_if_ne (tgt := 14) hx hb dX1_begin_7 (by decide) (fun c12 => ?_) (fun c12 => ?_)
  · replace h := bb_ifn c12 h
    refine lv_iload_n hx hb dX1_begin_14 rfl (lv_at hl 2 rfl) ?_
    exact toW _ _ _ (Jk2 p2 _ _ _ h hP hD hS (lv_sub hl [0] rfl))
  · replace h := bb_ifp c12 h
    refine lv_iconst (v := (0 : Int32)) hx hb dX1_begin_10 (by decide) ?_
    refine lv_goto (tgt := 15) hx hb dX1_begin_11 (by decide) ?_
    exact toW _ _ _ (Jk2 (0 : Int32) _ _ _ h hP hD hS (lv_sub hl [0] rfl))
/-! X1_put -/
def uX1_put (p1 : Int32) (p2 : Int32) (v_t_bits : Int32) (f_t_numbers : Nat → Int32) : Option ((Nat → Int32)) :=
  (if v_t_bits = (8 : Int32) then bb_ix p1 40 (some (upd f_t_numbers p1.toNatClampNeg p2.toInt8.toInt32)) else (if v_t_bits = (16 : Int32) then bb_ix p1 40 (some (upd f_t_numbers p1.toNatClampNeg p2.toInt16.toInt32)) else bb_ix p1 40 (some (upd f_t_numbers p1.toNatClampNeg p2))))
theorem kdX1_put : yX1_put.cls = RX1 ∧ yX1_put.cls ≠ "java/lang/invoke/MethodHandle" ∧ yX1_put.cls ≠ "java/lang/invoke/VarHandle" ∧ (parseMethodDescriptor yX1_put.desc).map (fun d => d.parameters.length) = some 2 := by decide +kernel
set_option maxHeartbeats 4000000 in
set_option maxRecDepth 100000 in
theorem kX1_put (l : Launch) (dC : Nat → ClassId) (dI : Nat → Nat → Nat) (cy : Nat → ClassId) (sz : Nat) (a_t : Nat → Nat) (p1 : Int32) (p2 : Int32) (v_t_bits : Int32) (v_t_length : Int32) (f_t_numbers : Nat → Int32) (f_t_numbers_o : Nat → Int32) (h : uX1_put p1 p2 v_t_bits f_t_numbers = some f_t_numbers_o) : Met l yX1_put wsX1_put ({ frames := 0, cells := 0, slots := 0, locals := 0 }) (va_Pc [.ref (a_t 0), .int p1, .int p2] (fun U => U.heap.size = sz ∧ va_P (dC, dI) vwCl [((a_t 0), oX1 a_t v_t_bits v_t_length), ((a_t 1), .inl (cy 0, 40, .inl f_t_numbers))] U.heap ∧ va_K (dC, dI) vwCl (tyX cy) U ∧ va_D (fun _ => True) [((a_t 0), oX1 a_t v_t_bits v_t_length), ((a_t 1), .inl (cy 0, 40, .inl f_t_numbers))])) (va_Qv (fun (_ : Unit) => True) (fun _ t => va_P (dC, dI) vwCl [((a_t 0), oX1 a_t v_t_bits v_t_length), ((a_t 1), .inl (cy 0, 40, .inl f_t_numbers_o))] t.heap ∧ va_K (dC, dI) vwCl (tyX cy) t ∧ va_D (va_A [((a_t 0), oX1 a_t v_t_bits v_t_length), ((a_t 1), .inl (cy 0, 40, .inl f_t_numbers))] sz) [((a_t 0), oX1 a_t v_t_bits v_t_length), ((a_t 1), .inl (cy 0, 40, .inl f_t_numbers_o))]) (va_A [((a_t 0), oX1 a_t v_t_bits v_t_length), ((a_t 1), .inl (cy 0, 40, .inl f_t_numbers))] sz)) 0 0 (va_A [((a_t 0), oX1 a_t v_t_bits v_t_length), ((a_t 1), .inl (cy 0, 40, .inl f_t_numbers))] sz) := by
  refine Met.ofW (cc := cX1_put) (maxL := 3) (ret := none) (by decide) rfl ?_
  intro p e s m args below meth c s₁ B hml hv
  obtain ⟨rfl, hsz, hP, hK, hD0⟩ := hv
  have hx := B.exec
  have hb := B.bytes
  have hr := B.returns
  have hts := atoms_spec (ws := wsX1_put) B.pre
  have hown : s.vm.findClass RX1 = some m.cls := findClass_of_methodNamed B.named
  have hlocks := B.notSynchronized
  have iwX1 : ∀ w ∈ wsX10, w ∈ wsX1_put := fun w h9 => List.mem_cons_of_mem _ (List.mem_append_right _ (h9))
  have lk1 := hts (Cond.fieldLink RX1 13 "BathBorder$Sheet" "bits" "I") (List.mem_of_getElem? (i := 1) rfl)
  have lk2 := hts (Cond.fieldLink RX1 9 "BathBorder$Sheet" "numbers" "[I") (List.mem_of_getElem? (i := 2) rfl)
  subst hsz
  have hD := hD0.self (sz := s.heap.size)
  generalize hAe : va_A [((a_t 0), oX1 a_t v_t_bits v_t_length), ((a_t 1), .inl (cy 0, 40, .inl f_t_numbers))] s.heap.size = A at hD ⊢
  have hA : ∀ q : Nat, s.heap.size ≤ q → A q := fun q h => by rw [← hAe]; exact Or.inr h
  have hS : va_S A s.heap s.heap [] := va_S.rf
  have hP : va_P (dC, dI) vwCl [((a_t 0), oX1 a_t v_t_bits v_t_length), ((a_t 1), .inl (cy 0, 40, .inl f_t_numbers))] s.heap := hP
  have hl := lv_entry ([.ref (a_t 0), .int p1, .int p2]) (n := 3) (Nat.le_of_ble_eq_true rfl)
  rw [lg_entry_eq]
  generalize (lg_sl ([.ref (a_t 0), .int p1, .int p2]) ++ List.replicate (3 - (lg_sl ([.ref (a_t 0), .int p1, .int p2])).length) Slot.unset).toArray = ls at hl ⊢
  have hl : lv_has ls 3 [(0, .ref (a_t 0)), (1, .int p1), (2, .int p2)] := hl
  unfold uX1_put at h
  refine bb_cap (fun WW toW ofW => ?_)
  refine lv_aload_n hx hb dX1_put_0 rfl (lv_at hl 0 rfl) ?_
  refine va_get (D := (dC, dI)) (ci := 0) (v := .int v_t_bits) (C := RX1) (T := TX1) (N := 3) hx hb hts iwX1 hown hK hP 0 rfl rfl 1 (by decide) lk1 (fun _ h9 => h9) rfl dX1_put_1 ?_
  refine lv_bipush (v := (8 : Int32)) hx hb dX1_put_4 (by decide) ?_
  refine lv_icmp_ne (tgt := 20) hx hb dX1_put_6 (by decide) (fun c1 => ?_) (fun c1 => ?_)
  · replace h := bb_ifn c1 h
    refine lv_aload_n hx hb dX1_put_20 rfl (lv_at hl 0 rfl) ?_
    refine va_get (D := (dC, dI)) (ci := 0) (v := .int v_t_bits) (C := RX1) (T := TX1) (N := 3) hx hb hts iwX1 hown hK hP 0 rfl rfl 1 (by decide) lk1 (fun _ h9 => h9) rfl dX1_put_21 ?_
    refine lv_bipush (v := (16 : Int32)) hx hb dX1_put_24 (by decide) ?_
    refine lv_icmp_ne (tgt := 40) hx hb dX1_put_26 (by decide) (fun c2 => ?_) (fun c2 => ?_)
    · replace h := bb_ifn c2 h
      refine lv_aload_n hx hb dX1_put_40 rfl (lv_at hl 0 rfl) ?_
      refine va_get (D := (dC, dI)) (ci := 0) (v := .ref (a_t 1)) (C := RX1) (T := TX1) (N := 3) hx hb hts iwX1 hown hK hP 0 rfl rfl 0 (by decide) lk2 (fun _ h9 => h9) rfl dX1_put_41 ?_
      refine lv_iload_n hx hb dX1_put_44 rfl (lv_at hl 1 rfl) ?_
      refine lv_iload_n hx hb dX1_put_45 rfl (lv_at hl 2 rfl) ?_
      obtain ⟨hi3, h⟩ := bb_ix_o h
      refine va_iast hx hb hK hP hD hS 1 0 rfl rfl hi3 dX1_put_46 (fun H locs hP hD hS => ?_)
      have hP : va_P (dC, dI) vwCl [((a_t 0), oX1 a_t v_t_bits v_t_length), ((a_t 1), .inl (cy 0, 40, .inl (upd f_t_numbers p1.toNatClampNeg p2)))] H := hP
      have hD : va_D A [((a_t 0), oX1 a_t v_t_bits v_t_length), ((a_t 1), .inl (cy 0, 40, .inl (upd f_t_numbers p1.toNatClampNeg p2)))] := hD
      obtain rfl := bb_some1 h
      have hP9 := hP.sub (ws' := [((a_t 0), oX1 a_t v_t_bits v_t_length), ((a_t 1), .inl (cy 0, 40, .inl (upd f_t_numbers p1.toNatClampNeg p2)))]) [0, 1] rfl
      have hD9 := hD.sub (ws' := [((a_t 0), oX1 a_t v_t_bits v_t_length), ((a_t 1), .inl (cy 0, 40, .inl (upd f_t_numbers p1.toNatClampNeg p2)))]) [0, 1] (by decide) rfl
      exact W.vret hx hb hr (fun t ht hW => ⟨⟨(), rfl, trivial, by rw [ht]; exact hP9, va_K.moved hW.alike hK, hD9⟩, hS.F ht⟩) hS.2.2 dX1_put_47
    · replace h := bb_ifp c2 h
      refine lv_aload_n hx hb dX1_put_29 rfl (lv_at hl 0 rfl) ?_
      refine va_get (D := (dC, dI)) (ci := 0) (v := .ref (a_t 1)) (C := RX1) (T := TX1) (N := 3) hx hb hts iwX1 hown hK hP 0 rfl rfl 0 (by decide) lk2 (fun _ h9 => h9) rfl dX1_put_30 ?_
      refine lv_iload_n hx hb dX1_put_33 rfl (lv_at hl 1 rfl) ?_
      refine lv_iload_n hx hb dX1_put_34 rfl (lv_at hl 2 rfl) ?_
      refine lv_i2s hx hb dX1_put_35 rfl ?_
      obtain ⟨hi4, h⟩ := bb_ix_o h
      refine va_iast hx hb hK hP hD hS 1 0 rfl rfl hi4 dX1_put_36 (fun H locs hP hD hS => ?_)
      have hP : va_P (dC, dI) vwCl [((a_t 0), oX1 a_t v_t_bits v_t_length), ((a_t 1), .inl (cy 0, 40, .inl (upd f_t_numbers p1.toNatClampNeg p2.toInt16.toInt32)))] H := hP
      have hD : va_D A [((a_t 0), oX1 a_t v_t_bits v_t_length), ((a_t 1), .inl (cy 0, 40, .inl (upd f_t_numbers p1.toNatClampNeg p2.toInt16.toInt32)))] := hD
      refine lv_goto (tgt := 47) hx hb dX1_put_37 (by decide) ?_
      obtain rfl := bb_some1 h
      have hP9 := hP.sub (ws' := [((a_t 0), oX1 a_t v_t_bits v_t_length), ((a_t 1), .inl (cy 0, 40, .inl (upd f_t_numbers p1.toNatClampNeg p2.toInt16.toInt32)))]) [0, 1] rfl
      have hD9 := hD.sub (ws' := [((a_t 0), oX1 a_t v_t_bits v_t_length), ((a_t 1), .inl (cy 0, 40, .inl (upd f_t_numbers p1.toNatClampNeg p2.toInt16.toInt32)))]) [0, 1] (by decide) rfl
      exact W.vret hx hb hr (fun t ht hW => ⟨⟨(), rfl, trivial, by rw [ht]; exact hP9, va_K.moved hW.alike hK, hD9⟩, hS.F ht⟩) hS.2.2 dX1_put_47
  · replace h := bb_ifp c1 h
    refine lv_aload_n hx hb dX1_put_9 rfl (lv_at hl 0 rfl) ?_
    refine va_get (D := (dC, dI)) (ci := 0) (v := .ref (a_t 1)) (C := RX1) (T := TX1) (N := 3) hx hb hts iwX1 hown hK hP 0 rfl rfl 0 (by decide) lk2 (fun _ h9 => h9) rfl dX1_put_10 ?_
    refine lv_iload_n hx hb dX1_put_13 rfl (lv_at hl 1 rfl) ?_
    refine lv_iload_n hx hb dX1_put_14 rfl (lv_at hl 2 rfl) ?_
    refine lv_i2b hx hb dX1_put_15 rfl ?_
    obtain ⟨hi5, h⟩ := bb_ix_o h
    refine va_iast hx hb hK hP hD hS 1 0 rfl rfl hi5 dX1_put_16 (fun H locs hP hD hS => ?_)
    have hP : va_P (dC, dI) vwCl [((a_t 0), oX1 a_t v_t_bits v_t_length), ((a_t 1), .inl (cy 0, 40, .inl (upd f_t_numbers p1.toNatClampNeg p2.toInt8.toInt32)))] H := hP
    have hD : va_D A [((a_t 0), oX1 a_t v_t_bits v_t_length), ((a_t 1), .inl (cy 0, 40, .inl (upd f_t_numbers p1.toNatClampNeg p2.toInt8.toInt32)))] := hD
    refine lv_goto (tgt := 47) hx hb dX1_put_17 (by decide) ?_
    obtain rfl := bb_some1 h
    have hP9 := hP.sub (ws' := [((a_t 0), oX1 a_t v_t_bits v_t_length), ((a_t 1), .inl (cy 0, 40, .inl (upd f_t_numbers p1.toNatClampNeg p2.toInt8.toInt32)))]) [0, 1] rfl
    have hD9 := hD.sub (ws' := [((a_t 0), oX1 a_t v_t_bits v_t_length), ((a_t 1), .inl (cy 0, 40, .inl (upd f_t_numbers p1.toNatClampNeg p2.toInt8.toInt32)))]) [0, 1] (by decide) rfl
    exact W.vret hx hb hr (fun t ht hW => ⟨⟨(), rfl, trivial, by rw [ht]; exact hP9, va_K.moved hW.alike hK, hD9⟩, hS.F ht⟩) hS.2.2 dX1_put_47
/-! X1_hasPart -/
def uX1_hasPart (p1 : Int32) (p2 : Int32) (v_t_length : Int32) : Option (Int32) :=
  (if p1 < 0 then some (0 : Int32) else (if p2 < 0 then some (0 : Int32) else (if v_t_length < p1 then some (0 : Int32) else (if (v_t_length - p1) < p2 then some (0 : Int32) else some (1 : Int32)))))
theorem kdX1_hasPart : yX1_hasPart.cls = RX1 ∧ yX1_hasPart.cls ≠ "java/lang/invoke/MethodHandle" ∧ yX1_hasPart.cls ≠ "java/lang/invoke/VarHandle" ∧ (parseMethodDescriptor yX1_hasPart.desc).map (fun d => d.parameters.length) = some 2 := by decide +kernel
set_option maxHeartbeats 4000000 in
set_option maxRecDepth 100000 in
theorem kX1_hasPart (l : Launch) (dC : Nat → ClassId) (dI : Nat → Nat → Nat) (cy : Nat → ClassId) (a_t : Nat → Nat) (p1 : Int32) (p2 : Int32) (v_t_bits : Int32) (v_t_length : Int32) (r : Int32) (h : uX1_hasPart p1 p2 v_t_length = some r) : Met l yX1_hasPart wsX1_hasPart ({ frames := 0, cells := 0, slots := 0, locals := 0 }) (va_Pc [.ref (a_t 0), .int p1, .int p2] (fun U => va_P (dC, dI) vwCl [((a_t 0), oX1 a_t v_t_bits v_t_length)] U.heap ∧ va_K (dC, dI) vwCl (tyX cy) U)) (vp_Si (fun r2 => r = r2 ∧ narrow .boolean (.int r2) = .int r2)) 0 0 (fun _ => False) := by
  refine Met.ofW (cc := cX1_hasPart) (maxL := 3) (ret := (some .boolean)) (by decide) rfl ?_
  intro p e s m args below meth c s₁ B hml hv
  obtain ⟨rfl, hP, hK⟩ := hv
  have hx := B.exec
  have hb := B.bytes
  have hr := B.returns
  have hts := atoms_spec (ws := wsX1_hasPart) B.pre
  have hown : s.vm.findClass RX1 = some m.cls := findClass_of_methodNamed B.named
  have hlocks := B.notSynchronized
  have iwX1 : ∀ w ∈ wsX10, w ∈ wsX1_hasPart := fun w h9 => List.mem_cons_of_mem _ (List.mem_append_right _ (h9))
  have lk1 := hts (Cond.fieldLink RX1 17 "BathBorder$Sheet" "length" "I") (List.mem_of_getElem? (i := 1) rfl)
  have hl := lv_entry ([.ref (a_t 0), .int p1, .int p2]) (n := 3) (Nat.le_of_ble_eq_true rfl)
  rw [lg_entry_eq]
  generalize (lg_sl ([.ref (a_t 0), .int p1, .int p2]) ++ List.replicate (3 - (lg_sl ([.ref (a_t 0), .int p1, .int p2])).length) Slot.unset).toArray = ls at hl ⊢
  have hl : lv_has ls 3 [(0, .ref (a_t 0)), (1, .int p1), (2, .int p2)] := hl
  unfold uX1_hasPart at h
  refine bb_cap (fun WW toW ofW => ?_)
  refine lv_iload_n hx hb dX1_hasPart_0 rfl (lv_at hl 1 rfl) ?_
  refine lv_if_lt (tgt := 30) hx hb dX1_hasPart_1 (by decide) (fun c1 => ?_) (fun c1 => ?_)
  · replace h := bb_ifp c1 h
    refine lv_iconst (v := (0 : Int32)) hx hb dX1_hasPart_30 (by decide) ?_
    obtain rfl := bb_some1 h
    exact W.zret hx hb hr (by decide) (fun t ht hW => ⟨_, rfl, ⟨rfl, (by decide)⟩, ht⟩) (fun q hq => by cases hq) dX1_hasPart_31
  · replace h := bb_ifn c1 h
    refine lv_iload_n hx hb dX1_hasPart_4 rfl (lv_at hl 2 rfl) ?_
    refine lv_if_lt (tgt := 30) hx hb dX1_hasPart_5 (by decide) (fun c2 => ?_) (fun c2 => ?_)
    · replace h := bb_ifp c2 h
      refine lv_iconst (v := (0 : Int32)) hx hb dX1_hasPart_30 (by decide) ?_
      obtain rfl := bb_some1 h
      exact W.zret hx hb hr (by decide) (fun t ht hW => ⟨_, rfl, ⟨rfl, (by decide)⟩, ht⟩) (fun q hq => by cases hq) dX1_hasPart_31
    · replace h := bb_ifn c2 h
      refine lv_iload_n hx hb dX1_hasPart_8 rfl (lv_at hl 1 rfl) ?_
      refine lv_aload_n hx hb dX1_hasPart_9 rfl (lv_at hl 0 rfl) ?_
      refine va_get (D := (dC, dI)) (ci := 0) (v := .int v_t_length) (C := RX1) (T := TX1) (N := 3) hx hb hts iwX1 hown hK hP 0 rfl rfl 2 (by decide) lk1 (fun _ h9 => h9) rfl dX1_hasPart_10 ?_
      refine lv_icmp_gt (tgt := 30) hx hb dX1_hasPart_13 (by decide) (fun c3 => ?_) (fun c3 => ?_)
      · replace h := bb_ifp c3 h
        refine lv_iconst (v := (0 : Int32)) hx hb dX1_hasPart_30 (by decide) ?_
        obtain rfl := bb_some1 h
        exact W.zret hx hb hr (by decide) (fun t ht hW => ⟨_, rfl, ⟨rfl, (by decide)⟩, ht⟩) (fun q hq => by cases hq) dX1_hasPart_31
      · replace h := bb_ifn c3 h
        refine lv_iload_n hx hb dX1_hasPart_16 rfl (lv_at hl 2 rfl) ?_
        refine lv_aload_n hx hb dX1_hasPart_17 rfl (lv_at hl 0 rfl) ?_
        refine va_get (D := (dC, dI)) (ci := 0) (v := .int v_t_length) (C := RX1) (T := TX1) (N := 3) hx hb hts iwX1 hown hK hP 0 rfl rfl 2 (by decide) lk1 (fun _ h9 => h9) rfl dX1_hasPart_18 ?_
        refine lv_iload_n hx hb dX1_hasPart_21 rfl (lv_at hl 1 rfl) ?_
        refine lv_isub hx hb dX1_hasPart_22 ?_
        refine lv_icmp_gt (tgt := 30) hx hb dX1_hasPart_23 (by decide) (fun c4 => ?_) (fun c4 => ?_)
        · replace h := bb_ifp c4 h
          refine lv_iconst (v := (0 : Int32)) hx hb dX1_hasPart_30 (by decide) ?_
          obtain rfl := bb_some1 h
          exact W.zret hx hb hr (by decide) (fun t ht hW => ⟨_, rfl, ⟨rfl, (by decide)⟩, ht⟩) (fun q hq => by cases hq) dX1_hasPart_31
        · replace h := bb_ifn c4 h
          refine lv_iconst (v := (1 : Int32)) hx hb dX1_hasPart_26 (by decide) ?_
          refine lv_goto (tgt := 31) hx hb dX1_hasPart_27 (by decide) ?_
          obtain rfl := bb_some1 h
          exact W.zret hx hb hr (by decide) (fun t ht hW => ⟨_, rfl, ⟨rfl, (by decide)⟩, ht⟩) (fun q hq => by cases hq) dX1_hasPart_31
/-! X2_classOf -/
def uX2_classOf (p1 : Int32) : Option (Int32) :=
  bb_cut (fun (u1 : Unit) => bb_cut (fun (u3 : Unit) => (if p1 = (59 : Int32) then some (3 : Int32) else some (4 : Int32))) (fun k4 => (if p1 < (48 : Int32) then k4 () else (if (57 : Int32) < p1 then k4 () else some (2 : Int32))))) (fun k2 => (if p1 < (97 : Int32) then k2 () else (if (122 : Int32) < p1 then k2 () else some (1 : Int32))))
theorem kdX2_classOf : yX2_classOf.cls ≠ "java/lang/invoke/MethodHandle" ∧ yX2_classOf.cls ≠ "java/lang/invoke/VarHandle" ∧ (parseMethodDescriptor yX2_classOf.desc).map (fun d => d.parameters.length) = some 1 := by decide +kernel
set_option maxHeartbeats 4000000 in
set_option maxRecDepth 100000 in
theorem kX2_classOf (l : Launch) (dC : Nat → ClassId) (dI : Nat → Nat → Nat) (cy : Nat → ClassId) (p1 : Int32) (r : Int32) (h : uX2_classOf p1 = some r) : Met l yX2_classOf wsX2_classOf ({ frames := 0, cells := 0, slots := 0, locals := 0 }) (va_Pc [.int p1] (fun U => va_P (dC, dI) vwCl [] U.heap ∧ va_K (dC, dI) vwCl (tyX cy) U)) (vp_Si (fun r2 => r = r2)) 0 0 (fun _ => False) := by
  refine Met.ofW (cc := cX2_classOf) (maxL := 1) (ret := (some .int)) (by decide) rfl ?_
  intro p e s m args below meth c s₁ B hml hv
  obtain ⟨rfl, hP, hK⟩ := hv
  have hx := B.exec
  have hb := B.bytes
  have hr := B.returns
  have hts := atoms_spec (ws := wsX2_classOf) B.pre
  have hown : s.vm.findClass RX2 = some m.cls := findClass_of_methodNamed B.named
  have hlocks := B.notSynchronized
  have hl := lv_entry ([.int p1]) (n := 1) (Nat.le_of_ble_eq_true rfl)
  rw [lg_entry_eq]
  generalize (lg_sl ([.int p1]) ++ List.replicate (1 - (lg_sl ([.int p1])).length) Slot.unset).toArray = ls at hl ⊢
  have hl : lv_has ls 1 [(0, .int p1)] := hl
  unfold uX2_classOf at h
  refine bb_cap (fun WW toW ofW => ?_)
  refine lv_iload_n hx hb dX2_classOf_0 rfl (lv_at hl 0 rfl) ?_
  refine lv_bipush (v := (97 : Int32)) hx hb dX2_classOf_1 (by decide) ?_
  obtain ⟨k2, ek2, h⟩ := bb_cut_o h
  have Jk2 : ∀ (u1 : Unit) (ls : Array Slot), k2 u1 = some r → lv_has ls 1 [(0, .int p1)] → WW s.heap [] (F0 m 14 ls []) := by
    intro u1 ls h hl
    refine ofW _ _ _ ?_
    subst ek2
    refine lv_iload_n hx hb dX2_classOf_14 rfl (lv_at hl 0 rfl) ?_
    refine lv_bipush (v := (48 : Int32)) hx hb dX2_classOf_15 (by decide) ?_
    obtain ⟨k4, ek4, h⟩ := bb_cut_o h
    have Jk4 : ∀ (u3 : Unit) (ls : Array Slot), k4 u3 = some r → lv_has ls 1 [(0, .int p1)] → WW s.heap [] (F0 m 28 ls []) := by
      intro u3 ls h hl
      refine ofW _ _ _ ?_
      subst ek4
      refine lv_iload_n hx hb dX2_classOf_28 rfl (lv_at hl 0 rfl) ?_
      refine lv_bipush (v := (59 : Int32)) hx hb dX2_classOf_29 (by decide) ?_
      refine lv_icmp_ne (tgt := 38) hx hb dX2_classOf_31 (by decide) (fun c5 => ?_) (fun c5 => ?_)
      · replace h := bb_ifn c5 h
        refine lv_iconst (v := (4 : Int32)) hx hb dX2_classOf_38 (by decide) ?_
        obtain rfl := bb_some1 h
        exact W.iret hx hb hr (fun t ht hW => ⟨_, rfl, rfl, ht⟩) (fun q hq => by cases hq) dX2_classOf_39
      · replace h := bb_ifp c5 h
        refine lv_iconst (v := (3 : Int32)) hx hb dX2_classOf_34 (by decide) ?_
        refine lv_goto (tgt := 39) hx hb dX2_classOf_35 (by decide) ?_
        obtain rfl := bb_some1 h
        exact W.iret hx hb hr (fun t ht hW => ⟨_, rfl, rfl, ht⟩) (fun q hq => by cases hq) dX2_classOf_39
    refine lv_icmp_lt (tgt := 28) hx hb dX2_classOf_17 (by decide) (fun c6 => ?_) (fun c6 => ?_)
    · replace h := bb_ifp c6 h
      exact toW _ _ _ (Jk4 () _ h (lv_sub hl [0] rfl))
    · replace h := bb_ifn c6 h
      refine lv_iload_n hx hb dX2_classOf_20 rfl (lv_at hl 0 rfl) ?_
      refine lv_bipush (v := (57 : Int32)) hx hb dX2_classOf_21 (by decide) ?_
      refine lv_icmp_gt (tgt := 28) hx hb dX2_classOf_23 (by decide) (fun c7 => ?_) (fun c7 => ?_)
      · replace h := bb_ifp c7 h
        exact toW _ _ _ (Jk4 () _ h (lv_sub hl [0] rfl))
      · replace h := bb_ifn c7 h
        refine lv_iconst (v := (2 : Int32)) hx hb dX2_classOf_26 (by decide) ?_
        obtain rfl := bb_some1 h
        exact W.iret hx hb hr (fun t ht hW => ⟨_, rfl, rfl, ht⟩) (fun q hq => by cases hq) dX2_classOf_27
  refine lv_icmp_lt (tgt := 14) hx hb dX2_classOf_3 (by decide) (fun c8 => ?_) (fun c8 => ?_)
  · replace h := bb_ifp c8 h
    exact toW _ _ _ (Jk2 () _ h (lv_sub hl [0] rfl))
  · replace h := bb_ifn c8 h
    refine lv_iload_n hx hb dX2_classOf_6 rfl (lv_at hl 0 rfl) ?_
    refine lv_bipush (v := (122 : Int32)) hx hb dX2_classOf_7 (by decide) ?_
    refine lv_icmp_gt (tgt := 14) hx hb dX2_classOf_9 (by decide) (fun c9 => ?_) (fun c9 => ?_)
    · replace h := bb_ifp c9 h
      exact toW _ _ _ (Jk2 () _ h (lv_sub hl [0] rfl))
    · replace h := bb_ifn c9 h
      refine lv_iconst (v := (1 : Int32)) hx hb dX2_classOf_12 (by decide) ?_
      obtain rfl := bb_some1 h
      exact W.iret hx hb hr (fun t ht hW => ⟨_, rfl, rfl, ht⟩) (fun q hq => by cases hq) dX2_classOf_13
/-! X2_append -/
def uX2_append (p1 : Int32) (v_t_length : Int32) (f_t_bytes : Nat → Int32) (f_t_classes : Nat → Int32) : Option ((Int32) × (Nat → Int32) × (Nat → Int32)) :=
  bb_ix v_t_length 120 (bb_b1 (uX2_classOf p1) (fun (r2 : Int32) => bb_ix v_t_length 120 (some (v_t_length + (1 : Int32), upd f_t_bytes v_t_length.toNatClampNeg p1, upd f_t_classes v_t_length.toNatClampNeg r2))))
theorem kdX2_append : yX2_append.cls = RX2 ∧ yX2_append.cls ≠ "java/lang/invoke/MethodHandle" ∧ yX2_append.cls ≠ "java/lang/invoke/VarHandle" ∧ (parseMethodDescriptor yX2_append.desc).map (fun d => d.parameters.length) = some 1 := by decide +kernel
set_option maxHeartbeats 4000000 in
set_option maxRecDepth 100000 in
theorem kX2_append (l : Launch) (dC : Nat → ClassId) (dI : Nat → Nat → Nat) (cy : Nat → ClassId) (sz : Nat) (a_t : Nat → Nat) (p1 : Int32) (v_t_length : Int32) (v_t_token : Int32) (v_t_start : Int32) (v_t_stop : Int32) (f_t_bytes : Nat → Int32) (f_t_classes : Nat → Int32) (v_t_length_o : Int32) (f_t_bytes_o : Nat → Int32) (f_t_classes_o : Nat → Int32) (h : uX2_append p1 v_t_length f_t_bytes f_t_classes = some (v_t_length_o, f_t_bytes_o, f_t_classes_o)) : Met l yX2_append wsX2_append ({ frames := 1, cells := 0, slots := 0, locals := 20 }) (va_Pc [.ref (a_t 0), .int p1] (fun U => U.heap.size = sz ∧ va_P (dC, dI) vwCl [((a_t 0), oX2 a_t v_t_length v_t_token v_t_start v_t_stop), ((a_t 1), .inl (cy 0, 120, .inl f_t_bytes)), ((a_t 2), .inl (cy 0, 120, .inl f_t_classes))] U.heap ∧ va_K (dC, dI) vwCl (tyX cy) U ∧ va_D (fun _ => True) [((a_t 0), oX2 a_t v_t_length v_t_token v_t_start v_t_stop), ((a_t 1), .inl (cy 0, 120, .inl f_t_bytes)), ((a_t 2), .inl (cy 0, 120, .inl f_t_classes))])) (va_Qv (fun (_ : Unit) => True) (fun _ t => va_P (dC, dI) vwCl [((a_t 0), oX2 a_t v_t_length_o v_t_token v_t_start v_t_stop), ((a_t 1), .inl (cy 0, 120, .inl f_t_bytes_o)), ((a_t 2), .inl (cy 0, 120, .inl f_t_classes_o))] t.heap ∧ va_K (dC, dI) vwCl (tyX cy) t ∧ va_D (va_A [((a_t 0), oX2 a_t v_t_length v_t_token v_t_start v_t_stop), ((a_t 1), .inl (cy 0, 120, .inl f_t_bytes)), ((a_t 2), .inl (cy 0, 120, .inl f_t_classes))] sz) [((a_t 0), oX2 a_t v_t_length_o v_t_token v_t_start v_t_stop), ((a_t 1), .inl (cy 0, 120, .inl f_t_bytes_o)), ((a_t 2), .inl (cy 0, 120, .inl f_t_classes_o))]) (va_A [((a_t 0), oX2 a_t v_t_length v_t_token v_t_start v_t_stop), ((a_t 1), .inl (cy 0, 120, .inl f_t_bytes)), ((a_t 2), .inl (cy 0, 120, .inl f_t_classes))] sz)) 0 0 (va_A [((a_t 0), oX2 a_t v_t_length v_t_token v_t_start v_t_stop), ((a_t 1), .inl (cy 0, 120, .inl f_t_bytes)), ((a_t 2), .inl (cy 0, 120, .inl f_t_classes))] sz) := by
  refine Met.ofW (cc := cX2_append) (maxL := 2) (ret := none) (by decide) rfl ?_
  intro p e s m args below meth c s₁ B hml hv
  obtain ⟨rfl, hsz, hP, hK, hD0⟩ := hv
  have hx := B.exec
  have hb := B.bytes
  have hr := B.returns
  have hts := atoms_spec (ws := wsX2_append) B.pre
  have hown : s.vm.findClass RX2 = some m.cls := findClass_of_methodNamed B.named
  have hlocks := B.notSynchronized
  have iwX2 : ∀ w ∈ wsX20, w ∈ wsX2_append := fun w h9 => List.mem_cons_of_mem _ (List.mem_append_right _ (h9))
  have lk1 := hts (Cond.fieldLink RX2 9 "BathBorder$Tape" "bytes" "[I") (List.mem_of_getElem? (i := 1) rfl)
  have lk2 := hts (Cond.fieldLink RX2 16 "BathBorder$Tape" "length" "I") (List.mem_of_getElem? (i := 2) rfl)
  have lk3 := hts (Cond.fieldLink RX2 13 "BathBorder$Tape" "classes" "[I") (List.mem_of_getElem? (i := 3) rfl)
  subst hsz
  have hD := hD0.self (sz := s.heap.size)
  generalize hAe : va_A [((a_t 0), oX2 a_t v_t_length v_t_token v_t_start v_t_stop), ((a_t 1), .inl (cy 0, 120, .inl f_t_bytes)), ((a_t 2), .inl (cy 0, 120, .inl f_t_classes))] s.heap.size = A at hD ⊢
  have hA : ∀ q : Nat, s.heap.size ≤ q → A q := fun q h => by rw [← hAe]; exact Or.inr h
  have hS : va_S A s.heap s.heap [] := va_S.rf
  have hP : va_P (dC, dI) vwCl [((a_t 0), oX2 a_t v_t_length v_t_token v_t_start v_t_stop), ((a_t 1), .inl (cy 0, 120, .inl f_t_bytes)), ((a_t 2), .inl (cy 0, 120, .inl f_t_classes))] s.heap := hP
  have hl := lv_entry ([.ref (a_t 0), .int p1]) (n := 2) (Nat.le_of_ble_eq_true rfl)
  rw [lg_entry_eq]
  generalize (lg_sl ([.ref (a_t 0), .int p1]) ++ List.replicate (2 - (lg_sl ([.ref (a_t 0), .int p1])).length) Slot.unset).toArray = ls at hl ⊢
  have hl : lv_has ls 2 [(0, .ref (a_t 0)), (1, .int p1)] := hl
  unfold uX2_append at h
  refine bb_cap (fun WW toW ofW => ?_)
  refine lv_aload_n hx hb dX2_append_0 rfl (lv_at hl 0 rfl) ?_
  refine va_get (D := (dC, dI)) (ci := 1) (v := .ref (a_t 1)) (C := RX2) (T := TX2) (N := 6) hx hb hts iwX2 hown hK hP 0 rfl rfl 0 (by decide) lk1 (fun _ h9 => h9) rfl dX2_append_1 ?_
  refine lv_aload_n hx hb dX2_append_4 rfl (lv_at hl 0 rfl) ?_
  refine va_get (D := (dC, dI)) (ci := 1) (v := .int v_t_length) (C := RX2) (T := TX2) (N := 6) hx hb hts iwX2 hown hK hP 0 rfl rfl 2 (by decide) lk2 (fun _ h9 => h9) rfl dX2_append_5 ?_
  refine lv_iload_n hx hb dX2_append_8 rfl (lv_at hl 1 rfl) ?_
  obtain ⟨hi1, h⟩ := bb_ix_o h
  refine va_iast hx hb hK hP hD hS 1 0 rfl rfl hi1 dX2_append_9 (fun H locs hP hD hS => ?_)
  have hP : va_P (dC, dI) vwCl [((a_t 0), oX2 a_t v_t_length v_t_token v_t_start v_t_stop), ((a_t 1), .inl (cy 0, 120, .inl (upd f_t_bytes v_t_length.toNatClampNeg p1))), ((a_t 2), .inl (cy 0, 120, .inl f_t_classes))] H := hP
  have hD : va_D A [((a_t 0), oX2 a_t v_t_length v_t_token v_t_start v_t_stop), ((a_t 1), .inl (cy 0, 120, .inl (upd f_t_bytes v_t_length.toNatClampNeg p1))), ((a_t 2), .inl (cy 0, 120, .inl f_t_classes))] := hD
  refine lv_aload_n hx hb dX2_append_10 rfl (lv_at hl 0 rfl) ?_
  refine va_get (D := (dC, dI)) (ci := 1) (v := .ref (a_t 2)) (C := RX2) (T := TX2) (N := 6) hx hb hts iwX2 hown hK hP 0 rfl rfl 1 (by decide) lk3 (fun _ h9 => h9) rfl dX2_append_11 ?_
  refine lv_aload_n hx hb dX2_append_14 rfl (lv_at hl 0 rfl) ?_
  refine va_get (D := (dC, dI)) (ci := 1) (v := .int v_t_length) (C := RX2) (T := TX2) (N := 6) hx hb hts iwX2 hown hK hP 0 rfl rfl 2 (by decide) lk2 (fun _ h9 => h9) rfl dX2_append_15 ?_
  refine lv_iload_n hx hb dX2_append_18 rfl (lv_at hl 1 rfl) ?_
  obtain ⟨r2, hc3, h⟩ := bb_b1_o h
  refine vp_callSi (W.runS (As := [.int p1]) (rest := [.int v_t_length, .ref (a_t 2)]) ⟨hx, hb, hml, hown, hts⟩ (kX2_classOf l dC dI cy p1 r2 hc3) (va_cwS 1 hts gX2_append_X2_classOf rfl rfl rfl kdX2_classOf ⟨Nat.le_of_ble_eq_true rfl, Nat.le_of_ble_eq_true rfl⟩) (bb_preS (hP.sub (ws' := []) [] rfl) hK) rfl rfl hl.1 rfl (lv_room (Nat.le_of_ble_eq_true rfl)) dX2_append_19 ⟨Nat.zero_le _, Nat.zero_le _⟩) (fun t4 et4 => ?_)
  obtain rfl := et4
  obtain ⟨hi5, h⟩ := bb_ix_o h
  refine va_iast hx hb hK hP hD hS 2 0 rfl rfl hi5 dX2_append_22 (fun H locs hP hD hS => ?_)
  have hP : va_P (dC, dI) vwCl [((a_t 0), oX2 a_t v_t_length v_t_token v_t_start v_t_stop), ((a_t 1), .inl (cy 0, 120, .inl (upd f_t_bytes v_t_length.toNatClampNeg p1))), ((a_t 2), .inl (cy 0, 120, .inl (upd f_t_classes v_t_length.toNatClampNeg r2)))] H := hP
  have hD : va_D A [((a_t 0), oX2 a_t v_t_length v_t_token v_t_start v_t_stop), ((a_t 1), .inl (cy 0, 120, .inl (upd f_t_bytes v_t_length.toNatClampNeg p1))), ((a_t 2), .inl (cy 0, 120, .inl (upd f_t_classes v_t_length.toNatClampNeg r2)))] := hD
  refine lv_aload_n hx hb dX2_append_23 rfl (lv_at hl 0 rfl) ?_
  refine lv_dup hx hb dX2_append_24 rfl ?_
  refine va_get (D := (dC, dI)) (ci := 1) (v := .int v_t_length) (C := RX2) (T := TX2) (N := 6) hx hb hts iwX2 hown hK hP 0 rfl rfl 2 (by decide) lk2 (fun _ h9 => h9) rfl dX2_append_25 ?_
  refine lv_iconst (v := (1 : Int32)) hx hb dX2_append_28 (by decide) ?_
  refine lv_iadd hx hb dX2_append_29 ?_
  refine va_put (D := (dC, dI)) (ci := 1) (v := .int (v_t_length + (1 : Int32))) (ty := .int) (C := RX2) (T := TX2) (N := 6) hx hb hts iwX2 tyX2 tyX2_ok nmX2 hown hK hP hD hS 0 rfl rfl 2 (by decide) lk2 (fun _ h9 => h9) rfl (by decide +kernel) rfl rfl (Nat.le_of_ble_eq_true rfl) dX2_append_30 (fun H locs hP hD hS => ?_)
  have hP : va_P (dC, dI) vwCl [((a_t 0), oX2 a_t (v_t_length + (1 : Int32)) v_t_token v_t_start v_t_stop), ((a_t 1), .inl (cy 0, 120, .inl (upd f_t_bytes v_t_length.toNatClampNeg p1))), ((a_t 2), .inl (cy 0, 120, .inl (upd f_t_classes v_t_length.toNatClampNeg r2)))] H := hP
  have hD : va_D A [((a_t 0), oX2 a_t (v_t_length + (1 : Int32)) v_t_token v_t_start v_t_stop), ((a_t 1), .inl (cy 0, 120, .inl (upd f_t_bytes v_t_length.toNatClampNeg p1))), ((a_t 2), .inl (cy 0, 120, .inl (upd f_t_classes v_t_length.toNatClampNeg r2)))] := hD
  obtain ⟨rfl, rfl, rfl⟩ := bb_some3 h
  have hP9 := hP.sub (ws' := [((a_t 0), oX2 a_t (v_t_length + (1 : Int32)) v_t_token v_t_start v_t_stop), ((a_t 1), .inl (cy 0, 120, .inl (upd f_t_bytes v_t_length.toNatClampNeg p1))), ((a_t 2), .inl (cy 0, 120, .inl (upd f_t_classes v_t_length.toNatClampNeg r2)))]) [0, 1, 2] rfl
  have hD9 := hD.sub (ws' := [((a_t 0), oX2 a_t (v_t_length + (1 : Int32)) v_t_token v_t_start v_t_stop), ((a_t 1), .inl (cy 0, 120, .inl (upd f_t_bytes v_t_length.toNatClampNeg p1))), ((a_t 2), .inl (cy 0, 120, .inl (upd f_t_classes v_t_length.toNatClampNeg r2)))]) [0, 1, 2] (by decide) rfl
  exact W.vret hx hb hr (fun t ht hW => ⟨⟨(), rfl, trivial, by rw [ht]; exact hP9, va_K.moved hW.alike hK, hD9⟩, hS.F ht⟩) hS.2.2 dX2_append_33
/-! X2_readToken -/
def uX2_readToken_s118 (v_t_length_9 : Int32) (v_t_token_10 : Int32) (v_t_start_11 : Int32) (f_t_classes_13 : Nat → Int32) (rec14 : Int32 → Option ((Int32) × (Int32) × (Int32))) (v_t_stop_8 : Int32) : Option ((Int32) × (Int32) × (Int32)) :=
  (if v_t_length_9 ≤ v_t_stop_8 then some (v_t_token_10, v_t_start_11, v_t_stop_8) else bb_ix v_t_stop_8 120 ((if (f_t_classes_13 v_t_stop_8.toNatClampNeg) = v_t_token_10 then rec14 (v_t_stop_8 + (1 : Int32)) else some (v_t_token_10, v_t_start_11, v_t_stop_8))))
def uX2_readToken_s118_b27 (v_t_length_22 : Int32) (v_t_token_23 : Int32) (v_t_start_24 : Int32) (f_t_classes_26 : Nat → Int32) (rec28 : Int32 → Option ((Int32) × (Int32) × (Int32))) (v_t_stop_21 : Int32) : Option ((Int32) × (Int32) × (Int32)) :=
  (if v_t_length_22 ≤ v_t_stop_21 then some (v_t_token_23, v_t_start_24, v_t_stop_21) else bb_ix v_t_stop_21 120 ((if (f_t_classes_26 v_t_stop_21.toNatClampNeg) = v_t_token_23 then rec28 (v_t_stop_21 + (1 : Int32)) else some (v_t_token_23, v_t_start_24, v_t_stop_21))))
def uX2_readToken_s8 (v_t_length_38 : Int32) (f_t_bytes_41 : Nat → Int32) (k_46 : Int32 → Option ((Int32) × (Int32) × (Int32))) (rec43 : Int32 → Option ((Int32) × (Int32) × (Int32))) (v_t_start_37 : Int32) : Option ((Int32) × (Int32) × (Int32)) :=
  (if v_t_length_38 ≤ v_t_start_37 then k_46 v_t_start_37 else bb_ix v_t_start_37 120 ((if (f_t_bytes_41 v_t_start_37.toNatClampNeg) = (32 : Int32) then rec43 (v_t_start_37 + (1 : Int32)) else k_46 v_t_start_37)))
def uX2_readToken (nn : Nat) (v_t_length : Int32) (v_t_token : Int32) (v_t_start : Int32) (v_t_stop : Int32) (f_t_bytes : Nat → Int32) (f_t_classes : Nat → Int32) : Option ((Int32) × (Int32) × (Int32)) :=
  bb_cut (fun (v_t_start_1 : Int32) => bb_cut (fun (z3 : Int32) => bb_cut (fun (z5 : Int32) => (if z3 = (1 : Int32) then bb_loop1 (uX2_readToken_s118 v_t_length z3 v_t_start_1 f_t_classes) nn z5 else (if z3 = (2 : Int32) then bb_loop1 (uX2_readToken_s118_b27 v_t_length z3 v_t_start_1 f_t_classes) nn z5 else some (z3, v_t_start_1, z5)))) (fun k6 => (if v_t_length ≤ v_t_start_1 then k6 v_t_length else k6 (v_t_start_1 + (1 : Int32))))) (fun k4 => (if v_t_length ≤ v_t_start_1 then k4 (0 : Int32) else bb_ix v_t_start_1 120 (k4 (f_t_classes v_t_start_1.toNatClampNeg))))) (fun k2 => bb_loop1 (uX2_readToken_s8 v_t_length f_t_bytes k2) nn v_t_stop)
theorem kdX2_readToken : yX2_readToken.cls = RX2 ∧ yX2_readToken.cls ≠ "java/lang/invoke/MethodHandle" ∧ yX2_readToken.cls ≠ "java/lang/invoke/VarHandle" ∧ (parseMethodDescriptor yX2_readToken.desc).map (fun d => d.parameters.length) = some 0 := by decide +kernel
set_option maxHeartbeats 4000000 in
set_option maxRecDepth 100000 in
theorem kX2_readToken (l : Launch) (dC : Nat → ClassId) (dI : Nat → Nat → Nat) (cy : Nat → ClassId) (sz : Nat) (a_t : Nat → Nat) (v_t_length : Int32) (v_t_token : Int32) (v_t_start : Int32) (v_t_stop : Int32) (f_t_bytes : Nat → Int32) (f_t_classes : Nat → Int32) (nn : Nat) (v_t_token_o : Int32) (v_t_start_o : Int32) (v_t_stop_o : Int32) (h : uX2_readToken nn v_t_length v_t_token v_t_start v_t_stop f_t_bytes f_t_classes = some (v_t_token_o, v_t_start_o, v_t_stop_o)) : Met l yX2_readToken wsX2_readToken ({ frames := 0, cells := 0, slots := 0, locals := 0 }) (va_Pc [.ref (a_t 0)] (fun U => U.heap.size = sz ∧ va_P (dC, dI) vwCl [((a_t 0), oX2 a_t v_t_length v_t_token v_t_start v_t_stop), ((a_t 1), .inl (cy 0, 120, .inl f_t_bytes)), ((a_t 2), .inl (cy 0, 120, .inl f_t_classes))] U.heap ∧ va_K (dC, dI) vwCl (tyX cy) U ∧ va_D (fun _ => True) [((a_t 0), oX2 a_t v_t_length v_t_token v_t_start v_t_stop), ((a_t 1), .inl (cy 0, 120, .inl f_t_bytes)), ((a_t 2), .inl (cy 0, 120, .inl f_t_classes))])) (va_Qv (fun (_ : Unit) => True) (fun _ t => va_P (dC, dI) vwCl [((a_t 0), oX2 a_t v_t_length v_t_token_o v_t_start_o v_t_stop_o), ((a_t 1), .inl (cy 0, 120, .inl f_t_bytes)), ((a_t 2), .inl (cy 0, 120, .inl f_t_classes))] t.heap ∧ va_K (dC, dI) vwCl (tyX cy) t ∧ va_D (va_A [((a_t 0), oX2 a_t v_t_length v_t_token v_t_start v_t_stop), ((a_t 1), .inl (cy 0, 120, .inl f_t_bytes)), ((a_t 2), .inl (cy 0, 120, .inl f_t_classes))] sz) [((a_t 0), oX2 a_t v_t_length v_t_token_o v_t_start_o v_t_stop_o), ((a_t 1), .inl (cy 0, 120, .inl f_t_bytes)), ((a_t 2), .inl (cy 0, 120, .inl f_t_classes))]) (va_A [((a_t 0), oX2 a_t v_t_length v_t_token v_t_start v_t_stop), ((a_t 1), .inl (cy 0, 120, .inl f_t_bytes)), ((a_t 2), .inl (cy 0, 120, .inl f_t_classes))] sz)) 0 0 (va_A [((a_t 0), oX2 a_t v_t_length v_t_token v_t_start v_t_stop), ((a_t 1), .inl (cy 0, 120, .inl f_t_bytes)), ((a_t 2), .inl (cy 0, 120, .inl f_t_classes))] sz) := by
  refine Met.ofW (cc := cX2_readToken) (maxL := 1) (ret := none) (by decide) rfl ?_
  intro p e s m args below meth c s₁ B hml hv
  obtain ⟨rfl, hsz, hP, hK, hD0⟩ := hv
  have hx := B.exec
  have hb := B.bytes
  have hr := B.returns
  have hts := atoms_spec (ws := wsX2_readToken) B.pre
  have hown : s.vm.findClass RX2 = some m.cls := findClass_of_methodNamed B.named
  have hlocks := B.notSynchronized
  have iwX2 : ∀ w ∈ wsX20, w ∈ wsX2_readToken := fun w h9 => List.mem_cons_of_mem _ (List.mem_append_right _ (h9))
  have lk1 := hts (Cond.fieldLink RX2 24 "BathBorder$Tape" "stop" "I") (List.mem_of_getElem? (i := 1) rfl)
  have lk2 := hts (Cond.fieldLink RX2 30 "BathBorder$Tape" "start" "I") (List.mem_of_getElem? (i := 2) rfl)
  have lk3 := hts (Cond.fieldLink RX2 16 "BathBorder$Tape" "length" "I") (List.mem_of_getElem? (i := 3) rfl)
  have lk4 := hts (Cond.fieldLink RX2 9 "BathBorder$Tape" "bytes" "[I") (List.mem_of_getElem? (i := 4) rfl)
  have lk5 := hts (Cond.fieldLink RX2 13 "BathBorder$Tape" "classes" "[I") (List.mem_of_getElem? (i := 5) rfl)
  have lk6 := hts (Cond.fieldLink RX2 33 "BathBorder$Tape" "token" "I") (List.mem_of_getElem? (i := 6) rfl)
  subst hsz
  have hD := hD0.self (sz := s.heap.size)
  generalize hAe : va_A [((a_t 0), oX2 a_t v_t_length v_t_token v_t_start v_t_stop), ((a_t 1), .inl (cy 0, 120, .inl f_t_bytes)), ((a_t 2), .inl (cy 0, 120, .inl f_t_classes))] s.heap.size = A at hD ⊢
  have hA : ∀ q : Nat, s.heap.size ≤ q → A q := fun q h => by rw [← hAe]; exact Or.inr h
  have hS : va_S A s.heap s.heap [] := va_S.rf
  have hP : va_P (dC, dI) vwCl [((a_t 0), oX2 a_t v_t_length v_t_token v_t_start v_t_stop), ((a_t 1), .inl (cy 0, 120, .inl f_t_bytes)), ((a_t 2), .inl (cy 0, 120, .inl f_t_classes))] s.heap := hP
  have hl := lv_entry ([.ref (a_t 0)]) (n := 1) (Nat.le_of_ble_eq_true rfl)
  rw [lg_entry_eq]
  generalize (lg_sl ([.ref (a_t 0)]) ++ List.replicate (1 - (lg_sl ([.ref (a_t 0)])).length) Slot.unset).toArray = ls at hl ⊢
  have hl : lv_has ls 1 [(0, .ref (a_t 0))] := hl
  unfold uX2_readToken at h
  refine bb_cap (fun WW toW ofW => ?_)
  refine lv_aload_n hx hb dX2_readToken_0 rfl (lv_at hl 0 rfl) ?_
  refine lv_aload_n hx hb dX2_readToken_1 rfl (lv_at hl 0 rfl) ?_
  refine va_get (D := (dC, dI)) (ci := 1) (v := .int v_t_stop) (C := RX2) (T := TX2) (N := 6) hx hb hts iwX2 hown hK hP 0 rfl rfl 5 (by decide) lk1 (fun _ h9 => h9) rfl dX2_readToken_2 ?_
  refine va_put (D := (dC, dI)) (ci := 1) (v := .int v_t_stop) (ty := .int) (C := RX2) (T := TX2) (N := 6) hx hb hts iwX2 tyX2 tyX2_ok nmX2 hown hK hP hD hS 0 rfl rfl 4 (by decide) lk2 (fun _ h9 => h9) rfl (by decide +kernel) rfl rfl (Nat.le_of_ble_eq_true rfl) dX2_readToken_5 (fun H locs hP hD hS => ?_)
  have hP : va_P (dC, dI) vwCl [((a_t 0), oX2 a_t v_t_length v_t_token v_t_stop v_t_stop), ((a_t 1), .inl (cy 0, 120, .inl f_t_bytes)), ((a_t 2), .inl (cy 0, 120, .inl f_t_classes))] H := hP
  have hD : va_D A [((a_t 0), oX2 a_t v_t_length v_t_token v_t_stop v_t_stop), ((a_t 1), .inl (cy 0, 120, .inl f_t_bytes)), ((a_t 2), .inl (cy 0, 120, .inl f_t_classes))] := hD
  obtain ⟨k2, ek2, h⟩ := bb_cut_o h
  have Jk2 : ∀ (v_t_start_1 : Int32) (H : Heap) (locs : List Loc) (ls : Array Slot), k2 v_t_start_1 = some (v_t_token_o, v_t_start_o, v_t_stop_o) → va_P (dC, dI) vwCl [((a_t 0), oX2 a_t v_t_length v_t_token v_t_start_1 v_t_stop), ((a_t 1), .inl (cy 0, 120, .inl f_t_bytes)), ((a_t 2), .inl (cy 0, 120, .inl f_t_classes))] H → va_D A [((a_t 0), oX2 a_t v_t_length v_t_token v_t_start_1 v_t_stop), ((a_t 1), .inl (cy 0, 120, .inl f_t_bytes)), ((a_t 2), .inl (cy 0, 120, .inl f_t_classes))] → va_S A s.heap H locs → lv_has ls 1 [(0, .ref (a_t 0))] → WW H locs (F0 m 46 ls []) := by
    intro v_t_start_1 H locs ls h hP hD hS hl
    refine ofW _ _ _ ?_
    subst ek2
    refine lv_aload_n hx hb dX2_readToken_46 rfl (lv_at hl 0 rfl) ?_
    refine lv_aload_n hx hb dX2_readToken_47 rfl (lv_at hl 0 rfl) ?_
    refine va_get (D := (dC, dI)) (ci := 1) (v := .int v_t_start_1) (C := RX2) (T := TX2) (N := 6) hx hb hts iwX2 hown hK hP 0 rfl rfl 4 (by decide) lk2 (fun _ h9 => h9) rfl dX2_readToken_48 ?_
    refine lv_aload_n hx hb dX2_readToken_51 rfl (lv_at hl 0 rfl) ?_
    refine va_get (D := (dC, dI)) (ci := 1) (v := .int v_t_length) (C := RX2) (T := TX2) (N := 6) hx hb hts iwX2 hown hK hP 0 rfl rfl 2 (by decide) lk3 (fun _ h9 => h9) rfl dX2_readToken_52 ?_
    obtain ⟨k4, ek4, h⟩ := bb_cut_o h
    have Jk4 : ∀ (z3 : Int32) (H : Heap) (locs : List Loc) (ls : Array Slot), k4 z3 = some (v_t_token_o, v_t_start_o, v_t_stop_o) → va_P (dC, dI) vwCl [((a_t 0), oX2 a_t v_t_length v_t_token v_t_start_1 v_t_stop), ((a_t 1), .inl (cy 0, 120, .inl f_t_bytes)), ((a_t 2), .inl (cy 0, 120, .inl f_t_classes))] H → va_D A [((a_t 0), oX2 a_t v_t_length v_t_token v_t_start_1 v_t_stop), ((a_t 1), .inl (cy 0, 120, .inl f_t_bytes)), ((a_t 2), .inl (cy 0, 120, .inl f_t_classes))] → va_S A s.heap H locs → lv_has ls 1 [(0, .ref (a_t 0))] → WW H locs (F0 m 71 ls [.int z3, .ref (a_t 0)]) := by
      intro z3 H locs ls h hP hD hS hl
      refine ofW _ _ _ ?_
      subst ek4
      refine va_put (D := (dC, dI)) (ci := 1) (v := .int z3) (ty := .int) (C := RX2) (T := TX2) (N := 6) hx hb hts iwX2 tyX2 tyX2_ok nmX2 hown hK hP hD hS 0 rfl rfl 3 (by decide) lk6 (fun _ h9 => h9) rfl (by decide +kernel) rfl rfl (Nat.le_of_ble_eq_true rfl) dX2_readToken_71 (fun H locs hP hD hS => ?_)
      have hP : va_P (dC, dI) vwCl [((a_t 0), oX2 a_t v_t_length z3 v_t_start_1 v_t_stop), ((a_t 1), .inl (cy 0, 120, .inl f_t_bytes)), ((a_t 2), .inl (cy 0, 120, .inl f_t_classes))] H := hP
      have hD : va_D A [((a_t 0), oX2 a_t v_t_length z3 v_t_start_1 v_t_stop), ((a_t 1), .inl (cy 0, 120, .inl f_t_bytes)), ((a_t 2), .inl (cy 0, 120, .inl f_t_classes))] := hD
      refine lv_aload_n hx hb dX2_readToken_74 rfl (lv_at hl 0 rfl) ?_
      refine lv_aload_n hx hb dX2_readToken_75 rfl (lv_at hl 0 rfl) ?_
      refine va_get (D := (dC, dI)) (ci := 1) (v := .int v_t_start_1) (C := RX2) (T := TX2) (N := 6) hx hb hts iwX2 hown hK hP 0 rfl rfl 4 (by decide) lk2 (fun _ h9 => h9) rfl dX2_readToken_76 ?_
      refine lv_aload_n hx hb dX2_readToken_79 rfl (lv_at hl 0 rfl) ?_
      refine va_get (D := (dC, dI)) (ci := 1) (v := .int v_t_length) (C := RX2) (T := TX2) (N := 6) hx hb hts iwX2 hown hK hP 0 rfl rfl 2 (by decide) lk3 (fun _ h9 => h9) rfl dX2_readToken_80 ?_
      obtain ⟨k6, ek6, h⟩ := bb_cut_o h
      have Jk6 : ∀ (z5 : Int32) (H : Heap) (locs : List Loc) (ls : Array Slot), k6 z5 = some (v_t_token_o, v_t_start_o, v_t_stop_o) → va_P (dC, dI) vwCl [((a_t 0), oX2 a_t v_t_length z3 v_t_start_1 v_t_stop), ((a_t 1), .inl (cy 0, 120, .inl f_t_bytes)), ((a_t 2), .inl (cy 0, 120, .inl f_t_classes))] H → va_D A [((a_t 0), oX2 a_t v_t_length z3 v_t_start_1 v_t_stop), ((a_t 1), .inl (cy 0, 120, .inl f_t_bytes)), ((a_t 2), .inl (cy 0, 120, .inl f_t_classes))] → va_S A s.heap H locs → lv_has ls 1 [(0, .ref (a_t 0))] → WW H locs (F0 m 99 ls [.int z5, .ref (a_t 0)]) := by
        intro z5 H locs ls h hP hD hS hl
        refine ofW _ _ _ ?_
        subst ek6
        refine va_put (D := (dC, dI)) (ci := 1) (v := .int z5) (ty := .int) (C := RX2) (T := TX2) (N := 6) hx hb hts iwX2 tyX2 tyX2_ok nmX2 hown hK hP hD hS 0 rfl rfl 5 (by decide) lk1 (fun _ h9 => h9) rfl (by decide +kernel) rfl rfl (Nat.le_of_ble_eq_true rfl) dX2_readToken_99 (fun H locs hP hD hS => ?_)
        have hP : va_P (dC, dI) vwCl [((a_t 0), oX2 a_t v_t_length z3 v_t_start_1 z5), ((a_t 1), .inl (cy 0, 120, .inl f_t_bytes)), ((a_t 2), .inl (cy 0, 120, .inl f_t_classes))] H := hP
        have hD : va_D A [((a_t 0), oX2 a_t v_t_length z3 v_t_start_1 z5), ((a_t 1), .inl (cy 0, 120, .inl f_t_bytes)), ((a_t 2), .inl (cy 0, 120, .inl f_t_classes))] := hD
        refine lv_aload_n hx hb dX2_readToken_102 rfl (lv_at hl 0 rfl) ?_
        refine va_get (D := (dC, dI)) (ci := 1) (v := .int z3) (C := RX2) (T := TX2) (N := 6) hx hb hts iwX2 hown hK hP 0 rfl rfl 3 (by decide) lk6 (fun _ h9 => h9) rfl dX2_readToken_103 ?_
        refine lv_iconst (v := (1 : Int32)) hx hb dX2_readToken_106 (by decide) ?_
        refine lv_icmp_eq (tgt := 118) hx hb dX2_readToken_107 (by decide) (fun c7 => ?_) (fun c7 => ?_)
        · replace h := bb_ifp c7 h
          have L15 : ∀ (n : Nat) (v_t_stop_8 : Int32) (H : Heap) (locs : List Loc) (ls : Array Slot), bb_loop1 (uX2_readToken_s118 v_t_length z3 v_t_start_1 f_t_classes) n v_t_stop_8 = some (v_t_token_o, v_t_start_o, v_t_stop_o) → va_P (dC, dI) vwCl [((a_t 0), oX2 a_t v_t_length z3 v_t_start_1 v_t_stop_8), ((a_t 1), .inl (cy 0, 120, .inl f_t_bytes)), ((a_t 2), .inl (cy 0, 120, .inl f_t_classes))] H → va_D A [((a_t 0), oX2 a_t v_t_length z3 v_t_start_1 v_t_stop_8), ((a_t 1), .inl (cy 0, 120, .inl f_t_bytes)), ((a_t 2), .inl (cy 0, 120, .inl f_t_classes))] → va_S A s.heap H locs → lv_has ls 1 [(0, .ref (a_t 0))] → WW H locs (F0 m 118 ls []) := by
            intro n
            induction n with
            | zero => intro v_t_stop_8 H locs ls h; exact (bb_no h).elim
            | succ n ih16 =>
              intro v_t_stop_8 H locs ls h hP hD hS hl
              refine ofW _ _ _ ?_
              obtain ⟨rec14, erec14, h⟩ := bb_loop1_o h
              unfold uX2_readToken_s118 at h
              refine lv_aload_n hx hb dX2_readToken_118 rfl (lv_at hl 0 rfl) ?_
              refine va_get (D := (dC, dI)) (ci := 1) (v := .int v_t_stop_8) (C := RX2) (T := TX2) (N := 6) hx hb hts iwX2 hown hK hP 0 rfl rfl 5 (by decide) lk1 (fun _ h9 => h9) rfl dX2_readToken_119 ?_
              refine lv_aload_n hx hb dX2_readToken_122 rfl (lv_at hl 0 rfl) ?_
              refine va_get (D := (dC, dI)) (ci := 1) (v := .int v_t_length) (C := RX2) (T := TX2) (N := 6) hx hb hts iwX2 hown hK hP 0 rfl rfl 2 (by decide) lk3 (fun _ h9 => h9) rfl dX2_readToken_123 ?_
              refine lv_icmp_ge (tgt := 158) hx hb dX2_readToken_126 (by decide) (fun c17 => ?_) (fun c17 => ?_)
              · replace h := bb_ifp c17 h
                obtain ⟨rfl, rfl, rfl⟩ := bb_some3 h
                have hP9 := hP.sub (ws' := [((a_t 0), oX2 a_t v_t_length z3 v_t_start_1 v_t_stop_8), ((a_t 1), .inl (cy 0, 120, .inl f_t_bytes)), ((a_t 2), .inl (cy 0, 120, .inl f_t_classes))]) [0, 1, 2] rfl
                have hD9 := hD.sub (ws' := [((a_t 0), oX2 a_t v_t_length z3 v_t_start_1 v_t_stop_8), ((a_t 1), .inl (cy 0, 120, .inl f_t_bytes)), ((a_t 2), .inl (cy 0, 120, .inl f_t_classes))]) [0, 1, 2] (by decide) rfl
                exact W.vret hx hb hr (fun t ht hW => ⟨⟨(), rfl, trivial, by rw [ht]; exact hP9, va_K.moved hW.alike hK, hD9⟩, hS.F ht⟩) hS.2.2 dX2_readToken_158
              · replace h := bb_ifn c17 h
                refine lv_aload_n hx hb dX2_readToken_129 rfl (lv_at hl 0 rfl) ?_
                refine va_get (D := (dC, dI)) (ci := 1) (v := .ref (a_t 2)) (C := RX2) (T := TX2) (N := 6) hx hb hts iwX2 hown hK hP 0 rfl rfl 1 (by decide) lk5 (fun _ h9 => h9) rfl dX2_readToken_130 ?_
                refine lv_aload_n hx hb dX2_readToken_133 rfl (lv_at hl 0 rfl) ?_
                refine va_get (D := (dC, dI)) (ci := 1) (v := .int v_t_stop_8) (C := RX2) (T := TX2) (N := 6) hx hb hts iwX2 hown hK hP 0 rfl rfl 5 (by decide) lk1 (fun _ h9 => h9) rfl dX2_readToken_134 ?_
                obtain ⟨hi18, h⟩ := bb_ix_o h
                refine va_iald hx hb hK hP 2 0 rfl rfl hi18 dX2_readToken_137 ?_
                refine lv_aload_n hx hb dX2_readToken_138 rfl (lv_at hl 0 rfl) ?_
                refine va_get (D := (dC, dI)) (ci := 1) (v := .int z3) (C := RX2) (T := TX2) (N := 6) hx hb hts iwX2 hown hK hP 0 rfl rfl 3 (by decide) lk6 (fun _ h9 => h9) rfl dX2_readToken_139 ?_
                refine lv_icmp_ne (tgt := 158) hx hb dX2_readToken_142 (by decide) (fun c19 => ?_) (fun c19 => ?_)
                · replace h := bb_ifn c19 h
                  obtain ⟨rfl, rfl, rfl⟩ := bb_some3 h
                  have hP9 := hP.sub (ws' := [((a_t 0), oX2 a_t v_t_length z3 v_t_start_1 v_t_stop_8), ((a_t 1), .inl (cy 0, 120, .inl f_t_bytes)), ((a_t 2), .inl (cy 0, 120, .inl f_t_classes))]) [0, 1, 2] rfl
                  have hD9 := hD.sub (ws' := [((a_t 0), oX2 a_t v_t_length z3 v_t_start_1 v_t_stop_8), ((a_t 1), .inl (cy 0, 120, .inl f_t_bytes)), ((a_t 2), .inl (cy 0, 120, .inl f_t_classes))]) [0, 1, 2] (by decide) rfl
                  exact W.vret hx hb hr (fun t ht hW => ⟨⟨(), rfl, trivial, by rw [ht]; exact hP9, va_K.moved hW.alike hK, hD9⟩, hS.F ht⟩) hS.2.2 dX2_readToken_158
                · replace h := bb_ifp c19 h
                  refine lv_aload_n hx hb dX2_readToken_145 rfl (lv_at hl 0 rfl) ?_
                  refine lv_dup hx hb dX2_readToken_146 rfl ?_
                  refine va_get (D := (dC, dI)) (ci := 1) (v := .int v_t_stop_8) (C := RX2) (T := TX2) (N := 6) hx hb hts iwX2 hown hK hP 0 rfl rfl 5 (by decide) lk1 (fun _ h9 => h9) rfl dX2_readToken_147 ?_
                  refine lv_iconst (v := (1 : Int32)) hx hb dX2_readToken_150 (by decide) ?_
                  refine lv_iadd hx hb dX2_readToken_151 ?_
                  refine va_put (D := (dC, dI)) (ci := 1) (v := .int (v_t_stop_8 + (1 : Int32))) (ty := .int) (C := RX2) (T := TX2) (N := 6) hx hb hts iwX2 tyX2 tyX2_ok nmX2 hown hK hP hD hS 0 rfl rfl 5 (by decide) lk1 (fun _ h9 => h9) rfl (by decide +kernel) rfl rfl (Nat.le_of_ble_eq_true rfl) dX2_readToken_152 (fun H locs hP hD hS => ?_)
                  have hP : va_P (dC, dI) vwCl [((a_t 0), oX2 a_t v_t_length z3 v_t_start_1 (v_t_stop_8 + (1 : Int32))), ((a_t 1), .inl (cy 0, 120, .inl f_t_bytes)), ((a_t 2), .inl (cy 0, 120, .inl f_t_classes))] H := hP
                  have hD : va_D A [((a_t 0), oX2 a_t v_t_length z3 v_t_start_1 (v_t_stop_8 + (1 : Int32))), ((a_t 1), .inl (cy 0, 120, .inl f_t_bytes)), ((a_t 2), .inl (cy 0, 120, .inl f_t_classes))] := hD
                  refine lv_goto (tgt := 118) hx hb dX2_readToken_155 (by decide) ?_
                  rw [erec14] at h
                  exact toW _ _ _ (ih16 (v_t_stop_8 + (1 : Int32)) _ _ _ h hP hD hS (lv_sub hl [0] rfl))
          exact toW _ _ _ (L15 nn z5 _ _ _ h hP hD hS (lv_sub hl [0] rfl))
        · replace h := bb_ifn c7 h
          refine lv_aload_n hx hb dX2_readToken_110 rfl (lv_at hl 0 rfl) ?_
          refine va_get (D := (dC, dI)) (ci := 1) (v := .int z3) (C := RX2) (T := TX2) (N := 6) hx hb hts iwX2 hown hK hP 0 rfl rfl 3 (by decide) lk6 (fun _ h9 => h9) rfl dX2_readToken_111 ?_
          refine lv_iconst (v := (2 : Int32)) hx hb dX2_readToken_114 (by decide) ?_
          refine lv_icmp_ne (tgt := 158) hx hb dX2_readToken_115 (by decide) (fun c20 => ?_) (fun c20 => ?_)
          · replace h := bb_ifn c20 h
            obtain ⟨rfl, rfl, rfl⟩ := bb_some3 h
            have hP9 := hP.sub (ws' := [((a_t 0), oX2 a_t v_t_length z3 v_t_start_1 z5), ((a_t 1), .inl (cy 0, 120, .inl f_t_bytes)), ((a_t 2), .inl (cy 0, 120, .inl f_t_classes))]) [0, 1, 2] rfl
            have hD9 := hD.sub (ws' := [((a_t 0), oX2 a_t v_t_length z3 v_t_start_1 z5), ((a_t 1), .inl (cy 0, 120, .inl f_t_bytes)), ((a_t 2), .inl (cy 0, 120, .inl f_t_classes))]) [0, 1, 2] (by decide) rfl
            exact W.vret hx hb hr (fun t ht hW => ⟨⟨(), rfl, trivial, by rw [ht]; exact hP9, va_K.moved hW.alike hK, hD9⟩, hS.F ht⟩) hS.2.2 dX2_readToken_158
          · replace h := bb_ifp c20 h
            have L29 : ∀ (n : Nat) (v_t_stop_21 : Int32) (H : Heap) (locs : List Loc) (ls : Array Slot), bb_loop1 (uX2_readToken_s118_b27 v_t_length z3 v_t_start_1 f_t_classes) n v_t_stop_21 = some (v_t_token_o, v_t_start_o, v_t_stop_o) → va_P (dC, dI) vwCl [((a_t 0), oX2 a_t v_t_length z3 v_t_start_1 v_t_stop_21), ((a_t 1), .inl (cy 0, 120, .inl f_t_bytes)), ((a_t 2), .inl (cy 0, 120, .inl f_t_classes))] H → va_D A [((a_t 0), oX2 a_t v_t_length z3 v_t_start_1 v_t_stop_21), ((a_t 1), .inl (cy 0, 120, .inl f_t_bytes)), ((a_t 2), .inl (cy 0, 120, .inl f_t_classes))] → va_S A s.heap H locs → lv_has ls 1 [(0, .ref (a_t 0))] → WW H locs (F0 m 118 ls []) := by
              intro n
              induction n with
              | zero => intro v_t_stop_21 H locs ls h; exact (bb_no h).elim
              | succ n ih30 =>
                intro v_t_stop_21 H locs ls h hP hD hS hl
                refine ofW _ _ _ ?_
                obtain ⟨rec28, erec28, h⟩ := bb_loop1_o h
                unfold uX2_readToken_s118_b27 at h
                refine lv_aload_n hx hb dX2_readToken_118 rfl (lv_at hl 0 rfl) ?_
                refine va_get (D := (dC, dI)) (ci := 1) (v := .int v_t_stop_21) (C := RX2) (T := TX2) (N := 6) hx hb hts iwX2 hown hK hP 0 rfl rfl 5 (by decide) lk1 (fun _ h9 => h9) rfl dX2_readToken_119 ?_
                refine lv_aload_n hx hb dX2_readToken_122 rfl (lv_at hl 0 rfl) ?_
                refine va_get (D := (dC, dI)) (ci := 1) (v := .int v_t_length) (C := RX2) (T := TX2) (N := 6) hx hb hts iwX2 hown hK hP 0 rfl rfl 2 (by decide) lk3 (fun _ h9 => h9) rfl dX2_readToken_123 ?_
                refine lv_icmp_ge (tgt := 158) hx hb dX2_readToken_126 (by decide) (fun c31 => ?_) (fun c31 => ?_)
                · replace h := bb_ifp c31 h
                  obtain ⟨rfl, rfl, rfl⟩ := bb_some3 h
                  have hP9 := hP.sub (ws' := [((a_t 0), oX2 a_t v_t_length z3 v_t_start_1 v_t_stop_21), ((a_t 1), .inl (cy 0, 120, .inl f_t_bytes)), ((a_t 2), .inl (cy 0, 120, .inl f_t_classes))]) [0, 1, 2] rfl
                  have hD9 := hD.sub (ws' := [((a_t 0), oX2 a_t v_t_length z3 v_t_start_1 v_t_stop_21), ((a_t 1), .inl (cy 0, 120, .inl f_t_bytes)), ((a_t 2), .inl (cy 0, 120, .inl f_t_classes))]) [0, 1, 2] (by decide) rfl
                  exact W.vret hx hb hr (fun t ht hW => ⟨⟨(), rfl, trivial, by rw [ht]; exact hP9, va_K.moved hW.alike hK, hD9⟩, hS.F ht⟩) hS.2.2 dX2_readToken_158
                · replace h := bb_ifn c31 h
                  refine lv_aload_n hx hb dX2_readToken_129 rfl (lv_at hl 0 rfl) ?_
                  refine va_get (D := (dC, dI)) (ci := 1) (v := .ref (a_t 2)) (C := RX2) (T := TX2) (N := 6) hx hb hts iwX2 hown hK hP 0 rfl rfl 1 (by decide) lk5 (fun _ h9 => h9) rfl dX2_readToken_130 ?_
                  refine lv_aload_n hx hb dX2_readToken_133 rfl (lv_at hl 0 rfl) ?_
                  refine va_get (D := (dC, dI)) (ci := 1) (v := .int v_t_stop_21) (C := RX2) (T := TX2) (N := 6) hx hb hts iwX2 hown hK hP 0 rfl rfl 5 (by decide) lk1 (fun _ h9 => h9) rfl dX2_readToken_134 ?_
                  obtain ⟨hi32, h⟩ := bb_ix_o h
                  refine va_iald hx hb hK hP 2 0 rfl rfl hi32 dX2_readToken_137 ?_
                  refine lv_aload_n hx hb dX2_readToken_138 rfl (lv_at hl 0 rfl) ?_
                  refine va_get (D := (dC, dI)) (ci := 1) (v := .int z3) (C := RX2) (T := TX2) (N := 6) hx hb hts iwX2 hown hK hP 0 rfl rfl 3 (by decide) lk6 (fun _ h9 => h9) rfl dX2_readToken_139 ?_
                  refine lv_icmp_ne (tgt := 158) hx hb dX2_readToken_142 (by decide) (fun c33 => ?_) (fun c33 => ?_)
                  · replace h := bb_ifn c33 h
                    obtain ⟨rfl, rfl, rfl⟩ := bb_some3 h
                    have hP9 := hP.sub (ws' := [((a_t 0), oX2 a_t v_t_length z3 v_t_start_1 v_t_stop_21), ((a_t 1), .inl (cy 0, 120, .inl f_t_bytes)), ((a_t 2), .inl (cy 0, 120, .inl f_t_classes))]) [0, 1, 2] rfl
                    have hD9 := hD.sub (ws' := [((a_t 0), oX2 a_t v_t_length z3 v_t_start_1 v_t_stop_21), ((a_t 1), .inl (cy 0, 120, .inl f_t_bytes)), ((a_t 2), .inl (cy 0, 120, .inl f_t_classes))]) [0, 1, 2] (by decide) rfl
                    exact W.vret hx hb hr (fun t ht hW => ⟨⟨(), rfl, trivial, by rw [ht]; exact hP9, va_K.moved hW.alike hK, hD9⟩, hS.F ht⟩) hS.2.2 dX2_readToken_158
                  · replace h := bb_ifp c33 h
                    refine lv_aload_n hx hb dX2_readToken_145 rfl (lv_at hl 0 rfl) ?_
                    refine lv_dup hx hb dX2_readToken_146 rfl ?_
                    refine va_get (D := (dC, dI)) (ci := 1) (v := .int v_t_stop_21) (C := RX2) (T := TX2) (N := 6) hx hb hts iwX2 hown hK hP 0 rfl rfl 5 (by decide) lk1 (fun _ h9 => h9) rfl dX2_readToken_147 ?_
                    refine lv_iconst (v := (1 : Int32)) hx hb dX2_readToken_150 (by decide) ?_
                    refine lv_iadd hx hb dX2_readToken_151 ?_
                    refine va_put (D := (dC, dI)) (ci := 1) (v := .int (v_t_stop_21 + (1 : Int32))) (ty := .int) (C := RX2) (T := TX2) (N := 6) hx hb hts iwX2 tyX2 tyX2_ok nmX2 hown hK hP hD hS 0 rfl rfl 5 (by decide) lk1 (fun _ h9 => h9) rfl (by decide +kernel) rfl rfl (Nat.le_of_ble_eq_true rfl) dX2_readToken_152 (fun H locs hP hD hS => ?_)
                    have hP : va_P (dC, dI) vwCl [((a_t 0), oX2 a_t v_t_length z3 v_t_start_1 (v_t_stop_21 + (1 : Int32))), ((a_t 1), .inl (cy 0, 120, .inl f_t_bytes)), ((a_t 2), .inl (cy 0, 120, .inl f_t_classes))] H := hP
                    have hD : va_D A [((a_t 0), oX2 a_t v_t_length z3 v_t_start_1 (v_t_stop_21 + (1 : Int32))), ((a_t 1), .inl (cy 0, 120, .inl f_t_bytes)), ((a_t 2), .inl (cy 0, 120, .inl f_t_classes))] := hD
                    refine lv_goto (tgt := 118) hx hb dX2_readToken_155 (by decide) ?_
                    rw [erec28] at h
                    exact toW _ _ _ (ih30 (v_t_stop_21 + (1 : Int32)) _ _ _ h hP hD hS (lv_sub hl [0] rfl))
            exact toW _ _ _ (L29 nn z5 _ _ _ h hP hD hS (lv_sub hl [0] rfl))
      refine lv_icmp_ge (tgt := 95) hx hb dX2_readToken_83 (by decide) (fun c34 => ?_) (fun c34 => ?_)
      · replace h := bb_ifp c34 h
        refine lv_aload_n hx hb dX2_readToken_95 rfl (lv_at hl 0 rfl) ?_
        refine va_get (D := (dC, dI)) (ci := 1) (v := .int v_t_length) (C := RX2) (T := TX2) (N := 6) hx hb hts iwX2 hown hK hP 0 rfl rfl 2 (by decide) lk3 (fun _ h9 => h9) rfl dX2_readToken_96 ?_
        exact toW _ _ _ (Jk6 v_t_length _ _ _ h hP hD hS (lv_sub hl [0] rfl))
      · replace h := bb_ifn c34 h
        refine lv_aload_n hx hb dX2_readToken_86 rfl (lv_at hl 0 rfl) ?_
        refine va_get (D := (dC, dI)) (ci := 1) (v := .int v_t_start_1) (C := RX2) (T := TX2) (N := 6) hx hb hts iwX2 hown hK hP 0 rfl rfl 4 (by decide) lk2 (fun _ h9 => h9) rfl dX2_readToken_87 ?_
        refine lv_iconst (v := (1 : Int32)) hx hb dX2_readToken_90 (by decide) ?_
        refine lv_iadd hx hb dX2_readToken_91 ?_
        refine lv_goto (tgt := 99) hx hb dX2_readToken_92 (by decide) ?_
        exact toW _ _ _ (Jk6 (v_t_start_1 + (1 : Int32)) _ _ _ h hP hD hS (lv_sub hl [0] rfl))
    refine lv_icmp_ge (tgt := 70) hx hb dX2_readToken_55 (by decide) (fun c35 => ?_) (fun c35 => ?_)
    · replace h := bb_ifp c35 h
      refine lv_iconst (v := (0 : Int32)) hx hb dX2_readToken_70 (by decide) ?_
      exact toW _ _ _ (Jk4 (0 : Int32) _ _ _ h hP hD hS (lv_sub hl [0] rfl))
    · replace h := bb_ifn c35 h
      refine lv_aload_n hx hb dX2_readToken_58 rfl (lv_at hl 0 rfl) ?_
      refine va_get (D := (dC, dI)) (ci := 1) (v := .ref (a_t 2)) (C := RX2) (T := TX2) (N := 6) hx hb hts iwX2 hown hK hP 0 rfl rfl 1 (by decide) lk5 (fun _ h9 => h9) rfl dX2_readToken_59 ?_
      refine lv_aload_n hx hb dX2_readToken_62 rfl (lv_at hl 0 rfl) ?_
      refine va_get (D := (dC, dI)) (ci := 1) (v := .int v_t_start_1) (C := RX2) (T := TX2) (N := 6) hx hb hts iwX2 hown hK hP 0 rfl rfl 4 (by decide) lk2 (fun _ h9 => h9) rfl dX2_readToken_63 ?_
      obtain ⟨hi36, h⟩ := bb_ix_o h
      refine va_iald hx hb hK hP 2 0 rfl rfl hi36 dX2_readToken_66 ?_
      refine lv_goto (tgt := 71) hx hb dX2_readToken_67 (by decide) ?_
      exact toW _ _ _ (Jk4 (f_t_classes v_t_start_1.toNatClampNeg) _ _ _ h hP hD hS (lv_sub hl [0] rfl))
  have L44 : ∀ (n : Nat) (v_t_start_37 : Int32) (H : Heap) (locs : List Loc) (ls : Array Slot), bb_loop1 (uX2_readToken_s8 v_t_length f_t_bytes k2) n v_t_start_37 = some (v_t_token_o, v_t_start_o, v_t_stop_o) → va_P (dC, dI) vwCl [((a_t 0), oX2 a_t v_t_length v_t_token v_t_start_37 v_t_stop), ((a_t 1), .inl (cy 0, 120, .inl f_t_bytes)), ((a_t 2), .inl (cy 0, 120, .inl f_t_classes))] H → va_D A [((a_t 0), oX2 a_t v_t_length v_t_token v_t_start_37 v_t_stop), ((a_t 1), .inl (cy 0, 120, .inl f_t_bytes)), ((a_t 2), .inl (cy 0, 120, .inl f_t_classes))] → va_S A s.heap H locs → lv_has ls 1 [(0, .ref (a_t 0))] → WW H locs (F0 m 8 ls []) := by
    intro n
    induction n with
    | zero => intro v_t_start_37 H locs ls h; exact (bb_no h).elim
    | succ n ih45 =>
      intro v_t_start_37 H locs ls h hP hD hS hl
      refine ofW _ _ _ ?_
      obtain ⟨rec43, erec43, h⟩ := bb_loop1_o h
      unfold uX2_readToken_s8 at h
      refine lv_aload_n hx hb dX2_readToken_8 rfl (lv_at hl 0 rfl) ?_
      refine va_get (D := (dC, dI)) (ci := 1) (v := .int v_t_start_37) (C := RX2) (T := TX2) (N := 6) hx hb hts iwX2 hown hK hP 0 rfl rfl 4 (by decide) lk2 (fun _ h9 => h9) rfl dX2_readToken_9 ?_
      refine lv_aload_n hx hb dX2_readToken_12 rfl (lv_at hl 0 rfl) ?_
      refine va_get (D := (dC, dI)) (ci := 1) (v := .int v_t_length) (C := RX2) (T := TX2) (N := 6) hx hb hts iwX2 hown hK hP 0 rfl rfl 2 (by decide) lk3 (fun _ h9 => h9) rfl dX2_readToken_13 ?_
      refine lv_icmp_ge (tgt := 46) hx hb dX2_readToken_16 (by decide) (fun c46 => ?_) (fun c46 => ?_)
      · replace h := bb_ifp c46 h
        exact toW _ _ _ (Jk2 v_t_start_37 _ _ _ h hP hD hS (lv_sub hl [0] rfl))
      · replace h := bb_ifn c46 h
        refine lv_aload_n hx hb dX2_readToken_19 rfl (lv_at hl 0 rfl) ?_
        refine va_get (D := (dC, dI)) (ci := 1) (v := .ref (a_t 1)) (C := RX2) (T := TX2) (N := 6) hx hb hts iwX2 hown hK hP 0 rfl rfl 0 (by decide) lk4 (fun _ h9 => h9) rfl dX2_readToken_20 ?_
        refine lv_aload_n hx hb dX2_readToken_23 rfl (lv_at hl 0 rfl) ?_
        refine va_get (D := (dC, dI)) (ci := 1) (v := .int v_t_start_37) (C := RX2) (T := TX2) (N := 6) hx hb hts iwX2 hown hK hP 0 rfl rfl 4 (by decide) lk2 (fun _ h9 => h9) rfl dX2_readToken_24 ?_
        obtain ⟨hi47, h⟩ := bb_ix_o h
        refine va_iald hx hb hK hP 1 0 rfl rfl hi47 dX2_readToken_27 ?_
        refine lv_bipush (v := (32 : Int32)) hx hb dX2_readToken_28 (by decide) ?_
        refine lv_icmp_ne (tgt := 46) hx hb dX2_readToken_30 (by decide) (fun c48 => ?_) (fun c48 => ?_)
        · replace h := bb_ifn c48 h
          exact toW _ _ _ (Jk2 v_t_start_37 _ _ _ h hP hD hS (lv_sub hl [0] rfl))
        · replace h := bb_ifp c48 h
          refine lv_aload_n hx hb dX2_readToken_33 rfl (lv_at hl 0 rfl) ?_
          refine lv_dup hx hb dX2_readToken_34 rfl ?_
          refine va_get (D := (dC, dI)) (ci := 1) (v := .int v_t_start_37) (C := RX2) (T := TX2) (N := 6) hx hb hts iwX2 hown hK hP 0 rfl rfl 4 (by decide) lk2 (fun _ h9 => h9) rfl dX2_readToken_35 ?_
          refine lv_iconst (v := (1 : Int32)) hx hb dX2_readToken_38 (by decide) ?_
          refine lv_iadd hx hb dX2_readToken_39 ?_
          refine va_put (D := (dC, dI)) (ci := 1) (v := .int (v_t_start_37 + (1 : Int32))) (ty := .int) (C := RX2) (T := TX2) (N := 6) hx hb hts iwX2 tyX2 tyX2_ok nmX2 hown hK hP hD hS 0 rfl rfl 4 (by decide) lk2 (fun _ h9 => h9) rfl (by decide +kernel) rfl rfl (Nat.le_of_ble_eq_true rfl) dX2_readToken_40 (fun H locs hP hD hS => ?_)
          have hP : va_P (dC, dI) vwCl [((a_t 0), oX2 a_t v_t_length v_t_token (v_t_start_37 + (1 : Int32)) v_t_stop), ((a_t 1), .inl (cy 0, 120, .inl f_t_bytes)), ((a_t 2), .inl (cy 0, 120, .inl f_t_classes))] H := hP
          have hD : va_D A [((a_t 0), oX2 a_t v_t_length v_t_token (v_t_start_37 + (1 : Int32)) v_t_stop), ((a_t 1), .inl (cy 0, 120, .inl f_t_bytes)), ((a_t 2), .inl (cy 0, 120, .inl f_t_classes))] := hD
          refine lv_goto (tgt := 8) hx hb dX2_readToken_43 (by decide) ?_
          rw [erec43] at h
          exact toW _ _ _ (ih45 (v_t_start_37 + (1 : Int32)) _ _ _ h hP hD hS (lv_sub hl [0] rfl))
  exact toW _ _ _ (L44 nn v_t_stop _ _ _ h hP hD hS (lv_sub hl [0] rfl))
/-! X2_rewind -/
def uX2_rewind (nn : Nat) (v_t_length : Int32) (v_t_token : Int32) (v_t_start : Int32) (v_t_stop : Int32) (f_t_bytes : Nat → Int32) (f_t_classes : Nat → Int32) : Option ((Int32) × (Int32) × (Int32)) :=
  bb_b3 (uX2_readToken nn v_t_length v_t_token v_t_start (0 : Int32) f_t_bytes f_t_classes) (fun (w1 : Int32) (w2 : Int32) (w3 : Int32) => some (w1, w2, w3))
theorem kdX2_rewind : yX2_rewind.cls = RX2 ∧ yX2_rewind.cls ≠ "java/lang/invoke/MethodHandle" ∧ yX2_rewind.cls ≠ "java/lang/invoke/VarHandle" ∧ (parseMethodDescriptor yX2_rewind.desc).map (fun d => d.parameters.length) = some 0 := by decide +kernel
set_option maxHeartbeats 4000000 in
set_option maxRecDepth 100000 in
theorem kX2_rewind (l : Launch) (dC : Nat → ClassId) (dI : Nat → Nat → Nat) (cy : Nat → ClassId) (sz : Nat) (a_t : Nat → Nat) (v_t_length : Int32) (v_t_token : Int32) (v_t_start : Int32) (v_t_stop : Int32) (f_t_bytes : Nat → Int32) (f_t_classes : Nat → Int32) (nn : Nat) (v_t_token_o : Int32) (v_t_start_o : Int32) (v_t_stop_o : Int32) (h : uX2_rewind nn v_t_length v_t_token v_t_start v_t_stop f_t_bytes f_t_classes = some (v_t_token_o, v_t_start_o, v_t_stop_o)) : Met l yX2_rewind wsX2_rewind ({ frames := 1, cells := 0, slots := 0, locals := 20 }) (va_Pc [.ref (a_t 0)] (fun U => U.heap.size = sz ∧ va_P (dC, dI) vwCl [((a_t 0), oX2 a_t v_t_length v_t_token v_t_start v_t_stop), ((a_t 1), .inl (cy 0, 120, .inl f_t_bytes)), ((a_t 2), .inl (cy 0, 120, .inl f_t_classes))] U.heap ∧ va_K (dC, dI) vwCl (tyX cy) U ∧ va_D (fun _ => True) [((a_t 0), oX2 a_t v_t_length v_t_token v_t_start v_t_stop), ((a_t 1), .inl (cy 0, 120, .inl f_t_bytes)), ((a_t 2), .inl (cy 0, 120, .inl f_t_classes))])) (va_Qv (fun (_ : Unit) => True) (fun _ t => va_P (dC, dI) vwCl [((a_t 0), oX2 a_t v_t_length v_t_token_o v_t_start_o v_t_stop_o), ((a_t 1), .inl (cy 0, 120, .inl f_t_bytes)), ((a_t 2), .inl (cy 0, 120, .inl f_t_classes))] t.heap ∧ va_K (dC, dI) vwCl (tyX cy) t ∧ va_D (va_A [((a_t 0), oX2 a_t v_t_length v_t_token v_t_start v_t_stop), ((a_t 1), .inl (cy 0, 120, .inl f_t_bytes)), ((a_t 2), .inl (cy 0, 120, .inl f_t_classes))] sz) [((a_t 0), oX2 a_t v_t_length v_t_token_o v_t_start_o v_t_stop_o), ((a_t 1), .inl (cy 0, 120, .inl f_t_bytes)), ((a_t 2), .inl (cy 0, 120, .inl f_t_classes))]) (va_A [((a_t 0), oX2 a_t v_t_length v_t_token v_t_start v_t_stop), ((a_t 1), .inl (cy 0, 120, .inl f_t_bytes)), ((a_t 2), .inl (cy 0, 120, .inl f_t_classes))] sz)) 0 0 (va_A [((a_t 0), oX2 a_t v_t_length v_t_token v_t_start v_t_stop), ((a_t 1), .inl (cy 0, 120, .inl f_t_bytes)), ((a_t 2), .inl (cy 0, 120, .inl f_t_classes))] sz) := by
  refine Met.ofW (cc := cX2_rewind) (maxL := 1) (ret := none) (by decide) rfl ?_
  intro p e s m args below meth c s₁ B hml hv
  obtain ⟨rfl, hsz, hP, hK, hD0⟩ := hv
  have hx := B.exec
  have hb := B.bytes
  have hr := B.returns
  have hts := atoms_spec (ws := wsX2_rewind) B.pre
  have hown : s.vm.findClass RX2 = some m.cls := findClass_of_methodNamed B.named
  have hlocks := B.notSynchronized
  have iwX2 : ∀ w ∈ wsX20, w ∈ wsX2_rewind := fun w h9 => List.mem_cons_of_mem _ (List.mem_append_right _ (h9))
  have lk1 := hts (Cond.fieldLink RX2 24 "BathBorder$Tape" "stop" "I") (List.mem_of_getElem? (i := 1) rfl)
  subst hsz
  have hD := hD0.self (sz := s.heap.size)
  generalize hAe : va_A [((a_t 0), oX2 a_t v_t_length v_t_token v_t_start v_t_stop), ((a_t 1), .inl (cy 0, 120, .inl f_t_bytes)), ((a_t 2), .inl (cy 0, 120, .inl f_t_classes))] s.heap.size = A at hD ⊢
  have hA : ∀ q : Nat, s.heap.size ≤ q → A q := fun q h => by rw [← hAe]; exact Or.inr h
  have hS : va_S A s.heap s.heap [] := va_S.rf
  have hP : va_P (dC, dI) vwCl [((a_t 0), oX2 a_t v_t_length v_t_token v_t_start v_t_stop), ((a_t 1), .inl (cy 0, 120, .inl f_t_bytes)), ((a_t 2), .inl (cy 0, 120, .inl f_t_classes))] s.heap := hP
  have hl := lv_entry ([.ref (a_t 0)]) (n := 1) (Nat.le_of_ble_eq_true rfl)
  rw [lg_entry_eq]
  generalize (lg_sl ([.ref (a_t 0)]) ++ List.replicate (1 - (lg_sl ([.ref (a_t 0)])).length) Slot.unset).toArray = ls at hl ⊢
  have hl : lv_has ls 1 [(0, .ref (a_t 0))] := hl
  unfold uX2_rewind at h
  refine bb_cap (fun WW toW ofW => ?_)
  refine lv_aload_n hx hb dX2_rewind_0 rfl (lv_at hl 0 rfl) ?_
  refine lv_iconst (v := (0 : Int32)) hx hb dX2_rewind_1 (by decide) ?_
  refine va_put (D := (dC, dI)) (ci := 1) (v := .int (0 : Int32)) (ty := .int) (C := RX2) (T := TX2) (N := 6) hx hb hts iwX2 tyX2 tyX2_ok nmX2 hown hK hP hD hS 0 rfl rfl 5 (by decide) lk1 (fun _ h9 => h9) rfl (by decide +kernel) rfl rfl (Nat.le_of_ble_eq_true rfl) dX2_rewind_2 (fun H locs hP hD hS => ?_)
  have hP : va_P (dC, dI) vwCl [((a_t 0), oX2 a_t v_t_length v_t_token v_t_start (0 : Int32)), ((a_t 1), .inl (cy 0, 120, .inl f_t_bytes)), ((a_t 2), .inl (cy 0, 120, .inl f_t_classes))] H := hP
  have hD : va_D A [((a_t 0), oX2 a_t v_t_length v_t_token v_t_start (0 : Int32)), ((a_t 1), .inl (cy 0, 120, .inl f_t_bytes)), ((a_t 2), .inl (cy 0, 120, .inl f_t_classes))] := hD
  refine lv_aload_n hx hb dX2_rewind_5 rfl (lv_at hl 0 rfl) ?_
  obtain ⟨w1, w2, w3, hc4, h⟩ := bb_b3_o h
  refine bb_cwv (wr := []) (w1 := [((a_t 0), oX2 a_t v_t_length w1 w2 w3), ((a_t 1), .inl (cy 0, 120, .inl f_t_bytes)), ((a_t 2), .inl (cy 0, 120, .inl f_t_classes))]) (va_runV (As := []) (rest := []) ⟨hx, hb, hml, hown, hts⟩ (kX2_readToken l dC dI cy H.size a_t v_t_length v_t_token v_t_start (0 : Int32) f_t_bytes f_t_classes nn w1 w2 w3 hc4) (cwV 0 hts gX2_rewind_X2_readToken rfl rfl rfl kdX2_readToken ⟨Nat.le_of_ble_eq_true rfl, Nat.le_of_ble_eq_true rfl⟩) (bb_preVw (va_recv hK hP (ci := 1) (q0 := 0) rfl rfl) hP hK (hD.sub (ws' := [((a_t 0), oX2 a_t v_t_length v_t_token v_t_start (0 : Int32)), ((a_t 1), .inl (cy 0, 120, .inl f_t_bytes)), ((a_t 2), .inl (cy 0, 120, .inl f_t_classes))]) [0, 1, 2] (by decide) rfl)) rfl rfl hl.1 rfl (lv_room (Nat.le_of_ble_eq_true rfl)) dX2_rewind_6 ⟨Nat.zero_le _, Nat.zero_le _⟩) hP hD hS hA [0, 1, 2] [] rfl rfl (by decide) (by decide) (fun H locs hP hD hS => ?_)
  have hP : va_P (dC, dI) vwCl [((a_t 0), oX2 a_t v_t_length w1 w2 w3), ((a_t 1), .inl (cy 0, 120, .inl f_t_bytes)), ((a_t 2), .inl (cy 0, 120, .inl f_t_classes))] H := hP
  have hD : va_D A [((a_t 0), oX2 a_t v_t_length w1 w2 w3), ((a_t 1), .inl (cy 0, 120, .inl f_t_bytes)), ((a_t 2), .inl (cy 0, 120, .inl f_t_classes))] := hD
  obtain ⟨rfl, rfl, rfl⟩ := bb_some3 h
  have hP9 := hP.sub (ws' := [((a_t 0), oX2 a_t v_t_length w1 w2 w3), ((a_t 1), .inl (cy 0, 120, .inl f_t_bytes)), ((a_t 2), .inl (cy 0, 120, .inl f_t_classes))]) [0, 1, 2] rfl
  have hD9 := hD.sub (ws' := [((a_t 0), oX2 a_t v_t_length w1 w2 w3), ((a_t 1), .inl (cy 0, 120, .inl f_t_bytes)), ((a_t 2), .inl (cy 0, 120, .inl f_t_classes))]) [0, 1, 2] (by decide) rfl
  exact W.vret hx hb hr (fun t ht hW => ⟨⟨(), rfl, trivial, by rw [ht]; exact hP9, va_K.moved hW.alike hK, hD9⟩, hS.F ht⟩) hS.2.2 dX2_rewind_9
/-! X2_number -/
def uX2_number_s7 (v_t_stop_4 : Int32) (f_t_bytes_5 : Nat → Int32) (rec6 : Int32 → Int32 → Option (Int32)) (x1_1 : Int32) (x2_2 : Int32) : Option (Int32) :=
  (if v_t_stop_4 ≤ x2_2 then some x1_1 else (if (999 : Int32) < x1_1 then some x1_1 else bb_ix x2_2 120 (bb_lt ((x1_1 * (10 : Int32)) + ((f_t_bytes_5 x2_2.toNatClampNeg) - (48 : Int32))) (fun (y12 : Int32) => rec6 y12 (x2_2 + (1 : Int32))))))
def uX2_number (nn : Nat) (v_t_start : Int32) (v_t_stop : Int32) (f_t_bytes : Nat → Int32) : Option (Int32) :=
  bb_loop2 (uX2_number_s7 v_t_stop f_t_bytes) nn (0 : Int32) v_t_start
theorem kdX2_number : yX2_number.cls = RX2 ∧ yX2_number.cls ≠ "java/lang/invoke/MethodHandle" ∧ yX2_number.cls ≠ "java/lang/invoke/VarHandle" ∧ (parseMethodDescriptor yX2_number.desc).map (fun d => d.parameters.length) = some 0 := by decide +kernel
set_option maxHeartbeats 4000000 in
set_option maxRecDepth 100000 in
theorem kX2_number (l : Launch) (dC : Nat → ClassId) (dI : Nat → Nat → Nat) (cy : Nat → ClassId) (a_t : Nat → Nat) (v_t_length : Int32) (v_t_token : Int32) (v_t_start : Int32) (v_t_stop : Int32) (f_t_bytes : Nat → Int32) (nn : Nat) (r : Int32) (h : uX2_number nn v_t_start v_t_stop f_t_bytes = some r) : Met l yX2_number wsX2_number ({ frames := 0, cells := 0, slots := 0, locals := 0 }) (va_Pc [.ref (a_t 0)] (fun U => va_P (dC, dI) vwCl [((a_t 0), oX2 a_t v_t_length v_t_token v_t_start v_t_stop), ((a_t 1), .inl (cy 0, 120, .inl f_t_bytes))] U.heap ∧ va_K (dC, dI) vwCl (tyX cy) U)) (vp_Si (fun r2 => r = r2)) 0 0 (fun _ => False) := by
  refine Met.ofW (cc := cX2_number) (maxL := 3) (ret := (some .int)) (by decide) rfl ?_
  intro p e s m args below meth c s₁ B hml hv
  obtain ⟨rfl, hP, hK⟩ := hv
  have hx := B.exec
  have hb := B.bytes
  have hr := B.returns
  have hts := atoms_spec (ws := wsX2_number) B.pre
  have hown : s.vm.findClass RX2 = some m.cls := findClass_of_methodNamed B.named
  have hlocks := B.notSynchronized
  have iwX2 : ∀ w ∈ wsX20, w ∈ wsX2_number := fun w h9 => List.mem_cons_of_mem _ (List.mem_append_right _ (h9))
  have lk1 := hts (Cond.fieldLink RX2 30 "BathBorder$Tape" "start" "I") (List.mem_of_getElem? (i := 1) rfl)
  have lk2 := hts (Cond.fieldLink RX2 24 "BathBorder$Tape" "stop" "I") (List.mem_of_getElem? (i := 2) rfl)
  have lk3 := hts (Cond.fieldLink RX2 9 "BathBorder$Tape" "bytes" "[I") (List.mem_of_getElem? (i := 3) rfl)
  have hl := lv_entry ([.ref (a_t 0)]) (n := 3) (Nat.le_of_ble_eq_true rfl)
  rw [lg_entry_eq]
  generalize (lg_sl ([.ref (a_t 0)]) ++ List.replicate (3 - (lg_sl ([.ref (a_t 0)])).length) Slot.unset).toArray = ls at hl ⊢
  have hl : lv_has ls 3 [(0, .ref (a_t 0))] := hl
  unfold uX2_number at h
  refine bb_cap (fun WW toW ofW => ?_)
  refine lv_iconst (v := (0 : Int32)) hx hb dX2_number_0 (by decide) ?_
  refine lv_istore_n (lv' := [(1, .int (0 : Int32)), (0, .ref (a_t 0))]) hx hb dX2_number_1 rfl hl (by decide) rfl (fun ls hl => ?_)
  refine lv_aload_n hx hb dX2_number_2 rfl (lv_at hl 1 rfl) ?_
  refine va_get (D := (dC, dI)) (ci := 1) (v := .int v_t_start) (C := RX2) (T := TX2) (N := 6) hx hb hts iwX2 hown hK hP 0 rfl rfl 4 (by decide) lk1 (fun _ h9 => h9) rfl dX2_number_3 ?_
  refine lv_istore_n (lv' := [(2, .int v_t_start), (1, .int (0 : Int32)), (0, .ref (a_t 0))]) hx hb dX2_number_6 rfl hl (by decide) rfl (fun ls hl => ?_)
  have L7 : ∀ (n : Nat) (x1_1 : Int32) (x2_2 : Int32) (ls : Array Slot), bb_loop2 (uX2_number_s7 v_t_stop f_t_bytes) n x1_1 x2_2 = some r → lv_has ls 3 [(0, .ref (a_t 0)), (1, .int x1_1), (2, .int x2_2)] → WW s.heap [] (F0 m 7 ls []) := by
    intro n
    induction n with
    | zero => intro x1_1 x2_2 ls h; exact (bb_no h).elim
    | succ n ih8 =>
      intro x1_1 x2_2 ls h hl
      refine ofW _ _ _ ?_
      obtain ⟨rec6, erec6, h⟩ := bb_loop2_o h
      unfold uX2_number_s7 at h
      refine lv_iload_n hx hb dX2_number_7 rfl (lv_at hl 2 rfl) ?_
      refine lv_aload_n hx hb dX2_number_8 rfl (lv_at hl 0 rfl) ?_
      refine va_get (D := (dC, dI)) (ci := 1) (v := .int v_t_stop) (C := RX2) (T := TX2) (N := 6) hx hb hts iwX2 hown hK hP 0 rfl rfl 5 (by decide) lk2 (fun _ h9 => h9) rfl dX2_number_9 ?_
      refine lv_icmp_ge (tgt := 43) hx hb dX2_number_12 (by decide) (fun c9 => ?_) (fun c9 => ?_)
      · replace h := bb_ifp c9 h
        refine lv_iload_n hx hb dX2_number_43 rfl (lv_at hl 1 rfl) ?_
        obtain rfl := bb_some1 h
        exact W.iret hx hb hr (fun t ht hW => ⟨_, rfl, rfl, ht⟩) (fun q hq => by cases hq) dX2_number_44
      · replace h := bb_ifn c9 h
        refine lv_iload_n hx hb dX2_number_15 rfl (lv_at hl 1 rfl) ?_
        refine lv_sipush (v := (999 : Int32)) hx hb dX2_number_16 (by decide) ?_
        refine lv_icmp_gt (tgt := 43) hx hb dX2_number_19 (by decide) (fun c10 => ?_) (fun c10 => ?_)
        · replace h := bb_ifp c10 h
          refine lv_iload_n hx hb dX2_number_43 rfl (lv_at hl 1 rfl) ?_
          obtain rfl := bb_some1 h
          exact W.iret hx hb hr (fun t ht hW => ⟨_, rfl, rfl, ht⟩) (fun q hq => by cases hq) dX2_number_44
        · replace h := bb_ifn c10 h
          refine lv_iload_n hx hb dX2_number_22 rfl (lv_at hl 1 rfl) ?_
          refine lv_bipush (v := (10 : Int32)) hx hb dX2_number_23 (by decide) ?_
          refine lv_imul hx hb dX2_number_25 ?_
          refine lv_aload_n hx hb dX2_number_26 rfl (lv_at hl 0 rfl) ?_
          refine va_get (D := (dC, dI)) (ci := 1) (v := .ref (a_t 1)) (C := RX2) (T := TX2) (N := 6) hx hb hts iwX2 hown hK hP 0 rfl rfl 0 (by decide) lk3 (fun _ h9 => h9) rfl dX2_number_27 ?_
          refine lv_iload_n hx hb dX2_number_30 rfl (lv_at hl 2 rfl) ?_
          obtain ⟨hi11, h⟩ := bb_ix_o h
          refine va_iald hx hb hK hP 1 0 rfl rfl hi11 dX2_number_31 ?_
          refine lv_bipush (v := (48 : Int32)) hx hb dX2_number_32 (by decide) ?_
          refine lv_isub hx hb dX2_number_34 ?_
          refine lv_iadd hx hb dX2_number_35 ?_
          refine lv_topi (fun y12 ey12 => ?_)
          replace h := bb_lt_o ey12 h
          refine lv_istore_n (lv' := [(1, .int y12), (0, .ref (a_t 0)), (2, .int x2_2)]) hx hb dX2_number_36 rfl hl (by decide) rfl (fun ls hl => ?_)
          refine lv_iinc (v := x2_2 + (1 : Int32)) (lv' := [(2, .int (x2_2 + (1 : Int32))), (1, .int y12), (0, .ref (a_t 0))]) hx hb dX2_number_37 hl (k := 2) rfl rfl (by decide) rfl (fun ls hl => ?_)
          refine lv_goto (tgt := 7) hx hb dX2_number_40 (by decide) ?_
          rw [erec6] at h
          exact toW _ _ _ (ih8 y12 (x2_2 + (1 : Int32)) _ h (lv_sub hl [2, 1, 0] rfl))
  exact toW _ _ _ (L7 nn (0 : Int32) v_t_start _ h (lv_sub hl [2, 1, 0] rfl))
/-! X3_takeNumber -/
def uX3_takeNumber (nn : Nat) (p1 : Int32) (v_t_number : Int32) (v_t_tape_length : Int32) (v_t_tape_token : Int32) (v_t_tape_start : Int32) (v_t_tape_stop : Int32) (f_t_tape_bytes : Nat → Int32) (f_t_tape_classes : Nat → Int32) : Option (Int32 × (Int32) × (Int32) × (Int32) × (Int32)) :=
  (if v_t_tape_token = (2 : Int32) then bb_b1 (uX2_number nn v_t_tape_start v_t_tape_stop f_t_tape_bytes) (fun (r2 : Int32) => (if r2 ≤ p1 then bb_b1 (uX2_number nn v_t_tape_start v_t_tape_stop f_t_tape_bytes) (fun (r6 : Int32) => bb_b3 (uX2_readToken nn v_t_tape_length v_t_tape_token v_t_tape_start v_t_tape_stop f_t_tape_bytes f_t_tape_classes) (fun (w9 : Int32) (w10 : Int32) (w11 : Int32) => some ((1 : Int32), r6, w9, w10, w11))) else some ((0 : Int32), v_t_number, v_t_tape_token, v_t_tape_start, v_t_tape_stop))) else some ((0 : Int32), v_t_number, v_t_tape_token, v_t_tape_start, v_t_tape_stop))
theorem kdX3_takeNumber : yX3_takeNumber.cls = RX3 ∧ yX3_takeNumber.cls ≠ "java/lang/invoke/MethodHandle" ∧ yX3_takeNumber.cls ≠ "java/lang/invoke/VarHandle" ∧ (parseMethodDescriptor yX3_takeNumber.desc).map (fun d => d.parameters.length) = some 1 := by decide +kernel
set_option maxHeartbeats 4000000 in
set_option maxRecDepth 100000 in
theorem kX3_takeNumber (l : Launch) (dC : Nat → ClassId) (dI : Nat → Nat → Nat) (cy : Nat → ClassId) (sz : Nat) (a_t : Nat → Nat) (a_t_tape : Nat → Nat) (a_t_world : Nat → Nat) (p1 : Int32) (v_t_number : Int32) (v_t_tape_length : Int32) (v_t_tape_token : Int32) (v_t_tape_start : Int32) (v_t_tape_stop : Int32) (f_t_tape_bytes : Nat → Int32) (f_t_tape_classes : Nat → Int32) (nn : Nat) (r : Int32) (v_t_number_o : Int32) (v_t_tape_token_o : Int32) (v_t_tape_start_o : Int32) (v_t_tape_stop_o : Int32) (h : uX3_takeNumber nn p1 v_t_number v_t_tape_length v_t_tape_token v_t_tape_start v_t_tape_stop f_t_tape_bytes f_t_tape_classes = some (r, v_t_number_o, v_t_tape_token_o, v_t_tape_start_o, v_t_tape_stop_o)) : Met l yX3_takeNumber wsX3_takeNumber ({ frames := 1, cells := 0, slots := 0, locals := 22 }) (va_Pc [.ref (a_t 0), .int p1] (fun U => U.heap.size = sz ∧ va_P (dC, dI) vwCl [((a_t 0), oX3 a_t a_t_tape a_t_world v_t_number), ((a_t_tape 0), oX2 a_t_tape v_t_tape_length v_t_tape_token v_t_tape_start v_t_tape_stop), ((a_t_tape 1), .inl (cy 0, 120, .inl f_t_tape_bytes)), ((a_t_tape 2), .inl (cy 0, 120, .inl f_t_tape_classes))] U.heap ∧ va_K (dC, dI) vwCl (tyX cy) U ∧ va_D (fun _ => True) [((a_t 0), oX3 a_t a_t_tape a_t_world v_t_number), ((a_t_tape 0), oX2 a_t_tape v_t_tape_length v_t_tape_token v_t_tape_start v_t_tape_stop), ((a_t_tape 1), .inl (cy 0, 120, .inl f_t_tape_bytes)), ((a_t_tape 2), .inl (cy 0, 120, .inl f_t_tape_classes))])) (va_Qi (fun (r2 : Int32) (_ : Unit) => r = r2 ∧ narrow .boolean (.int r2) = .int r2) (fun _ t => va_P (dC, dI) vwCl [((a_t 0), oX3 a_t a_t_tape a_t_world v_t_number_o), ((a_t_tape 0), oX2 a_t_tape v_t_tape_length v_t_tape_token_o v_t_tape_start_o v_t_tape_stop_o), ((a_t_tape 1), .inl (cy 0, 120, .inl f_t_tape_bytes)), ((a_t_tape 2), .inl (cy 0, 120, .inl f_t_tape_classes))] t.heap ∧ va_K (dC, dI) vwCl (tyX cy) t ∧ va_D (va_A [((a_t 0), oX3 a_t a_t_tape a_t_world v_t_number), ((a_t_tape 0), oX2 a_t_tape v_t_tape_length v_t_tape_token v_t_tape_start v_t_tape_stop), ((a_t_tape 1), .inl (cy 0, 120, .inl f_t_tape_bytes)), ((a_t_tape 2), .inl (cy 0, 120, .inl f_t_tape_classes))] sz) [((a_t 0), oX3 a_t a_t_tape a_t_world v_t_number_o), ((a_t_tape 0), oX2 a_t_tape v_t_tape_length v_t_tape_token_o v_t_tape_start_o v_t_tape_stop_o), ((a_t_tape 1), .inl (cy 0, 120, .inl f_t_tape_bytes)), ((a_t_tape 2), .inl (cy 0, 120, .inl f_t_tape_classes))]) (va_A [((a_t 0), oX3 a_t a_t_tape a_t_world v_t_number), ((a_t_tape 0), oX2 a_t_tape v_t_tape_length v_t_tape_token v_t_tape_start v_t_tape_stop), ((a_t_tape 1), .inl (cy 0, 120, .inl f_t_tape_bytes)), ((a_t_tape 2), .inl (cy 0, 120, .inl f_t_tape_classes))] sz)) 0 0 (va_A [((a_t 0), oX3 a_t a_t_tape a_t_world v_t_number), ((a_t_tape 0), oX2 a_t_tape v_t_tape_length v_t_tape_token v_t_tape_start v_t_tape_stop), ((a_t_tape 1), .inl (cy 0, 120, .inl f_t_tape_bytes)), ((a_t_tape 2), .inl (cy 0, 120, .inl f_t_tape_classes))] sz) := by
  refine Met.ofW (cc := cX3_takeNumber) (maxL := 2) (ret := (some .boolean)) (by decide) rfl ?_
  intro p e s m args below meth c s₁ B hml hv
  obtain ⟨rfl, hsz, hP, hK, hD0⟩ := hv
  have hx := B.exec
  have hb := B.bytes
  have hr := B.returns
  have hts := atoms_spec (ws := wsX3_takeNumber) B.pre
  have hown : s.vm.findClass RX3 = some m.cls := findClass_of_methodNamed B.named
  have hlocks := B.notSynchronized
  have iwX2 : ∀ w ∈ wsX20, w ∈ wsX3_takeNumber := fun w h9 => List.mem_cons_of_mem _ (List.mem_append_right _ (h9))
  have iwX3 : ∀ w ∈ wsX30, w ∈ wsX3_takeNumber := fun w h9 => List.mem_cons_of_mem _ (List.mem_append_left _ (List.mem_append_right _ (h9)))
  have lk1 := hts (Cond.fieldLink RX3 9 "BathBorder$TextReader" "tape" "LBathBorder$Tape;") (List.mem_of_getElem? (i := 1) rfl)
  have lk2 := hts (Cond.fieldLink RX3 28 "BathBorder$Tape" "token" "I") (List.mem_of_getElem? (i := 2) rfl)
  have lk3 := hts (Cond.fieldLink RX3 124 "BathBorder$TextReader" "number" "I") (List.mem_of_getElem? (i := 3) rfl)
  subst hsz
  have hD := hD0.self (sz := s.heap.size)
  generalize hAe : va_A [((a_t 0), oX3 a_t a_t_tape a_t_world v_t_number), ((a_t_tape 0), oX2 a_t_tape v_t_tape_length v_t_tape_token v_t_tape_start v_t_tape_stop), ((a_t_tape 1), .inl (cy 0, 120, .inl f_t_tape_bytes)), ((a_t_tape 2), .inl (cy 0, 120, .inl f_t_tape_classes))] s.heap.size = A at hD ⊢
  have hA : ∀ q : Nat, s.heap.size ≤ q → A q := fun q h => by rw [← hAe]; exact Or.inr h
  have hS : va_S A s.heap s.heap [] := va_S.rf
  have hP : va_P (dC, dI) vwCl [((a_t 0), oX3 a_t a_t_tape a_t_world v_t_number), ((a_t_tape 0), oX2 a_t_tape v_t_tape_length v_t_tape_token v_t_tape_start v_t_tape_stop), ((a_t_tape 1), .inl (cy 0, 120, .inl f_t_tape_bytes)), ((a_t_tape 2), .inl (cy 0, 120, .inl f_t_tape_classes))] s.heap := hP
  have hl := lv_entry ([.ref (a_t 0), .int p1]) (n := 2) (Nat.le_of_ble_eq_true rfl)
  rw [lg_entry_eq]
  generalize (lg_sl ([.ref (a_t 0), .int p1]) ++ List.replicate (2 - (lg_sl ([.ref (a_t 0), .int p1])).length) Slot.unset).toArray = ls at hl ⊢
  have hl : lv_has ls 2 [(0, .ref (a_t 0)), (1, .int p1)] := hl
  unfold uX3_takeNumber at h
  refine bb_cap (fun WW toW ofW => ?_)
  refine lv_aload_n hx hb dX3_takeNumber_0 rfl (lv_at hl 0 rfl) ?_
  refine va_get (D := (dC, dI)) (ci := 2) (v := .ref (a_t_tape 0)) (C := RX3) (T := TX3) (N := 3) hx hb hts iwX3 hown hK hP 0 rfl rfl 0 (by decide) lk1 (fun _ h9 => h9) rfl dX3_takeNumber_1 ?_
  refine va_get (D := (dC, dI)) (ci := 1) (v := .int v_t_tape_token) (C := RX2) (T := TX2) (N := 6) hx hb hts iwX2 hown hK hP 1 rfl rfl 3 (by decide) lk2 (fun _ h9 => h9) rfl dX3_takeNumber_4 ?_
  refine lv_iconst (v := (2 : Int32)) hx hb dX3_takeNumber_7 (by decide) ?_
  refine lv_icmp_ne (tgt := 22) hx hb dX3_takeNumber_8 (by decide) (fun c1 => ?_) (fun c1 => ?_)
  · replace h := bb_ifn c1 h
    refine lv_iconst (v := (0 : Int32)) hx hb dX3_takeNumber_22 (by decide) ?_
    obtain ⟨rfl, rfl, rfl, rfl, rfl⟩ := bb_some5 h
    have hP9 := hP.sub (ws' := [((a_t 0), oX3 a_t a_t_tape a_t_world v_t_number), ((a_t_tape 0), oX2 a_t_tape v_t_tape_length v_t_tape_token v_t_tape_start v_t_tape_stop), ((a_t_tape 1), .inl (cy 0, 120, .inl f_t_tape_bytes)), ((a_t_tape 2), .inl (cy 0, 120, .inl f_t_tape_classes))]) [0, 1, 2, 3] rfl
    have hD9 := hD.sub (ws' := [((a_t 0), oX3 a_t a_t_tape a_t_world v_t_number), ((a_t_tape 0), oX2 a_t_tape v_t_tape_length v_t_tape_token v_t_tape_start v_t_tape_stop), ((a_t_tape 1), .inl (cy 0, 120, .inl f_t_tape_bytes)), ((a_t_tape 2), .inl (cy 0, 120, .inl f_t_tape_classes))]) [0, 1, 2, 3] (by decide) rfl
    exact W.zret hx hb hr (by decide) (fun t ht hW => ⟨⟨_, (), rfl, ⟨rfl, (by decide)⟩, by rw [ht]; exact hP9, va_K.moved hW.alike hK, hD9⟩, hS.F ht⟩) hS.2.2 dX3_takeNumber_23
  · replace h := bb_ifp c1 h
    refine lv_aload_n hx hb dX3_takeNumber_11 rfl (lv_at hl 0 rfl) ?_
    refine va_get (D := (dC, dI)) (ci := 2) (v := .ref (a_t_tape 0)) (C := RX3) (T := TX3) (N := 3) hx hb hts iwX3 hown hK hP 0 rfl rfl 0 (by decide) lk1 (fun _ h9 => h9) rfl dX3_takeNumber_12 ?_
    obtain ⟨r2, hc3, h⟩ := bb_b1_o h
    refine vp_callSi (W.runV (As := []) (rest := []) ⟨hx, hb, hml, hown, hts⟩ (kX2_number l dC dI cy a_t_tape v_t_tape_length v_t_tape_token v_t_tape_start v_t_tape_stop f_t_tape_bytes nn r2 hc3) (cwV 0 hts gX3_takeNumber_X2_number rfl rfl rfl kdX2_number ⟨Nat.le_of_ble_eq_true rfl, Nat.le_of_ble_eq_true rfl⟩) (bb_preV (va_recv hK hP (ci := 1) (q0 := 1) rfl rfl) (hP.sub (ws' := [((a_t_tape 0), oX2 a_t_tape v_t_tape_length v_t_tape_token v_t_tape_start v_t_tape_stop), ((a_t_tape 1), .inl (cy 0, 120, .inl f_t_tape_bytes))]) [1, 2] rfl) hK) rfl rfl hl.1 rfl (lv_room (Nat.le_of_ble_eq_true rfl)) dX3_takeNumber_15 ⟨Nat.zero_le _, Nat.zero_le _⟩) (fun t4 et4 => ?_)
    obtain rfl := et4
    refine lv_iload_n hx hb dX3_takeNumber_18 rfl (lv_at hl 1 rfl) ?_
    refine lv_icmp_le (tgt := 24) hx hb dX3_takeNumber_19 (by decide) (fun c5 => ?_) (fun c5 => ?_)
    · replace h := bb_ifp c5 h
      refine lv_aload_n hx hb dX3_takeNumber_24 rfl (lv_at hl 0 rfl) ?_
      refine lv_aload_n hx hb dX3_takeNumber_25 rfl (lv_at hl 0 rfl) ?_
      refine va_get (D := (dC, dI)) (ci := 2) (v := .ref (a_t_tape 0)) (C := RX3) (T := TX3) (N := 3) hx hb hts iwX3 hown hK hP 0 rfl rfl 0 (by decide) lk1 (fun _ h9 => h9) rfl dX3_takeNumber_26 ?_
      obtain ⟨r6, hc7, h⟩ := bb_b1_o h
      refine vp_callSi (W.runV (As := []) (rest := [.ref (a_t 0)]) ⟨hx, hb, hml, hown, hts⟩ (kX2_number l dC dI cy a_t_tape v_t_tape_length v_t_tape_token v_t_tape_start v_t_tape_stop f_t_tape_bytes nn r6 hc7) (cwV 0 hts gX3_takeNumber_X2_number rfl rfl rfl kdX2_number ⟨Nat.le_of_ble_eq_true rfl, Nat.le_of_ble_eq_true rfl⟩) (bb_preV (va_recv hK hP (ci := 1) (q0 := 1) rfl rfl) (hP.sub (ws' := [((a_t_tape 0), oX2 a_t_tape v_t_tape_length v_t_tape_token v_t_tape_start v_t_tape_stop), ((a_t_tape 1), .inl (cy 0, 120, .inl f_t_tape_bytes))]) [1, 2] rfl) hK) rfl rfl hl.1 rfl (lv_room (Nat.le_of_ble_eq_true rfl)) dX3_takeNumber_29 ⟨Nat.zero_le _, Nat.zero_le _⟩) (fun t8 et8 => ?_)
      obtain rfl := et8
      refine va_put (D := (dC, dI)) (ci := 2) (v := .int r6) (ty := .int) (C := RX3) (T := TX3) (N := 3) hx hb hts iwX3 tyX3 tyX3_ok nmX3 hown hK hP hD hS 0 rfl rfl 2 (by decide) lk3 (fun _ h9 => h9) rfl (by decide +kernel) rfl rfl (Nat.le_of_ble_eq_true rfl) dX3_takeNumber_32 (fun H locs hP hD hS => ?_)
      have hP : va_P (dC, dI) vwCl [((a_t 0), oX3 a_t a_t_tape a_t_world r6), ((a_t_tape 0), oX2 a_t_tape v_t_tape_length v_t_tape_token v_t_tape_start v_t_tape_stop), ((a_t_tape 1), .inl (cy 0, 120, .inl f_t_tape_bytes)), ((a_t_tape 2), .inl (cy 0, 120, .inl f_t_tape_classes))] H := hP
      have hD : va_D A [((a_t 0), oX3 a_t a_t_tape a_t_world r6), ((a_t_tape 0), oX2 a_t_tape v_t_tape_length v_t_tape_token v_t_tape_start v_t_tape_stop), ((a_t_tape 1), .inl (cy 0, 120, .inl f_t_tape_bytes)), ((a_t_tape 2), .inl (cy 0, 120, .inl f_t_tape_classes))] := hD
      refine lv_aload_n hx hb dX3_takeNumber_35 rfl (lv_at hl 0 rfl) ?_
      refine va_get (D := (dC, dI)) (ci := 2) (v := .ref (a_t_tape 0)) (C := RX3) (T := TX3) (N := 3) hx hb hts iwX3 hown hK hP 0 rfl rfl 0 (by decide) lk1 (fun _ h9 => h9) rfl dX3_takeNumber_36 ?_
      obtain ⟨w9, w10, w11, hc12, h⟩ := bb_b3_o h
      refine bb_cwv (wr := [((a_t 0), oX3 a_t a_t_tape a_t_world r6)]) (w1 := [((a_t_tape 0), oX2 a_t_tape v_t_tape_length w9 w10 w11), ((a_t_tape 1), .inl (cy 0, 120, .inl f_t_tape_bytes)), ((a_t_tape 2), .inl (cy 0, 120, .inl f_t_tape_classes))]) (va_runV (As := []) (rest := []) ⟨hx, hb, hml, hown, hts⟩ (kX2_readToken l dC dI cy H.size a_t_tape v_t_tape_length v_t_tape_token v_t_tape_start v_t_tape_stop f_t_tape_bytes f_t_tape_classes nn w9 w10 w11 hc12) (cwV 0 hts gX3_takeNumber_X2_readToken rfl rfl rfl kdX2_readToken ⟨Nat.le_of_ble_eq_true rfl, Nat.le_of_ble_eq_true rfl⟩) (bb_preVw (va_recv hK hP (ci := 1) (q0 := 1) rfl rfl) (hP.sub (ws' := [((a_t_tape 0), oX2 a_t_tape v_t_tape_length v_t_tape_token v_t_tape_start v_t_tape_stop), ((a_t_tape 1), .inl (cy 0, 120, .inl f_t_tape_bytes)), ((a_t_tape 2), .inl (cy 0, 120, .inl f_t_tape_classes))]) [1, 2, 3] rfl) hK (hD.sub (ws' := [((a_t_tape 0), oX2 a_t_tape v_t_tape_length v_t_tape_token v_t_tape_start v_t_tape_stop), ((a_t_tape 1), .inl (cy 0, 120, .inl f_t_tape_bytes)), ((a_t_tape 2), .inl (cy 0, 120, .inl f_t_tape_classes))]) [1, 2, 3] (by decide) rfl)) rfl rfl hl.1 rfl (lv_room (Nat.le_of_ble_eq_true rfl)) dX3_takeNumber_39 ⟨Nat.zero_le _, Nat.zero_le _⟩) hP hD hS hA [1, 2, 3] [0] rfl rfl (by decide) (by decide) (fun H locs hP hD hS => ?_)
      have hP : va_P (dC, dI) vwCl [((a_t 0), oX3 a_t a_t_tape a_t_world r6), ((a_t_tape 0), oX2 a_t_tape v_t_tape_length w9 w10 w11), ((a_t_tape 1), .inl (cy 0, 120, .inl f_t_tape_bytes)), ((a_t_tape 2), .inl (cy 0, 120, .inl f_t_tape_classes))] H := hP
      have hD : va_D A [((a_t 0), oX3 a_t a_t_tape a_t_world r6), ((a_t_tape 0), oX2 a_t_tape v_t_tape_length w9 w10 w11), ((a_t_tape 1), .inl (cy 0, 120, .inl f_t_tape_bytes)), ((a_t_tape 2), .inl (cy 0, 120, .inl f_t_tape_classes))] := hD
      refine lv_iconst (v := (1 : Int32)) hx hb dX3_takeNumber_42 (by decide) ?_
      obtain ⟨rfl, rfl, rfl, rfl, rfl⟩ := bb_some5 h
      have hP9 := hP.sub (ws' := [((a_t 0), oX3 a_t a_t_tape a_t_world r6), ((a_t_tape 0), oX2 a_t_tape v_t_tape_length w9 w10 w11), ((a_t_tape 1), .inl (cy 0, 120, .inl f_t_tape_bytes)), ((a_t_tape 2), .inl (cy 0, 120, .inl f_t_tape_classes))]) [0, 1, 2, 3] rfl
      have hD9 := hD.sub (ws' := [((a_t 0), oX3 a_t a_t_tape a_t_world r6), ((a_t_tape 0), oX2 a_t_tape v_t_tape_length w9 w10 w11), ((a_t_tape 1), .inl (cy 0, 120, .inl f_t_tape_bytes)), ((a_t_tape 2), .inl (cy 0, 120, .inl f_t_tape_classes))]) [0, 1, 2, 3] (by decide) rfl
      exact W.zret hx hb hr (by decide) (fun t ht hW => ⟨⟨_, (), rfl, ⟨rfl, (by decide)⟩, by rw [ht]; exact hP9, va_K.moved hW.alike hK, hD9⟩, hS.F ht⟩) hS.2.2 dX3_takeNumber_43
    · replace h := bb_ifn c5 h
      refine lv_iconst (v := (0 : Int32)) hx hb dX3_takeNumber_22 (by decide) ?_
      obtain ⟨rfl, rfl, rfl, rfl, rfl⟩ := bb_some5 h
      have hP9 := hP.sub (ws' := [((a_t 0), oX3 a_t a_t_tape a_t_world v_t_number), ((a_t_tape 0), oX2 a_t_tape v_t_tape_length v_t_tape_token v_t_tape_start v_t_tape_stop), ((a_t_tape 1), .inl (cy 0, 120, .inl f_t_tape_bytes)), ((a_t_tape 2), .inl (cy 0, 120, .inl f_t_tape_classes))]) [0, 1, 2, 3] rfl
      have hD9 := hD.sub (ws' := [((a_t 0), oX3 a_t a_t_tape a_t_world v_t_number), ((a_t_tape 0), oX2 a_t_tape v_t_tape_length v_t_tape_token v_t_tape_start v_t_tape_stop), ((a_t_tape 1), .inl (cy 0, 120, .inl f_t_tape_bytes)), ((a_t_tape 2), .inl (cy 0, 120, .inl f_t_tape_classes))]) [0, 1, 2, 3] (by decide) rfl
      exact W.zret hx hb hr (by decide) (fun t ht hW => ⟨⟨_, (), rfl, ⟨rfl, (by decide)⟩, by rw [ht]; exact hP9, va_K.moved hW.alike hK, hD9⟩, hS.F ht⟩) hS.2.2 dX3_takeNumber_23
/-! X3_readCellRow -/
def uX3_readCellRow (nn : Nat) (n_p1 : Nat) (p2 : Int32) (f_p1 : Nat → Int32) (v_t_number : Int32) (v_t_tape_length : Int32) (v_t_tape_token : Int32) (v_t_tape_start : Int32) (v_t_tape_stop : Int32) (f_t_tape_bytes : Nat → Int32) (f_t_tape_classes : Nat → Int32) : Option (Int32 × (Nat → Int32) × (Int32) × (Int32) × (Int32) × (Int32)) :=
  bb_b5 (uX3_takeNumber nn (47 : Int32) v_t_number v_t_tape_length v_t_tape_token v_t_tape_start v_t_tape_stop f_t_tape_bytes f_t_tape_classes) (fun (r1 : Int32) (w2 : Int32) (w3 : Int32) (w4 : Int32) (w5 : Int32) => (if r1 = 0 then some ((0 : Int32), f_p1, w2, w3, w4, w5) else bb_b5 (uX3_takeNumber nn p2 w2 v_t_tape_length w3 w4 w5 f_t_tape_bytes f_t_tape_classes) (fun (r9 : Int32) (w10 : Int32) (w11 : Int32) (w12 : Int32) (w13 : Int32) => (if r9 = 0 then some ((0 : Int32), f_p1, w10, w11, w12, w13) else bb_ix w2 n_p1 (some ((1 : Int32), upd f_p1 w2.toNatClampNeg w10, w10, w11, w12, w13))))))
theorem kdX3_readCellRow : yX3_readCellRow.cls = RX3 ∧ yX3_readCellRow.cls ≠ "java/lang/invoke/MethodHandle" ∧ yX3_readCellRow.cls ≠ "java/lang/invoke/VarHandle" ∧ (parseMethodDescriptor yX3_readCellRow.desc).map (fun d => d.parameters.length) = some 2 := by decide +kernel
set_option maxHeartbeats 4000000 in
set_option maxRecDepth 100000 in
theorem kX3_readCellRow (l : Launch) (dC : Nat → ClassId) (dI : Nat → Nat → Nat) (cy : Nat → ClassId) (sz : Nat) (a_t : Nat → Nat) (a_t_tape : Nat → Nat) (a_t_world : Nat → Nat) (q_p1 : Nat) (n_p1 : Nat) (p2 : Int32) (f_p1 : Nat → Int32) (v_t_number : Int32) (v_t_tape_length : Int32) (v_t_tape_token : Int32) (v_t_tape_start : Int32) (v_t_tape_stop : Int32) (f_t_tape_bytes : Nat → Int32) (f_t_tape_classes : Nat → Int32) (nn : Nat) (r : Int32) (f_p1_o : Nat → Int32) (v_t_number_o : Int32) (v_t_tape_token_o : Int32) (v_t_tape_start_o : Int32) (v_t_tape_stop_o : Int32) (h : uX3_readCellRow nn n_p1 p2 f_p1 v_t_number v_t_tape_length v_t_tape_token v_t_tape_start v_t_tape_stop f_t_tape_bytes f_t_tape_classes = some (r, f_p1_o, v_t_number_o, v_t_tape_token_o, v_t_tape_start_o, v_t_tape_stop_o)) : Met l yX3_readCellRow wsX3_readCellRow ({ frames := 2, cells := 0, slots := 0, locals := 43 }) (va_Pc [.ref (a_t 0), .ref q_p1, .int p2] (fun U => U.heap.size = sz ∧ va_P (dC, dI) vwCl [(q_p1, .inl (cy 0, n_p1, .inl f_p1)), ((a_t 0), oX3 a_t a_t_tape a_t_world v_t_number), ((a_t_tape 0), oX2 a_t_tape v_t_tape_length v_t_tape_token v_t_tape_start v_t_tape_stop), ((a_t_tape 1), .inl (cy 0, 120, .inl f_t_tape_bytes)), ((a_t_tape 2), .inl (cy 0, 120, .inl f_t_tape_classes))] U.heap ∧ va_K (dC, dI) vwCl (tyX cy) U ∧ va_D (fun _ => True) [(q_p1, .inl (cy 0, n_p1, .inl f_p1)), ((a_t 0), oX3 a_t a_t_tape a_t_world v_t_number), ((a_t_tape 0), oX2 a_t_tape v_t_tape_length v_t_tape_token v_t_tape_start v_t_tape_stop), ((a_t_tape 1), .inl (cy 0, 120, .inl f_t_tape_bytes)), ((a_t_tape 2), .inl (cy 0, 120, .inl f_t_tape_classes))])) (va_Qi (fun (r2 : Int32) (_ : Unit) => r = r2 ∧ narrow .boolean (.int r2) = .int r2) (fun _ t => va_P (dC, dI) vwCl [(q_p1, .inl (cy 0, n_p1, .inl f_p1_o)), ((a_t 0), oX3 a_t a_t_tape a_t_world v_t_number_o), ((a_t_tape 0), oX2 a_t_tape v_t_tape_length v_t_tape_token_o v_t_tape_start_o v_t_tape_stop_o), ((a_t_tape 1), .inl (cy 0, 120, .inl f_t_tape_bytes)), ((a_t_tape 2), .inl (cy 0, 120, .inl f_t_tape_classes))] t.heap ∧ va_K (dC, dI) vwCl (tyX cy) t ∧ va_D (va_A [(q_p1, .inl (cy 0, n_p1, .inl f_p1)), ((a_t 0), oX3 a_t a_t_tape a_t_world v_t_number), ((a_t_tape 0), oX2 a_t_tape v_t_tape_length v_t_tape_token v_t_tape_start v_t_tape_stop), ((a_t_tape 1), .inl (cy 0, 120, .inl f_t_tape_bytes)), ((a_t_tape 2), .inl (cy 0, 120, .inl f_t_tape_classes))] sz) [(q_p1, .inl (cy 0, n_p1, .inl f_p1_o)), ((a_t 0), oX3 a_t a_t_tape a_t_world v_t_number_o), ((a_t_tape 0), oX2 a_t_tape v_t_tape_length v_t_tape_token_o v_t_tape_start_o v_t_tape_stop_o), ((a_t_tape 1), .inl (cy 0, 120, .inl f_t_tape_bytes)), ((a_t_tape 2), .inl (cy 0, 120, .inl f_t_tape_classes))]) (va_A [(q_p1, .inl (cy 0, n_p1, .inl f_p1)), ((a_t 0), oX3 a_t a_t_tape a_t_world v_t_number), ((a_t_tape 0), oX2 a_t_tape v_t_tape_length v_t_tape_token v_t_tape_start v_t_tape_stop), ((a_t_tape 1), .inl (cy 0, 120, .inl f_t_tape_bytes)), ((a_t_tape 2), .inl (cy 0, 120, .inl f_t_tape_classes))] sz)) 0 0 (va_A [(q_p1, .inl (cy 0, n_p1, .inl f_p1)), ((a_t 0), oX3 a_t a_t_tape a_t_world v_t_number), ((a_t_tape 0), oX2 a_t_tape v_t_tape_length v_t_tape_token v_t_tape_start v_t_tape_stop), ((a_t_tape 1), .inl (cy 0, 120, .inl f_t_tape_bytes)), ((a_t_tape 2), .inl (cy 0, 120, .inl f_t_tape_classes))] sz) := by
  refine Met.ofW (cc := cX3_readCellRow) (maxL := 4) (ret := (some .boolean)) (by decide) rfl ?_
  intro p e s m args below meth c s₁ B hml hv
  obtain ⟨rfl, hsz, hP, hK, hD0⟩ := hv
  have hx := B.exec
  have hb := B.bytes
  have hr := B.returns
  have hts := atoms_spec (ws := wsX3_readCellRow) B.pre
  have hown : s.vm.findClass RX3 = some m.cls := findClass_of_methodNamed B.named
  have hlocks := B.notSynchronized
  have iwX3 : ∀ w ∈ wsX30, w ∈ wsX3_readCellRow := fun w h9 => List.mem_cons_of_mem _ (List.mem_append_left _ (List.mem_append_right _ (h9)))
  have lk1 := hts (Cond.fieldLink RX3 124 "BathBorder$TextReader" "number" "I") (List.mem_of_getElem? (i := 1) rfl)
  subst hsz
  have hD := hD0.self (sz := s.heap.size)
  generalize hAe : va_A [(q_p1, .inl (cy 0, n_p1, .inl f_p1)), ((a_t 0), oX3 a_t a_t_tape a_t_world v_t_number), ((a_t_tape 0), oX2 a_t_tape v_t_tape_length v_t_tape_token v_t_tape_start v_t_tape_stop), ((a_t_tape 1), .inl (cy 0, 120, .inl f_t_tape_bytes)), ((a_t_tape 2), .inl (cy 0, 120, .inl f_t_tape_classes))] s.heap.size = A at hD ⊢
  have hA : ∀ q : Nat, s.heap.size ≤ q → A q := fun q h => by rw [← hAe]; exact Or.inr h
  have hS : va_S A s.heap s.heap [] := va_S.rf
  have hP : va_P (dC, dI) vwCl [(q_p1, .inl (cy 0, n_p1, .inl f_p1)), ((a_t 0), oX3 a_t a_t_tape a_t_world v_t_number), ((a_t_tape 0), oX2 a_t_tape v_t_tape_length v_t_tape_token v_t_tape_start v_t_tape_stop), ((a_t_tape 1), .inl (cy 0, 120, .inl f_t_tape_bytes)), ((a_t_tape 2), .inl (cy 0, 120, .inl f_t_tape_classes))] s.heap := hP
  have hl := lv_entry ([.ref (a_t 0), .ref q_p1, .int p2]) (n := 4) (Nat.le_of_ble_eq_true rfl)
  rw [lg_entry_eq]
  generalize (lg_sl ([.ref (a_t 0), .ref q_p1, .int p2]) ++ List.replicate (4 - (lg_sl ([.ref (a_t 0), .ref q_p1, .int p2])).length) Slot.unset).toArray = ls at hl ⊢
  have hl : lv_has ls 4 [(0, .ref (a_t 0)), (1, .ref q_p1), (2, .int p2)] := hl
  unfold uX3_readCellRow at h
  refine bb_cap (fun WW toW ofW => ?_)
  refine lv_aload_n hx hb dX3_readCellRow_0 rfl (lv_at hl 0 rfl) ?_
  refine lv_bipush (v := (47 : Int32)) hx hb dX3_readCellRow_1 (by decide) ?_
  obtain ⟨r1, w2, w3, w4, w5, hc6, h⟩ := bb_b5_o h
  refine bb_cwz (wr := [(q_p1, .inl (cy 0, n_p1, .inl f_p1))]) (w1 := [((a_t 0), oX3 a_t a_t_tape a_t_world w2), ((a_t_tape 0), oX2 a_t_tape v_t_tape_length w3 w4 w5), ((a_t_tape 1), .inl (cy 0, 120, .inl f_t_tape_bytes)), ((a_t_tape 2), .inl (cy 0, 120, .inl f_t_tape_classes))]) (va_runV (As := [.int (47 : Int32)]) (rest := []) ⟨hx, hb, hml, hown, hts⟩ (kX3_takeNumber l dC dI cy s.heap.size a_t a_t_tape a_t_world (47 : Int32) v_t_number v_t_tape_length v_t_tape_token v_t_tape_start v_t_tape_stop f_t_tape_bytes f_t_tape_classes nn r1 w2 w3 w4 w5 hc6) (cwV 1 hts gX3_readCellRow_X3_takeNumber rfl rfl rfl kdX3_takeNumber ⟨Nat.le_of_ble_eq_true rfl, Nat.le_of_ble_eq_true rfl⟩) (bb_preVw (va_recv hK hP (ci := 2) (q0 := 1) rfl rfl) (hP.sub (ws' := [((a_t 0), oX3 a_t a_t_tape a_t_world v_t_number), ((a_t_tape 0), oX2 a_t_tape v_t_tape_length v_t_tape_token v_t_tape_start v_t_tape_stop), ((a_t_tape 1), .inl (cy 0, 120, .inl f_t_tape_bytes)), ((a_t_tape 2), .inl (cy 0, 120, .inl f_t_tape_classes))]) [1, 2, 3, 4] rfl) hK (hD.sub (ws' := [((a_t 0), oX3 a_t a_t_tape a_t_world v_t_number), ((a_t_tape 0), oX2 a_t_tape v_t_tape_length v_t_tape_token v_t_tape_start v_t_tape_stop), ((a_t_tape 1), .inl (cy 0, 120, .inl f_t_tape_bytes)), ((a_t_tape 2), .inl (cy 0, 120, .inl f_t_tape_classes))]) [1, 2, 3, 4] (by decide) rfl)) rfl rfl hl.1 rfl (lv_room (Nat.le_of_ble_eq_true rfl)) dX3_readCellRow_3 ⟨Nat.zero_le _, Nat.zero_le _⟩) hP hD hS hA [1, 2, 3, 4] [0] rfl rfl (by decide) (by decide) (fun hz7 H locs hP hD hS => ?_)
  have hP : va_P (dC, dI) vwCl [(q_p1, .inl (cy 0, n_p1, .inl f_p1)), ((a_t 0), oX3 a_t a_t_tape a_t_world w2), ((a_t_tape 0), oX2 a_t_tape v_t_tape_length w3 w4 w5), ((a_t_tape 1), .inl (cy 0, 120, .inl f_t_tape_bytes)), ((a_t_tape 2), .inl (cy 0, 120, .inl f_t_tape_classes))] H := hP
  have hD : va_D A [(q_p1, .inl (cy 0, n_p1, .inl f_p1)), ((a_t 0), oX3 a_t a_t_tape a_t_world w2), ((a_t_tape 0), oX2 a_t_tape v_t_tape_length w3 w4 w5), ((a_t_tape 1), .inl (cy 0, 120, .inl f_t_tape_bytes)), ((a_t_tape 2), .inl (cy 0, 120, .inl f_t_tape_classes))] := hD
  refine lv_if_ne (tgt := 11) hx hb dX3_readCellRow_6 (by decide) (fun c8 => ?_) (fun c8 => ?_)
  · replace h := bb_ifn c8 h
    refine lv_aload_n hx hb dX3_readCellRow_11 rfl (lv_at hl 0 rfl) ?_
    refine va_get (D := (dC, dI)) (ci := 2) (v := .int w2) (C := RX3) (T := TX3) (N := 3) hx hb hts iwX3 hown hK hP 1 rfl rfl 2 (by decide) lk1 (fun _ h9 => h9) rfl dX3_readCellRow_12 ?_
    refine lv_istore_n (lv' := [(3, .int w2), (0, .ref (a_t 0)), (1, .ref q_p1), (2, .int p2)]) hx hb dX3_readCellRow_15 rfl hl (by decide) rfl (fun ls hl => ?_)
    refine lv_aload_n hx hb dX3_readCellRow_16 rfl (lv_at hl 1 rfl) ?_
    refine lv_iload_n hx hb dX3_readCellRow_17 rfl (lv_at hl 3 rfl) ?_
    obtain ⟨r9, w10, w11, w12, w13, hc14, h⟩ := bb_b5_o h
    refine bb_cwz (wr := [(q_p1, .inl (cy 0, n_p1, .inl f_p1))]) (w1 := [((a_t 0), oX3 a_t a_t_tape a_t_world w10), ((a_t_tape 0), oX2 a_t_tape v_t_tape_length w11 w12 w13), ((a_t_tape 1), .inl (cy 0, 120, .inl f_t_tape_bytes)), ((a_t_tape 2), .inl (cy 0, 120, .inl f_t_tape_classes))]) (va_runV (As := [.int p2]) (rest := []) ⟨hx, hb, hml, hown, hts⟩ (kX3_takeNumber l dC dI cy H.size a_t a_t_tape a_t_world p2 w2 v_t_tape_length w3 w4 w5 f_t_tape_bytes f_t_tape_classes nn r9 w10 w11 w12 w13 hc14) (cwV 1 hts gX3_readCellRow_X3_takeNumber rfl rfl rfl kdX3_takeNumber ⟨Nat.le_of_ble_eq_true rfl, Nat.le_of_ble_eq_true rfl⟩) (bb_preVw (va_recv hK hP (ci := 2) (q0 := 1) rfl rfl) (hP.sub (ws' := [((a_t 0), oX3 a_t a_t_tape a_t_world w2), ((a_t_tape 0), oX2 a_t_tape v_t_tape_length w3 w4 w5), ((a_t_tape 1), .inl (cy 0, 120, .inl f_t_tape_bytes)), ((a_t_tape 2), .inl (cy 0, 120, .inl f_t_tape_classes))]) [1, 2, 3, 4] rfl) hK (hD.sub (ws' := [((a_t 0), oX3 a_t a_t_tape a_t_world w2), ((a_t_tape 0), oX2 a_t_tape v_t_tape_length w3 w4 w5), ((a_t_tape 1), .inl (cy 0, 120, .inl f_t_tape_bytes)), ((a_t_tape 2), .inl (cy 0, 120, .inl f_t_tape_classes))]) [1, 2, 3, 4] (by decide) rfl)) rfl rfl hl.1 rfl (lv_room (Nat.le_of_ble_eq_true rfl)) dX3_readCellRow_18 ⟨Nat.zero_le _, Nat.zero_le _⟩) hP hD hS hA [1, 2, 3, 4] [0] rfl rfl (by decide) (by decide) (fun hz15 H locs hP hD hS => ?_)
    have hP : va_P (dC, dI) vwCl [(q_p1, .inl (cy 0, n_p1, .inl f_p1)), ((a_t 0), oX3 a_t a_t_tape a_t_world w10), ((a_t_tape 0), oX2 a_t_tape v_t_tape_length w11 w12 w13), ((a_t_tape 1), .inl (cy 0, 120, .inl f_t_tape_bytes)), ((a_t_tape 2), .inl (cy 0, 120, .inl f_t_tape_classes))] H := hP
    have hD : va_D A [(q_p1, .inl (cy 0, n_p1, .inl f_p1)), ((a_t 0), oX3 a_t a_t_tape a_t_world w10), ((a_t_tape 0), oX2 a_t_tape v_t_tape_length w11 w12 w13), ((a_t_tape 1), .inl (cy 0, 120, .inl f_t_tape_bytes)), ((a_t_tape 2), .inl (cy 0, 120, .inl f_t_tape_classes))] := hD
    refine lv_if_ne (tgt := 26) hx hb dX3_readCellRow_21 (by decide) (fun c16 => ?_) (fun c16 => ?_)
    · replace h := bb_ifn c16 h
      refine lv_aload_n hx hb dX3_readCellRow_26 rfl (lv_at hl 2 rfl) ?_
      refine lv_iload_n hx hb dX3_readCellRow_27 rfl (lv_at hl 0 rfl) ?_
      refine lv_aload_n hx hb dX3_readCellRow_28 rfl (lv_at hl 1 rfl) ?_
      refine va_get (D := (dC, dI)) (ci := 2) (v := .int w10) (C := RX3) (T := TX3) (N := 3) hx hb hts iwX3 hown hK hP 1 rfl rfl 2 (by decide) lk1 (fun _ h9 => h9) rfl dX3_readCellRow_29 ?_
      obtain ⟨hi17, h⟩ := bb_ix_o h
      refine va_iast hx hb hK hP hD hS 0 0 rfl rfl hi17 dX3_readCellRow_32 (fun H locs hP hD hS => ?_)
      have hP : va_P (dC, dI) vwCl [(q_p1, .inl (cy 0, n_p1, .inl (upd f_p1 w2.toNatClampNeg w10))), ((a_t 0), oX3 a_t a_t_tape a_t_world w10), ((a_t_tape 0), oX2 a_t_tape v_t_tape_length w11 w12 w13), ((a_t_tape 1), .inl (cy 0, 120, .inl f_t_tape_bytes)), ((a_t_tape 2), .inl (cy 0, 120, .inl f_t_tape_classes))] H := hP
      have hD : va_D A [(q_p1, .inl (cy 0, n_p1, .inl (upd f_p1 w2.toNatClampNeg w10))), ((a_t 0), oX3 a_t a_t_tape a_t_world w10), ((a_t_tape 0), oX2 a_t_tape v_t_tape_length w11 w12 w13), ((a_t_tape 1), .inl (cy 0, 120, .inl f_t_tape_bytes)), ((a_t_tape 2), .inl (cy 0, 120, .inl f_t_tape_classes))] := hD
      refine lv_iconst (v := (1 : Int32)) hx hb dX3_readCellRow_33 (by decide) ?_
      obtain ⟨rfl, rfl, rfl, rfl, rfl, rfl⟩ := bb_some6 h
      have hP9 := hP.sub (ws' := [(q_p1, .inl (cy 0, n_p1, .inl (upd f_p1 w2.toNatClampNeg w10))), ((a_t 0), oX3 a_t a_t_tape a_t_world w10), ((a_t_tape 0), oX2 a_t_tape v_t_tape_length w11 w12 w13), ((a_t_tape 1), .inl (cy 0, 120, .inl f_t_tape_bytes)), ((a_t_tape 2), .inl (cy 0, 120, .inl f_t_tape_classes))]) [0, 1, 2, 3, 4] rfl
      have hD9 := hD.sub (ws' := [(q_p1, .inl (cy 0, n_p1, .inl (upd f_p1 w2.toNatClampNeg w10))), ((a_t 0), oX3 a_t a_t_tape a_t_world w10), ((a_t_tape 0), oX2 a_t_tape v_t_tape_length w11 w12 w13), ((a_t_tape 1), .inl (cy 0, 120, .inl f_t_tape_bytes)), ((a_t_tape 2), .inl (cy 0, 120, .inl f_t_tape_classes))]) [0, 1, 2, 3, 4] (by decide) rfl
      exact W.zret hx hb hr (by decide) (fun t ht hW => ⟨⟨_, (), rfl, ⟨rfl, (by decide)⟩, by rw [ht]; exact hP9, va_K.moved hW.alike hK, hD9⟩, hS.F ht⟩) hS.2.2 dX3_readCellRow_34
    · replace h := bb_ifp c16 h
      refine lv_iconst (v := (0 : Int32)) hx hb dX3_readCellRow_24 (by decide) ?_
      obtain ⟨rfl, rfl, rfl, rfl, rfl, rfl⟩ := bb_some6 h
      have hP9 := hP.sub (ws' := [(q_p1, .inl (cy 0, n_p1, .inl f_p1)), ((a_t 0), oX3 a_t a_t_tape a_t_world w10), ((a_t_tape 0), oX2 a_t_tape v_t_tape_length w11 w12 w13), ((a_t_tape 1), .inl (cy 0, 120, .inl f_t_tape_bytes)), ((a_t_tape 2), .inl (cy 0, 120, .inl f_t_tape_classes))]) [0, 1, 2, 3, 4] rfl
      have hD9 := hD.sub (ws' := [(q_p1, .inl (cy 0, n_p1, .inl f_p1)), ((a_t 0), oX3 a_t a_t_tape a_t_world w10), ((a_t_tape 0), oX2 a_t_tape v_t_tape_length w11 w12 w13), ((a_t_tape 1), .inl (cy 0, 120, .inl f_t_tape_bytes)), ((a_t_tape 2), .inl (cy 0, 120, .inl f_t_tape_classes))]) [0, 1, 2, 3, 4] (by decide) rfl
      exact W.zret hx hb hr (by decide) (fun t ht hW => ⟨⟨_, (), rfl, ⟨rfl, (by decide)⟩, by rw [ht]; exact hP9, va_K.moved hW.alike hK, hD9⟩, hS.F ht⟩) hS.2.2 dX3_readCellRow_25
  · replace h := bb_ifp c8 h
    refine lv_iconst (v := (0 : Int32)) hx hb dX3_readCellRow_9 (by decide) ?_
    obtain ⟨rfl, rfl, rfl, rfl, rfl, rfl⟩ := bb_some6 h
    have hP9 := hP.sub (ws' := [(q_p1, .inl (cy 0, n_p1, .inl f_p1)), ((a_t 0), oX3 a_t a_t_tape a_t_world w2), ((a_t_tape 0), oX2 a_t_tape v_t_tape_length w3 w4 w5), ((a_t_tape 1), .inl (cy 0, 120, .inl f_t_tape_bytes)), ((a_t_tape 2), .inl (cy 0, 120, .inl f_t_tape_classes))]) [0, 1, 2, 3, 4] rfl
    have hD9 := hD.sub (ws' := [(q_p1, .inl (cy 0, n_p1, .inl f_p1)), ((a_t 0), oX3 a_t a_t_tape a_t_world w2), ((a_t_tape 0), oX2 a_t_tape v_t_tape_length w3 w4 w5), ((a_t_tape 1), .inl (cy 0, 120, .inl f_t_tape_bytes)), ((a_t_tape 2), .inl (cy 0, 120, .inl f_t_tape_classes))]) [0, 1, 2, 3, 4] (by decide) rfl
    exact W.zret hx hb hr (by decide) (fun t ht hW => ⟨⟨_, (), rfl, ⟨rfl, (by decide)⟩, by rw [ht]; exact hP9, va_K.moved hW.alike hK, hD9⟩, hS.F ht⟩) hS.2.2 dX3_readCellRow_10
/-! X3_readSight -/
def uX3_readSight (nn : Nat) (v_t_number : Int32) (v_t_tape_length : Int32) (v_t_tape_token : Int32) (v_t_tape_start : Int32) (v_t_tape_stop : Int32) (v_t_world_sight : Int32) (f_t_tape_bytes : Nat → Int32) (f_t_tape_classes : Nat → Int32) : Option (Int32 × (Int32) × (Int32) × (Int32) × (Int32) × (Int32)) :=
  bb_b5 (uX3_takeNumber nn (12 : Int32) v_t_number v_t_tape_length v_t_tape_token v_t_tape_start v_t_tape_stop f_t_tape_bytes f_t_tape_classes) (fun (r1 : Int32) (w2 : Int32) (w3 : Int32) (w4 : Int32) (w5 : Int32) => (if r1 = 0 then some ((0 : Int32), w2, w3, w4, w5, v_t_world_sight) else some ((1 : Int32), w2, w3, w4, w5, w2)))
theorem kdX3_readSight : yX3_readSight.cls = RX3 ∧ yX3_readSight.cls ≠ "java/lang/invoke/MethodHandle" ∧ yX3_readSight.cls ≠ "java/lang/invoke/VarHandle" ∧ (parseMethodDescriptor yX3_readSight.desc).map (fun d => d.parameters.length) = some 0 := by decide +kernel
set_option maxHeartbeats 4000000 in
set_option maxRecDepth 100000 in
theorem kX3_readSight (l : Launch) (dC : Nat → ClassId) (dI : Nat → Nat → Nat) (cy : Nat → ClassId) (sz : Nat) (a_t : Nat → Nat) (a_t_tape : Nat → Nat) (a_t_world : Nat → Nat) (v_t_number : Int32) (v_t_tape_length : Int32) (v_t_tape_token : Int32) (v_t_tape_start : Int32) (v_t_tape_stop : Int32) (v_t_world_sight : Int32) (v_t_world_bathers : Int32) (v_t_world_minute : Int32) (v_t_world_seenEver : Int32) (v_t_world_z : Int32) (f_t_tape_bytes : Nat → Int32) (f_t_tape_classes : Nat → Int32) (nn : Nat) (r : Int32) (v_t_number_o : Int32) (v_t_tape_token_o : Int32) (v_t_tape_start_o : Int32) (v_t_tape_stop_o : Int32) (v_t_world_sight_o : Int32) (h : uX3_readSight nn v_t_number v_t_tape_length v_t_tape_token v_t_tape_start v_t_tape_stop v_t_world_sight f_t_tape_bytes f_t_tape_classes = some (r, v_t_number_o, v_t_tape_token_o, v_t_tape_start_o, v_t_tape_stop_o, v_t_world_sight_o)) : Met l yX3_readSight wsX3_readSight ({ frames := 2, cells := 0, slots := 0, locals := 43 }) (va_Pc [.ref (a_t 0)] (fun U => U.heap.size = sz ∧ va_P (dC, dI) vwCl [((a_t 0), oX3 a_t a_t_tape a_t_world v_t_number), ((a_t_tape 0), oX2 a_t_tape v_t_tape_length v_t_tape_token v_t_tape_start v_t_tape_stop), ((a_t_world 0), oX6 a_t_world v_t_world_sight v_t_world_bathers v_t_world_minute v_t_world_seenEver v_t_world_z), ((a_t_tape 1), .inl (cy 0, 120, .inl f_t_tape_bytes)), ((a_t_tape 2), .inl (cy 0, 120, .inl f_t_tape_classes))] U.heap ∧ va_K (dC, dI) vwCl (tyX cy) U ∧ va_D (fun _ => True) [((a_t 0), oX3 a_t a_t_tape a_t_world v_t_number), ((a_t_tape 0), oX2 a_t_tape v_t_tape_length v_t_tape_token v_t_tape_start v_t_tape_stop), ((a_t_world 0), oX6 a_t_world v_t_world_sight v_t_world_bathers v_t_world_minute v_t_world_seenEver v_t_world_z), ((a_t_tape 1), .inl (cy 0, 120, .inl f_t_tape_bytes)), ((a_t_tape 2), .inl (cy 0, 120, .inl f_t_tape_classes))])) (va_Qi (fun (r2 : Int32) (_ : Unit) => r = r2 ∧ narrow .boolean (.int r2) = .int r2) (fun _ t => va_P (dC, dI) vwCl [((a_t 0), oX3 a_t a_t_tape a_t_world v_t_number_o), ((a_t_tape 0), oX2 a_t_tape v_t_tape_length v_t_tape_token_o v_t_tape_start_o v_t_tape_stop_o), ((a_t_world 0), oX6 a_t_world v_t_world_sight_o v_t_world_bathers v_t_world_minute v_t_world_seenEver v_t_world_z), ((a_t_tape 1), .inl (cy 0, 120, .inl f_t_tape_bytes)), ((a_t_tape 2), .inl (cy 0, 120, .inl f_t_tape_classes))] t.heap ∧ va_K (dC, dI) vwCl (tyX cy) t ∧ va_D (va_A [((a_t 0), oX3 a_t a_t_tape a_t_world v_t_number), ((a_t_tape 0), oX2 a_t_tape v_t_tape_length v_t_tape_token v_t_tape_start v_t_tape_stop), ((a_t_world 0), oX6 a_t_world v_t_world_sight v_t_world_bathers v_t_world_minute v_t_world_seenEver v_t_world_z), ((a_t_tape 1), .inl (cy 0, 120, .inl f_t_tape_bytes)), ((a_t_tape 2), .inl (cy 0, 120, .inl f_t_tape_classes))] sz) [((a_t 0), oX3 a_t a_t_tape a_t_world v_t_number_o), ((a_t_tape 0), oX2 a_t_tape v_t_tape_length v_t_tape_token_o v_t_tape_start_o v_t_tape_stop_o), ((a_t_world 0), oX6 a_t_world v_t_world_sight_o v_t_world_bathers v_t_world_minute v_t_world_seenEver v_t_world_z), ((a_t_tape 1), .inl (cy 0, 120, .inl f_t_tape_bytes)), ((a_t_tape 2), .inl (cy 0, 120, .inl f_t_tape_classes))]) (va_A [((a_t 0), oX3 a_t a_t_tape a_t_world v_t_number), ((a_t_tape 0), oX2 a_t_tape v_t_tape_length v_t_tape_token v_t_tape_start v_t_tape_stop), ((a_t_world 0), oX6 a_t_world v_t_world_sight v_t_world_bathers v_t_world_minute v_t_world_seenEver v_t_world_z), ((a_t_tape 1), .inl (cy 0, 120, .inl f_t_tape_bytes)), ((a_t_tape 2), .inl (cy 0, 120, .inl f_t_tape_classes))] sz)) 0 0 (va_A [((a_t 0), oX3 a_t a_t_tape a_t_world v_t_number), ((a_t_tape 0), oX2 a_t_tape v_t_tape_length v_t_tape_token v_t_tape_start v_t_tape_stop), ((a_t_world 0), oX6 a_t_world v_t_world_sight v_t_world_bathers v_t_world_minute v_t_world_seenEver v_t_world_z), ((a_t_tape 1), .inl (cy 0, 120, .inl f_t_tape_bytes)), ((a_t_tape 2), .inl (cy 0, 120, .inl f_t_tape_classes))] sz) := by
  refine Met.ofW (cc := cX3_readSight) (maxL := 1) (ret := (some .boolean)) (by decide) rfl ?_
  intro p e s m args below meth c s₁ B hml hv
  obtain ⟨rfl, hsz, hP, hK, hD0⟩ := hv
  have hx := B.exec
  have hb := B.bytes
  have hr := B.returns
  have hts := atoms_spec (ws := wsX3_readSight) B.pre
  have hown : s.vm.findClass RX3 = some m.cls := findClass_of_methodNamed B.named
  have hlocks := B.notSynchronized
  have iwX3 : ∀ w ∈ wsX30, w ∈ wsX3_readSight := fun w h9 => List.mem_cons_of_mem _ (List.mem_append_left _ (List.mem_append_left _ (List.mem_append_right _ (h9))))
  have iwX6 : ∀ w ∈ wsX60, w ∈ wsX3_readSight := fun w h9 => List.mem_cons_of_mem _ (List.mem_append_left _ (List.mem_append_right _ (h9)))
  have lk1 := hts (Cond.fieldLink RX3 15 "BathBorder$TextReader" "world" "LBathBorder$World;") (List.mem_of_getElem? (i := 1) rfl)
  have lk2 := hts (Cond.fieldLink RX3 124 "BathBorder$TextReader" "number" "I") (List.mem_of_getElem? (i := 2) rfl)
  have lk3 := hts (Cond.fieldLink RX3 130 "BathBorder$World" "sight" "I") (List.mem_of_getElem? (i := 3) rfl)
  subst hsz
  have hD := hD0.self (sz := s.heap.size)
  generalize hAe : va_A [((a_t 0), oX3 a_t a_t_tape a_t_world v_t_number), ((a_t_tape 0), oX2 a_t_tape v_t_tape_length v_t_tape_token v_t_tape_start v_t_tape_stop), ((a_t_world 0), oX6 a_t_world v_t_world_sight v_t_world_bathers v_t_world_minute v_t_world_seenEver v_t_world_z), ((a_t_tape 1), .inl (cy 0, 120, .inl f_t_tape_bytes)), ((a_t_tape 2), .inl (cy 0, 120, .inl f_t_tape_classes))] s.heap.size = A at hD ⊢
  have hA : ∀ q : Nat, s.heap.size ≤ q → A q := fun q h => by rw [← hAe]; exact Or.inr h
  have hS : va_S A s.heap s.heap [] := va_S.rf
  have hP : va_P (dC, dI) vwCl [((a_t 0), oX3 a_t a_t_tape a_t_world v_t_number), ((a_t_tape 0), oX2 a_t_tape v_t_tape_length v_t_tape_token v_t_tape_start v_t_tape_stop), ((a_t_world 0), oX6 a_t_world v_t_world_sight v_t_world_bathers v_t_world_minute v_t_world_seenEver v_t_world_z), ((a_t_tape 1), .inl (cy 0, 120, .inl f_t_tape_bytes)), ((a_t_tape 2), .inl (cy 0, 120, .inl f_t_tape_classes))] s.heap := hP
  have hl := lv_entry ([.ref (a_t 0)]) (n := 1) (Nat.le_of_ble_eq_true rfl)
  rw [lg_entry_eq]
  generalize (lg_sl ([.ref (a_t 0)]) ++ List.replicate (1 - (lg_sl ([.ref (a_t 0)])).length) Slot.unset).toArray = ls at hl ⊢
  have hl : lv_has ls 1 [(0, .ref (a_t 0))] := hl
  unfold uX3_readSight at h
  refine bb_cap (fun WW toW ofW => ?_)
  refine lv_aload_n hx hb dX3_readSight_0 rfl (lv_at hl 0 rfl) ?_
  refine lv_bipush (v := (12 : Int32)) hx hb dX3_readSight_1 (by decide) ?_
  obtain ⟨r1, w2, w3, w4, w5, hc6, h⟩ := bb_b5_o h
  refine bb_cwz (wr := [((a_t_world 0), oX6 a_t_world v_t_world_sight v_t_world_bathers v_t_world_minute v_t_world_seenEver v_t_world_z)]) (w1 := [((a_t 0), oX3 a_t a_t_tape a_t_world w2), ((a_t_tape 0), oX2 a_t_tape v_t_tape_length w3 w4 w5), ((a_t_tape 1), .inl (cy 0, 120, .inl f_t_tape_bytes)), ((a_t_tape 2), .inl (cy 0, 120, .inl f_t_tape_classes))]) (va_runV (As := [.int (12 : Int32)]) (rest := []) ⟨hx, hb, hml, hown, hts⟩ (kX3_takeNumber l dC dI cy s.heap.size a_t a_t_tape a_t_world (12 : Int32) v_t_number v_t_tape_length v_t_tape_token v_t_tape_start v_t_tape_stop f_t_tape_bytes f_t_tape_classes nn r1 w2 w3 w4 w5 hc6) (cwV 1 hts gX3_readSight_X3_takeNumber rfl rfl rfl kdX3_takeNumber ⟨Nat.le_of_ble_eq_true rfl, Nat.le_of_ble_eq_true rfl⟩) (bb_preVw (va_recv hK hP (ci := 2) (q0 := 0) rfl rfl) (hP.sub (ws' := [((a_t 0), oX3 a_t a_t_tape a_t_world v_t_number), ((a_t_tape 0), oX2 a_t_tape v_t_tape_length v_t_tape_token v_t_tape_start v_t_tape_stop), ((a_t_tape 1), .inl (cy 0, 120, .inl f_t_tape_bytes)), ((a_t_tape 2), .inl (cy 0, 120, .inl f_t_tape_classes))]) [0, 1, 3, 4] rfl) hK (hD.sub (ws' := [((a_t 0), oX3 a_t a_t_tape a_t_world v_t_number), ((a_t_tape 0), oX2 a_t_tape v_t_tape_length v_t_tape_token v_t_tape_start v_t_tape_stop), ((a_t_tape 1), .inl (cy 0, 120, .inl f_t_tape_bytes)), ((a_t_tape 2), .inl (cy 0, 120, .inl f_t_tape_classes))]) [0, 1, 3, 4] (by decide) rfl)) rfl rfl hl.1 rfl (lv_room (Nat.le_of_ble_eq_true rfl)) dX3_readSight_3 ⟨Nat.zero_le _, Nat.zero_le _⟩) hP hD hS hA [0, 1, 3, 4] [2] rfl rfl (by decide) (by decide) (fun hz7 H locs hP hD hS => ?_)
  have hP : va_P (dC, dI) vwCl [((a_t_world 0), oX6 a_t_world v_t_world_sight v_t_world_bathers v_t_world_minute v_t_world_seenEver v_t_world_z), ((a_t 0), oX3 a_t a_t_tape a_t_world w2), ((a_t_tape 0), oX2 a_t_tape v_t_tape_length w3 w4 w5), ((a_t_tape 1), .inl (cy 0, 120, .inl f_t_tape_bytes)), ((a_t_tape 2), .inl (cy 0, 120, .inl f_t_tape_classes))] H := hP
  have hD : va_D A [((a_t_world 0), oX6 a_t_world v_t_world_sight v_t_world_bathers v_t_world_minute v_t_world_seenEver v_t_world_z), ((a_t 0), oX3 a_t a_t_tape a_t_world w2), ((a_t_tape 0), oX2 a_t_tape v_t_tape_length w3 w4 w5), ((a_t_tape 1), .inl (cy 0, 120, .inl f_t_tape_bytes)), ((a_t_tape 2), .inl (cy 0, 120, .inl f_t_tape_classes))] := hD
  refine lv_if_ne (tgt := 11) hx hb dX3_readSight_6 (by decide) (fun c8 => ?_) (fun c8 => ?_)
  · replace h := bb_ifn c8 h
    refine lv_aload_n hx hb dX3_readSight_11 rfl (lv_at hl 0 rfl) ?_
    refine va_get (D := (dC, dI)) (ci := 2) (v := .ref (a_t_world 0)) (C := RX3) (T := TX3) (N := 3) hx hb hts iwX3 hown hK hP 1 rfl rfl 1 (by decide) lk1 (fun _ h9 => h9) rfl dX3_readSight_12 ?_
    refine lv_aload_n hx hb dX3_readSight_15 rfl (lv_at hl 0 rfl) ?_
    refine va_get (D := (dC, dI)) (ci := 2) (v := .int w2) (C := RX3) (T := TX3) (N := 3) hx hb hts iwX3 hown hK hP 1 rfl rfl 2 (by decide) lk2 (fun _ h9 => h9) rfl dX3_readSight_16 ?_
    refine va_put (D := (dC, dI)) (ci := 5) (v := .int w2) (ty := .int) (C := RX6) (T := TX6) (N := 14) hx hb hts iwX6 tyX6 tyX6_ok nmX6 hown hK hP hD hS 0 rfl rfl 9 (by decide) lk3 (fun _ h9 => h9) rfl (by decide +kernel) rfl rfl (Nat.le_of_ble_eq_true rfl) dX3_readSight_19 (fun H locs hP hD hS => ?_)
    have hP : va_P (dC, dI) vwCl [((a_t_world 0), oX6 a_t_world w2 v_t_world_bathers v_t_world_minute v_t_world_seenEver v_t_world_z), ((a_t 0), oX3 a_t a_t_tape a_t_world w2), ((a_t_tape 0), oX2 a_t_tape v_t_tape_length w3 w4 w5), ((a_t_tape 1), .inl (cy 0, 120, .inl f_t_tape_bytes)), ((a_t_tape 2), .inl (cy 0, 120, .inl f_t_tape_classes))] H := hP
    have hD : va_D A [((a_t_world 0), oX6 a_t_world w2 v_t_world_bathers v_t_world_minute v_t_world_seenEver v_t_world_z), ((a_t 0), oX3 a_t a_t_tape a_t_world w2), ((a_t_tape 0), oX2 a_t_tape v_t_tape_length w3 w4 w5), ((a_t_tape 1), .inl (cy 0, 120, .inl f_t_tape_bytes)), ((a_t_tape 2), .inl (cy 0, 120, .inl f_t_tape_classes))] := hD
    refine lv_iconst (v := (1 : Int32)) hx hb dX3_readSight_22 (by decide) ?_
    obtain ⟨rfl, rfl, rfl, rfl, rfl, rfl⟩ := bb_some6 h
    have hP9 := hP.sub (ws' := [((a_t 0), oX3 a_t a_t_tape a_t_world w2), ((a_t_tape 0), oX2 a_t_tape v_t_tape_length w3 w4 w5), ((a_t_world 0), oX6 a_t_world w2 v_t_world_bathers v_t_world_minute v_t_world_seenEver v_t_world_z), ((a_t_tape 1), .inl (cy 0, 120, .inl f_t_tape_bytes)), ((a_t_tape 2), .inl (cy 0, 120, .inl f_t_tape_classes))]) [1, 2, 0, 3, 4] rfl
    have hD9 := hD.sub (ws' := [((a_t 0), oX3 a_t a_t_tape a_t_world w2), ((a_t_tape 0), oX2 a_t_tape v_t_tape_length w3 w4 w5), ((a_t_world 0), oX6 a_t_world w2 v_t_world_bathers v_t_world_minute v_t_world_seenEver v_t_world_z), ((a_t_tape 1), .inl (cy 0, 120, .inl f_t_tape_bytes)), ((a_t_tape 2), .inl (cy 0, 120, .inl f_t_tape_classes))]) [1, 2, 0, 3, 4] (by decide) rfl
    exact W.zret hx hb hr (by decide) (fun t ht hW => ⟨⟨_, (), rfl, ⟨rfl, (by decide)⟩, by rw [ht]; exact hP9, va_K.moved hW.alike hK, hD9⟩, hS.F ht⟩) hS.2.2 dX3_readSight_23
  · replace h := bb_ifp c8 h
    refine lv_iconst (v := (0 : Int32)) hx hb dX3_readSight_9 (by decide) ?_
    obtain ⟨rfl, rfl, rfl, rfl, rfl, rfl⟩ := bb_some6 h
    have hP9 := hP.sub (ws' := [((a_t 0), oX3 a_t a_t_tape a_t_world w2), ((a_t_tape 0), oX2 a_t_tape v_t_tape_length w3 w4 w5), ((a_t_world 0), oX6 a_t_world v_t_world_sight v_t_world_bathers v_t_world_minute v_t_world_seenEver v_t_world_z), ((a_t_tape 1), .inl (cy 0, 120, .inl f_t_tape_bytes)), ((a_t_tape 2), .inl (cy 0, 120, .inl f_t_tape_classes))]) [1, 2, 0, 3, 4] rfl
    have hD9 := hD.sub (ws' := [((a_t 0), oX3 a_t a_t_tape a_t_world w2), ((a_t_tape 0), oX2 a_t_tape v_t_tape_length w3 w4 w5), ((a_t_world 0), oX6 a_t_world v_t_world_sight v_t_world_bathers v_t_world_minute v_t_world_seenEver v_t_world_z), ((a_t_tape 1), .inl (cy 0, 120, .inl f_t_tape_bytes)), ((a_t_tape 2), .inl (cy 0, 120, .inl f_t_tape_classes))]) [1, 2, 0, 3, 4] (by decide) rfl
    exact W.zret hx hb hr (by decide) (fun t ht hW => ⟨⟨_, (), rfl, ⟨rfl, (by decide)⟩, by rw [ht]; exact hP9, va_K.moved hW.alike hK, hD9⟩, hS.F ht⟩) hS.2.2 dX3_readSight_10
