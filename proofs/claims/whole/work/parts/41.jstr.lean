/-! J0_coder_7d493 -/
def uJ0_coder_7d493 (p0 : Nat) : Option (Int32) :=
  (if (1 : Int32) = 0 then some (1 : Int32) else bb_st p0 (some (0 : Int32)))
theorem kdJ0_coder_7d493 : yJ0_coder_7d493.cls = RJ0 ∧ yJ0_coder_7d493.cls ≠ "java/lang/invoke/MethodHandle" ∧ yJ0_coder_7d493.cls ≠ "java/lang/invoke/VarHandle" ∧ (parseMethodDescriptor yJ0_coder_7d493.desc).map (fun d => d.parameters.length) = some 0 := by decide +kernel
set_option maxHeartbeats 4000000 in
set_option maxRecDepth 100000 in
theorem kJ0_coder_7d493 (l : Launch) (dC : Nat → ClassId) (dI : Nat → Nat → Nat) (cy : Nat → ClassId) (aK aV : Nat → Nat) (aT : Nat) (p0 : Nat) (r : Int32) (h : uJ0_coder_7d493 p0 = some r) : Met l yJ0_coder_7d493 wsJ0_coder_7d493 ({ frames := 0, cells := 0, slots := 0, locals := 0 }) (va_Pc [.ref (aK p0)] (fun U => va_P (dC, dI) vwCl [] U.heap ∧ va_K (dC, dI) vwCl (tyX cy) U ∧ EV aK aV aT (fun _ => False) U U.heap)) (vp_Si (fun r2 => r = r2 ∧ narrow .byte (.int r2) = .int r2)) 0 0 (fun _ => False) := by
  refine Met.ofW (cc := cJ0_coder_7d493) (maxL := 1) (ret := (some .byte)) (by decide) rfl ?_
  intro p e s m args below meth c s₁ B hml hv
  obtain ⟨rfl, hP, hK, hE⟩ := hv
  have hx := B.exec
  have hb := B.bytes
  have hr := B.returns
  have hts := atoms_spec (ws := wsJ0_coder_7d493) B.pre
  have hown : s.vm.findClass RJ0 = some m.cls := findClass_of_methodNamed B.named
  have hlocks := B.notSynchronized
  have lk1 := hts (Cond.fieldLink RJ0 38 "java/lang/String" "COMPACT_STRINGS" "Z") (List.mem_of_getElem? (i := 1) rfl)
  have lk2 := hts (Cond.fieldLink RJ0 15 "java/lang/String" "coder" "B") (List.mem_of_getElem? (i := 2) rfl)
  have hS : va_S (fun _ => False) s.heap s.heap [] := va_S.rf
  have hl := lv_entry ([.ref (aK p0)]) (n := 1) (Nat.le_of_ble_eq_true rfl)
  rw [lg_entry_eq]
  generalize (lg_sl ([.ref (aK p0)]) ++ List.replicate (1 - (lg_sl ([.ref (aK p0)])).length) Slot.unset).toArray = ls at hl ⊢
  have hl : lv_has ls 1 [(0, .ref (aK p0))] := hl
  unfold uJ0_coder_7d493 at h
  refine bb_cap (fun WW toW ofW => ?_)
  refine va_gets hx hb (EV.cs hE) hS hown lk1 (fun _ h9 => h9) dJ0_coder_7d493_0 ?_
  refine lv_if_eq (tgt := 13) hx hb dJ0_coder_7d493_3 (by decide) (fun c1 => ?_) (fun c1 => ?_)
  · replace h := bb_ifp c1 h
    refine lv_iconst (v := (1 : Int32)) hx hb dJ0_coder_7d493_13 (by decide) ?_
    obtain rfl := bb_some1 h
    exact W.zret hx hb hr (by decide) (fun t ht hW => ⟨_, rfl, ⟨rfl, (by decide)⟩, ht⟩) (fun q hq => by cases hq) dJ0_coder_7d493_14
  · replace h := bb_ifn c1 h
    refine lv_aload_n hx hb dJ0_coder_7d493_6 rfl (lv_at hl 0 rfl) ?_
    obtain ⟨hi2, h⟩ := bb_st_o h
    refine vk_getf hx hb (EV.cod hE p0 hi2) hS hown lk2 (fun _ h9 => h9) dJ0_coder_7d493_7 ?_
    refine lv_goto (tgt := 14) hx hb dJ0_coder_7d493_10 (by decide) ?_
    obtain rfl := bb_some1 h
    exact W.zret hx hb hr (by decide) (fun t ht hW => ⟨_, rfl, ⟨rfl, (by decide)⟩, ht⟩) (fun q hq => by cases hq) dJ0_coder_7d493_14
/-! J0_length_8abf5 -/
def uJ0_length_8abf5 (p0 : Nat) : Option (Int32) :=
  bb_st p0 (bb_st p0 (bb_st p0 (bb_b1 (uJ0_coder_7d493 p0) (fun (r4 : Int32) => some ((Int32.ofNat (bb_len p0)) >>> (r4 &&& 31))))))
theorem kdJ0_length_8abf5 : yJ0_length_8abf5.cls = RJ0 ∧ yJ0_length_8abf5.cls ≠ "java/lang/invoke/MethodHandle" ∧ yJ0_length_8abf5.cls ≠ "java/lang/invoke/VarHandle" ∧ (parseMethodDescriptor yJ0_length_8abf5.desc).map (fun d => d.parameters.length) = some 0 := by decide +kernel
set_option maxHeartbeats 4000000 in
set_option maxRecDepth 100000 in
theorem kJ0_length_8abf5 (l : Launch) (dC : Nat → ClassId) (dI : Nat → Nat → Nat) (cy : Nat → ClassId) (aK aV : Nat → Nat) (aT : Nat) (p0 : Nat) (r : Int32) (h : uJ0_length_8abf5 p0 = some r) : Met l yJ0_length_8abf5 wsJ0_length_8abf5 ({ frames := 1, cells := 0, slots := 0, locals := 20 }) (va_Pc [.ref (aK p0)] (fun U => va_P (dC, dI) vwCl [] U.heap ∧ va_K (dC, dI) vwCl (tyX cy) U ∧ EV aK aV aT (fun _ => False) U U.heap)) (vp_Si (fun r2 => r = r2)) 0 0 (fun _ => False) := by
  refine Met.ofW (cc := cJ0_length_8abf5) (maxL := 1) (ret := (some .int)) (by decide) rfl ?_
  intro p e s m args below meth c s₁ B hml hv
  obtain ⟨rfl, hP, hK, hE⟩ := hv
  have hx := B.exec
  have hb := B.bytes
  have hr := B.returns
  have hts := atoms_spec (ws := wsJ0_length_8abf5) B.pre
  have hown : s.vm.findClass RJ0 = some m.cls := findClass_of_methodNamed B.named
  have hlocks := B.notSynchronized
  have lk1 := hts (Cond.fieldLink RJ0 9 "java/lang/String" "value" "[B") (List.mem_of_getElem? (i := 1) rfl)
  have hS : va_S (fun _ => False) s.heap s.heap [] := va_S.rf
  have hl := lv_entry ([.ref (aK p0)]) (n := 1) (Nat.le_of_ble_eq_true rfl)
  rw [lg_entry_eq]
  generalize (lg_sl ([.ref (aK p0)]) ++ List.replicate (1 - (lg_sl ([.ref (aK p0)])).length) Slot.unset).toArray = ls at hl ⊢
  have hl : lv_has ls 1 [(0, .ref (aK p0))] := hl
  unfold uJ0_length_8abf5 at h
  refine bb_cap (fun WW toW ofW => ?_)
  refine lv_aload_n hx hb dJ0_length_8abf5_0 rfl (lv_at hl 0 rfl) ?_
  obtain ⟨hi1, h⟩ := bb_st_o h
  refine vk_getf hx hb (EV.val hE p0 hi1) hS hown lk1 (fun _ h9 => h9) dJ0_length_8abf5_1 ?_
  obtain ⟨hi2, h⟩ := bb_st_o h
  refine va_tlen hx hb (EV.byt hE p0 hi2) hS rfl dJ0_length_8abf5_4 ?_
  refine lv_aload_n hx hb dJ0_length_8abf5_5 rfl (lv_at hl 0 rfl) ?_
  obtain ⟨hi3, h⟩ := bb_st_o h
  obtain ⟨r4, hc5, h⟩ := bb_b1_o h
  refine vp_callSi (W.runV (As := []) (rest := [.int (Int32.ofNat (bb_len p0))]) ⟨hx, hb, hml, hown, hts⟩ (kJ0_coder_7d493 l dC dI cy aK aV aT p0 r4 hc5) (cwV 0 hts gJ0_length_8abf5_J0_coder_7d493 rfl rfl rfl kdJ0_coder_7d493 ⟨Nat.le_of_ble_eq_true rfl, Nat.le_of_ble_eq_true rfl⟩) (bb_preVe (EV.recv hE p0 hi3 hS) hP hK hE hS) rfl rfl hl.1 rfl (lv_room (Nat.le_of_ble_eq_true rfl)) dJ0_length_8abf5_6 ⟨Nat.zero_le _, Nat.zero_le _⟩) (fun t6 et6 => ?_)
  obtain ⟨rfl, hz7⟩ := et6
  refine lv_ishr hx hb dJ0_length_8abf5_9 ?_
  obtain rfl := bb_some1 h
  exact W.iret hx hb hr (fun t ht hW => ⟨_, rfl, rfl, ht⟩) (fun q hq => by cases hq) dJ0_length_8abf5_10
/-! J0_isLatin1_aae02 -/
def uJ0_isLatin1_aae02 (p0 : Nat) : Option (Int32) :=
  (if (1 : Int32) = 0 then some (0 : Int32) else bb_st p0 ((if (0 : Int32) = 0 then some (1 : Int32) else some (0 : Int32))))
theorem kdJ0_isLatin1_aae02 : yJ0_isLatin1_aae02.cls = RJ0 ∧ yJ0_isLatin1_aae02.cls ≠ "java/lang/invoke/MethodHandle" ∧ yJ0_isLatin1_aae02.cls ≠ "java/lang/invoke/VarHandle" ∧ (parseMethodDescriptor yJ0_isLatin1_aae02.desc).map (fun d => d.parameters.length) = some 0 := by decide +kernel
set_option maxHeartbeats 4000000 in
set_option maxRecDepth 100000 in
theorem kJ0_isLatin1_aae02 (l : Launch) (dC : Nat → ClassId) (dI : Nat → Nat → Nat) (cy : Nat → ClassId) (aK aV : Nat → Nat) (aT : Nat) (p0 : Nat) (r : Int32) (h : uJ0_isLatin1_aae02 p0 = some r) : Met l yJ0_isLatin1_aae02 wsJ0_isLatin1_aae02 ({ frames := 0, cells := 0, slots := 0, locals := 0 }) (va_Pc [.ref (aK p0)] (fun U => va_P (dC, dI) vwCl [] U.heap ∧ va_K (dC, dI) vwCl (tyX cy) U ∧ EV aK aV aT (fun _ => False) U U.heap)) (vp_Si (fun r2 => r = r2 ∧ narrow .boolean (.int r2) = .int r2)) 0 0 (fun _ => False) := by
  refine Met.ofW (cc := cJ0_isLatin1_aae02) (maxL := 1) (ret := (some .boolean)) (by decide) rfl ?_
  intro p e s m args below meth c s₁ B hml hv
  obtain ⟨rfl, hP, hK, hE⟩ := hv
  have hx := B.exec
  have hb := B.bytes
  have hr := B.returns
  have hts := atoms_spec (ws := wsJ0_isLatin1_aae02) B.pre
  have hown : s.vm.findClass RJ0 = some m.cls := findClass_of_methodNamed B.named
  have hlocks := B.notSynchronized
  have lk1 := hts (Cond.fieldLink RJ0 38 "java/lang/String" "COMPACT_STRINGS" "Z") (List.mem_of_getElem? (i := 1) rfl)
  have lk2 := hts (Cond.fieldLink RJ0 15 "java/lang/String" "coder" "B") (List.mem_of_getElem? (i := 2) rfl)
  have hS : va_S (fun _ => False) s.heap s.heap [] := va_S.rf
  have hl := lv_entry ([.ref (aK p0)]) (n := 1) (Nat.le_of_ble_eq_true rfl)
  rw [lg_entry_eq]
  generalize (lg_sl ([.ref (aK p0)]) ++ List.replicate (1 - (lg_sl ([.ref (aK p0)])).length) Slot.unset).toArray = ls at hl ⊢
  have hl : lv_has ls 1 [(0, .ref (aK p0))] := hl
  unfold uJ0_isLatin1_aae02 at h
  refine bb_cap (fun WW toW ofW => ?_)
  refine va_gets hx hb (EV.cs hE) hS hown lk1 (fun _ h9 => h9) dJ0_isLatin1_aae02_0 ?_
  refine lv_if_eq (tgt := 17) hx hb dJ0_isLatin1_aae02_3 (by decide) (fun c1 => ?_) (fun c1 => ?_)
  · replace h := bb_ifp c1 h
    refine lv_iconst (v := (0 : Int32)) hx hb dJ0_isLatin1_aae02_17 (by decide) ?_
    obtain rfl := bb_some1 h
    exact W.zret hx hb hr (by decide) (fun t ht hW => ⟨_, rfl, ⟨rfl, (by decide)⟩, ht⟩) (fun q hq => by cases hq) dJ0_isLatin1_aae02_18
  · replace h := bb_ifn c1 h
    refine lv_aload_n hx hb dJ0_isLatin1_aae02_6 rfl (lv_at hl 0 rfl) ?_
    obtain ⟨hi2, h⟩ := bb_st_o h
    refine vk_getf hx hb (EV.cod hE p0 hi2) hS hown lk2 (fun _ h9 => h9) dJ0_isLatin1_aae02_7 ?_
    refine lv_if_ne (tgt := 17) hx hb dJ0_isLatin1_aae02_10 (by decide) (fun c3 => ?_) (fun c3 => ?_)
    · replace h := bb_ifn c3 h
      refine lv_iconst (v := (0 : Int32)) hx hb dJ0_isLatin1_aae02_17 (by decide) ?_
      obtain rfl := bb_some1 h
      exact W.zret hx hb hr (by decide) (fun t ht hW => ⟨_, rfl, ⟨rfl, (by decide)⟩, ht⟩) (fun q hq => by cases hq) dJ0_isLatin1_aae02_18
    · replace h := bb_ifp c3 h
      refine lv_iconst (v := (1 : Int32)) hx hb dJ0_isLatin1_aae02_13 (by decide) ?_
      refine lv_goto (tgt := 18) hx hb dJ0_isLatin1_aae02_14 (by decide) ?_
      obtain rfl := bb_some1 h
      exact W.zret hx hb hr (by decide) (fun t ht hW => ⟨_, rfl, ⟨rfl, (by decide)⟩, ht⟩) (fun q hq => by cases hq) dJ0_isLatin1_aae02_18
/-! J3_checkIndex_8e157 -/
def uJ3_checkIndex_8e157 (p1 : Int32) (p2 : Int32) : Option (Int32) :=
  bb_cut (fun (u1 : Unit) => none) (fun k2 => (if p1 < 0 then k2 () else (if p1 < p2 then some p1 else k2 ())))
theorem kdJ3_checkIndex_8e157 : yJ3_checkIndex_8e157.cls ≠ "java/lang/invoke/MethodHandle" ∧ yJ3_checkIndex_8e157.cls ≠ "java/lang/invoke/VarHandle" ∧ (parseMethodDescriptor yJ3_checkIndex_8e157.desc).map (fun d => d.parameters.length) = some 3 := by decide +kernel
set_option maxHeartbeats 4000000 in
set_option maxRecDepth 100000 in
theorem kJ3_checkIndex_8e157_n (l : Launch) (dC : Nat → ClassId) (dI : Nat → Nat → Nat) (cy : Nat → ClassId) (p1 : Int32) (p2 : Int32) (r : Int32) (h : uJ3_checkIndex_8e157 p1 p2 = some r) : Met l yJ3_checkIndex_8e157 wsJ3_checkIndex_8e157 ({ frames := 0, cells := 0, slots := 0, locals := 0 }) (va_Pc [.int p1, .int p2, .null] (fun U => va_P (dC, dI) vwCl [] U.heap ∧ va_K (dC, dI) vwCl (tyX cy) U)) (vp_Si (fun r2 => r = r2)) 0 0 (fun _ => False) := by
  refine Met.ofW (cc := cJ3_checkIndex_8e157) (maxL := 3) (ret := (some .int)) (by decide) rfl ?_
  intro p e s m args below meth c s₁ B hml hv
  obtain ⟨rfl, hP, hK⟩ := hv
  have hx := B.exec
  have hb := B.bytes
  have hr := B.returns
  have hts := atoms_spec (ws := wsJ3_checkIndex_8e157) B.pre
  have hown : s.vm.findClass RJ3 = some m.cls := findClass_of_methodNamed B.named
  have hlocks := B.notSynchronized
  have hl := lv_entry ([.int p1, .int p2, .null]) (n := 3) (Nat.le_of_ble_eq_true rfl)
  rw [lg_entry_eq]
  generalize (lg_sl ([.int p1, .int p2, .null]) ++ List.replicate (3 - (lg_sl ([.int p1, .int p2, .null])).length) Slot.unset).toArray = ls at hl ⊢
  have hl : lv_has ls 3 [(0, .int p1), (1, .int p2), (2, .null)] := hl
  unfold uJ3_checkIndex_8e157 at h
  refine bb_cap (fun WW toW ofW => ?_)
  refine lv_iload_n hx hb dJ3_checkIndex_8e157_0 rfl (lv_at hl 0 rfl) ?_
  obtain ⟨k2, ek2, h⟩ := bb_cut_o h
  have Jk2 : ∀ (u1 : Unit) (ls : Array Slot), k2 u1 = some r → lv_has ls 3 [(0, .int p1), (1, .int p2), (2, .null)] → WW s.heap [] (F0 m 9 ls []) := by
    intro u1 ls h hl
    refine ofW _ _ _ ?_
    subst ek2
    exact (bb_no h).elim
  refine lv_if_lt (tgt := 9) hx hb dJ3_checkIndex_8e157_1 (by decide) (fun c3 => ?_) (fun c3 => ?_)
  · replace h := bb_ifp c3 h
    exact toW _ _ _ (Jk2 () _ h (lv_sub hl [0, 1, 2] rfl))
  · replace h := bb_ifn c3 h
    refine lv_iload_n hx hb dJ3_checkIndex_8e157_4 rfl (lv_at hl 0 rfl) ?_
    refine lv_iload_n hx hb dJ3_checkIndex_8e157_5 rfl (lv_at hl 1 rfl) ?_
    refine lv_icmp_lt (tgt := 16) hx hb dJ3_checkIndex_8e157_6 (by decide) (fun c4 => ?_) (fun c4 => ?_)
    · replace h := bb_ifp c4 h
      refine lv_iload_n hx hb dJ3_checkIndex_8e157_16 rfl (lv_at hl 0 rfl) ?_
      obtain rfl := bb_some1 h
      exact W.iret hx hb hr (fun t ht hW => ⟨_, rfl, rfl, ht⟩) (fun q hq => by cases hq) dJ3_checkIndex_8e157_17
    · replace h := bb_ifn c4 h
      exact toW _ _ _ (Jk2 () _ h (lv_sub hl [0, 1, 2] rfl))
set_option maxHeartbeats 4000000 in
set_option maxRecDepth 100000 in
theorem kJ3_checkIndex_8e157_r (l : Launch) (dC : Nat → ClassId) (dI : Nat → Nat → Nat) (cy : Nat → ClassId) (tF : Nat) (p1 : Int32) (p2 : Int32) (r : Int32) (h : uJ3_checkIndex_8e157 p1 p2 = some r) : Met l yJ3_checkIndex_8e157 wsJ3_checkIndex_8e157 ({ frames := 0, cells := 0, slots := 0, locals := 0 }) (va_Pc [.int p1, .int p2, .ref tF] (fun U => va_P (dC, dI) vwCl [] U.heap ∧ va_K (dC, dI) vwCl (tyX cy) U)) (vp_Si (fun r2 => r = r2)) 0 0 (fun _ => False) := by
  refine Met.ofW (cc := cJ3_checkIndex_8e157) (maxL := 3) (ret := (some .int)) (by decide) rfl ?_
  intro p e s m args below meth c s₁ B hml hv
  obtain ⟨rfl, hP, hK⟩ := hv
  have hx := B.exec
  have hb := B.bytes
  have hr := B.returns
  have hts := atoms_spec (ws := wsJ3_checkIndex_8e157) B.pre
  have hown : s.vm.findClass RJ3 = some m.cls := findClass_of_methodNamed B.named
  have hlocks := B.notSynchronized
  have hl := lv_entry ([.int p1, .int p2, .ref tF]) (n := 3) (Nat.le_of_ble_eq_true rfl)
  rw [lg_entry_eq]
  generalize (lg_sl ([.int p1, .int p2, .ref tF]) ++ List.replicate (3 - (lg_sl ([.int p1, .int p2, .ref tF])).length) Slot.unset).toArray = ls at hl ⊢
  have hl : lv_has ls 3 [(0, .int p1), (1, .int p2), (2, .ref tF)] := hl
  unfold uJ3_checkIndex_8e157 at h
  refine bb_cap (fun WW toW ofW => ?_)
  refine lv_iload_n hx hb dJ3_checkIndex_8e157_0 rfl (lv_at hl 0 rfl) ?_
  obtain ⟨k2, ek2, h⟩ := bb_cut_o h
  have Jk2 : ∀ (u1 : Unit) (ls : Array Slot), k2 u1 = some r → lv_has ls 3 [(0, .int p1), (1, .int p2), (2, .ref tF)] → WW s.heap [] (F0 m 9 ls []) := by
    intro u1 ls h hl
    refine ofW _ _ _ ?_
    subst ek2
    exact (bb_no h).elim
  refine lv_if_lt (tgt := 9) hx hb dJ3_checkIndex_8e157_1 (by decide) (fun c3 => ?_) (fun c3 => ?_)
  · replace h := bb_ifp c3 h
    exact toW _ _ _ (Jk2 () _ h (lv_sub hl [0, 1, 2] rfl))
  · replace h := bb_ifn c3 h
    refine lv_iload_n hx hb dJ3_checkIndex_8e157_4 rfl (lv_at hl 0 rfl) ?_
    refine lv_iload_n hx hb dJ3_checkIndex_8e157_5 rfl (lv_at hl 1 rfl) ?_
    refine lv_icmp_lt (tgt := 16) hx hb dJ3_checkIndex_8e157_6 (by decide) (fun c4 => ?_) (fun c4 => ?_)
    · replace h := bb_ifp c4 h
      refine lv_iload_n hx hb dJ3_checkIndex_8e157_16 rfl (lv_at hl 0 rfl) ?_
      obtain rfl := bb_some1 h
      exact W.iret hx hb hr (fun t ht hW => ⟨_, rfl, rfl, ht⟩) (fun q hq => by cases hq) dJ3_checkIndex_8e157_17
    · replace h := bb_ifn c4 h
      exact toW _ _ _ (Jk2 () _ h (lv_sub hl [0, 1, 2] rfl))
/-! J0_checkIndex_df160 -/
def uJ0_checkIndex_df160 (p1 : Int32) (p2 : Int32) : Option (Unit) :=
  bb_b1 (uJ3_checkIndex_8e157 p1 p2) (fun (r2 : Int32) => some ())
theorem kdJ0_checkIndex_df160 : yJ0_checkIndex_df160.cls ≠ "java/lang/invoke/MethodHandle" ∧ yJ0_checkIndex_df160.cls ≠ "java/lang/invoke/VarHandle" ∧ (parseMethodDescriptor yJ0_checkIndex_df160.desc).map (fun d => d.parameters.length) = some 2 := by decide +kernel
set_option maxHeartbeats 4000000 in
set_option maxRecDepth 100000 in
theorem kJ0_checkIndex_df160 (l : Launch) (dC : Nat → ClassId) (dI : Nat → Nat → Nat) (cy : Nat → ClassId) (aK aV : Nat → Nat) (aT : Nat) (p1 : Int32) (p2 : Int32) (h : uJ0_checkIndex_df160 p1 p2 = some ()) : Met l yJ0_checkIndex_df160 wsJ0_checkIndex_df160 ({ frames := 1, cells := 0, slots := 0, locals := 22 }) (va_Pc [.int p1, .int p2] (fun U => va_P (dC, dI) vwCl [] U.heap ∧ va_K (dC, dI) vwCl (tyX cy) U ∧ EV aK aV aT (fun _ => False) U U.heap)) (va_Sv (fun _ => True)) 0 0 (fun _ => False) := by
  refine Met.ofW (cc := cJ0_checkIndex_df160) (maxL := 2) (ret := none) (by decide) rfl ?_
  intro p e s m args below meth c s₁ B hml hv
  obtain ⟨rfl, hP, hK, hE⟩ := hv
  have hx := B.exec
  have hb := B.bytes
  have hr := B.returns
  have hts := atoms_spec (ws := wsJ0_checkIndex_df160) B.pre
  have hown : s.vm.findClass RJ0 = some m.cls := findClass_of_methodNamed B.named
  have hlocks := B.notSynchronized
  have lk1 := hts (Cond.fieldLink RJ0 1053 "jdk/internal/util/Preconditions" "SIOOBE_FORMATTER" "Ljava/util/function/BiFunction;") (List.mem_of_getElem? (i := 1) rfl)
  have hS : va_S (fun _ => False) s.heap s.heap [] := va_S.rf
  have hl := lv_entry ([.int p1, .int p2]) (n := 2) (Nat.le_of_ble_eq_true rfl)
  rw [lg_entry_eq]
  generalize (lg_sl ([.int p1, .int p2]) ++ List.replicate (2 - (lg_sl ([.int p1, .int p2])).length) Slot.unset).toArray = ls at hl ⊢
  have hl : lv_has ls 2 [(0, .int p1), (1, .int p2)] := hl
  unfold uJ0_checkIndex_df160 at h
  refine bb_cap (fun WW toW ofW => ?_)
  refine lv_iload_n hx hb dJ0_checkIndex_df160_0 rfl (lv_at hl 0 rfl) ?_
  refine lv_iload_n hx hb dJ0_checkIndex_df160_1 rfl (lv_at hl 1 rfl) ?_
  rcases EV.sio hE with hq1 | ⟨tF, hq1⟩
  · refine va_gets hx hb hq1 hS hown lk1 (fun _ h9 => h9) dJ0_checkIndex_df160_2 ?_
    obtain ⟨r2, hc3, h⟩ := bb_b1_o h
    refine vp_callSi (W.runS (As := [.int p1, .int p2, .null]) (rest := []) ⟨hx, hb, hml, hown, hts⟩ (kJ3_checkIndex_8e157_n l dC dI cy p1 p2 r2 hc3) (va_cwS 3 hts gJ0_checkIndex_df160_J3_checkIndex_8e157 rfl rfl rfl kdJ3_checkIndex_8e157 ⟨Nat.le_of_ble_eq_true rfl, Nat.le_of_ble_eq_true rfl⟩) (bb_preS hP hK) rfl rfl hl.1 rfl (lv_room (Nat.le_of_ble_eq_true rfl)) dJ0_checkIndex_df160_5 ⟨Nat.zero_le _, Nat.zero_le _⟩) (fun t4 et4 => ?_)
    obtain rfl := et4
    refine lv_pop hx hb dJ0_checkIndex_df160_8 rfl ?_
    exact W.vret hx hb hr (fun t ht hW => ⟨rfl, trivial, ht⟩) (fun q hq => by cases hq) dJ0_checkIndex_df160_9
  · refine va_gets hx hb hq1 hS hown lk1 (fun _ h9 => h9) dJ0_checkIndex_df160_2 ?_
    obtain ⟨r2, hc3, h⟩ := bb_b1_o h
    refine vp_callSi (W.runS (As := [.int p1, .int p2, .ref tF]) (rest := []) ⟨hx, hb, hml, hown, hts⟩ (kJ3_checkIndex_8e157_r l dC dI cy tF p1 p2 r2 hc3) (va_cwS 3 hts gJ0_checkIndex_df160_J3_checkIndex_8e157 rfl rfl rfl kdJ3_checkIndex_8e157 ⟨Nat.le_of_ble_eq_true rfl, Nat.le_of_ble_eq_true rfl⟩) (bb_preS hP hK) rfl rfl hl.1 rfl (lv_room (Nat.le_of_ble_eq_true rfl)) dJ0_checkIndex_df160_5 ⟨Nat.zero_le _, Nat.zero_le _⟩) (fun t4 et4 => ?_)
    obtain rfl := et4
    refine lv_pop hx hb dJ0_checkIndex_df160_8 rfl ?_
    exact W.vret hx hb hr (fun t ht hW => ⟨rfl, trivial, ht⟩) (fun q hq => by cases hq) dJ0_checkIndex_df160_9
/-! J1_charAt_3b067 -/
def uJ1_charAt_3b067 (p1 : Nat) (p2 : Int32) : Option (Int32) :=
  bb_st p1 (bb_b0 (uJ0_checkIndex_df160 p2 (Int32.ofNat (bb_len p1))) (bb_st p1 (bb_ix p2 (bb_len p1) (some ((((bb_byt p1 p2.toNatClampNeg) &&& (255 : Int32)).toUInt32 % 65536).toInt32)))))
theorem kdJ1_charAt_3b067 : yJ1_charAt_3b067.cls ≠ "java/lang/invoke/MethodHandle" ∧ yJ1_charAt_3b067.cls ≠ "java/lang/invoke/VarHandle" ∧ (parseMethodDescriptor yJ1_charAt_3b067.desc).map (fun d => d.parameters.length) = some 2 := by decide +kernel
set_option maxHeartbeats 4000000 in
set_option maxRecDepth 100000 in
theorem kJ1_charAt_3b067 (l : Launch) (dC : Nat → ClassId) (dI : Nat → Nat → Nat) (cy : Nat → ClassId) (aK aV : Nat → Nat) (aT : Nat) (p1 : Nat) (p2 : Int32) (r : Int32) (h : uJ1_charAt_3b067 p1 p2 = some r) : Met l yJ1_charAt_3b067 wsJ1_charAt_3b067 ({ frames := 2, cells := 0, slots := 0, locals := 43 }) (va_Pc [.ref (aV p1), .int p2] (fun U => va_P (dC, dI) vwCl [] U.heap ∧ va_K (dC, dI) vwCl (tyX cy) U ∧ EV aK aV aT (fun _ => False) U U.heap)) (vp_Si (fun r2 => r = r2 ∧ narrow .char (.int r2) = .int r2)) 0 0 (fun _ => False) := by
  refine Met.ofW (cc := cJ1_charAt_3b067) (maxL := 2) (ret := (some .char)) (by decide) rfl ?_
  intro p e s m args below meth c s₁ B hml hv
  obtain ⟨rfl, hP, hK, hE⟩ := hv
  have hx := B.exec
  have hb := B.bytes
  have hr := B.returns
  have hts := atoms_spec (ws := wsJ1_charAt_3b067) B.pre
  have hown : s.vm.findClass RJ1 = some m.cls := findClass_of_methodNamed B.named
  have hlocks := B.notSynchronized
  have hS : va_S (fun _ => False) s.heap s.heap [] := va_S.rf
  have hl := lv_entry ([.ref (aV p1), .int p2]) (n := 2) (Nat.le_of_ble_eq_true rfl)
  rw [lg_entry_eq]
  generalize (lg_sl ([.ref (aV p1), .int p2]) ++ List.replicate (2 - (lg_sl ([.ref (aV p1), .int p2])).length) Slot.unset).toArray = ls at hl ⊢
  have hl : lv_has ls 2 [(0, .ref (aV p1)), (1, .int p2)] := hl
  unfold uJ1_charAt_3b067 at h
  refine bb_cap (fun WW toW ofW => ?_)
  refine lv_iload_n hx hb dJ1_charAt_3b067_0 rfl (lv_at hl 1 rfl) ?_
  refine lv_aload_n hx hb dJ1_charAt_3b067_1 rfl (lv_at hl 0 rfl) ?_
  obtain ⟨hi1, h⟩ := bb_st_o h
  refine va_tlen hx hb (EV.byt hE p1 hi1) hS rfl dJ1_charAt_3b067_2 ?_
  obtain ⟨hc2, h⟩ := bb_b0_o h
  refine va_csv (W.runS (As := [.int p2, .int (Int32.ofNat (bb_len p1))]) (rest := []) ⟨hx, hb, hml, hown, hts⟩ (kJ0_checkIndex_df160 l dC dI cy aK aV aT p2 (Int32.ofNat (bb_len p1)) hc2) (va_cwS 2 hts gJ1_charAt_3b067_J0_checkIndex_df160 rfl rfl rfl kdJ0_checkIndex_df160 ⟨Nat.le_of_ble_eq_true rfl, Nat.le_of_ble_eq_true rfl⟩) (bb_preSe hP hK hE hS) rfl rfl hl.1 rfl (lv_room (Nat.le_of_ble_eq_true rfl)) dJ1_charAt_3b067_3 ⟨Nat.zero_le _, Nat.zero_le _⟩) (fun _ => ?_)
  refine lv_aload_n hx hb dJ1_charAt_3b067_6 rfl (lv_at hl 0 rfl) ?_
  refine lv_iload_n hx hb dJ1_charAt_3b067_7 rfl (lv_at hl 1 rfl) ?_
  obtain ⟨hi3, h⟩ := bb_st_o h
  obtain ⟨hi4, h⟩ := bb_ix_o h
  refine va_tb hx hb (EV.byt hE p1 hi3) hS hi4 rfl dJ1_charAt_3b067_8 ?_
  refine lv_sipush (v := (255 : Int32)) hx hb dJ1_charAt_3b067_9 (by decide) ?_
  refine lv_iand hx hb dJ1_charAt_3b067_12 ?_
  refine lv_i2c hx hb dJ1_charAt_3b067_13 rfl ?_
  obtain rfl := bb_some1 h
  exact W.zret hx hb hr (pk_nc _) (fun t ht hW => ⟨_, rfl, ⟨rfl, (pk_nc _)⟩, ht⟩) (fun q hq => by cases hq) dJ1_charAt_3b067_14
/-! J0_charAt_5068e -/
def uJ0_charAt_5068e (p0 : Nat) (p1 : Int32) : Option (Int32) :=
  bb_st p0 (bb_b1 (uJ0_isLatin1_aae02 p0) (fun (r2 : Int32) => (if r2 = 0 then bb_st p0 (none) else bb_st p0 (bb_b1 (uJ1_charAt_3b067 p0 p1) (fun (r9 : Int32) => some r9)))))
theorem kdJ0_charAt_5068e : yJ0_charAt_5068e.cls = RJ0 ∧ yJ0_charAt_5068e.cls ≠ "java/lang/invoke/MethodHandle" ∧ yJ0_charAt_5068e.cls ≠ "java/lang/invoke/VarHandle" ∧ (parseMethodDescriptor yJ0_charAt_5068e.desc).map (fun d => d.parameters.length) = some 1 := by decide +kernel
set_option maxHeartbeats 4000000 in
set_option maxRecDepth 100000 in
theorem kJ0_charAt_5068e (l : Launch) (dC : Nat → ClassId) (dI : Nat → Nat → Nat) (cy : Nat → ClassId) (aK aV : Nat → Nat) (aT : Nat) (p0 : Nat) (p1 : Int32) (r : Int32) (h : uJ0_charAt_5068e p0 p1 = some r) : Met l yJ0_charAt_5068e wsJ0_charAt_5068e ({ frames := 3, cells := 0, slots := 0, locals := 64 }) (va_Pc [.ref (aK p0), .int p1] (fun U => va_P (dC, dI) vwCl [] U.heap ∧ va_K (dC, dI) vwCl (tyX cy) U ∧ EV aK aV aT (fun _ => False) U U.heap)) (vp_Si (fun r2 => r = r2 ∧ narrow .char (.int r2) = .int r2)) 0 0 (fun _ => False) := by
  refine Met.ofW (cc := cJ0_charAt_5068e) (maxL := 2) (ret := (some .char)) (by decide) rfl ?_
  intro p e s m args below meth c s₁ B hml hv
  obtain ⟨rfl, hP, hK, hE⟩ := hv
  have hx := B.exec
  have hb := B.bytes
  have hr := B.returns
  have hts := atoms_spec (ws := wsJ0_charAt_5068e) B.pre
  have hown : s.vm.findClass RJ0 = some m.cls := findClass_of_methodNamed B.named
  have hlocks := B.notSynchronized
  have lk1 := hts (Cond.fieldLink RJ0 9 "java/lang/String" "value" "[B") (List.mem_of_getElem? (i := 1) rfl)
  have hS : va_S (fun _ => False) s.heap s.heap [] := va_S.rf
  have hl := lv_entry ([.ref (aK p0), .int p1]) (n := 2) (Nat.le_of_ble_eq_true rfl)
  rw [lg_entry_eq]
  generalize (lg_sl ([.ref (aK p0), .int p1]) ++ List.replicate (2 - (lg_sl ([.ref (aK p0), .int p1])).length) Slot.unset).toArray = ls at hl ⊢
  have hl : lv_has ls 2 [(0, .ref (aK p0)), (1, .int p1)] := hl
  unfold uJ0_charAt_5068e at h
  refine bb_cap (fun WW toW ofW => ?_)
  refine lv_aload_n hx hb dJ0_charAt_5068e_0 rfl (lv_at hl 0 rfl) ?_
  obtain ⟨hi1, h⟩ := bb_st_o h
  obtain ⟨r2, hc3, h⟩ := bb_b1_o h
  refine vp_callSi (W.runV (As := []) (rest := []) ⟨hx, hb, hml, hown, hts⟩ (kJ0_isLatin1_aae02 l dC dI cy aK aV aT p0 r2 hc3) (cwV 0 hts gJ0_charAt_5068e_J0_isLatin1_aae02 rfl rfl rfl kdJ0_isLatin1_aae02 ⟨Nat.le_of_ble_eq_true rfl, Nat.le_of_ble_eq_true rfl⟩) (bb_preVe (EV.recv hE p0 hi1 hS) hP hK hE hS) rfl rfl hl.1 rfl (lv_room (Nat.le_of_ble_eq_true rfl)) dJ0_charAt_5068e_1 ⟨Nat.zero_le _, Nat.zero_le _⟩) (fun t4 et4 => ?_)
  obtain ⟨rfl, hz5⟩ := et4
  refine lv_if_eq (tgt := 16) hx hb dJ0_charAt_5068e_4 (by decide) (fun c6 => ?_) (fun c6 => ?_)
  · replace h := bb_ifp c6 h
    refine lv_aload_n hx hb dJ0_charAt_5068e_16 rfl (lv_at hl 0 rfl) ?_
    obtain ⟨hi7, h⟩ := bb_st_o h
    refine vk_getf hx hb (EV.val hE p0 hi7) hS hown lk1 (fun _ h9 => h9) dJ0_charAt_5068e_17 ?_
    refine lv_iload_n hx hb dJ0_charAt_5068e_20 rfl (lv_at hl 1 rfl) ?_
    exact (bb_no h).elim
  · replace h := bb_ifn c6 h
    refine lv_aload_n hx hb dJ0_charAt_5068e_7 rfl (lv_at hl 0 rfl) ?_
    obtain ⟨hi8, h⟩ := bb_st_o h
    refine vk_getf hx hb (EV.val hE p0 hi8) hS hown lk1 (fun _ h9 => h9) dJ0_charAt_5068e_8 ?_
    refine lv_iload_n hx hb dJ0_charAt_5068e_11 rfl (lv_at hl 1 rfl) ?_
    obtain ⟨r9, hc10, h⟩ := bb_b1_o h
    refine vp_callSi (W.runS (As := [.ref (aV p0), .int p1]) (rest := []) ⟨hx, hb, hml, hown, hts⟩ (kJ1_charAt_3b067 l dC dI cy aK aV aT p0 p1 r9 hc10) (va_cwS 2 hts gJ0_charAt_5068e_J1_charAt_3b067 rfl rfl rfl kdJ1_charAt_3b067 ⟨Nat.le_of_ble_eq_true rfl, Nat.le_of_ble_eq_true rfl⟩) (bb_preSe hP hK hE hS) rfl rfl hl.1 rfl (lv_room (Nat.le_of_ble_eq_true rfl)) dJ0_charAt_5068e_12 ⟨Nat.zero_le _, Nat.zero_le _⟩) (fun t11 et11 => ?_)
    obtain ⟨rfl, hz12⟩ := et11
    obtain rfl := bb_some1 h
    exact W.zret hx hb hr hz12 (fun t ht hW => ⟨_, rfl, ⟨rfl, hz12⟩, ht⟩) (fun q hq => by cases hq) dJ0_charAt_5068e_15
/-! J2_length_9d52b -/
def uJ2_length_9d52b (p1 : Nat) : Option (Int32) :=
  bb_st p1 (some ((Int32.ofNat (bb_len p1)) >>> ((1 : Int32) &&& 31)))
theorem kdJ2_length_9d52b : yJ2_length_9d52b.cls ≠ "java/lang/invoke/MethodHandle" ∧ yJ2_length_9d52b.cls ≠ "java/lang/invoke/VarHandle" ∧ (parseMethodDescriptor yJ2_length_9d52b.desc).map (fun d => d.parameters.length) = some 1 := by decide +kernel
set_option maxHeartbeats 4000000 in
set_option maxRecDepth 100000 in
theorem kJ2_length_9d52b (l : Launch) (dC : Nat → ClassId) (dI : Nat → Nat → Nat) (cy : Nat → ClassId) (aK aV : Nat → Nat) (aT : Nat) (p1 : Nat) (r : Int32) (h : uJ2_length_9d52b p1 = some r) : Met l yJ2_length_9d52b wsJ2_length_9d52b ({ frames := 0, cells := 0, slots := 0, locals := 0 }) (va_Pc [.ref (aV p1)] (fun U => va_P (dC, dI) vwCl [] U.heap ∧ va_K (dC, dI) vwCl (tyX cy) U ∧ EV aK aV aT (fun _ => False) U U.heap)) (vp_Si (fun r2 => r = r2)) 0 0 (fun _ => False) := by
  refine Met.ofW (cc := cJ2_length_9d52b) (maxL := 1) (ret := (some .int)) (by decide) rfl ?_
  intro p e s m args below meth c s₁ B hml hv
  obtain ⟨rfl, hP, hK, hE⟩ := hv
  have hx := B.exec
  have hb := B.bytes
  have hr := B.returns
  have hts := atoms_spec (ws := wsJ2_length_9d52b) B.pre
  have hown : s.vm.findClass RJ2 = some m.cls := findClass_of_methodNamed B.named
  have hlocks := B.notSynchronized
  have hS : va_S (fun _ => False) s.heap s.heap [] := va_S.rf
  have hl := lv_entry ([.ref (aV p1)]) (n := 1) (Nat.le_of_ble_eq_true rfl)
  rw [lg_entry_eq]
  generalize (lg_sl ([.ref (aV p1)]) ++ List.replicate (1 - (lg_sl ([.ref (aV p1)])).length) Slot.unset).toArray = ls at hl ⊢
  have hl : lv_has ls 1 [(0, .ref (aV p1))] := hl
  unfold uJ2_length_9d52b at h
  refine bb_cap (fun WW toW ofW => ?_)
  refine lv_aload_n hx hb dJ2_length_9d52b_0 rfl (lv_at hl 0 rfl) ?_
  obtain ⟨hi1, h⟩ := bb_st_o h
  refine va_tlen hx hb (EV.byt hE p1 hi1) hS rfl dJ2_length_9d52b_1 ?_
  refine lv_iconst (v := (1 : Int32)) hx hb dJ2_length_9d52b_2 (by decide) ?_
  refine lv_ishr hx hb dJ2_length_9d52b_3 ?_
  obtain rfl := bb_some1 h
  exact W.iret hx hb hr (fun t ht hW => ⟨_, rfl, rfl, ht⟩) (fun q hq => by cases hq) dJ2_length_9d52b_4
/-! J2_checkIndex_2214a -/
def uJ2_checkIndex_2214a (p1 : Int32) (p2 : Nat) : Option (Unit) :=
  bb_b1 (uJ2_length_9d52b p2) (fun (r1 : Int32) => bb_b0 (uJ0_checkIndex_df160 p1 r1) (some ()))
theorem kdJ2_checkIndex_2214a : yJ2_checkIndex_2214a.cls ≠ "java/lang/invoke/MethodHandle" ∧ yJ2_checkIndex_2214a.cls ≠ "java/lang/invoke/VarHandle" ∧ (parseMethodDescriptor yJ2_checkIndex_2214a.desc).map (fun d => d.parameters.length) = some 2 := by decide +kernel
set_option maxHeartbeats 4000000 in
set_option maxRecDepth 100000 in
theorem kJ2_checkIndex_2214a (l : Launch) (dC : Nat → ClassId) (dI : Nat → Nat → Nat) (cy : Nat → ClassId) (aK aV : Nat → Nat) (aT : Nat) (p1 : Int32) (p2 : Nat) (h : uJ2_checkIndex_2214a p1 p2 = some ()) : Met l yJ2_checkIndex_2214a wsJ2_checkIndex_2214a ({ frames := 2, cells := 0, slots := 0, locals := 43 }) (va_Pc [.int p1, .ref (aV p2)] (fun U => va_P (dC, dI) vwCl [] U.heap ∧ va_K (dC, dI) vwCl (tyX cy) U ∧ EV aK aV aT (fun _ => False) U U.heap)) (va_Sv (fun _ => True)) 0 0 (fun _ => False) := by
  refine Met.ofW (cc := cJ2_checkIndex_2214a) (maxL := 2) (ret := none) (by decide) rfl ?_
  intro p e s m args below meth c s₁ B hml hv
  obtain ⟨rfl, hP, hK, hE⟩ := hv
  have hx := B.exec
  have hb := B.bytes
  have hr := B.returns
  have hts := atoms_spec (ws := wsJ2_checkIndex_2214a) B.pre
  have hown : s.vm.findClass RJ2 = some m.cls := findClass_of_methodNamed B.named
  have hlocks := B.notSynchronized
  have hS : va_S (fun _ => False) s.heap s.heap [] := va_S.rf
  have hl := lv_entry ([.int p1, .ref (aV p2)]) (n := 2) (Nat.le_of_ble_eq_true rfl)
  rw [lg_entry_eq]
  generalize (lg_sl ([.int p1, .ref (aV p2)]) ++ List.replicate (2 - (lg_sl ([.int p1, .ref (aV p2)])).length) Slot.unset).toArray = ls at hl ⊢
  have hl : lv_has ls 2 [(0, .int p1), (1, .ref (aV p2))] := hl
  unfold uJ2_checkIndex_2214a at h
  refine bb_cap (fun WW toW ofW => ?_)
  refine lv_iload_n hx hb dJ2_checkIndex_2214a_0 rfl (lv_at hl 0 rfl) ?_
  refine lv_aload_n hx hb dJ2_checkIndex_2214a_1 rfl (lv_at hl 1 rfl) ?_
  obtain ⟨r1, hc2, h⟩ := bb_b1_o h
  refine vp_callSi (W.runS (As := [.ref (aV p2)]) (rest := [.int p1]) ⟨hx, hb, hml, hown, hts⟩ (kJ2_length_9d52b l dC dI cy aK aV aT p2 r1 hc2) (va_cwS 1 hts gJ2_checkIndex_2214a_J2_length_9d52b rfl rfl rfl kdJ2_length_9d52b ⟨Nat.le_of_ble_eq_true rfl, Nat.le_of_ble_eq_true rfl⟩) (bb_preSe hP hK hE hS) rfl rfl hl.1 rfl (lv_room (Nat.le_of_ble_eq_true rfl)) dJ2_checkIndex_2214a_2 ⟨Nat.zero_le _, Nat.zero_le _⟩) (fun t3 et3 => ?_)
  obtain rfl := et3
  obtain ⟨hc4, h⟩ := bb_b0_o h
  refine va_csv (W.runS (As := [.int p1, .int r1]) (rest := []) ⟨hx, hb, hml, hown, hts⟩ (kJ0_checkIndex_df160 l dC dI cy aK aV aT p1 r1 hc4) (va_cwS 2 hts gJ2_checkIndex_2214a_J0_checkIndex_df160 rfl rfl rfl kdJ0_checkIndex_df160 ⟨Nat.le_of_ble_eq_true rfl, Nat.le_of_ble_eq_true rfl⟩) (bb_preSe hP hK hE hS) rfl rfl hl.1 rfl (lv_room (Nat.le_of_ble_eq_true rfl)) dJ2_checkIndex_2214a_5 ⟨Nat.zero_le _, Nat.zero_le _⟩) (fun _ => ?_)
  exact W.vret hx hb hr (fun t ht hW => ⟨rfl, trivial, ht⟩) (fun q hq => by cases hq) dJ2_checkIndex_2214a_8
