/-! X8_isIn -/
def uX8_isIn (p1 : Int32) (f_t_s : Nat → Int32) : Option (Int32) :=
  bb_b1 (uX8_its p1 (1 : Int32) f_t_s) (fun (r1 : Int32) => (if (48 : Int32) ≤ r1 then some (0 : Int32) else some (1 : Int32)))
theorem kdX8_isIn : yX8_isIn.cls = RX8 ∧ yX8_isIn.cls ≠ "java/lang/invoke/MethodHandle" ∧ yX8_isIn.cls ≠ "java/lang/invoke/VarHandle" ∧ (parseMethodDescriptor yX8_isIn.desc).map (fun d => d.parameters.length) = some 1 := by decide +kernel
set_option maxHeartbeats 4000000 in
set_option maxRecDepth 100000 in
theorem kX8_isIn (l : Launch) (dC : Nat → ClassId) (dI : Nat → Nat → Nat) (cy : Nat → ClassId) (a_t : Nat → Nat) (p1 : Int32) (v_t_isKept : Int32) (v_t_bestPost : Int32) (v_t_mostSeen : Int32) (v_t_taped : Int32) (v_t_from : Int32) (v_t_to : Int32) (v_t_isWrong : Int32) (f_t_s : Nat → Int32) (r : Int32) (h : uX8_isIn p1 f_t_s = some r) : Met l yX8_isIn wsX8_isIn ({ frames := 1, cells := 0, slots := 0, locals := 22 }) (va_Pc [.ref (a_t 0), .int p1] (fun U => va_P (dC, dI) vwCl [((a_t 0), oX8 a_t v_t_isKept v_t_bestPost v_t_mostSeen v_t_taped v_t_from v_t_to v_t_isWrong), ((a_t 1), .inl (cy 0, 155, .inl f_t_s))] U.heap ∧ va_K (dC, dI) vwCl (tyX cy) U)) (vp_Si (fun r2 => r = r2 ∧ narrow .boolean (.int r2) = .int r2)) 0 0 (fun _ => False) := by
  refine Met.ofW (cc := cX8_isIn) (maxL := 2) (ret := (some .boolean)) (by decide) rfl ?_
  intro p e s m args below meth c s₁ B hml hv
  obtain ⟨rfl, hP, hK⟩ := hv
  have hx := B.exec
  have hb := B.bytes
  have hr := B.returns
  have hts := atoms_spec (ws := wsX8_isIn) B.pre
  have hown : s.vm.findClass RX8 = some m.cls := findClass_of_methodNamed B.named
  have hlocks := B.notSynchronized
  have hl := lv_entry ([.ref (a_t 0), .int p1]) (n := 2) (Nat.le_of_ble_eq_true rfl)
  rw [lg_entry_eq]
  generalize (lg_sl ([.ref (a_t 0), .int p1]) ++ List.replicate (2 - (lg_sl ([.ref (a_t 0), .int p1])).length) Slot.unset).toArray = ls at hl ⊢
  have hl : lv_has ls 2 [(0, .ref (a_t 0)), (1, .int p1)] := hl
  unfold uX8_isIn at h
  refine bb_cap (fun WW toW ofW => ?_)
  refine lv_aload_n hx hb dX8_isIn_0 rfl (lv_at hl 0 rfl) ?_
  refine lv_iload_n hx hb dX8_isIn_1 rfl (lv_at hl 1 rfl) ?_
  refine lv_iconst (v := (1 : Int32)) hx hb dX8_isIn_2 (by decide) ?_
  obtain ⟨r1, hc2, h⟩ := bb_b1_o h
  refine vp_callSi (W.runV (As := [.int p1, .int (1 : Int32)]) (rest := []) ⟨hx, hb, hml, hown, hts⟩ (kX8_its l dC dI cy a_t p1 (1 : Int32) v_t_isKept v_t_bestPost v_t_mostSeen v_t_taped v_t_from v_t_to v_t_isWrong f_t_s r1 hc2) (cwV 2 hts gX8_isIn_X8_its rfl rfl rfl kdX8_its ⟨Nat.le_of_ble_eq_true rfl, Nat.le_of_ble_eq_true rfl⟩) (bb_preV (va_recv hK hP (ci := 7) (q0 := 0) rfl rfl) hP hK) rfl rfl hl.1 rfl (lv_room (Nat.le_of_ble_eq_true rfl)) dX8_isIn_3 ⟨Nat.zero_le _, Nat.zero_le _⟩) (fun t3 et3 => ?_)
  obtain rfl := et3
  refine lv_bipush (v := (48 : Int32)) hx hb dX8_isIn_6 (by decide) ?_
  refine lv_icmp_ge (tgt := 15) hx hb dX8_isIn_8 (by decide) (fun c4 => ?_) (fun c4 => ?_)
  · replace h := bb_ifp c4 h
    refine lv_iconst (v := (0 : Int32)) hx hb dX8_isIn_15 (by decide) ?_
    obtain rfl := bb_some1 h
    exact W.zret hx hb hr (by decide) (fun t ht hW => ⟨_, rfl, ⟨rfl, (by decide)⟩, ht⟩) (fun q hq => by cases hq) dX8_isIn_16
  · replace h := bb_ifn c4 h
    refine lv_iconst (v := (1 : Int32)) hx hb dX8_isIn_11 (by decide) ?_
    refine lv_goto (tgt := 16) hx hb dX8_isIn_12 (by decide) ?_
    obtain rfl := bb_some1 h
    exact W.zret hx hb hr (by decide) (fun t ht hW => ⟨_, rfl, ⟨rfl, (by decide)⟩, ht⟩) (fun q hq => by cases hq) dX8_isIn_16
/-! X8_nearer -/
def uX8_nearer (p1 : Int32) (p2 : Int32) : Option (Int32) :=
  bb_cut (fun (z1 : Int32) => bb_b1 (uX8_beside p1 z1) (fun (r3 : Int32) => bb_b1 (uX8_orOwn r3 p1) (fun (r6 : Int32) => some r6))) (fun k2 => (if p2 = 0 then k2 (4 : Int32) else k2 (2 : Int32)))
theorem kdX8_nearer : yX8_nearer.cls ≠ "java/lang/invoke/MethodHandle" ∧ yX8_nearer.cls ≠ "java/lang/invoke/VarHandle" ∧ (parseMethodDescriptor yX8_nearer.desc).map (fun d => d.parameters.length) = some 2 := by decide +kernel
set_option maxHeartbeats 4000000 in
set_option maxRecDepth 100000 in
theorem kX8_nearer (l : Launch) (dC : Nat → ClassId) (dI : Nat → Nat → Nat) (cy : Nat → ClassId) (p1 : Int32) (p2 : Int32) (r : Int32) (h : uX8_nearer p1 p2 = some r) : Met l yX8_nearer wsX8_nearer ({ frames := 2, cells := 0, slots := 0, locals := 48 }) (va_Pc [.int p1, .int p2] (fun U => va_P (dC, dI) vwCl [] U.heap ∧ va_K (dC, dI) vwCl (tyX cy) U)) (vp_Si (fun r2 => r = r2)) 0 0 (fun _ => False) := by
  refine Met.ofW (cc := cX8_nearer) (maxL := 2) (ret := (some .int)) (by decide) rfl ?_
  intro p e s m args below meth c s₁ B hml hv
  obtain ⟨rfl, hP, hK⟩ := hv
  have hx := B.exec
  have hb := B.bytes
  have hr := B.returns
  have hts := atoms_spec (ws := wsX8_nearer) B.pre
  have hown : s.vm.findClass RX8 = some m.cls := findClass_of_methodNamed B.named
  have hlocks := B.notSynchronized
  have hl := lv_entry ([.int p1, .int p2]) (n := 2) (Nat.le_of_ble_eq_true rfl)
  rw [lg_entry_eq]
  generalize (lg_sl ([.int p1, .int p2]) ++ List.replicate (2 - (lg_sl ([.int p1, .int p2])).length) Slot.unset).toArray = ls at hl ⊢
  have hl : lv_has ls 2 [(0, .int p1), (1, .int p2)] := hl
  unfold uX8_nearer at h
  refine bb_cap (fun WW toW ofW => ?_)
  refine lv_iload_n hx hb dX8_nearer_0 rfl (lv_at hl 0 rfl) ?_
  refine lv_iload_n hx hb dX8_nearer_1 rfl (lv_at hl 1 rfl) ?_
  obtain ⟨k2, ek2, h⟩ := bb_cut_o h
  have Jk2 : ∀ (z1 : Int32) (ls : Array Slot), k2 z1 = some r → lv_has ls 2 [(0, .int p1)] → WW s.heap [] (F0 m 10 ls [.int z1, .int p1]) := by
    intro z1 ls h hl
    refine ofW _ _ _ ?_
    subst ek2
    obtain ⟨r3, hc4, h⟩ := bb_b1_o h
    refine vp_callSi (W.runS (As := [.int p1, .int z1]) (rest := []) ⟨hx, hb, hml, hown, hts⟩ (kX8_beside l dC dI cy p1 z1 r3 hc4) (va_cwS 2 hts gX8_nearer_X8_beside rfl rfl rfl kdX8_beside ⟨Nat.le_of_ble_eq_true rfl, Nat.le_of_ble_eq_true rfl⟩) (bb_preS hP hK) rfl rfl hl.1 rfl (lv_room (Nat.le_of_ble_eq_true rfl)) dX8_nearer_10 ⟨Nat.zero_le _, Nat.zero_le _⟩) (fun t5 et5 => ?_)
    obtain rfl := et5
    refine lv_iload_n hx hb dX8_nearer_13 rfl (lv_at hl 0 rfl) ?_
    obtain ⟨r6, hc7, h⟩ := bb_b1_o h
    refine vp_callSi (W.runS (As := [.int r3, .int p1]) (rest := []) ⟨hx, hb, hml, hown, hts⟩ (kX8_orOwn l dC dI cy r3 p1 r6 hc7) (va_cwS 2 hts gX8_nearer_X8_orOwn rfl rfl rfl kdX8_orOwn ⟨Nat.le_of_ble_eq_true rfl, Nat.le_of_ble_eq_true rfl⟩) (bb_preS hP hK) rfl rfl hl.1 rfl (lv_room (Nat.le_of_ble_eq_true rfl)) dX8_nearer_14 ⟨Nat.zero_le _, Nat.zero_le _⟩) (fun t8 et8 => ?_)
    obtain rfl := et8
    obtain rfl := bb_some1 h
    exact W.iret hx hb hr (fun t ht hW => ⟨_, rfl, rfl, ht⟩) (fun q hq => by cases hq) dX8_nearer_17
  refine lv_if_ne (tgt := 9) hx hb dX8_nearer_2 (by decide) (fun c9 => ?_) (fun c9 => ?_)
  · replace h := bb_ifn c9 h
    refine lv_iconst (v := (2 : Int32)) hx hb dX8_nearer_9 (by decide) ?_
    exact toW _ _ _ (Jk2 (2 : Int32) _ h (lv_sub hl [0] rfl))
  · replace h := bb_ifp c9 h
    refine lv_iconst (v := (4 : Int32)) hx hb dX8_nearer_5 (by decide) ?_
    refine lv_goto (tgt := 10) hx hb dX8_nearer_6 (by decide) ?_
    exact toW _ _ _ (Jk2 (4 : Int32) _ h (lv_sub hl [0] rfl))
/-! X8_spied -/
def uX8_spied (nn : Nat) (p1 : Int32) (p2 : Int32) (f_t_s : Nat → Int32) : Option (Int32) :=
  bb_b1 (uX8_nearer p1 p2) (fun (r1 : Int32) => bb_b1 (uX8_isSeen nn r1 f_t_s) (fun (r4 : Int32) => (if r4 = 0 then some r1 else some p1)))
theorem kdX8_spied : yX8_spied.cls = RX8 ∧ yX8_spied.cls ≠ "java/lang/invoke/MethodHandle" ∧ yX8_spied.cls ≠ "java/lang/invoke/VarHandle" ∧ (parseMethodDescriptor yX8_spied.desc).map (fun d => d.parameters.length) = some 2 := by decide +kernel
set_option maxHeartbeats 4000000 in
set_option maxRecDepth 100000 in
theorem kX8_spied (l : Launch) (dC : Nat → ClassId) (dI : Nat → Nat → Nat) (cy : Nat → ClassId) (a_t : Nat → Nat) (p1 : Int32) (p2 : Int32) (v_t_isKept : Int32) (v_t_bestPost : Int32) (v_t_mostSeen : Int32) (v_t_taped : Int32) (v_t_from : Int32) (v_t_to : Int32) (v_t_isWrong : Int32) (f_t_s : Nat → Int32) (nn : Nat) (r : Int32) (h : uX8_spied nn p1 p2 f_t_s = some r) : Met l yX8_spied wsX8_spied ({ frames := 5, cells := 0, slots := 0, locals := 108 }) (va_Pc [.ref (a_t 0), .int p1, .int p2] (fun U => va_P (dC, dI) vwCl [((a_t 0), oX8 a_t v_t_isKept v_t_bestPost v_t_mostSeen v_t_taped v_t_from v_t_to v_t_isWrong), ((a_t 1), .inl (cy 0, 155, .inl f_t_s))] U.heap ∧ va_K (dC, dI) vwCl (tyX cy) U)) (vp_Si (fun r2 => r = r2)) 0 0 (fun _ => False) := by
  refine Met.ofW (cc := cX8_spied) (maxL := 4) (ret := (some .int)) (by decide) rfl ?_
  intro p e s m args below meth c s₁ B hml hv
  obtain ⟨rfl, hP, hK⟩ := hv
  have hx := B.exec
  have hb := B.bytes
  have hr := B.returns
  have hts := atoms_spec (ws := wsX8_spied) B.pre
  have hown : s.vm.findClass RX8 = some m.cls := findClass_of_methodNamed B.named
  have hlocks := B.notSynchronized
  have hl := lv_entry ([.ref (a_t 0), .int p1, .int p2]) (n := 4) (Nat.le_of_ble_eq_true rfl)
  rw [lg_entry_eq]
  generalize (lg_sl ([.ref (a_t 0), .int p1, .int p2]) ++ List.replicate (4 - (lg_sl ([.ref (a_t 0), .int p1, .int p2])).length) Slot.unset).toArray = ls at hl ⊢
  have hl : lv_has ls 4 [(0, .ref (a_t 0)), (1, .int p1), (2, .int p2)] := hl
  unfold uX8_spied at h
  refine bb_cap (fun WW toW ofW => ?_)
  refine lv_iload_n hx hb dX8_spied_0 rfl (lv_at hl 1 rfl) ?_
  refine lv_iload_n hx hb dX8_spied_1 rfl (lv_at hl 2 rfl) ?_
  obtain ⟨r1, hc2, h⟩ := bb_b1_o h
  refine vp_callSi (W.runS (As := [.int p1, .int p2]) (rest := []) ⟨hx, hb, hml, hown, hts⟩ (kX8_nearer l dC dI cy p1 p2 r1 hc2) (va_cwS 2 hts gX8_spied_X8_nearer rfl rfl rfl kdX8_nearer ⟨Nat.le_of_ble_eq_true rfl, Nat.le_of_ble_eq_true rfl⟩) (bb_preS (hP.sub (ws' := []) [] rfl) hK) rfl rfl hl.1 rfl (lv_room (Nat.le_of_ble_eq_true rfl)) dX8_spied_2 ⟨Nat.zero_le _, Nat.zero_le _⟩) (fun t3 et3 => ?_)
  obtain rfl := et3
  refine lv_istore_n (lv' := [(3, .int r1), (0, .ref (a_t 0)), (1, .int p1), (2, .int p2)]) hx hb dX8_spied_5 rfl hl (by decide) rfl (fun ls hl => ?_)
  refine lv_aload_n hx hb dX8_spied_6 rfl (lv_at hl 1 rfl) ?_
  refine lv_iload_n hx hb dX8_spied_7 rfl (lv_at hl 0 rfl) ?_
  obtain ⟨r4, hc5, h⟩ := bb_b1_o h
  refine vp_callSi (W.runV (As := [.int r1]) (rest := []) ⟨hx, hb, hml, hown, hts⟩ (kX8_isSeen l dC dI cy a_t r1 v_t_isKept v_t_bestPost v_t_mostSeen v_t_taped v_t_from v_t_to v_t_isWrong f_t_s nn r4 hc5) (cwV 1 hts gX8_spied_X8_isSeen rfl rfl rfl kdX8_isSeen ⟨Nat.le_of_ble_eq_true rfl, Nat.le_of_ble_eq_true rfl⟩) (bb_preV (va_recv hK hP (ci := 7) (q0 := 0) rfl rfl) hP hK) rfl rfl hl.1 rfl (lv_room (Nat.le_of_ble_eq_true rfl)) dX8_spied_8 ⟨Nat.zero_le _, Nat.zero_le _⟩) (fun t6 et6 => ?_)
  obtain ⟨rfl, hz7⟩ := et6
  refine lv_if_eq (tgt := 18) hx hb dX8_spied_11 (by decide) (fun c8 => ?_) (fun c8 => ?_)
  · replace h := bb_ifp c8 h
    refine lv_iload_n hx hb dX8_spied_18 rfl (lv_at hl 0 rfl) ?_
    obtain rfl := bb_some1 h
    exact W.iret hx hb hr (fun t ht hW => ⟨_, rfl, rfl, ht⟩) (fun q hq => by cases hq) dX8_spied_19
  · replace h := bb_ifn c8 h
    refine lv_iload_n hx hb dX8_spied_14 rfl (lv_at hl 2 rfl) ?_
    refine lv_goto (tgt := 19) hx hb dX8_spied_15 (by decide) ?_
    obtain rfl := bb_some1 h
    exact W.iret hx hb hr (fun t ht hW => ⟨_, rfl, rfl, ht⟩) (fun q hq => by cases hq) dX8_spied_19
/-! X8_general -/
def uX8_general (nn : Nat) (p1 : Int32) (p2 : Int32) (f_t_s : Nat → Int32) : Option (Int32) :=
  bb_b1 (uX8_spied nn p1 p2 f_t_s) (fun (r1 : Int32) => bb_b1 (uX8_beside p1 (3 : Int32)) (fun (r4 : Int32) => (if r1 = p1 then (if r4 < 0 then some r1 else bb_b1 (uX8_isSeen nn r4 f_t_s) (fun (r9 : Int32) => (if r9 = 0 then some r4 else some r1))) else some r1)))
theorem kdX8_general : yX8_general.cls = RX8 ∧ yX8_general.cls ≠ "java/lang/invoke/MethodHandle" ∧ yX8_general.cls ≠ "java/lang/invoke/VarHandle" ∧ (parseMethodDescriptor yX8_general.desc).map (fun d => d.parameters.length) = some 2 := by decide +kernel
set_option maxHeartbeats 4000000 in
set_option maxRecDepth 100000 in
theorem kX8_general (l : Launch) (dC : Nat → ClassId) (dI : Nat → Nat → Nat) (cy : Nat → ClassId) (a_t : Nat → Nat) (p1 : Int32) (p2 : Int32) (v_t_isKept : Int32) (v_t_bestPost : Int32) (v_t_mostSeen : Int32) (v_t_taped : Int32) (v_t_from : Int32) (v_t_to : Int32) (v_t_isWrong : Int32) (f_t_s : Nat → Int32) (nn : Nat) (r : Int32) (h : uX8_general nn p1 p2 f_t_s = some r) : Met l yX8_general wsX8_general ({ frames := 6, cells := 0, slots := 0, locals := 131 }) (va_Pc [.ref (a_t 0), .int p1, .int p2] (fun U => va_P (dC, dI) vwCl [((a_t 0), oX8 a_t v_t_isKept v_t_bestPost v_t_mostSeen v_t_taped v_t_from v_t_to v_t_isWrong), ((a_t 1), .inl (cy 0, 155, .inl f_t_s))] U.heap ∧ va_K (dC, dI) vwCl (tyX cy) U)) (vp_Si (fun r2 => r = r2)) 0 0 (fun _ => False) := by
  refine Met.ofW (cc := cX8_general) (maxL := 5) (ret := (some .int)) (by decide) rfl ?_
  intro p e s m args below meth c s₁ B hml hv
  obtain ⟨rfl, hP, hK⟩ := hv
  have hx := B.exec
  have hb := B.bytes
  have hr := B.returns
  have hts := atoms_spec (ws := wsX8_general) B.pre
  have hown : s.vm.findClass RX8 = some m.cls := findClass_of_methodNamed B.named
  have hlocks := B.notSynchronized
  have hl := lv_entry ([.ref (a_t 0), .int p1, .int p2]) (n := 5) (Nat.le_of_ble_eq_true rfl)
  rw [lg_entry_eq]
  generalize (lg_sl ([.ref (a_t 0), .int p1, .int p2]) ++ List.replicate (5 - (lg_sl ([.ref (a_t 0), .int p1, .int p2])).length) Slot.unset).toArray = ls at hl ⊢
  have hl : lv_has ls 5 [(0, .ref (a_t 0)), (1, .int p1), (2, .int p2)] := hl
  unfold uX8_general at h
  refine bb_cap (fun WW toW ofW => ?_)
  refine lv_aload_n hx hb dX8_general_0 rfl (lv_at hl 0 rfl) ?_
  refine lv_iload_n hx hb dX8_general_1 rfl (lv_at hl 1 rfl) ?_
  refine lv_iload_n hx hb dX8_general_2 rfl (lv_at hl 2 rfl) ?_
  obtain ⟨r1, hc2, h⟩ := bb_b1_o h
  refine vp_callSi (W.runV (As := [.int p1, .int p2]) (rest := []) ⟨hx, hb, hml, hown, hts⟩ (kX8_spied l dC dI cy a_t p1 p2 v_t_isKept v_t_bestPost v_t_mostSeen v_t_taped v_t_from v_t_to v_t_isWrong f_t_s nn r1 hc2) (cwV 2 hts gX8_general_X8_spied rfl rfl rfl kdX8_spied ⟨Nat.le_of_ble_eq_true rfl, Nat.le_of_ble_eq_true rfl⟩) (bb_preV (va_recv hK hP (ci := 7) (q0 := 0) rfl rfl) hP hK) rfl rfl hl.1 rfl (lv_room (Nat.le_of_ble_eq_true rfl)) dX8_general_3 ⟨Nat.zero_le _, Nat.zero_le _⟩) (fun t3 et3 => ?_)
  obtain rfl := et3
  refine lv_istore_n (lv' := [(3, .int r1), (0, .ref (a_t 0)), (1, .int p1), (2, .int p2)]) hx hb dX8_general_6 rfl hl (by decide) rfl (fun ls hl => ?_)
  refine lv_iload_n hx hb dX8_general_7 rfl (lv_at hl 2 rfl) ?_
  refine lv_iconst (v := (3 : Int32)) hx hb dX8_general_8 (by decide) ?_
  obtain ⟨r4, hc5, h⟩ := bb_b1_o h
  refine vp_callSi (W.runS (As := [.int p1, .int (3 : Int32)]) (rest := []) ⟨hx, hb, hml, hown, hts⟩ (kX8_beside l dC dI cy p1 (3 : Int32) r4 hc5) (va_cwS 2 hts gX8_general_X8_beside rfl rfl rfl kdX8_beside ⟨Nat.le_of_ble_eq_true rfl, Nat.le_of_ble_eq_true rfl⟩) (bb_preS (hP.sub (ws' := []) [] rfl) hK) rfl rfl hl.1 rfl (lv_room (Nat.le_of_ble_eq_true rfl)) dX8_general_9 ⟨Nat.zero_le _, Nat.zero_le _⟩) (fun t6 et6 => ?_)
  obtain rfl := et6
  refine lv_istore (lv' := [(4, .int r4), (3, .int r1), (0, .ref (a_t 0)), (1, .int p1), (2, .int p2)]) hx hb dX8_general_12 hl (by decide) rfl (fun ls hl => ?_)
  refine lv_iload_n hx hb dX8_general_14 rfl (lv_at hl 1 rfl) ?_
  refine lv_iload_n hx hb dX8_general_15 rfl (lv_at hl 3 rfl) ?_
  refine lv_icmp_ne (tgt := 38) hx hb dX8_general_16 (by decide) (fun c7 => ?_) (fun c7 => ?_)
  · replace h := bb_ifn c7 h
    refine lv_iload_n hx hb dX8_general_38 rfl (lv_at hl 1 rfl) ?_
    obtain rfl := bb_some1 h
    exact W.iret hx hb hr (fun t ht hW => ⟨_, rfl, rfl, ht⟩) (fun q hq => by cases hq) dX8_general_39
  · replace h := bb_ifp c7 h
    refine lv_iload hx hb dX8_general_19 (lv_at hl 0 rfl) ?_
    refine lv_if_lt (tgt := 38) hx hb dX8_general_21 (by decide) (fun c8 => ?_) (fun c8 => ?_)
    · replace h := bb_ifp c8 h
      refine lv_iload_n hx hb dX8_general_38 rfl (lv_at hl 1 rfl) ?_
      obtain rfl := bb_some1 h
      exact W.iret hx hb hr (fun t ht hW => ⟨_, rfl, rfl, ht⟩) (fun q hq => by cases hq) dX8_general_39
    · replace h := bb_ifn c8 h
      refine lv_aload_n hx hb dX8_general_24 rfl (lv_at hl 2 rfl) ?_
      refine lv_iload hx hb dX8_general_25 (lv_at hl 0 rfl) ?_
      obtain ⟨r9, hc10, h⟩ := bb_b1_o h
      refine vp_callSi (W.runV (As := [.int r4]) (rest := []) ⟨hx, hb, hml, hown, hts⟩ (kX8_isSeen l dC dI cy a_t r4 v_t_isKept v_t_bestPost v_t_mostSeen v_t_taped v_t_from v_t_to v_t_isWrong f_t_s nn r9 hc10) (cwV 1 hts gX8_general_X8_isSeen rfl rfl rfl kdX8_isSeen ⟨Nat.le_of_ble_eq_true rfl, Nat.le_of_ble_eq_true rfl⟩) (bb_preV (va_recv hK hP (ci := 7) (q0 := 0) rfl rfl) hP hK) rfl rfl hl.1 rfl (lv_room (Nat.le_of_ble_eq_true rfl)) dX8_general_27 ⟨Nat.zero_le _, Nat.zero_le _⟩) (fun t11 et11 => ?_)
      obtain ⟨rfl, hz12⟩ := et11
      refine lv_if_ne (tgt := 38) hx hb dX8_general_30 (by decide) (fun c13 => ?_) (fun c13 => ?_)
      · replace h := bb_ifn c13 h
        refine lv_iload_n hx hb dX8_general_38 rfl (lv_at hl 1 rfl) ?_
        obtain rfl := bb_some1 h
        exact W.iret hx hb hr (fun t ht hW => ⟨_, rfl, rfl, ht⟩) (fun q hq => by cases hq) dX8_general_39
      · replace h := bb_ifp c13 h
        refine lv_iload hx hb dX8_general_33 (lv_at hl 0 rfl) ?_
        refine lv_goto (tgt := 39) hx hb dX8_general_35 (by decide) ?_
        obtain rfl := bb_some1 h
        exact W.iret hx hb hr (fun t ht hW => ⟨_, rfl, rfl, ht⟩) (fun q hq => by cases hq) dX8_general_39
/-! X8_floats -/
def uX8_floats (p1 : Int32) (f_t_s : Nat → Int32) : Option (Int32) :=
  bb_ix ((57 : Int32) + p1) 155 (bb_b1 (uX8_beside p1 (f_t_s ((57 : Int32) + p1).toNatClampNeg)) (fun (r2 : Int32) => bb_b1 (uX8_orOwn r2 p1) (fun (r5 : Int32) => some r5)))
theorem kdX8_floats : yX8_floats.cls = RX8 ∧ yX8_floats.cls ≠ "java/lang/invoke/MethodHandle" ∧ yX8_floats.cls ≠ "java/lang/invoke/VarHandle" ∧ (parseMethodDescriptor yX8_floats.desc).map (fun d => d.parameters.length) = some 1 := by decide +kernel
set_option maxHeartbeats 4000000 in
set_option maxRecDepth 100000 in
theorem kX8_floats (l : Launch) (dC : Nat → ClassId) (dI : Nat → Nat → Nat) (cy : Nat → ClassId) (a_t : Nat → Nat) (p1 : Int32) (v_t_isKept : Int32) (v_t_bestPost : Int32) (v_t_mostSeen : Int32) (v_t_taped : Int32) (v_t_from : Int32) (v_t_to : Int32) (v_t_isWrong : Int32) (f_t_s : Nat → Int32) (r : Int32) (h : uX8_floats p1 f_t_s = some r) : Met l yX8_floats wsX8_floats ({ frames := 2, cells := 0, slots := 0, locals := 48 }) (va_Pc [.ref (a_t 0), .int p1] (fun U => va_P (dC, dI) vwCl [((a_t 0), oX8 a_t v_t_isKept v_t_bestPost v_t_mostSeen v_t_taped v_t_from v_t_to v_t_isWrong), ((a_t 1), .inl (cy 0, 155, .inl f_t_s))] U.heap ∧ va_K (dC, dI) vwCl (tyX cy) U)) (vp_Si (fun r2 => r = r2)) 0 0 (fun _ => False) := by
  refine Met.ofW (cc := cX8_floats) (maxL := 2) (ret := (some .int)) (by decide) rfl ?_
  intro p e s m args below meth c s₁ B hml hv
  obtain ⟨rfl, hP, hK⟩ := hv
  have hx := B.exec
  have hb := B.bytes
  have hr := B.returns
  have hts := atoms_spec (ws := wsX8_floats) B.pre
  have hown : s.vm.findClass RX8 = some m.cls := findClass_of_methodNamed B.named
  have hlocks := B.notSynchronized
  have iwX8 : ∀ w ∈ wsX80, w ∈ wsX8_floats := fun w h9 => List.mem_cons_of_mem _ (List.mem_append_right _ (h9))
  have lk1 := hts (Cond.fieldLink RX8 9 "BathBorderModel" "s" "[I") (List.mem_of_getElem? (i := 1) rfl)
  have hl := lv_entry ([.ref (a_t 0), .int p1]) (n := 2) (Nat.le_of_ble_eq_true rfl)
  rw [lg_entry_eq]
  generalize (lg_sl ([.ref (a_t 0), .int p1]) ++ List.replicate (2 - (lg_sl ([.ref (a_t 0), .int p1])).length) Slot.unset).toArray = ls at hl ⊢
  have hl : lv_has ls 2 [(0, .ref (a_t 0)), (1, .int p1)] := hl
  unfold uX8_floats at h
  refine bb_cap (fun WW toW ofW => ?_)
  refine lv_iload_n hx hb dX8_floats_0 rfl (lv_at hl 1 rfl) ?_
  refine lv_aload_n hx hb dX8_floats_1 rfl (lv_at hl 0 rfl) ?_
  refine va_get (D := (dC, dI)) (ci := 7) (v := .ref (a_t 1)) (C := RX8) (T := TX8) (N := 20) hx hb hts iwX8 hown hK hP 0 rfl rfl 0 (by decide) lk1 (fun _ h9 => h9) rfl dX8_floats_2 ?_
  refine lv_bipush (v := (57 : Int32)) hx hb dX8_floats_5 (by decide) ?_
  refine lv_iload_n hx hb dX8_floats_7 rfl (lv_at hl 1 rfl) ?_
  refine lv_iadd hx hb dX8_floats_8 ?_
  obtain ⟨hi1, h⟩ := bb_ix_o h
  refine va_iald hx hb hK hP 1 0 rfl rfl hi1 dX8_floats_9 ?_
  obtain ⟨r2, hc3, h⟩ := bb_b1_o h
  refine vp_callSi (W.runS (As := [.int p1, .int (f_t_s ((57 : Int32) + p1).toNatClampNeg)]) (rest := []) ⟨hx, hb, hml, hown, hts⟩ (kX8_beside l dC dI cy p1 (f_t_s ((57 : Int32) + p1).toNatClampNeg) r2 hc3) (va_cwS 2 hts gX8_floats_X8_beside rfl rfl rfl kdX8_beside ⟨Nat.le_of_ble_eq_true rfl, Nat.le_of_ble_eq_true rfl⟩) (bb_preS (hP.sub (ws' := []) [] rfl) hK) rfl rfl hl.1 rfl (lv_room (Nat.le_of_ble_eq_true rfl)) dX8_floats_10 ⟨Nat.zero_le _, Nat.zero_le _⟩) (fun t4 et4 => ?_)
  obtain rfl := et4
  refine lv_iload_n hx hb dX8_floats_13 rfl (lv_at hl 1 rfl) ?_
  obtain ⟨r5, hc6, h⟩ := bb_b1_o h
  refine vp_callSi (W.runS (As := [.int r2, .int p1]) (rest := []) ⟨hx, hb, hml, hown, hts⟩ (kX8_orOwn l dC dI cy r2 p1 r5 hc6) (va_cwS 2 hts gX8_floats_X8_orOwn rfl rfl rfl kdX8_orOwn ⟨Nat.le_of_ble_eq_true rfl, Nat.le_of_ble_eq_true rfl⟩) (bb_preS (hP.sub (ws' := []) [] rfl) hK) rfl rfl hl.1 rfl (lv_room (Nat.le_of_ble_eq_true rfl)) dX8_floats_14 ⟨Nat.zero_le _, Nat.zero_le _⟩) (fun t7 et7 => ?_)
  obtain rfl := et7
  obtain rfl := bb_some1 h
  exact W.iret hx hb hr (fun t ht hW => ⟨_, rfl, rfl, ht⟩) (fun q hq => by cases hq) dX8_floats_17
/-! X8_loves -/
def uX8_loves (p1 : Int32) (f_t_s : Nat → Int32) : Option (Int32) :=
  bb_ix ((57 : Int32) + p1) 155 ((if (f_t_s ((57 : Int32) + p1).toNatClampNeg) ≤ 0 then (if (3 : Int32) ≤ (p1 - p1 / (8 : Int32) * (8 : Int32)) then (if (p1 - p1 / (8 : Int32) * (8 : Int32)) ≤ (4 : Int32) then some p1 else some (p1 - (1 : Int32))) else some (p1 + (1 : Int32))) else bb_b1 (uX8_floats p1 f_t_s) (fun (r5 : Int32) => some r5)))
theorem kdX8_loves : yX8_loves.cls = RX8 ∧ yX8_loves.cls ≠ "java/lang/invoke/MethodHandle" ∧ yX8_loves.cls ≠ "java/lang/invoke/VarHandle" ∧ (parseMethodDescriptor yX8_loves.desc).map (fun d => d.parameters.length) = some 1 := by decide +kernel
set_option maxHeartbeats 4000000 in
set_option maxRecDepth 100000 in
theorem kX8_loves (l : Launch) (dC : Nat → ClassId) (dI : Nat → Nat → Nat) (cy : Nat → ClassId) (a_t : Nat → Nat) (p1 : Int32) (v_t_isKept : Int32) (v_t_bestPost : Int32) (v_t_mostSeen : Int32) (v_t_taped : Int32) (v_t_from : Int32) (v_t_to : Int32) (v_t_isWrong : Int32) (f_t_s : Nat → Int32) (r : Int32) (h : uX8_loves p1 f_t_s = some r) : Met l yX8_loves wsX8_loves ({ frames := 3, cells := 0, slots := 0, locals := 69 }) (va_Pc [.ref (a_t 0), .int p1] (fun U => va_P (dC, dI) vwCl [((a_t 0), oX8 a_t v_t_isKept v_t_bestPost v_t_mostSeen v_t_taped v_t_from v_t_to v_t_isWrong), ((a_t 1), .inl (cy 0, 155, .inl f_t_s))] U.heap ∧ va_K (dC, dI) vwCl (tyX cy) U)) (vp_Si (fun r2 => r = r2)) 0 0 (fun _ => False) := by
  refine Met.ofW (cc := cX8_loves) (maxL := 3) (ret := (some .int)) (by decide) rfl ?_
  intro p e s m args below meth c s₁ B hml hv
  obtain ⟨rfl, hP, hK⟩ := hv
  have hx := B.exec
  have hb := B.bytes
  have hr := B.returns
  have hts := atoms_spec (ws := wsX8_loves) B.pre
  have hown : s.vm.findClass RX8 = some m.cls := findClass_of_methodNamed B.named
  have hlocks := B.notSynchronized
  have iwX8 : ∀ w ∈ wsX80, w ∈ wsX8_loves := fun w h9 => List.mem_cons_of_mem _ (List.mem_append_right _ (h9))
  have lk1 := hts (Cond.fieldLink RX8 9 "BathBorderModel" "s" "[I") (List.mem_of_getElem? (i := 1) rfl)
  have hl := lv_entry ([.ref (a_t 0), .int p1]) (n := 3) (Nat.le_of_ble_eq_true rfl)
  rw [lg_entry_eq]
  generalize (lg_sl ([.ref (a_t 0), .int p1]) ++ List.replicate (3 - (lg_sl ([.ref (a_t 0), .int p1])).length) Slot.unset).toArray = ls at hl ⊢
  have hl : lv_has ls 3 [(0, .ref (a_t 0)), (1, .int p1)] := hl
  unfold uX8_loves at h
  refine bb_cap (fun WW toW ofW => ?_)
  refine lv_aload_n hx hb dX8_loves_0 rfl (lv_at hl 0 rfl) ?_
  refine va_get (D := (dC, dI)) (ci := 7) (v := .ref (a_t 1)) (C := RX8) (T := TX8) (N := 20) hx hb hts iwX8 hown hK hP 0 rfl rfl 0 (by decide) lk1 (fun _ h9 => h9) rfl dX8_loves_1 ?_
  refine lv_bipush (v := (57 : Int32)) hx hb dX8_loves_4 (by decide) ?_
  refine lv_iload_n hx hb dX8_loves_6 rfl (lv_at hl 1 rfl) ?_
  refine lv_iadd hx hb dX8_loves_7 ?_
  obtain ⟨hi1, h⟩ := bb_ix_o h
  refine va_iald hx hb hK hP 1 0 rfl rfl hi1 dX8_loves_8 ?_
  refine lv_if_le (tgt := 18) hx hb dX8_loves_9 (by decide) (fun c2 => ?_) (fun c2 => ?_)
  · replace h := bb_ifp c2 h
    refine lv_iload_n hx hb dX8_loves_18 rfl (lv_at hl 1 rfl) ?_
    refine lv_bipush (v := (8 : Int32)) hx hb dX8_loves_19 (by decide) ?_
    refine lv_irem hx hb dX8_loves_21 (by decide) ?_
    refine lv_istore_n (lv' := [(2, .int (p1 - p1 / (8 : Int32) * (8 : Int32))), (0, .ref (a_t 0)), (1, .int p1)]) hx hb dX8_loves_22 rfl hl (by decide) rfl (fun ls hl => ?_)
    refine lv_iload_n hx hb dX8_loves_23 rfl (lv_at hl 0 rfl) ?_
    refine lv_iconst (v := (3 : Int32)) hx hb dX8_loves_24 (by decide) ?_
    refine lv_icmp_ge (tgt := 34) hx hb dX8_loves_25 (by decide) (fun c3 => ?_) (fun c3 => ?_)
    · replace h := bb_ifp c3 h
      refine lv_iload_n hx hb dX8_loves_34 rfl (lv_at hl 0 rfl) ?_
      refine lv_iconst (v := (4 : Int32)) hx hb dX8_loves_35 (by decide) ?_
      refine lv_icmp_le (tgt := 45) hx hb dX8_loves_36 (by decide) (fun c4 => ?_) (fun c4 => ?_)
      · replace h := bb_ifp c4 h
        refine lv_iload_n hx hb dX8_loves_45 rfl (lv_at hl 2 rfl) ?_
        obtain rfl := bb_some1 h
        exact W.iret hx hb hr (fun t ht hW => ⟨_, rfl, rfl, ht⟩) (fun q hq => by cases hq) dX8_loves_46
      · replace h := bb_ifn c4 h
        refine lv_iload_n hx hb dX8_loves_39 rfl (lv_at hl 2 rfl) ?_
        refine lv_iconst (v := (1 : Int32)) hx hb dX8_loves_40 (by decide) ?_
        refine lv_isub hx hb dX8_loves_41 ?_
        refine lv_goto (tgt := 46) hx hb dX8_loves_42 (by decide) ?_
        obtain rfl := bb_some1 h
        exact W.iret hx hb hr (fun t ht hW => ⟨_, rfl, rfl, ht⟩) (fun q hq => by cases hq) dX8_loves_46
    · replace h := bb_ifn c3 h
      refine lv_iload_n hx hb dX8_loves_28 rfl (lv_at hl 2 rfl) ?_
      refine lv_iconst (v := (1 : Int32)) hx hb dX8_loves_29 (by decide) ?_
      refine lv_iadd hx hb dX8_loves_30 ?_
      refine lv_goto (tgt := 46) hx hb dX8_loves_31 (by decide) ?_
      obtain rfl := bb_some1 h
      exact W.iret hx hb hr (fun t ht hW => ⟨_, rfl, rfl, ht⟩) (fun q hq => by cases hq) dX8_loves_46
  · replace h := bb_ifn c2 h
    refine lv_aload_n hx hb dX8_loves_12 rfl (lv_at hl 0 rfl) ?_
    refine lv_iload_n hx hb dX8_loves_13 rfl (lv_at hl 1 rfl) ?_
    obtain ⟨r5, hc6, h⟩ := bb_b1_o h
    refine vp_callSi (W.runV (As := [.int p1]) (rest := []) ⟨hx, hb, hml, hown, hts⟩ (kX8_floats l dC dI cy a_t p1 v_t_isKept v_t_bestPost v_t_mostSeen v_t_taped v_t_from v_t_to v_t_isWrong f_t_s r5 hc6) (cwV 1 hts gX8_loves_X8_floats rfl rfl rfl kdX8_floats ⟨Nat.le_of_ble_eq_true rfl, Nat.le_of_ble_eq_true rfl⟩) (bb_preV (va_recv hK hP (ci := 7) (q0 := 0) rfl rfl) hP hK) rfl rfl hl.1 rfl (lv_room (Nat.le_of_ble_eq_true rfl)) dX8_loves_14 ⟨Nat.zero_le _, Nat.zero_le _⟩) (fun t7 et7 => ?_)
    obtain rfl := et7
    obtain rfl := bb_some1 h
    exact W.iret hx hb hr (fun t ht hW => ⟨_, rfl, rfl, ht⟩) (fun q hq => by cases hq) dX8_loves_17
/-! X8_stepOf -/
def uX8_stepOf (nn : Nat) (p1 : Int32) (f_t_s : Nat → Int32) : Option (Int32) :=
  bb_b1 (uX8_its p1 (1 : Int32) f_t_s) (fun (r1 : Int32) => bb_b1 (uX8_its p1 (2 : Int32) f_t_s) (fun (r4 : Int32) => bb_b1 (uX8_its p1 (0 : Int32) f_t_s) (fun (r7 : Int32) => (if r7 = (1 : Int32) then bb_b1 (uX8_spied nn r1 r4 f_t_s) (fun (r11 : Int32) => some r11) else (if r7 = (2 : Int32) then bb_b1 (uX8_floats r1 f_t_s) (fun (r15 : Int32) => some r15) else (if r7 = (3 : Int32) then bb_b1 (uX8_loves r1 f_t_s) (fun (r19 : Int32) => some r19) else (if r7 = (4 : Int32) then bb_b1 (uX8_loves r1 f_t_s) (fun (r23 : Int32) => some r23) else (if r7 = (5 : Int32) then bb_b1 (uX8_nearer r1 r4) (fun (r27 : Int32) => bb_b1 (uX8_nearer r27 r4) (fun (r30 : Int32) => some r30)) else (if r7 = (6 : Int32) then bb_b1 (uX8_general nn r1 r4 f_t_s) (fun (r34 : Int32) => some r34) else bb_b1 (uX8_nearer r1 r4) (fun (r43 : Int32) => some r43))))))))))
theorem kdX8_stepOf : yX8_stepOf.cls = RX8 ∧ yX8_stepOf.cls ≠ "java/lang/invoke/MethodHandle" ∧ yX8_stepOf.cls ≠ "java/lang/invoke/VarHandle" ∧ (parseMethodDescriptor yX8_stepOf.desc).map (fun d => d.parameters.length) = some 1 := by decide +kernel
set_option maxHeartbeats 4000000 in
set_option maxRecDepth 100000 in
theorem kX8_stepOf (l : Launch) (dC : Nat → ClassId) (dI : Nat → Nat → Nat) (cy : Nat → ClassId) (a_t : Nat → Nat) (p1 : Int32) (v_t_isKept : Int32) (v_t_bestPost : Int32) (v_t_mostSeen : Int32) (v_t_taped : Int32) (v_t_from : Int32) (v_t_to : Int32) (v_t_isWrong : Int32) (f_t_s : Nat → Int32) (nn : Nat) (r : Int32) (h : uX8_stepOf nn p1 f_t_s = some r) : Met l yX8_stepOf wsX8_stepOf ({ frames := 7, cells := 0, slots := 0, locals := 155 }) (va_Pc [.ref (a_t 0), .int p1] (fun U => va_P (dC, dI) vwCl [((a_t 0), oX8 a_t v_t_isKept v_t_bestPost v_t_mostSeen v_t_taped v_t_from v_t_to v_t_isWrong), ((a_t 1), .inl (cy 0, 155, .inl f_t_s))] U.heap ∧ va_K (dC, dI) vwCl (tyX cy) U)) (vp_Si (fun r2 => r = r2)) 0 0 (fun _ => False) := by
  refine Met.ofW (cc := cX8_stepOf) (maxL := 4) (ret := (some .int)) (by decide) rfl ?_
  intro p e s m args below meth c s₁ B hml hv
  obtain ⟨rfl, hP, hK⟩ := hv
  have hx := B.exec
  have hb := B.bytes
  have hr := B.returns
  have hts := atoms_spec (ws := wsX8_stepOf) B.pre
  have hown : s.vm.findClass RX8 = some m.cls := findClass_of_methodNamed B.named
  have hlocks := B.notSynchronized
  have hl := lv_entry ([.ref (a_t 0), .int p1]) (n := 4) (Nat.le_of_ble_eq_true rfl)
  rw [lg_entry_eq]
  generalize (lg_sl ([.ref (a_t 0), .int p1]) ++ List.replicate (4 - (lg_sl ([.ref (a_t 0), .int p1])).length) Slot.unset).toArray = ls at hl ⊢
  have hl : lv_has ls 4 [(0, .ref (a_t 0)), (1, .int p1)] := hl
  unfold uX8_stepOf at h
  refine bb_cap (fun WW toW ofW => ?_)
  refine lv_aload_n hx hb dX8_stepOf_0 rfl (lv_at hl 0 rfl) ?_
  refine lv_iload_n hx hb dX8_stepOf_1 rfl (lv_at hl 1 rfl) ?_
  refine lv_iconst (v := (1 : Int32)) hx hb dX8_stepOf_2 (by decide) ?_
  obtain ⟨r1, hc2, h⟩ := bb_b1_o h
  refine vp_callSi (W.runV (As := [.int p1, .int (1 : Int32)]) (rest := []) ⟨hx, hb, hml, hown, hts⟩ (kX8_its l dC dI cy a_t p1 (1 : Int32) v_t_isKept v_t_bestPost v_t_mostSeen v_t_taped v_t_from v_t_to v_t_isWrong f_t_s r1 hc2) (cwV 2 hts gX8_stepOf_X8_its rfl rfl rfl kdX8_its ⟨Nat.le_of_ble_eq_true rfl, Nat.le_of_ble_eq_true rfl⟩) (bb_preV (va_recv hK hP (ci := 7) (q0 := 0) rfl rfl) hP hK) rfl rfl hl.1 rfl (lv_room (Nat.le_of_ble_eq_true rfl)) dX8_stepOf_3 ⟨Nat.zero_le _, Nat.zero_le _⟩) (fun t3 et3 => ?_)
  obtain rfl := et3
  refine lv_istore_n (lv' := [(2, .int r1), (0, .ref (a_t 0)), (1, .int p1)]) hx hb dX8_stepOf_6 rfl hl (by decide) rfl (fun ls hl => ?_)
  refine lv_aload_n hx hb dX8_stepOf_7 rfl (lv_at hl 1 rfl) ?_
  refine lv_iload_n hx hb dX8_stepOf_8 rfl (lv_at hl 2 rfl) ?_
  refine lv_iconst (v := (2 : Int32)) hx hb dX8_stepOf_9 (by decide) ?_
  obtain ⟨r4, hc5, h⟩ := bb_b1_o h
  refine vp_callSi (W.runV (As := [.int p1, .int (2 : Int32)]) (rest := []) ⟨hx, hb, hml, hown, hts⟩ (kX8_its l dC dI cy a_t p1 (2 : Int32) v_t_isKept v_t_bestPost v_t_mostSeen v_t_taped v_t_from v_t_to v_t_isWrong f_t_s r4 hc5) (cwV 2 hts gX8_stepOf_X8_its rfl rfl rfl kdX8_its ⟨Nat.le_of_ble_eq_true rfl, Nat.le_of_ble_eq_true rfl⟩) (bb_preV (va_recv hK hP (ci := 7) (q0 := 0) rfl rfl) hP hK) rfl rfl hl.1 rfl (lv_room (Nat.le_of_ble_eq_true rfl)) dX8_stepOf_10 ⟨Nat.zero_le _, Nat.zero_le _⟩) (fun t6 et6 => ?_)
  obtain rfl := et6
  refine lv_istore_n (lv' := [(3, .int r4), (2, .int r1), (0, .ref (a_t 0)), (1, .int p1)]) hx hb dX8_stepOf_13 rfl hl (by decide) rfl (fun ls hl => ?_)
  refine lv_aload_n hx hb dX8_stepOf_14 rfl (lv_at hl 2 rfl) ?_
  refine lv_iload_n hx hb dX8_stepOf_15 rfl (lv_at hl 3 rfl) ?_
  refine lv_iconst (v := (0 : Int32)) hx hb dX8_stepOf_16 (by decide) ?_
  obtain ⟨r7, hc8, h⟩ := bb_b1_o h
  refine vp_callSi (W.runV (As := [.int p1, .int (0 : Int32)]) (rest := []) ⟨hx, hb, hml, hown, hts⟩ (kX8_its l dC dI cy a_t p1 (0 : Int32) v_t_isKept v_t_bestPost v_t_mostSeen v_t_taped v_t_from v_t_to v_t_isWrong f_t_s r7 hc8) (cwV 2 hts gX8_stepOf_X8_its rfl rfl rfl kdX8_its ⟨Nat.le_of_ble_eq_true rfl, Nat.le_of_ble_eq_true rfl⟩) (bb_preV (va_recv hK hP (ci := 7) (q0 := 0) rfl rfl) hP hK) rfl rfl hl.1 rfl (lv_room (Nat.le_of_ble_eq_true rfl)) dX8_stepOf_17 ⟨Nat.zero_le _, Nat.zero_le _⟩) (fun t9 et9 => ?_)
  obtain rfl := et9
  by_cases c10 : r7 = (1 : Int32)
  · replace h := bb_ifp c10 h
    refine lv_tableIn (tgt := 60) (off := 40) hx hb dX8_stepOf_20 (by rw [c10]; decide) (by rw [c10]; decide) (by rw [c10]; decide) (by decide) ?_
    refine lv_aload_n hx hb dX8_stepOf_60 rfl (lv_at hl 2 rfl) ?_
    refine lv_iload_n hx hb dX8_stepOf_61 rfl (lv_at hl 1 rfl) ?_
    refine lv_iload_n hx hb dX8_stepOf_62 rfl (lv_at hl 0 rfl) ?_
    obtain ⟨r11, hc12, h⟩ := bb_b1_o h
    refine vp_callSi (W.runV (As := [.int r1, .int r4]) (rest := []) ⟨hx, hb, hml, hown, hts⟩ (kX8_spied l dC dI cy a_t r1 r4 v_t_isKept v_t_bestPost v_t_mostSeen v_t_taped v_t_from v_t_to v_t_isWrong f_t_s nn r11 hc12) (cwV 2 hts gX8_stepOf_X8_spied rfl rfl rfl kdX8_spied ⟨Nat.le_of_ble_eq_true rfl, Nat.le_of_ble_eq_true rfl⟩) (bb_preV (va_recv hK hP (ci := 7) (q0 := 0) rfl rfl) hP hK) rfl rfl hl.1 rfl (lv_room (Nat.le_of_ble_eq_true rfl)) dX8_stepOf_63 ⟨Nat.zero_le _, Nat.zero_le _⟩) (fun t13 et13 => ?_)
    obtain rfl := et13
    obtain rfl := bb_some1 h
    exact W.iret hx hb hr (fun t ht hW => ⟨_, rfl, rfl, ht⟩) (fun q hq => by cases hq) dX8_stepOf_66
  · replace h := bb_ifn c10 h
    by_cases c14 : r7 = (2 : Int32)
    · replace h := bb_ifp c14 h
      refine lv_tableIn (tgt := 67) (off := 47) hx hb dX8_stepOf_20 (by rw [c14]; decide) (by rw [c14]; decide) (by rw [c14]; decide) (by decide) ?_
      refine lv_aload_n hx hb dX8_stepOf_67 rfl (lv_at hl 2 rfl) ?_
      refine lv_iload_n hx hb dX8_stepOf_68 rfl (lv_at hl 1 rfl) ?_
      obtain ⟨r15, hc16, h⟩ := bb_b1_o h
      refine vp_callSi (W.runV (As := [.int r1]) (rest := []) ⟨hx, hb, hml, hown, hts⟩ (kX8_floats l dC dI cy a_t r1 v_t_isKept v_t_bestPost v_t_mostSeen v_t_taped v_t_from v_t_to v_t_isWrong f_t_s r15 hc16) (cwV 1 hts gX8_stepOf_X8_floats rfl rfl rfl kdX8_floats ⟨Nat.le_of_ble_eq_true rfl, Nat.le_of_ble_eq_true rfl⟩) (bb_preV (va_recv hK hP (ci := 7) (q0 := 0) rfl rfl) hP hK) rfl rfl hl.1 rfl (lv_room (Nat.le_of_ble_eq_true rfl)) dX8_stepOf_69 ⟨Nat.zero_le _, Nat.zero_le _⟩) (fun t17 et17 => ?_)
      obtain rfl := et17
      obtain rfl := bb_some1 h
      exact W.iret hx hb hr (fun t ht hW => ⟨_, rfl, rfl, ht⟩) (fun q hq => by cases hq) dX8_stepOf_72
    · replace h := bb_ifn c14 h
      by_cases c18 : r7 = (3 : Int32)
      · replace h := bb_ifp c18 h
        refine lv_tableIn (tgt := 73) (off := 53) hx hb dX8_stepOf_20 (by rw [c18]; decide) (by rw [c18]; decide) (by rw [c18]; decide) (by decide) ?_
        refine lv_aload_n hx hb dX8_stepOf_73 rfl (lv_at hl 2 rfl) ?_
        refine lv_iload_n hx hb dX8_stepOf_74 rfl (lv_at hl 1 rfl) ?_
        obtain ⟨r19, hc20, h⟩ := bb_b1_o h
        refine vp_callSi (W.runV (As := [.int r1]) (rest := []) ⟨hx, hb, hml, hown, hts⟩ (kX8_loves l dC dI cy a_t r1 v_t_isKept v_t_bestPost v_t_mostSeen v_t_taped v_t_from v_t_to v_t_isWrong f_t_s r19 hc20) (cwV 1 hts gX8_stepOf_X8_loves rfl rfl rfl kdX8_loves ⟨Nat.le_of_ble_eq_true rfl, Nat.le_of_ble_eq_true rfl⟩) (bb_preV (va_recv hK hP (ci := 7) (q0 := 0) rfl rfl) hP hK) rfl rfl hl.1 rfl (lv_room (Nat.le_of_ble_eq_true rfl)) dX8_stepOf_75 ⟨Nat.zero_le _, Nat.zero_le _⟩) (fun t21 et21 => ?_)
        obtain rfl := et21
        obtain rfl := bb_some1 h
        exact W.iret hx hb hr (fun t ht hW => ⟨_, rfl, rfl, ht⟩) (fun q hq => by cases hq) dX8_stepOf_78
      · replace h := bb_ifn c18 h
        by_cases c22 : r7 = (4 : Int32)
        · replace h := bb_ifp c22 h
          refine lv_tableIn (tgt := 73) (off := 53) hx hb dX8_stepOf_20 (by rw [c22]; decide) (by rw [c22]; decide) (by rw [c22]; decide) (by decide) ?_
          refine lv_aload_n hx hb dX8_stepOf_73 rfl (lv_at hl 2 rfl) ?_
          refine lv_iload_n hx hb dX8_stepOf_74 rfl (lv_at hl 1 rfl) ?_
          obtain ⟨r23, hc24, h⟩ := bb_b1_o h
          refine vp_callSi (W.runV (As := [.int r1]) (rest := []) ⟨hx, hb, hml, hown, hts⟩ (kX8_loves l dC dI cy a_t r1 v_t_isKept v_t_bestPost v_t_mostSeen v_t_taped v_t_from v_t_to v_t_isWrong f_t_s r23 hc24) (cwV 1 hts gX8_stepOf_X8_loves rfl rfl rfl kdX8_loves ⟨Nat.le_of_ble_eq_true rfl, Nat.le_of_ble_eq_true rfl⟩) (bb_preV (va_recv hK hP (ci := 7) (q0 := 0) rfl rfl) hP hK) rfl rfl hl.1 rfl (lv_room (Nat.le_of_ble_eq_true rfl)) dX8_stepOf_75 ⟨Nat.zero_le _, Nat.zero_le _⟩) (fun t25 et25 => ?_)
          obtain rfl := et25
          obtain rfl := bb_some1 h
          exact W.iret hx hb hr (fun t ht hW => ⟨_, rfl, rfl, ht⟩) (fun q hq => by cases hq) dX8_stepOf_78
        · replace h := bb_ifn c22 h
          by_cases c26 : r7 = (5 : Int32)
          · replace h := bb_ifp c26 h
            refine lv_tableIn (tgt := 79) (off := 59) hx hb dX8_stepOf_20 (by rw [c26]; decide) (by rw [c26]; decide) (by rw [c26]; decide) (by decide) ?_
            refine lv_iload_n hx hb dX8_stepOf_79 rfl (lv_at hl 1 rfl) ?_
            refine lv_iload_n hx hb dX8_stepOf_80 rfl (lv_at hl 0 rfl) ?_
            obtain ⟨r27, hc28, h⟩ := bb_b1_o h
            refine vp_callSi (W.runS (As := [.int r1, .int r4]) (rest := []) ⟨hx, hb, hml, hown, hts⟩ (kX8_nearer l dC dI cy r1 r4 r27 hc28) (va_cwS 2 hts gX8_stepOf_X8_nearer rfl rfl rfl kdX8_nearer ⟨Nat.le_of_ble_eq_true rfl, Nat.le_of_ble_eq_true rfl⟩) (bb_preS (hP.sub (ws' := []) [] rfl) hK) rfl rfl hl.1 rfl (lv_room (Nat.le_of_ble_eq_true rfl)) dX8_stepOf_81 ⟨Nat.zero_le _, Nat.zero_le _⟩) (fun t29 et29 => ?_)
            obtain rfl := et29
            refine lv_iload_n hx hb dX8_stepOf_84 rfl (lv_at hl 0 rfl) ?_
            obtain ⟨r30, hc31, h⟩ := bb_b1_o h
            refine vp_callSi (W.runS (As := [.int r27, .int r4]) (rest := []) ⟨hx, hb, hml, hown, hts⟩ (kX8_nearer l dC dI cy r27 r4 r30 hc31) (va_cwS 2 hts gX8_stepOf_X8_nearer rfl rfl rfl kdX8_nearer ⟨Nat.le_of_ble_eq_true rfl, Nat.le_of_ble_eq_true rfl⟩) (bb_preS (hP.sub (ws' := []) [] rfl) hK) rfl rfl hl.1 rfl (lv_room (Nat.le_of_ble_eq_true rfl)) dX8_stepOf_85 ⟨Nat.zero_le _, Nat.zero_le _⟩) (fun t32 et32 => ?_)
            obtain rfl := et32
            obtain rfl := bb_some1 h
            exact W.iret hx hb hr (fun t ht hW => ⟨_, rfl, rfl, ht⟩) (fun q hq => by cases hq) dX8_stepOf_88
          · replace h := bb_ifn c26 h
            by_cases c33 : r7 = (6 : Int32)
            · replace h := bb_ifp c33 h
              refine lv_tableIn (tgt := 89) (off := 69) hx hb dX8_stepOf_20 (by rw [c33]; decide) (by rw [c33]; decide) (by rw [c33]; decide) (by decide) ?_
              refine lv_aload_n hx hb dX8_stepOf_89 rfl (lv_at hl 2 rfl) ?_
              refine lv_iload_n hx hb dX8_stepOf_90 rfl (lv_at hl 1 rfl) ?_
              refine lv_iload_n hx hb dX8_stepOf_91 rfl (lv_at hl 0 rfl) ?_
              obtain ⟨r34, hc35, h⟩ := bb_b1_o h
              refine vp_callSi (W.runV (As := [.int r1, .int r4]) (rest := []) ⟨hx, hb, hml, hown, hts⟩ (kX8_general l dC dI cy a_t r1 r4 v_t_isKept v_t_bestPost v_t_mostSeen v_t_taped v_t_from v_t_to v_t_isWrong f_t_s nn r34 hc35) (cwV 2 hts gX8_stepOf_X8_general rfl rfl rfl kdX8_general ⟨Nat.le_of_ble_eq_true rfl, Nat.le_of_ble_eq_true rfl⟩) (bb_preV (va_recv hK hP (ci := 7) (q0 := 0) rfl rfl) hP hK) rfl rfl hl.1 rfl (lv_room (Nat.le_of_ble_eq_true rfl)) dX8_stepOf_92 ⟨Nat.zero_le _, Nat.zero_le _⟩) (fun t36 et36 => ?_)
              obtain rfl := et36
              obtain rfl := bb_some1 h
              exact W.iret hx hb hr (fun t ht hW => ⟨_, rfl, rfl, ht⟩) (fun q hq => by cases hq) dX8_stepOf_95
            · replace h := bb_ifn c33 h
              have q37 := bb_ne (n := 1) (by decide) c10
              have q38 := bb_ne (n := 2) (by decide) c14
              have q39 := bb_ne (n := 3) (by decide) c18
              have q40 := bb_ne (n := 4) (by decide) c22
              have q41 := bb_ne (n := 5) (by decide) c26
              have q42 := bb_ne (n := 6) (by decide) c33
              refine lv_tableOut (tgt := 96) hx hb dX8_stepOf_20 (by omega) (by decide) ?_
              refine lv_iload_n hx hb dX8_stepOf_96 rfl (lv_at hl 1 rfl) ?_
              refine lv_iload_n hx hb dX8_stepOf_97 rfl (lv_at hl 0 rfl) ?_
              obtain ⟨r43, hc44, h⟩ := bb_b1_o h
              refine vp_callSi (W.runS (As := [.int r1, .int r4]) (rest := []) ⟨hx, hb, hml, hown, hts⟩ (kX8_nearer l dC dI cy r1 r4 r43 hc44) (va_cwS 2 hts gX8_stepOf_X8_nearer rfl rfl rfl kdX8_nearer ⟨Nat.le_of_ble_eq_true rfl, Nat.le_of_ble_eq_true rfl⟩) (bb_preS (hP.sub (ws' := []) [] rfl) hK) rfl rfl hl.1 rfl (lv_room (Nat.le_of_ble_eq_true rfl)) dX8_stepOf_98 ⟨Nat.zero_le _, Nat.zero_le _⟩) (fun t45 et45 => ?_)
              obtain rfl := et45
              obtain rfl := bb_some1 h
              exact W.iret hx hb hr (fun t ht hW => ⟨_, rfl, rfl, ht⟩) (fun q hq => by cases hq) dX8_stepOf_101
/-! X8_adds -/
def uX8_adds (p1 : Int32) (p2 : Int32) (f_t_s : Nat → Int32) : Option (Int32 × (Nat → Int32)) :=
  bb_b1 (uX8_sets (f_t_s (1 : Int32).toNatClampNeg) (0 : Int32) p1 (upd f_t_s (1 : Int32).toNatClampNeg ((f_t_s (1 : Int32).toNatClampNeg) + (1 : Int32)))) (fun (w1 : Nat → Int32) => bb_b1 (uX8_sets (f_t_s (1 : Int32).toNatClampNeg) (1 : Int32) p2 w1) (fun (w3 : Nat → Int32) => bb_b1 (uX8_sets (f_t_s (1 : Int32).toNatClampNeg) (2 : Int32) (0 : Int32) w3) (fun (w5 : Nat → Int32) => bb_b1 (uX8_sets (f_t_s (1 : Int32).toNatClampNeg) (3 : Int32) (0 : Int32) w5) (fun (w7 : Nat → Int32) => bb_b1 (uX8_sets (f_t_s (1 : Int32).toNatClampNeg) (4 : Int32) (f_t_s (1 : Int32).toNatClampNeg) w7) (fun (w9 : Nat → Int32) => some (f_t_s (1 : Int32).toNatClampNeg, w9))))))
theorem kdX8_adds : yX8_adds.cls = RX8 ∧ yX8_adds.cls ≠ "java/lang/invoke/MethodHandle" ∧ yX8_adds.cls ≠ "java/lang/invoke/VarHandle" ∧ (parseMethodDescriptor yX8_adds.desc).map (fun d => d.parameters.length) = some 2 := by decide +kernel
set_option maxHeartbeats 4000000 in
set_option maxRecDepth 100000 in
theorem kX8_adds (l : Launch) (dC : Nat → ClassId) (dI : Nat → Nat → Nat) (cy : Nat → ClassId) (sz : Nat) (a_t : Nat → Nat) (p1 : Int32) (p2 : Int32) (v_t_isKept : Int32) (v_t_bestPost : Int32) (v_t_mostSeen : Int32) (v_t_taped : Int32) (v_t_from : Int32) (v_t_to : Int32) (v_t_isWrong : Int32) (f_t_s : Nat → Int32) (r : Int32) (f_t_s_o : Nat → Int32) (h : uX8_adds p1 p2 f_t_s = some (r, f_t_s_o)) : Met l yX8_adds wsX8_adds ({ frames := 1, cells := 0, slots := 0, locals := 23 }) (va_Pc [.ref (a_t 0), .int p1, .int p2] (fun U => U.heap.size = sz ∧ va_P (dC, dI) vwCl [((a_t 0), oX8 a_t v_t_isKept v_t_bestPost v_t_mostSeen v_t_taped v_t_from v_t_to v_t_isWrong), ((a_t 1), .inl (cy 0, 155, .inl f_t_s))] U.heap ∧ va_K (dC, dI) vwCl (tyX cy) U ∧ va_D (fun _ => True) [((a_t 0), oX8 a_t v_t_isKept v_t_bestPost v_t_mostSeen v_t_taped v_t_from v_t_to v_t_isWrong), ((a_t 1), .inl (cy 0, 155, .inl f_t_s))])) (va_Qi (fun (r2 : Int32) (_ : Unit) => r = r2) (fun _ t => va_P (dC, dI) vwCl [((a_t 0), oX8 a_t v_t_isKept v_t_bestPost v_t_mostSeen v_t_taped v_t_from v_t_to v_t_isWrong), ((a_t 1), .inl (cy 0, 155, .inl f_t_s_o))] t.heap ∧ va_K (dC, dI) vwCl (tyX cy) t ∧ va_D (va_A [((a_t 0), oX8 a_t v_t_isKept v_t_bestPost v_t_mostSeen v_t_taped v_t_from v_t_to v_t_isWrong), ((a_t 1), .inl (cy 0, 155, .inl f_t_s))] sz) [((a_t 0), oX8 a_t v_t_isKept v_t_bestPost v_t_mostSeen v_t_taped v_t_from v_t_to v_t_isWrong), ((a_t 1), .inl (cy 0, 155, .inl f_t_s_o))]) (va_A [((a_t 0), oX8 a_t v_t_isKept v_t_bestPost v_t_mostSeen v_t_taped v_t_from v_t_to v_t_isWrong), ((a_t 1), .inl (cy 0, 155, .inl f_t_s))] sz)) 0 0 (va_A [((a_t 0), oX8 a_t v_t_isKept v_t_bestPost v_t_mostSeen v_t_taped v_t_from v_t_to v_t_isWrong), ((a_t 1), .inl (cy 0, 155, .inl f_t_s))] sz) := by
  refine Met.ofW (cc := cX8_adds) (maxL := 4) (ret := (some .int)) (by decide) rfl ?_
  intro p e s m args below meth c s₁ B hml hv
  obtain ⟨rfl, hsz, hP, hK, hD0⟩ := hv
  have hx := B.exec
  have hb := B.bytes
  have hr := B.returns
  have hts := atoms_spec (ws := wsX8_adds) B.pre
  have hown : s.vm.findClass RX8 = some m.cls := findClass_of_methodNamed B.named
  have hlocks := B.notSynchronized
  have iwX8 : ∀ w ∈ wsX80, w ∈ wsX8_adds := fun w h9 => List.mem_cons_of_mem _ (List.mem_append_right _ (h9))
  have lk1 := hts (Cond.fieldLink RX8 9 "BathBorderModel" "s" "[I") (List.mem_of_getElem? (i := 1) rfl)
  subst hsz
  have hD := hD0.self (sz := s.heap.size)
  generalize hAe : va_A [((a_t 0), oX8 a_t v_t_isKept v_t_bestPost v_t_mostSeen v_t_taped v_t_from v_t_to v_t_isWrong), ((a_t 1), .inl (cy 0, 155, .inl f_t_s))] s.heap.size = A at hD ⊢
  have hA : ∀ q : Nat, s.heap.size ≤ q → A q := fun q h => by rw [← hAe]; exact Or.inr h
  have hS : va_S A s.heap s.heap [] := va_S.rf
  have hP : va_P (dC, dI) vwCl [((a_t 0), oX8 a_t v_t_isKept v_t_bestPost v_t_mostSeen v_t_taped v_t_from v_t_to v_t_isWrong), ((a_t 1), .inl (cy 0, 155, .inl f_t_s))] s.heap := hP
  have hl := lv_entry ([.ref (a_t 0), .int p1, .int p2]) (n := 4) (Nat.le_of_ble_eq_true rfl)
  rw [lg_entry_eq]
  generalize (lg_sl ([.ref (a_t 0), .int p1, .int p2]) ++ List.replicate (4 - (lg_sl ([.ref (a_t 0), .int p1, .int p2])).length) Slot.unset).toArray = ls at hl ⊢
  have hl : lv_has ls 4 [(0, .ref (a_t 0)), (1, .int p1), (2, .int p2)] := hl
  unfold uX8_adds at h
  refine bb_cap (fun WW toW ofW => ?_)
  refine lv_aload_n hx hb dX8_adds_0 rfl (lv_at hl 0 rfl) ?_
  refine va_get (D := (dC, dI)) (ci := 7) (v := .ref (a_t 1)) (C := RX8) (T := TX8) (N := 20) hx hb hts iwX8 hown hK hP 0 rfl rfl 0 (by decide) lk1 (fun _ h9 => h9) rfl dX8_adds_1 ?_
  refine lv_iconst (v := (1 : Int32)) hx hb dX8_adds_4 (by decide) ?_
  refine va_iald hx hb hK hP 1 0 rfl rfl (bb_in (by decide)) dX8_adds_5 ?_
  refine lv_istore_n (lv' := [(3, .int (f_t_s (1 : Int32).toNatClampNeg)), (0, .ref (a_t 0)), (1, .int p1), (2, .int p2)]) hx hb dX8_adds_6 rfl hl (by decide) rfl (fun ls hl => ?_)
  refine lv_aload_n hx hb dX8_adds_7 rfl (lv_at hl 1 rfl) ?_
  refine va_get (D := (dC, dI)) (ci := 7) (v := .ref (a_t 1)) (C := RX8) (T := TX8) (N := 20) hx hb hts iwX8 hown hK hP 0 rfl rfl 0 (by decide) lk1 (fun _ h9 => h9) rfl dX8_adds_8 ?_
  refine lv_iconst (v := (1 : Int32)) hx hb dX8_adds_11 (by decide) ?_
  refine lv_dup2_11 hx hb dX8_adds_12 rfl rfl ?_
  refine va_iald hx hb hK hP 1 0 rfl rfl (bb_in (by decide)) dX8_adds_13 ?_
  refine lv_iconst (v := (1 : Int32)) hx hb dX8_adds_14 (by decide) ?_
  refine lv_iadd hx hb dX8_adds_15 ?_
  refine va_iast hx hb hK hP hD hS 1 0 rfl rfl (bb_in (by decide)) dX8_adds_16 (fun H locs hP hD hS => ?_)
  have hP : va_P (dC, dI) vwCl [((a_t 0), oX8 a_t v_t_isKept v_t_bestPost v_t_mostSeen v_t_taped v_t_from v_t_to v_t_isWrong), ((a_t 1), .inl (cy 0, 155, .inl (upd f_t_s (1 : Int32).toNatClampNeg ((f_t_s (1 : Int32).toNatClampNeg) + (1 : Int32)))))] H := hP
  have hD : va_D A [((a_t 0), oX8 a_t v_t_isKept v_t_bestPost v_t_mostSeen v_t_taped v_t_from v_t_to v_t_isWrong), ((a_t 1), .inl (cy 0, 155, .inl (upd f_t_s (1 : Int32).toNatClampNeg ((f_t_s (1 : Int32).toNatClampNeg) + (1 : Int32)))))] := hD
  refine lv_aload_n hx hb dX8_adds_17 rfl (lv_at hl 1 rfl) ?_
  refine lv_iload_n hx hb dX8_adds_18 rfl (lv_at hl 0 rfl) ?_
  refine lv_iconst (v := (0 : Int32)) hx hb dX8_adds_19 (by decide) ?_
  refine lv_iload_n hx hb dX8_adds_20 rfl (lv_at hl 2 rfl) ?_
  obtain ⟨w1, hc2, h⟩ := bb_b1_o h
  refine bb_cwv (wr := []) (w1 := [((a_t 0), oX8 a_t v_t_isKept v_t_bestPost v_t_mostSeen v_t_taped v_t_from v_t_to v_t_isWrong), ((a_t 1), .inl (cy 0, 155, .inl w1))]) (va_runV (As := [.int (f_t_s (1 : Int32).toNatClampNeg), .int (0 : Int32), .int p1]) (rest := []) ⟨hx, hb, hml, hown, hts⟩ (kX8_sets l dC dI cy H.size a_t (f_t_s (1 : Int32).toNatClampNeg) (0 : Int32) p1 v_t_isKept v_t_bestPost v_t_mostSeen v_t_taped v_t_from v_t_to v_t_isWrong (upd f_t_s (1 : Int32).toNatClampNeg ((f_t_s (1 : Int32).toNatClampNeg) + (1 : Int32))) w1 hc2) (cwV 3 hts gX8_adds_X8_sets rfl rfl rfl kdX8_sets ⟨Nat.le_of_ble_eq_true rfl, Nat.le_of_ble_eq_true rfl⟩) (bb_preVw (va_recv hK hP (ci := 7) (q0 := 0) rfl rfl) hP hK (hD.sub (ws' := [((a_t 0), oX8 a_t v_t_isKept v_t_bestPost v_t_mostSeen v_t_taped v_t_from v_t_to v_t_isWrong), ((a_t 1), .inl (cy 0, 155, .inl (upd f_t_s (1 : Int32).toNatClampNeg ((f_t_s (1 : Int32).toNatClampNeg) + (1 : Int32)))))]) [0, 1] (by decide) rfl)) rfl rfl hl.1 rfl (lv_room (Nat.le_of_ble_eq_true rfl)) dX8_adds_21 ⟨Nat.zero_le _, Nat.zero_le _⟩) hP hD hS hA [0, 1] [] rfl rfl (by decide) (by decide) (fun H locs hP hD hS => ?_)
  have hP : va_P (dC, dI) vwCl [((a_t 0), oX8 a_t v_t_isKept v_t_bestPost v_t_mostSeen v_t_taped v_t_from v_t_to v_t_isWrong), ((a_t 1), .inl (cy 0, 155, .inl w1))] H := hP
  have hD : va_D A [((a_t 0), oX8 a_t v_t_isKept v_t_bestPost v_t_mostSeen v_t_taped v_t_from v_t_to v_t_isWrong), ((a_t 1), .inl (cy 0, 155, .inl w1))] := hD
  refine lv_aload_n hx hb dX8_adds_24 rfl (lv_at hl 1 rfl) ?_
  refine lv_iload_n hx hb dX8_adds_25 rfl (lv_at hl 0 rfl) ?_
  refine lv_iconst (v := (1 : Int32)) hx hb dX8_adds_26 (by decide) ?_
  refine lv_iload_n hx hb dX8_adds_27 rfl (lv_at hl 3 rfl) ?_
  obtain ⟨w3, hc4, h⟩ := bb_b1_o h
  refine bb_cwv (wr := []) (w1 := [((a_t 0), oX8 a_t v_t_isKept v_t_bestPost v_t_mostSeen v_t_taped v_t_from v_t_to v_t_isWrong), ((a_t 1), .inl (cy 0, 155, .inl w3))]) (va_runV (As := [.int (f_t_s (1 : Int32).toNatClampNeg), .int (1 : Int32), .int p2]) (rest := []) ⟨hx, hb, hml, hown, hts⟩ (kX8_sets l dC dI cy H.size a_t (f_t_s (1 : Int32).toNatClampNeg) (1 : Int32) p2 v_t_isKept v_t_bestPost v_t_mostSeen v_t_taped v_t_from v_t_to v_t_isWrong w1 w3 hc4) (cwV 3 hts gX8_adds_X8_sets rfl rfl rfl kdX8_sets ⟨Nat.le_of_ble_eq_true rfl, Nat.le_of_ble_eq_true rfl⟩) (bb_preVw (va_recv hK hP (ci := 7) (q0 := 0) rfl rfl) hP hK (hD.sub (ws' := [((a_t 0), oX8 a_t v_t_isKept v_t_bestPost v_t_mostSeen v_t_taped v_t_from v_t_to v_t_isWrong), ((a_t 1), .inl (cy 0, 155, .inl w1))]) [0, 1] (by decide) rfl)) rfl rfl hl.1 rfl (lv_room (Nat.le_of_ble_eq_true rfl)) dX8_adds_28 ⟨Nat.zero_le _, Nat.zero_le _⟩) hP hD hS hA [0, 1] [] rfl rfl (by decide) (by decide) (fun H locs hP hD hS => ?_)
  have hP : va_P (dC, dI) vwCl [((a_t 0), oX8 a_t v_t_isKept v_t_bestPost v_t_mostSeen v_t_taped v_t_from v_t_to v_t_isWrong), ((a_t 1), .inl (cy 0, 155, .inl w3))] H := hP
  have hD : va_D A [((a_t 0), oX8 a_t v_t_isKept v_t_bestPost v_t_mostSeen v_t_taped v_t_from v_t_to v_t_isWrong), ((a_t 1), .inl (cy 0, 155, .inl w3))] := hD
  refine lv_aload_n hx hb dX8_adds_31 rfl (lv_at hl 1 rfl) ?_
  refine lv_iload_n hx hb dX8_adds_32 rfl (lv_at hl 0 rfl) ?_
  refine lv_iconst (v := (2 : Int32)) hx hb dX8_adds_33 (by decide) ?_
  refine lv_iconst (v := (0 : Int32)) hx hb dX8_adds_34 (by decide) ?_
  obtain ⟨w5, hc6, h⟩ := bb_b1_o h
  refine bb_cwv (wr := []) (w1 := [((a_t 0), oX8 a_t v_t_isKept v_t_bestPost v_t_mostSeen v_t_taped v_t_from v_t_to v_t_isWrong), ((a_t 1), .inl (cy 0, 155, .inl w5))]) (va_runV (As := [.int (f_t_s (1 : Int32).toNatClampNeg), .int (2 : Int32), .int (0 : Int32)]) (rest := []) ⟨hx, hb, hml, hown, hts⟩ (kX8_sets l dC dI cy H.size a_t (f_t_s (1 : Int32).toNatClampNeg) (2 : Int32) (0 : Int32) v_t_isKept v_t_bestPost v_t_mostSeen v_t_taped v_t_from v_t_to v_t_isWrong w3 w5 hc6) (cwV 3 hts gX8_adds_X8_sets rfl rfl rfl kdX8_sets ⟨Nat.le_of_ble_eq_true rfl, Nat.le_of_ble_eq_true rfl⟩) (bb_preVw (va_recv hK hP (ci := 7) (q0 := 0) rfl rfl) hP hK (hD.sub (ws' := [((a_t 0), oX8 a_t v_t_isKept v_t_bestPost v_t_mostSeen v_t_taped v_t_from v_t_to v_t_isWrong), ((a_t 1), .inl (cy 0, 155, .inl w3))]) [0, 1] (by decide) rfl)) rfl rfl hl.1 rfl (lv_room (Nat.le_of_ble_eq_true rfl)) dX8_adds_35 ⟨Nat.zero_le _, Nat.zero_le _⟩) hP hD hS hA [0, 1] [] rfl rfl (by decide) (by decide) (fun H locs hP hD hS => ?_)
  have hP : va_P (dC, dI) vwCl [((a_t 0), oX8 a_t v_t_isKept v_t_bestPost v_t_mostSeen v_t_taped v_t_from v_t_to v_t_isWrong), ((a_t 1), .inl (cy 0, 155, .inl w5))] H := hP
  have hD : va_D A [((a_t 0), oX8 a_t v_t_isKept v_t_bestPost v_t_mostSeen v_t_taped v_t_from v_t_to v_t_isWrong), ((a_t 1), .inl (cy 0, 155, .inl w5))] := hD
  refine lv_aload_n hx hb dX8_adds_38 rfl (lv_at hl 1 rfl) ?_
  refine lv_iload_n hx hb dX8_adds_39 rfl (lv_at hl 0 rfl) ?_
  refine lv_iconst (v := (3 : Int32)) hx hb dX8_adds_40 (by decide) ?_
  refine lv_iconst (v := (0 : Int32)) hx hb dX8_adds_41 (by decide) ?_
  obtain ⟨w7, hc8, h⟩ := bb_b1_o h
  refine bb_cwv (wr := []) (w1 := [((a_t 0), oX8 a_t v_t_isKept v_t_bestPost v_t_mostSeen v_t_taped v_t_from v_t_to v_t_isWrong), ((a_t 1), .inl (cy 0, 155, .inl w7))]) (va_runV (As := [.int (f_t_s (1 : Int32).toNatClampNeg), .int (3 : Int32), .int (0 : Int32)]) (rest := []) ⟨hx, hb, hml, hown, hts⟩ (kX8_sets l dC dI cy H.size a_t (f_t_s (1 : Int32).toNatClampNeg) (3 : Int32) (0 : Int32) v_t_isKept v_t_bestPost v_t_mostSeen v_t_taped v_t_from v_t_to v_t_isWrong w5 w7 hc8) (cwV 3 hts gX8_adds_X8_sets rfl rfl rfl kdX8_sets ⟨Nat.le_of_ble_eq_true rfl, Nat.le_of_ble_eq_true rfl⟩) (bb_preVw (va_recv hK hP (ci := 7) (q0 := 0) rfl rfl) hP hK (hD.sub (ws' := [((a_t 0), oX8 a_t v_t_isKept v_t_bestPost v_t_mostSeen v_t_taped v_t_from v_t_to v_t_isWrong), ((a_t 1), .inl (cy 0, 155, .inl w5))]) [0, 1] (by decide) rfl)) rfl rfl hl.1 rfl (lv_room (Nat.le_of_ble_eq_true rfl)) dX8_adds_42 ⟨Nat.zero_le _, Nat.zero_le _⟩) hP hD hS hA [0, 1] [] rfl rfl (by decide) (by decide) (fun H locs hP hD hS => ?_)
  have hP : va_P (dC, dI) vwCl [((a_t 0), oX8 a_t v_t_isKept v_t_bestPost v_t_mostSeen v_t_taped v_t_from v_t_to v_t_isWrong), ((a_t 1), .inl (cy 0, 155, .inl w7))] H := hP
  have hD : va_D A [((a_t 0), oX8 a_t v_t_isKept v_t_bestPost v_t_mostSeen v_t_taped v_t_from v_t_to v_t_isWrong), ((a_t 1), .inl (cy 0, 155, .inl w7))] := hD
  refine lv_aload_n hx hb dX8_adds_45 rfl (lv_at hl 1 rfl) ?_
  refine lv_iload_n hx hb dX8_adds_46 rfl (lv_at hl 0 rfl) ?_
  refine lv_iconst (v := (4 : Int32)) hx hb dX8_adds_47 (by decide) ?_
  refine lv_iload_n hx hb dX8_adds_48 rfl (lv_at hl 0 rfl) ?_
  obtain ⟨w9, hc10, h⟩ := bb_b1_o h
  refine bb_cwv (wr := []) (w1 := [((a_t 0), oX8 a_t v_t_isKept v_t_bestPost v_t_mostSeen v_t_taped v_t_from v_t_to v_t_isWrong), ((a_t 1), .inl (cy 0, 155, .inl w9))]) (va_runV (As := [.int (f_t_s (1 : Int32).toNatClampNeg), .int (4 : Int32), .int (f_t_s (1 : Int32).toNatClampNeg)]) (rest := []) ⟨hx, hb, hml, hown, hts⟩ (kX8_sets l dC dI cy H.size a_t (f_t_s (1 : Int32).toNatClampNeg) (4 : Int32) (f_t_s (1 : Int32).toNatClampNeg) v_t_isKept v_t_bestPost v_t_mostSeen v_t_taped v_t_from v_t_to v_t_isWrong w7 w9 hc10) (cwV 3 hts gX8_adds_X8_sets rfl rfl rfl kdX8_sets ⟨Nat.le_of_ble_eq_true rfl, Nat.le_of_ble_eq_true rfl⟩) (bb_preVw (va_recv hK hP (ci := 7) (q0 := 0) rfl rfl) hP hK (hD.sub (ws' := [((a_t 0), oX8 a_t v_t_isKept v_t_bestPost v_t_mostSeen v_t_taped v_t_from v_t_to v_t_isWrong), ((a_t 1), .inl (cy 0, 155, .inl w7))]) [0, 1] (by decide) rfl)) rfl rfl hl.1 rfl (lv_room (Nat.le_of_ble_eq_true rfl)) dX8_adds_49 ⟨Nat.zero_le _, Nat.zero_le _⟩) hP hD hS hA [0, 1] [] rfl rfl (by decide) (by decide) (fun H locs hP hD hS => ?_)
  have hP : va_P (dC, dI) vwCl [((a_t 0), oX8 a_t v_t_isKept v_t_bestPost v_t_mostSeen v_t_taped v_t_from v_t_to v_t_isWrong), ((a_t 1), .inl (cy 0, 155, .inl w9))] H := hP
  have hD : va_D A [((a_t 0), oX8 a_t v_t_isKept v_t_bestPost v_t_mostSeen v_t_taped v_t_from v_t_to v_t_isWrong), ((a_t 1), .inl (cy 0, 155, .inl w9))] := hD
  refine lv_iload_n hx hb dX8_adds_52 rfl (lv_at hl 0 rfl) ?_
  obtain ⟨rfl, rfl⟩ := bb_some2 h
  have hP9 := hP.sub (ws' := [((a_t 0), oX8 a_t v_t_isKept v_t_bestPost v_t_mostSeen v_t_taped v_t_from v_t_to v_t_isWrong), ((a_t 1), .inl (cy 0, 155, .inl w9))]) [0, 1] rfl
  have hD9 := hD.sub (ws' := [((a_t 0), oX8 a_t v_t_isKept v_t_bestPost v_t_mostSeen v_t_taped v_t_from v_t_to v_t_isWrong), ((a_t 1), .inl (cy 0, 155, .inl w9))]) [0, 1] (by decide) rfl
  exact W.iret hx hb hr (fun t ht hW => ⟨⟨_, (), rfl, rfl, by rw [ht]; exact hP9, va_K.moved hW.alike hK, hD9⟩, hS.F ht⟩) hS.2.2 dX8_adds_53
/-! X8_bather -/
def uX8_bather (p1 : Int32) (p2 : Int32) (f_t_found : Nat → Int32) (f_t_s : Nat → Int32) : Option (Int32 × (Nat → Int32) × (Nat → Int32)) :=
  bb_b1 (uX8_isKind p1) (fun (r1 : Int32) => (if r1 = 0 then bb_b2 (uX8_finds (0 : Int32) f_t_found) (fun (r6 : Int32) (w7 : Nat → Int32) => some (r6, w7, f_t_s)) else bb_b1 (uX8_isCell p2) (fun (r9 : Int32) => (if r9 = 0 then bb_b2 (uX8_finds (0 : Int32) f_t_found) (fun (r21 : Int32) (w22 : Nat → Int32) => some (r21, w22, f_t_s)) else (if (f_t_s (1 : Int32).toNatClampNeg) = (8 : Int32) then bb_b2 (uX8_finds (1 : Int32) f_t_found) (fun (r18 : Int32) (w19 : Nat → Int32) => some (r18, w19, f_t_s)) else bb_b2 (uX8_adds p1 p2 f_t_s) (fun (r15 : Int32) (w16 : Nat → Int32) => some (r15, f_t_found, w16)))))))
theorem kdX8_bather : yX8_bather.cls = RX8 ∧ yX8_bather.cls ≠ "java/lang/invoke/MethodHandle" ∧ yX8_bather.cls ≠ "java/lang/invoke/VarHandle" ∧ (parseMethodDescriptor yX8_bather.desc).map (fun d => d.parameters.length) = some 2 := by decide +kernel
set_option maxHeartbeats 4000000 in
set_option maxRecDepth 100000 in
theorem kX8_bather (l : Launch) (dC : Nat → ClassId) (dI : Nat → Nat → Nat) (cy : Nat → ClassId) (sz : Nat) (a_t : Nat → Nat) (p1 : Int32) (p2 : Int32) (v_t_isKept : Int32) (v_t_bestPost : Int32) (v_t_mostSeen : Int32) (v_t_taped : Int32) (v_t_from : Int32) (v_t_to : Int32) (v_t_isWrong : Int32) (f_t_found : Nat → Int32) (f_t_s : Nat → Int32) (r : Int32) (f_t_found_o : Nat → Int32) (f_t_s_o : Nat → Int32) (h : uX8_bather p1 p2 f_t_found f_t_s = some (r, f_t_found_o, f_t_s_o)) : Met l yX8_bather wsX8_bather ({ frames := 2, cells := 0, slots := 0, locals := 46 }) (va_Pc [.ref (a_t 0), .int p1, .int p2] (fun U => U.heap.size = sz ∧ va_P (dC, dI) vwCl [((a_t 0), oX8 a_t v_t_isKept v_t_bestPost v_t_mostSeen v_t_taped v_t_from v_t_to v_t_isWrong), ((a_t 5), .inl (cy 0, 7, .inl f_t_found)), ((a_t 1), .inl (cy 0, 155, .inl f_t_s))] U.heap ∧ va_K (dC, dI) vwCl (tyX cy) U ∧ va_D (fun _ => True) [((a_t 0), oX8 a_t v_t_isKept v_t_bestPost v_t_mostSeen v_t_taped v_t_from v_t_to v_t_isWrong), ((a_t 5), .inl (cy 0, 7, .inl f_t_found)), ((a_t 1), .inl (cy 0, 155, .inl f_t_s))])) (va_Qi (fun (r2 : Int32) (_ : Unit) => r = r2) (fun _ t => va_P (dC, dI) vwCl [((a_t 0), oX8 a_t v_t_isKept v_t_bestPost v_t_mostSeen v_t_taped v_t_from v_t_to v_t_isWrong), ((a_t 5), .inl (cy 0, 7, .inl f_t_found_o)), ((a_t 1), .inl (cy 0, 155, .inl f_t_s_o))] t.heap ∧ va_K (dC, dI) vwCl (tyX cy) t ∧ va_D (va_A [((a_t 0), oX8 a_t v_t_isKept v_t_bestPost v_t_mostSeen v_t_taped v_t_from v_t_to v_t_isWrong), ((a_t 5), .inl (cy 0, 7, .inl f_t_found)), ((a_t 1), .inl (cy 0, 155, .inl f_t_s))] sz) [((a_t 0), oX8 a_t v_t_isKept v_t_bestPost v_t_mostSeen v_t_taped v_t_from v_t_to v_t_isWrong), ((a_t 5), .inl (cy 0, 7, .inl f_t_found_o)), ((a_t 1), .inl (cy 0, 155, .inl f_t_s_o))]) (va_A [((a_t 0), oX8 a_t v_t_isKept v_t_bestPost v_t_mostSeen v_t_taped v_t_from v_t_to v_t_isWrong), ((a_t 5), .inl (cy 0, 7, .inl f_t_found)), ((a_t 1), .inl (cy 0, 155, .inl f_t_s))] sz)) 0 0 (va_A [((a_t 0), oX8 a_t v_t_isKept v_t_bestPost v_t_mostSeen v_t_taped v_t_from v_t_to v_t_isWrong), ((a_t 5), .inl (cy 0, 7, .inl f_t_found)), ((a_t 1), .inl (cy 0, 155, .inl f_t_s))] sz) := by
  refine Met.ofW (cc := cX8_bather) (maxL := 3) (ret := (some .int)) (by decide) rfl ?_
  intro p e s m args below meth c s₁ B hml hv
  obtain ⟨rfl, hsz, hP, hK, hD0⟩ := hv
  have hx := B.exec
  have hb := B.bytes
  have hr := B.returns
  have hts := atoms_spec (ws := wsX8_bather) B.pre
  have hown : s.vm.findClass RX8 = some m.cls := findClass_of_methodNamed B.named
  have hlocks := B.notSynchronized
  have iwX8 : ∀ w ∈ wsX80, w ∈ wsX8_bather := fun w h9 => List.mem_cons_of_mem _ (List.mem_append_right _ (h9))
  have lk1 := hts (Cond.fieldLink RX8 9 "BathBorderModel" "s" "[I") (List.mem_of_getElem? (i := 1) rfl)
  subst hsz
  have hD := hD0.self (sz := s.heap.size)
  generalize hAe : va_A [((a_t 0), oX8 a_t v_t_isKept v_t_bestPost v_t_mostSeen v_t_taped v_t_from v_t_to v_t_isWrong), ((a_t 5), .inl (cy 0, 7, .inl f_t_found)), ((a_t 1), .inl (cy 0, 155, .inl f_t_s))] s.heap.size = A at hD ⊢
  have hA : ∀ q : Nat, s.heap.size ≤ q → A q := fun q h => by rw [← hAe]; exact Or.inr h
  have hS : va_S A s.heap s.heap [] := va_S.rf
  have hP : va_P (dC, dI) vwCl [((a_t 0), oX8 a_t v_t_isKept v_t_bestPost v_t_mostSeen v_t_taped v_t_from v_t_to v_t_isWrong), ((a_t 5), .inl (cy 0, 7, .inl f_t_found)), ((a_t 1), .inl (cy 0, 155, .inl f_t_s))] s.heap := hP
  have hl := lv_entry ([.ref (a_t 0), .int p1, .int p2]) (n := 3) (Nat.le_of_ble_eq_true rfl)
  rw [lg_entry_eq]
  generalize (lg_sl ([.ref (a_t 0), .int p1, .int p2]) ++ List.replicate (3 - (lg_sl ([.ref (a_t 0), .int p1, .int p2])).length) Slot.unset).toArray = ls at hl ⊢
  have hl : lv_has ls 3 [(0, .ref (a_t 0)), (1, .int p1), (2, .int p2)] := hl
  unfold uX8_bather at h
  refine bb_cap (fun WW toW ofW => ?_)
  refine lv_iload_n hx hb dX8_bather_0 rfl (lv_at hl 1 rfl) ?_
  obtain ⟨r1, hc2, h⟩ := bb_b1_o h
  refine vp_callSi (W.runS (As := [.int p1]) (rest := []) ⟨hx, hb, hml, hown, hts⟩ (kX8_isKind l dC dI cy p1 r1 hc2) (va_cwS 1 hts gX8_bather_X8_isKind rfl rfl rfl kdX8_isKind ⟨Nat.le_of_ble_eq_true rfl, Nat.le_of_ble_eq_true rfl⟩) (bb_preS (hP.sub (ws' := []) [] rfl) hK) rfl rfl hl.1 rfl (lv_room (Nat.le_of_ble_eq_true rfl)) dX8_bather_1 ⟨Nat.zero_le _, Nat.zero_le _⟩) (fun t3 et3 => ?_)
  obtain ⟨rfl, hz4⟩ := et3
  refine lv_if_eq (tgt := 14) hx hb dX8_bather_4 (by decide) (fun c5 => ?_) (fun c5 => ?_)
  · replace h := bb_ifp c5 h
    refine lv_aload_n hx hb dX8_bather_14 rfl (lv_at hl 0 rfl) ?_
    refine lv_iconst (v := (0 : Int32)) hx hb dX8_bather_15 (by decide) ?_
    obtain ⟨r6, w7, hc8, h⟩ := bb_b2_o h
    refine bb_cwi (wr := [((a_t 1), .inl (cy 0, 155, .inl f_t_s))]) (w1 := [((a_t 0), oX8 a_t v_t_isKept v_t_bestPost v_t_mostSeen v_t_taped v_t_from v_t_to v_t_isWrong), ((a_t 5), .inl (cy 0, 7, .inl w7))]) (va_runV (As := [.int (0 : Int32)]) (rest := []) ⟨hx, hb, hml, hown, hts⟩ (kX8_finds l dC dI cy s.heap.size a_t (0 : Int32) v_t_isKept v_t_bestPost v_t_mostSeen v_t_taped v_t_from v_t_to v_t_isWrong f_t_found r6 w7 hc8) (cwV 1 hts gX8_bather_X8_finds rfl rfl rfl kdX8_finds ⟨Nat.le_of_ble_eq_true rfl, Nat.le_of_ble_eq_true rfl⟩) (bb_preVw (va_recv hK hP (ci := 7) (q0 := 0) rfl rfl) (hP.sub (ws' := [((a_t 0), oX8 a_t v_t_isKept v_t_bestPost v_t_mostSeen v_t_taped v_t_from v_t_to v_t_isWrong), ((a_t 5), .inl (cy 0, 7, .inl f_t_found))]) [0, 1] rfl) hK (hD.sub (ws' := [((a_t 0), oX8 a_t v_t_isKept v_t_bestPost v_t_mostSeen v_t_taped v_t_from v_t_to v_t_isWrong), ((a_t 5), .inl (cy 0, 7, .inl f_t_found))]) [0, 1] (by decide) rfl)) rfl rfl hl.1 rfl (lv_room (Nat.le_of_ble_eq_true rfl)) dX8_bather_16 ⟨Nat.zero_le _, Nat.zero_le _⟩) hP hD hS hA [0, 1] [2] rfl rfl (by decide) (by decide) (fun H locs hP hD hS => ?_)
    have hP : va_P (dC, dI) vwCl [((a_t 1), .inl (cy 0, 155, .inl f_t_s)), ((a_t 0), oX8 a_t v_t_isKept v_t_bestPost v_t_mostSeen v_t_taped v_t_from v_t_to v_t_isWrong), ((a_t 5), .inl (cy 0, 7, .inl w7))] H := hP
    have hD : va_D A [((a_t 1), .inl (cy 0, 155, .inl f_t_s)), ((a_t 0), oX8 a_t v_t_isKept v_t_bestPost v_t_mostSeen v_t_taped v_t_from v_t_to v_t_isWrong), ((a_t 5), .inl (cy 0, 7, .inl w7))] := hD
    obtain ⟨rfl, rfl, rfl⟩ := bb_some3 h
    have hP9 := hP.sub (ws' := [((a_t 0), oX8 a_t v_t_isKept v_t_bestPost v_t_mostSeen v_t_taped v_t_from v_t_to v_t_isWrong), ((a_t 5), .inl (cy 0, 7, .inl w7)), ((a_t 1), .inl (cy 0, 155, .inl f_t_s))]) [1, 2, 0] rfl
    have hD9 := hD.sub (ws' := [((a_t 0), oX8 a_t v_t_isKept v_t_bestPost v_t_mostSeen v_t_taped v_t_from v_t_to v_t_isWrong), ((a_t 5), .inl (cy 0, 7, .inl w7)), ((a_t 1), .inl (cy 0, 155, .inl f_t_s))]) [1, 2, 0] (by decide) rfl
    exact W.iret hx hb hr (fun t ht hW => ⟨⟨_, (), rfl, rfl, by rw [ht]; exact hP9, va_K.moved hW.alike hK, hD9⟩, hS.F ht⟩) hS.2.2 dX8_bather_19
  · replace h := bb_ifn c5 h
    refine lv_iload_n hx hb dX8_bather_7 rfl (lv_at hl 2 rfl) ?_
    obtain ⟨r9, hc10, h⟩ := bb_b1_o h
    refine vp_callSi (W.runS (As := [.int p2]) (rest := []) ⟨hx, hb, hml, hown, hts⟩ (kX8_isCell l dC dI cy p2 r9 hc10) (va_cwS 1 hts gX8_bather_X8_isCell rfl rfl rfl kdX8_isCell ⟨Nat.le_of_ble_eq_true rfl, Nat.le_of_ble_eq_true rfl⟩) (bb_preS (hP.sub (ws' := []) [] rfl) hK) rfl rfl hl.1 rfl (lv_room (Nat.le_of_ble_eq_true rfl)) dX8_bather_8 ⟨Nat.zero_le _, Nat.zero_le _⟩) (fun t11 et11 => ?_)
    obtain ⟨rfl, hz12⟩ := et11
    refine lv_if_ne (tgt := 20) hx hb dX8_bather_11 (by decide) (fun c13 => ?_) (fun c13 => ?_)
    · replace h := bb_ifn c13 h
      refine lv_aload_n hx hb dX8_bather_20 rfl (lv_at hl 0 rfl) ?_
      refine va_get (D := (dC, dI)) (ci := 7) (v := .ref (a_t 1)) (C := RX8) (T := TX8) (N := 20) hx hb hts iwX8 hown hK hP 0 rfl rfl 0 (by decide) lk1 (fun _ h9 => h9) rfl dX8_bather_21 ?_
      refine lv_iconst (v := (1 : Int32)) hx hb dX8_bather_24 (by decide) ?_
      refine va_iald hx hb hK hP 2 0 rfl rfl (bb_in (by decide)) dX8_bather_25 ?_
      refine lv_bipush (v := (8 : Int32)) hx hb dX8_bather_26 (by decide) ?_
      refine lv_icmp_ne (tgt := 39) hx hb dX8_bather_28 (by decide) (fun c14 => ?_) (fun c14 => ?_)
      · replace h := bb_ifn c14 h
        refine lv_aload_n hx hb dX8_bather_39 rfl (lv_at hl 0 rfl) ?_
        refine lv_iload_n hx hb dX8_bather_40 rfl (lv_at hl 1 rfl) ?_
        refine lv_iload_n hx hb dX8_bather_41 rfl (lv_at hl 2 rfl) ?_
        obtain ⟨r15, w16, hc17, h⟩ := bb_b2_o h
        refine bb_cwi (wr := [((a_t 5), .inl (cy 0, 7, .inl f_t_found))]) (w1 := [((a_t 0), oX8 a_t v_t_isKept v_t_bestPost v_t_mostSeen v_t_taped v_t_from v_t_to v_t_isWrong), ((a_t 1), .inl (cy 0, 155, .inl w16))]) (va_runV (As := [.int p1, .int p2]) (rest := []) ⟨hx, hb, hml, hown, hts⟩ (kX8_adds l dC dI cy s.heap.size a_t p1 p2 v_t_isKept v_t_bestPost v_t_mostSeen v_t_taped v_t_from v_t_to v_t_isWrong f_t_s r15 w16 hc17) (cwV 2 hts gX8_bather_X8_adds rfl rfl rfl kdX8_adds ⟨Nat.le_of_ble_eq_true rfl, Nat.le_of_ble_eq_true rfl⟩) (bb_preVw (va_recv hK hP (ci := 7) (q0 := 0) rfl rfl) (hP.sub (ws' := [((a_t 0), oX8 a_t v_t_isKept v_t_bestPost v_t_mostSeen v_t_taped v_t_from v_t_to v_t_isWrong), ((a_t 1), .inl (cy 0, 155, .inl f_t_s))]) [0, 2] rfl) hK (hD.sub (ws' := [((a_t 0), oX8 a_t v_t_isKept v_t_bestPost v_t_mostSeen v_t_taped v_t_from v_t_to v_t_isWrong), ((a_t 1), .inl (cy 0, 155, .inl f_t_s))]) [0, 2] (by decide) rfl)) rfl rfl hl.1 rfl (lv_room (Nat.le_of_ble_eq_true rfl)) dX8_bather_42 ⟨Nat.zero_le _, Nat.zero_le _⟩) hP hD hS hA [0, 2] [1] rfl rfl (by decide) (by decide) (fun H locs hP hD hS => ?_)
        have hP : va_P (dC, dI) vwCl [((a_t 5), .inl (cy 0, 7, .inl f_t_found)), ((a_t 0), oX8 a_t v_t_isKept v_t_bestPost v_t_mostSeen v_t_taped v_t_from v_t_to v_t_isWrong), ((a_t 1), .inl (cy 0, 155, .inl w16))] H := hP
        have hD : va_D A [((a_t 5), .inl (cy 0, 7, .inl f_t_found)), ((a_t 0), oX8 a_t v_t_isKept v_t_bestPost v_t_mostSeen v_t_taped v_t_from v_t_to v_t_isWrong), ((a_t 1), .inl (cy 0, 155, .inl w16))] := hD
        obtain ⟨rfl, rfl, rfl⟩ := bb_some3 h
        have hP9 := hP.sub (ws' := [((a_t 0), oX8 a_t v_t_isKept v_t_bestPost v_t_mostSeen v_t_taped v_t_from v_t_to v_t_isWrong), ((a_t 5), .inl (cy 0, 7, .inl f_t_found)), ((a_t 1), .inl (cy 0, 155, .inl w16))]) [1, 0, 2] rfl
        have hD9 := hD.sub (ws' := [((a_t 0), oX8 a_t v_t_isKept v_t_bestPost v_t_mostSeen v_t_taped v_t_from v_t_to v_t_isWrong), ((a_t 5), .inl (cy 0, 7, .inl f_t_found)), ((a_t 1), .inl (cy 0, 155, .inl w16))]) [1, 0, 2] (by decide) rfl
        exact W.iret hx hb hr (fun t ht hW => ⟨⟨_, (), rfl, rfl, by rw [ht]; exact hP9, va_K.moved hW.alike hK, hD9⟩, hS.F ht⟩) hS.2.2 dX8_bather_45
      · replace h := bb_ifp c14 h
        refine lv_aload_n hx hb dX8_bather_31 rfl (lv_at hl 0 rfl) ?_
        refine lv_iconst (v := (1 : Int32)) hx hb dX8_bather_32 (by decide) ?_
        obtain ⟨r18, w19, hc20, h⟩ := bb_b2_o h
        refine bb_cwi (wr := [((a_t 1), .inl (cy 0, 155, .inl f_t_s))]) (w1 := [((a_t 0), oX8 a_t v_t_isKept v_t_bestPost v_t_mostSeen v_t_taped v_t_from v_t_to v_t_isWrong), ((a_t 5), .inl (cy 0, 7, .inl w19))]) (va_runV (As := [.int (1 : Int32)]) (rest := []) ⟨hx, hb, hml, hown, hts⟩ (kX8_finds l dC dI cy s.heap.size a_t (1 : Int32) v_t_isKept v_t_bestPost v_t_mostSeen v_t_taped v_t_from v_t_to v_t_isWrong f_t_found r18 w19 hc20) (cwV 1 hts gX8_bather_X8_finds rfl rfl rfl kdX8_finds ⟨Nat.le_of_ble_eq_true rfl, Nat.le_of_ble_eq_true rfl⟩) (bb_preVw (va_recv hK hP (ci := 7) (q0 := 0) rfl rfl) (hP.sub (ws' := [((a_t 0), oX8 a_t v_t_isKept v_t_bestPost v_t_mostSeen v_t_taped v_t_from v_t_to v_t_isWrong), ((a_t 5), .inl (cy 0, 7, .inl f_t_found))]) [0, 1] rfl) hK (hD.sub (ws' := [((a_t 0), oX8 a_t v_t_isKept v_t_bestPost v_t_mostSeen v_t_taped v_t_from v_t_to v_t_isWrong), ((a_t 5), .inl (cy 0, 7, .inl f_t_found))]) [0, 1] (by decide) rfl)) rfl rfl hl.1 rfl (lv_room (Nat.le_of_ble_eq_true rfl)) dX8_bather_33 ⟨Nat.zero_le _, Nat.zero_le _⟩) hP hD hS hA [0, 1] [2] rfl rfl (by decide) (by decide) (fun H locs hP hD hS => ?_)
        have hP : va_P (dC, dI) vwCl [((a_t 1), .inl (cy 0, 155, .inl f_t_s)), ((a_t 0), oX8 a_t v_t_isKept v_t_bestPost v_t_mostSeen v_t_taped v_t_from v_t_to v_t_isWrong), ((a_t 5), .inl (cy 0, 7, .inl w19))] H := hP
        have hD : va_D A [((a_t 1), .inl (cy 0, 155, .inl f_t_s)), ((a_t 0), oX8 a_t v_t_isKept v_t_bestPost v_t_mostSeen v_t_taped v_t_from v_t_to v_t_isWrong), ((a_t 5), .inl (cy 0, 7, .inl w19))] := hD
        refine lv_goto (tgt := 45) hx hb dX8_bather_36 (by decide) ?_
        obtain ⟨rfl, rfl, rfl⟩ := bb_some3 h
        have hP9 := hP.sub (ws' := [((a_t 0), oX8 a_t v_t_isKept v_t_bestPost v_t_mostSeen v_t_taped v_t_from v_t_to v_t_isWrong), ((a_t 5), .inl (cy 0, 7, .inl w19)), ((a_t 1), .inl (cy 0, 155, .inl f_t_s))]) [1, 2, 0] rfl
        have hD9 := hD.sub (ws' := [((a_t 0), oX8 a_t v_t_isKept v_t_bestPost v_t_mostSeen v_t_taped v_t_from v_t_to v_t_isWrong), ((a_t 5), .inl (cy 0, 7, .inl w19)), ((a_t 1), .inl (cy 0, 155, .inl f_t_s))]) [1, 2, 0] (by decide) rfl
        exact W.iret hx hb hr (fun t ht hW => ⟨⟨_, (), rfl, rfl, by rw [ht]; exact hP9, va_K.moved hW.alike hK, hD9⟩, hS.F ht⟩) hS.2.2 dX8_bather_45
    · replace h := bb_ifp c13 h
      refine lv_aload_n hx hb dX8_bather_14 rfl (lv_at hl 0 rfl) ?_
      refine lv_iconst (v := (0 : Int32)) hx hb dX8_bather_15 (by decide) ?_
      obtain ⟨r21, w22, hc23, h⟩ := bb_b2_o h
      refine bb_cwi (wr := [((a_t 1), .inl (cy 0, 155, .inl f_t_s))]) (w1 := [((a_t 0), oX8 a_t v_t_isKept v_t_bestPost v_t_mostSeen v_t_taped v_t_from v_t_to v_t_isWrong), ((a_t 5), .inl (cy 0, 7, .inl w22))]) (va_runV (As := [.int (0 : Int32)]) (rest := []) ⟨hx, hb, hml, hown, hts⟩ (kX8_finds l dC dI cy s.heap.size a_t (0 : Int32) v_t_isKept v_t_bestPost v_t_mostSeen v_t_taped v_t_from v_t_to v_t_isWrong f_t_found r21 w22 hc23) (cwV 1 hts gX8_bather_X8_finds rfl rfl rfl kdX8_finds ⟨Nat.le_of_ble_eq_true rfl, Nat.le_of_ble_eq_true rfl⟩) (bb_preVw (va_recv hK hP (ci := 7) (q0 := 0) rfl rfl) (hP.sub (ws' := [((a_t 0), oX8 a_t v_t_isKept v_t_bestPost v_t_mostSeen v_t_taped v_t_from v_t_to v_t_isWrong), ((a_t 5), .inl (cy 0, 7, .inl f_t_found))]) [0, 1] rfl) hK (hD.sub (ws' := [((a_t 0), oX8 a_t v_t_isKept v_t_bestPost v_t_mostSeen v_t_taped v_t_from v_t_to v_t_isWrong), ((a_t 5), .inl (cy 0, 7, .inl f_t_found))]) [0, 1] (by decide) rfl)) rfl rfl hl.1 rfl (lv_room (Nat.le_of_ble_eq_true rfl)) dX8_bather_16 ⟨Nat.zero_le _, Nat.zero_le _⟩) hP hD hS hA [0, 1] [2] rfl rfl (by decide) (by decide) (fun H locs hP hD hS => ?_)
      have hP : va_P (dC, dI) vwCl [((a_t 1), .inl (cy 0, 155, .inl f_t_s)), ((a_t 0), oX8 a_t v_t_isKept v_t_bestPost v_t_mostSeen v_t_taped v_t_from v_t_to v_t_isWrong), ((a_t 5), .inl (cy 0, 7, .inl w22))] H := hP
      have hD : va_D A [((a_t 1), .inl (cy 0, 155, .inl f_t_s)), ((a_t 0), oX8 a_t v_t_isKept v_t_bestPost v_t_mostSeen v_t_taped v_t_from v_t_to v_t_isWrong), ((a_t 5), .inl (cy 0, 7, .inl w22))] := hD
      obtain ⟨rfl, rfl, rfl⟩ := bb_some3 h
      have hP9 := hP.sub (ws' := [((a_t 0), oX8 a_t v_t_isKept v_t_bestPost v_t_mostSeen v_t_taped v_t_from v_t_to v_t_isWrong), ((a_t 5), .inl (cy 0, 7, .inl w22)), ((a_t 1), .inl (cy 0, 155, .inl f_t_s))]) [1, 2, 0] rfl
      have hD9 := hD.sub (ws' := [((a_t 0), oX8 a_t v_t_isKept v_t_bestPost v_t_mostSeen v_t_taped v_t_from v_t_to v_t_isWrong), ((a_t 5), .inl (cy 0, 7, .inl w22)), ((a_t 1), .inl (cy 0, 155, .inl f_t_s))]) [1, 2, 0] (by decide) rfl
      exact W.iret hx hb hr (fun t ht hW => ⟨⟨_, (), rfl, rfl, by rw [ht]; exact hP9, va_K.moved hW.alike hK, hD9⟩, hS.F ht⟩) hS.2.2 dX8_bather_19
/-! X8_isCaught -/
def uX8_isCaught (nn : Nat) (p1 : Int32) (f_t_s : Nat → Int32) : Option (Int32) :=
  bb_b1 (uX8_isIn p1 f_t_s) (fun (r1 : Int32) => (if r1 = 0 then some (0 : Int32) else bb_b1 (uX8_its p1 (1 : Int32) f_t_s) (fun (r6 : Int32) => bb_b1 (uX8_isSeen nn r6 f_t_s) (fun (r9 : Int32) => (if r9 = 0 then some (0 : Int32) else some (1 : Int32))))))
theorem kdX8_isCaught : yX8_isCaught.cls = RX8 ∧ yX8_isCaught.cls ≠ "java/lang/invoke/MethodHandle" ∧ yX8_isCaught.cls ≠ "java/lang/invoke/VarHandle" ∧ (parseMethodDescriptor yX8_isCaught.desc).map (fun d => d.parameters.length) = some 1 := by decide +kernel
set_option maxHeartbeats 4000000 in
set_option maxRecDepth 100000 in
theorem kX8_isCaught (l : Launch) (dC : Nat → ClassId) (dI : Nat → Nat → Nat) (cy : Nat → ClassId) (a_t : Nat → Nat) (p1 : Int32) (v_t_isKept : Int32) (v_t_bestPost : Int32) (v_t_mostSeen : Int32) (v_t_taped : Int32) (v_t_from : Int32) (v_t_to : Int32) (v_t_isWrong : Int32) (f_t_s : Nat → Int32) (nn : Nat) (r : Int32) (h : uX8_isCaught nn p1 f_t_s = some r) : Met l yX8_isCaught wsX8_isCaught ({ frames := 5, cells := 0, slots := 0, locals := 108 }) (va_Pc [.ref (a_t 0), .int p1] (fun U => va_P (dC, dI) vwCl [((a_t 0), oX8 a_t v_t_isKept v_t_bestPost v_t_mostSeen v_t_taped v_t_from v_t_to v_t_isWrong), ((a_t 1), .inl (cy 0, 155, .inl f_t_s))] U.heap ∧ va_K (dC, dI) vwCl (tyX cy) U)) (vp_Si (fun r2 => r = r2 ∧ narrow .boolean (.int r2) = .int r2)) 0 0 (fun _ => False) := by
  refine Met.ofW (cc := cX8_isCaught) (maxL := 2) (ret := (some .boolean)) (by decide) rfl ?_
  intro p e s m args below meth c s₁ B hml hv
  obtain ⟨rfl, hP, hK⟩ := hv
  have hx := B.exec
  have hb := B.bytes
  have hr := B.returns
  have hts := atoms_spec (ws := wsX8_isCaught) B.pre
  have hown : s.vm.findClass RX8 = some m.cls := findClass_of_methodNamed B.named
  have hlocks := B.notSynchronized
  have hl := lv_entry ([.ref (a_t 0), .int p1]) (n := 2) (Nat.le_of_ble_eq_true rfl)
  rw [lg_entry_eq]
  generalize (lg_sl ([.ref (a_t 0), .int p1]) ++ List.replicate (2 - (lg_sl ([.ref (a_t 0), .int p1])).length) Slot.unset).toArray = ls at hl ⊢
  have hl : lv_has ls 2 [(0, .ref (a_t 0)), (1, .int p1)] := hl
  unfold uX8_isCaught at h
  refine bb_cap (fun WW toW ofW => ?_)
  refine lv_aload_n hx hb dX8_isCaught_0 rfl (lv_at hl 0 rfl) ?_
  refine lv_iload_n hx hb dX8_isCaught_1 rfl (lv_at hl 1 rfl) ?_
  obtain ⟨r1, hc2, h⟩ := bb_b1_o h
  refine vp_callSi (W.runV (As := [.int p1]) (rest := []) ⟨hx, hb, hml, hown, hts⟩ (kX8_isIn l dC dI cy a_t p1 v_t_isKept v_t_bestPost v_t_mostSeen v_t_taped v_t_from v_t_to v_t_isWrong f_t_s r1 hc2) (cwV 1 hts gX8_isCaught_X8_isIn rfl rfl rfl kdX8_isIn ⟨Nat.le_of_ble_eq_true rfl, Nat.le_of_ble_eq_true rfl⟩) (bb_preV (va_recv hK hP (ci := 7) (q0 := 0) rfl rfl) hP hK) rfl rfl hl.1 rfl (lv_room (Nat.le_of_ble_eq_true rfl)) dX8_isCaught_2 ⟨Nat.zero_le _, Nat.zero_le _⟩) (fun t3 et3 => ?_)
  obtain ⟨rfl, hz4⟩ := et3
  refine lv_if_eq (tgt := 25) hx hb dX8_isCaught_5 (by decide) (fun c5 => ?_) (fun c5 => ?_)
  · replace h := bb_ifp c5 h
    refine lv_iconst (v := (0 : Int32)) hx hb dX8_isCaught_25 (by decide) ?_
    obtain rfl := bb_some1 h
    exact W.zret hx hb hr (by decide) (fun t ht hW => ⟨_, rfl, ⟨rfl, (by decide)⟩, ht⟩) (fun q hq => by cases hq) dX8_isCaught_26
  · replace h := bb_ifn c5 h
    refine lv_aload_n hx hb dX8_isCaught_8 rfl (lv_at hl 0 rfl) ?_
    refine lv_aload_n hx hb dX8_isCaught_9 rfl (lv_at hl 0 rfl) ?_
    refine lv_iload_n hx hb dX8_isCaught_10 rfl (lv_at hl 1 rfl) ?_
    refine lv_iconst (v := (1 : Int32)) hx hb dX8_isCaught_11 (by decide) ?_
    obtain ⟨r6, hc7, h⟩ := bb_b1_o h
    refine vp_callSi (W.runV (As := [.int p1, .int (1 : Int32)]) (rest := [.ref (a_t 0)]) ⟨hx, hb, hml, hown, hts⟩ (kX8_its l dC dI cy a_t p1 (1 : Int32) v_t_isKept v_t_bestPost v_t_mostSeen v_t_taped v_t_from v_t_to v_t_isWrong f_t_s r6 hc7) (cwV 2 hts gX8_isCaught_X8_its rfl rfl rfl kdX8_its ⟨Nat.le_of_ble_eq_true rfl, Nat.le_of_ble_eq_true rfl⟩) (bb_preV (va_recv hK hP (ci := 7) (q0 := 0) rfl rfl) hP hK) rfl rfl hl.1 rfl (lv_room (Nat.le_of_ble_eq_true rfl)) dX8_isCaught_12 ⟨Nat.zero_le _, Nat.zero_le _⟩) (fun t8 et8 => ?_)
    obtain rfl := et8
    obtain ⟨r9, hc10, h⟩ := bb_b1_o h
    refine vp_callSi (W.runV (As := [.int r6]) (rest := []) ⟨hx, hb, hml, hown, hts⟩ (kX8_isSeen l dC dI cy a_t r6 v_t_isKept v_t_bestPost v_t_mostSeen v_t_taped v_t_from v_t_to v_t_isWrong f_t_s nn r9 hc10) (cwV 1 hts gX8_isCaught_X8_isSeen rfl rfl rfl kdX8_isSeen ⟨Nat.le_of_ble_eq_true rfl, Nat.le_of_ble_eq_true rfl⟩) (bb_preV (va_recv hK hP (ci := 7) (q0 := 0) rfl rfl) hP hK) rfl rfl hl.1 rfl (lv_room (Nat.le_of_ble_eq_true rfl)) dX8_isCaught_15 ⟨Nat.zero_le _, Nat.zero_le _⟩) (fun t11 et11 => ?_)
    obtain ⟨rfl, hz12⟩ := et11
    refine lv_if_eq (tgt := 25) hx hb dX8_isCaught_18 (by decide) (fun c13 => ?_) (fun c13 => ?_)
    · replace h := bb_ifp c13 h
      refine lv_iconst (v := (0 : Int32)) hx hb dX8_isCaught_25 (by decide) ?_
      obtain rfl := bb_some1 h
      exact W.zret hx hb hr (by decide) (fun t ht hW => ⟨_, rfl, ⟨rfl, (by decide)⟩, ht⟩) (fun q hq => by cases hq) dX8_isCaught_26
    · replace h := bb_ifn c13 h
      refine lv_iconst (v := (1 : Int32)) hx hb dX8_isCaught_21 (by decide) ?_
      refine lv_goto (tgt := 26) hx hb dX8_isCaught_22 (by decide) ?_
      obtain rfl := bb_some1 h
      exact W.zret hx hb hr (by decide) (fun t ht hW => ⟨_, rfl, ⟨rfl, (by decide)⟩, ht⟩) (fun q hq => by cases hq) dX8_isCaught_26
/-! X8_of -/
def uX8_of (nn : Nat) (p1 : Int32) (p2 : Int32) (f_t_found : Nat → Int32) (f_t_s : Nat → Int32) : Option (Int32 × (Nat → Int32)) :=
  bb_b1 (uX8_isBather p1 f_t_s) (fun (r1 : Int32) => (if r1 = 0 then bb_b2 (uX8_finds (0 : Int32) f_t_found) (fun (r6 : Int32) (w7 : Nat → Int32) => some (r6, w7)) else bb_b1 (uX8_in p2.toInt64 (0 : Int64) (6 : Int64)) (fun (r9 : Int32) => (if r9 = 0 then bb_b2 (uX8_finds (0 : Int32) f_t_found) (fun (r35 : Int32) (w36 : Nat → Int32) => some (r35, w36)) else (if (5 : Int32) ≤ p2 then (if p2 = (6 : Int32) then bb_b1 (uX8_isCaught nn p1 f_t_s) (fun (r27 : Int32) => (if r27 = 0 then some ((0 : Int32), f_t_found) else some ((1 : Int32), f_t_found))) else bb_b1 (uX8_isIn p1 f_t_s) (fun (r16 : Int32) => (if r16 = 0 then bb_b1 (uX8_its p1 (1 : Int32) f_t_s) (fun (r21 : Int32) => some (r21, f_t_found)) else bb_b1 (uX8_stepOf nn p1 f_t_s) (fun (r24 : Int32) => some (r24, f_t_found))))) else bb_b1 (uX8_its p1 p2 f_t_s) (fun (r32 : Int32) => some (r32, f_t_found)))))))
theorem kdX8_of : yX8_of.cls = RX8 ∧ yX8_of.cls ≠ "java/lang/invoke/MethodHandle" ∧ yX8_of.cls ≠ "java/lang/invoke/VarHandle" ∧ (parseMethodDescriptor yX8_of.desc).map (fun d => d.parameters.length) = some 2 := by decide +kernel
set_option maxHeartbeats 4000000 in
set_option maxRecDepth 100000 in
theorem kX8_of (l : Launch) (dC : Nat → ClassId) (dI : Nat → Nat → Nat) (cy : Nat → ClassId) (sz : Nat) (a_t : Nat → Nat) (p1 : Int32) (p2 : Int32) (v_t_isKept : Int32) (v_t_bestPost : Int32) (v_t_mostSeen : Int32) (v_t_taped : Int32) (v_t_from : Int32) (v_t_to : Int32) (v_t_isWrong : Int32) (f_t_found : Nat → Int32) (f_t_s : Nat → Int32) (nn : Nat) (r : Int32) (f_t_found_o : Nat → Int32) (h : uX8_of nn p1 p2 f_t_found f_t_s = some (r, f_t_found_o)) : Met l yX8_of wsX8_of ({ frames := 8, cells := 0, slots := 0, locals := 178 }) (va_Pc [.ref (a_t 0), .int p1, .int p2] (fun U => U.heap.size = sz ∧ va_P (dC, dI) vwCl [((a_t 0), oX8 a_t v_t_isKept v_t_bestPost v_t_mostSeen v_t_taped v_t_from v_t_to v_t_isWrong), ((a_t 5), .inl (cy 0, 7, .inl f_t_found)), ((a_t 1), .inl (cy 0, 155, .inl f_t_s))] U.heap ∧ va_K (dC, dI) vwCl (tyX cy) U ∧ va_D (fun _ => True) [((a_t 0), oX8 a_t v_t_isKept v_t_bestPost v_t_mostSeen v_t_taped v_t_from v_t_to v_t_isWrong), ((a_t 5), .inl (cy 0, 7, .inl f_t_found)), ((a_t 1), .inl (cy 0, 155, .inl f_t_s))])) (va_Qi (fun (r2 : Int32) (_ : Unit) => r = r2) (fun _ t => va_P (dC, dI) vwCl [((a_t 0), oX8 a_t v_t_isKept v_t_bestPost v_t_mostSeen v_t_taped v_t_from v_t_to v_t_isWrong), ((a_t 5), .inl (cy 0, 7, .inl f_t_found_o)), ((a_t 1), .inl (cy 0, 155, .inl f_t_s))] t.heap ∧ va_K (dC, dI) vwCl (tyX cy) t ∧ va_D (va_A [((a_t 0), oX8 a_t v_t_isKept v_t_bestPost v_t_mostSeen v_t_taped v_t_from v_t_to v_t_isWrong), ((a_t 5), .inl (cy 0, 7, .inl f_t_found)), ((a_t 1), .inl (cy 0, 155, .inl f_t_s))] sz) [((a_t 0), oX8 a_t v_t_isKept v_t_bestPost v_t_mostSeen v_t_taped v_t_from v_t_to v_t_isWrong), ((a_t 5), .inl (cy 0, 7, .inl f_t_found_o)), ((a_t 1), .inl (cy 0, 155, .inl f_t_s))]) (va_A [((a_t 0), oX8 a_t v_t_isKept v_t_bestPost v_t_mostSeen v_t_taped v_t_from v_t_to v_t_isWrong), ((a_t 5), .inl (cy 0, 7, .inl f_t_found)), ((a_t 1), .inl (cy 0, 155, .inl f_t_s))] sz)) 0 0 (va_A [((a_t 0), oX8 a_t v_t_isKept v_t_bestPost v_t_mostSeen v_t_taped v_t_from v_t_to v_t_isWrong), ((a_t 5), .inl (cy 0, 7, .inl f_t_found)), ((a_t 1), .inl (cy 0, 155, .inl f_t_s))] sz) := by
  refine Met.ofW (cc := cX8_of) (maxL := 3) (ret := (some .int)) (by decide) rfl ?_
  intro p e s m args below meth c s₁ B hml hv
  obtain ⟨rfl, hsz, hP, hK, hD0⟩ := hv
  have hx := B.exec
  have hb := B.bytes
  have hr := B.returns
  have hts := atoms_spec (ws := wsX8_of) B.pre
  have hown : s.vm.findClass RX8 = some m.cls := findClass_of_methodNamed B.named
  have hlocks := B.notSynchronized
  have lk1 := hts (Cond.constantLong RX8 115 (6)) (List.mem_of_getElem? (i := 1) rfl)
  subst hsz
  have hD := hD0.self (sz := s.heap.size)
  generalize hAe : va_A [((a_t 0), oX8 a_t v_t_isKept v_t_bestPost v_t_mostSeen v_t_taped v_t_from v_t_to v_t_isWrong), ((a_t 5), .inl (cy 0, 7, .inl f_t_found)), ((a_t 1), .inl (cy 0, 155, .inl f_t_s))] s.heap.size = A at hD ⊢
  have hA : ∀ q : Nat, s.heap.size ≤ q → A q := fun q h => by rw [← hAe]; exact Or.inr h
  have hS : va_S A s.heap s.heap [] := va_S.rf
  have hP : va_P (dC, dI) vwCl [((a_t 0), oX8 a_t v_t_isKept v_t_bestPost v_t_mostSeen v_t_taped v_t_from v_t_to v_t_isWrong), ((a_t 5), .inl (cy 0, 7, .inl f_t_found)), ((a_t 1), .inl (cy 0, 155, .inl f_t_s))] s.heap := hP
  have hl := lv_entry ([.ref (a_t 0), .int p1, .int p2]) (n := 3) (Nat.le_of_ble_eq_true rfl)
  rw [lg_entry_eq]
  generalize (lg_sl ([.ref (a_t 0), .int p1, .int p2]) ++ List.replicate (3 - (lg_sl ([.ref (a_t 0), .int p1, .int p2])).length) Slot.unset).toArray = ls at hl ⊢
  have hl : lv_has ls 3 [(0, .ref (a_t 0)), (1, .int p1), (2, .int p2)] := hl
  unfold uX8_of at h
  refine bb_cap (fun WW toW ofW => ?_)
  refine lv_aload_n hx hb dX8_of_0 rfl (lv_at hl 0 rfl) ?_
  refine lv_iload_n hx hb dX8_of_1 rfl (lv_at hl 1 rfl) ?_
  obtain ⟨r1, hc2, h⟩ := bb_b1_o h
  refine vp_callSi (W.runV (As := [.int p1]) (rest := []) ⟨hx, hb, hml, hown, hts⟩ (kX8_isBather l dC dI cy a_t p1 v_t_isKept v_t_bestPost v_t_mostSeen v_t_taped v_t_from v_t_to v_t_isWrong f_t_s r1 hc2) (cwV 1 hts gX8_of_X8_isBather rfl rfl rfl kdX8_isBather ⟨Nat.le_of_ble_eq_true rfl, Nat.le_of_ble_eq_true rfl⟩) (bb_preV (va_recv hK hP (ci := 7) (q0 := 0) rfl rfl) (hP.sub (ws' := [((a_t 0), oX8 a_t v_t_isKept v_t_bestPost v_t_mostSeen v_t_taped v_t_from v_t_to v_t_isWrong), ((a_t 1), .inl (cy 0, 155, .inl f_t_s))]) [0, 2] rfl) hK) rfl rfl hl.1 rfl (lv_room (Nat.le_of_ble_eq_true rfl)) dX8_of_2 ⟨Nat.zero_le _, Nat.zero_le _⟩) (fun t3 et3 => ?_)
  obtain ⟨rfl, hz4⟩ := et3
  refine lv_if_eq (tgt := 20) hx hb dX8_of_5 (by decide) (fun c5 => ?_) (fun c5 => ?_)
  · replace h := bb_ifp c5 h
    refine lv_aload_n hx hb dX8_of_20 rfl (lv_at hl 0 rfl) ?_
    refine lv_iconst (v := (0 : Int32)) hx hb dX8_of_21 (by decide) ?_
    obtain ⟨r6, w7, hc8, h⟩ := bb_b2_o h
    refine bb_cwi (wr := [((a_t 1), .inl (cy 0, 155, .inl f_t_s))]) (w1 := [((a_t 0), oX8 a_t v_t_isKept v_t_bestPost v_t_mostSeen v_t_taped v_t_from v_t_to v_t_isWrong), ((a_t 5), .inl (cy 0, 7, .inl w7))]) (va_runV (As := [.int (0 : Int32)]) (rest := []) ⟨hx, hb, hml, hown, hts⟩ (kX8_finds l dC dI cy s.heap.size a_t (0 : Int32) v_t_isKept v_t_bestPost v_t_mostSeen v_t_taped v_t_from v_t_to v_t_isWrong f_t_found r6 w7 hc8) (cwV 1 hts gX8_of_X8_finds rfl rfl rfl kdX8_finds ⟨Nat.le_of_ble_eq_true rfl, Nat.le_of_ble_eq_true rfl⟩) (bb_preVw (va_recv hK hP (ci := 7) (q0 := 0) rfl rfl) (hP.sub (ws' := [((a_t 0), oX8 a_t v_t_isKept v_t_bestPost v_t_mostSeen v_t_taped v_t_from v_t_to v_t_isWrong), ((a_t 5), .inl (cy 0, 7, .inl f_t_found))]) [0, 1] rfl) hK (hD.sub (ws' := [((a_t 0), oX8 a_t v_t_isKept v_t_bestPost v_t_mostSeen v_t_taped v_t_from v_t_to v_t_isWrong), ((a_t 5), .inl (cy 0, 7, .inl f_t_found))]) [0, 1] (by decide) rfl)) rfl rfl hl.1 rfl (lv_room (Nat.le_of_ble_eq_true rfl)) dX8_of_22 ⟨Nat.zero_le _, Nat.zero_le _⟩) hP hD hS hA [0, 1] [2] rfl rfl (by decide) (by decide) (fun H locs hP hD hS => ?_)
    have hP : va_P (dC, dI) vwCl [((a_t 1), .inl (cy 0, 155, .inl f_t_s)), ((a_t 0), oX8 a_t v_t_isKept v_t_bestPost v_t_mostSeen v_t_taped v_t_from v_t_to v_t_isWrong), ((a_t 5), .inl (cy 0, 7, .inl w7))] H := hP
    have hD : va_D A [((a_t 1), .inl (cy 0, 155, .inl f_t_s)), ((a_t 0), oX8 a_t v_t_isKept v_t_bestPost v_t_mostSeen v_t_taped v_t_from v_t_to v_t_isWrong), ((a_t 5), .inl (cy 0, 7, .inl w7))] := hD
    obtain ⟨rfl, rfl⟩ := bb_some2 h
    have hP9 := hP.sub (ws' := [((a_t 0), oX8 a_t v_t_isKept v_t_bestPost v_t_mostSeen v_t_taped v_t_from v_t_to v_t_isWrong), ((a_t 5), .inl (cy 0, 7, .inl w7)), ((a_t 1), .inl (cy 0, 155, .inl f_t_s))]) [1, 2, 0] rfl
    have hD9 := hD.sub (ws' := [((a_t 0), oX8 a_t v_t_isKept v_t_bestPost v_t_mostSeen v_t_taped v_t_from v_t_to v_t_isWrong), ((a_t 5), .inl (cy 0, 7, .inl w7)), ((a_t 1), .inl (cy 0, 155, .inl f_t_s))]) [1, 2, 0] (by decide) rfl
    exact W.iret hx hb hr (fun t ht hW => ⟨⟨_, (), rfl, rfl, by rw [ht]; exact hP9, va_K.moved hW.alike hK, hD9⟩, hS.F ht⟩) hS.2.2 dX8_of_25
  · replace h := bb_ifn c5 h
    refine lv_iload_n hx hb dX8_of_8 rfl (lv_at hl 2 rfl) ?_
    refine lv_i2l hx hb dX8_of_9 rfl ?_
    refine lv_lconst (v := (0 : Int64)) hx hb dX8_of_10 (by decide) ?_
    refine lv_ldc2 (v := (6 : Int64)) hx hb hown lk1 dX8_of_11 ?_
    obtain ⟨r9, hc10, h⟩ := bb_b1_o h
    refine vp_callSi (W.runS (As := [.long p2.toInt64, .long (0 : Int64), .long (6 : Int64)]) (rest := []) ⟨hx, hb, hml, hown, hts⟩ (kX8_in l dC dI cy p2.toInt64 (0 : Int64) (6 : Int64) r9 hc10) (va_cwS 3 hts gX8_of_X8_in rfl rfl rfl kdX8_in ⟨Nat.le_of_ble_eq_true rfl, Nat.le_of_ble_eq_true rfl⟩) (bb_preS (hP.sub (ws' := []) [] rfl) hK) rfl rfl hl.1 rfl (lv_room (Nat.le_of_ble_eq_true rfl)) dX8_of_14 ⟨Nat.zero_le _, Nat.zero_le _⟩) (fun t11 et11 => ?_)
    obtain ⟨rfl, hz12⟩ := et11
    refine lv_if_ne (tgt := 26) hx hb dX8_of_17 (by decide) (fun c13 => ?_) (fun c13 => ?_)
    · replace h := bb_ifn c13 h
      refine lv_iload_n hx hb dX8_of_26 rfl (lv_at hl 2 rfl) ?_
      refine lv_iconst (v := (5 : Int32)) hx hb dX8_of_27 (by decide) ?_
      refine lv_icmp_ge (tgt := 38) hx hb dX8_of_28 (by decide) (fun c14 => ?_) (fun c14 => ?_)
      · replace h := bb_ifp c14 h
        refine lv_iload_n hx hb dX8_of_38 rfl (lv_at hl 2 rfl) ?_
        refine lv_bipush (v := (6 : Int32)) hx hb dX8_of_39 (by decide) ?_
        refine lv_icmp_ne (tgt := 60) hx hb dX8_of_41 (by decide) (fun c15 => ?_) (fun c15 => ?_)
        · replace h := bb_ifn c15 h
          refine lv_aload_n hx hb dX8_of_60 rfl (lv_at hl 0 rfl) ?_
          refine lv_iload_n hx hb dX8_of_61 rfl (lv_at hl 1 rfl) ?_
          obtain ⟨r16, hc17, h⟩ := bb_b1_o h
          refine vp_callSi (W.runV (As := [.int p1]) (rest := []) ⟨hx, hb, hml, hown, hts⟩ (kX8_isIn l dC dI cy a_t p1 v_t_isKept v_t_bestPost v_t_mostSeen v_t_taped v_t_from v_t_to v_t_isWrong f_t_s r16 hc17) (cwV 1 hts gX8_of_X8_isIn rfl rfl rfl kdX8_isIn ⟨Nat.le_of_ble_eq_true rfl, Nat.le_of_ble_eq_true rfl⟩) (bb_preV (va_recv hK hP (ci := 7) (q0 := 0) rfl rfl) (hP.sub (ws' := [((a_t 0), oX8 a_t v_t_isKept v_t_bestPost v_t_mostSeen v_t_taped v_t_from v_t_to v_t_isWrong), ((a_t 1), .inl (cy 0, 155, .inl f_t_s))]) [0, 2] rfl) hK) rfl rfl hl.1 rfl (lv_room (Nat.le_of_ble_eq_true rfl)) dX8_of_62 ⟨Nat.zero_le _, Nat.zero_le _⟩) (fun t18 et18 => ?_)
          obtain ⟨rfl, hz19⟩ := et18
          refine lv_if_eq (tgt := 76) hx hb dX8_of_65 (by decide) (fun c20 => ?_) (fun c20 => ?_)
          · replace h := bb_ifp c20 h
            refine lv_aload_n hx hb dX8_of_76 rfl (lv_at hl 0 rfl) ?_
            refine lv_iload_n hx hb dX8_of_77 rfl (lv_at hl 1 rfl) ?_
            refine lv_iconst (v := (1 : Int32)) hx hb dX8_of_78 (by decide) ?_
            obtain ⟨r21, hc22, h⟩ := bb_b1_o h
            refine vp_callSi (W.runV (As := [.int p1, .int (1 : Int32)]) (rest := []) ⟨hx, hb, hml, hown, hts⟩ (kX8_its l dC dI cy a_t p1 (1 : Int32) v_t_isKept v_t_bestPost v_t_mostSeen v_t_taped v_t_from v_t_to v_t_isWrong f_t_s r21 hc22) (cwV 2 hts gX8_of_X8_its rfl rfl rfl kdX8_its ⟨Nat.le_of_ble_eq_true rfl, Nat.le_of_ble_eq_true rfl⟩) (bb_preV (va_recv hK hP (ci := 7) (q0 := 0) rfl rfl) (hP.sub (ws' := [((a_t 0), oX8 a_t v_t_isKept v_t_bestPost v_t_mostSeen v_t_taped v_t_from v_t_to v_t_isWrong), ((a_t 1), .inl (cy 0, 155, .inl f_t_s))]) [0, 2] rfl) hK) rfl rfl hl.1 rfl (lv_room (Nat.le_of_ble_eq_true rfl)) dX8_of_79 ⟨Nat.zero_le _, Nat.zero_le _⟩) (fun t23 et23 => ?_)
            obtain rfl := et23
            obtain ⟨rfl, rfl⟩ := bb_some2 h
            have hP9 := hP.sub (ws' := [((a_t 0), oX8 a_t v_t_isKept v_t_bestPost v_t_mostSeen v_t_taped v_t_from v_t_to v_t_isWrong), ((a_t 5), .inl (cy 0, 7, .inl f_t_found)), ((a_t 1), .inl (cy 0, 155, .inl f_t_s))]) [0, 1, 2] rfl
            have hD9 := hD.sub (ws' := [((a_t 0), oX8 a_t v_t_isKept v_t_bestPost v_t_mostSeen v_t_taped v_t_from v_t_to v_t_isWrong), ((a_t 5), .inl (cy 0, 7, .inl f_t_found)), ((a_t 1), .inl (cy 0, 155, .inl f_t_s))]) [0, 1, 2] (by decide) rfl
            exact W.iret hx hb hr (fun t ht hW => ⟨⟨_, (), rfl, rfl, by rw [ht]; exact hP9, va_K.moved hW.alike hK, hD9⟩, hS.F ht⟩) hS.2.2 dX8_of_82
          · replace h := bb_ifn c20 h
            refine lv_aload_n hx hb dX8_of_68 rfl (lv_at hl 0 rfl) ?_
            refine lv_iload_n hx hb dX8_of_69 rfl (lv_at hl 1 rfl) ?_
            obtain ⟨r24, hc25, h⟩ := bb_b1_o h
            refine vp_callSi (W.runV (As := [.int p1]) (rest := []) ⟨hx, hb, hml, hown, hts⟩ (kX8_stepOf l dC dI cy a_t p1 v_t_isKept v_t_bestPost v_t_mostSeen v_t_taped v_t_from v_t_to v_t_isWrong f_t_s nn r24 hc25) (cwV 1 hts gX8_of_X8_stepOf rfl rfl rfl kdX8_stepOf ⟨Nat.le_of_ble_eq_true rfl, Nat.le_of_ble_eq_true rfl⟩) (bb_preV (va_recv hK hP (ci := 7) (q0 := 0) rfl rfl) (hP.sub (ws' := [((a_t 0), oX8 a_t v_t_isKept v_t_bestPost v_t_mostSeen v_t_taped v_t_from v_t_to v_t_isWrong), ((a_t 1), .inl (cy 0, 155, .inl f_t_s))]) [0, 2] rfl) hK) rfl rfl hl.1 rfl (lv_room (Nat.le_of_ble_eq_true rfl)) dX8_of_70 ⟨Nat.zero_le _, Nat.zero_le _⟩) (fun t26 et26 => ?_)
            obtain rfl := et26
            refine lv_goto (tgt := 82) hx hb dX8_of_73 (by decide) ?_
            obtain ⟨rfl, rfl⟩ := bb_some2 h
            have hP9 := hP.sub (ws' := [((a_t 0), oX8 a_t v_t_isKept v_t_bestPost v_t_mostSeen v_t_taped v_t_from v_t_to v_t_isWrong), ((a_t 5), .inl (cy 0, 7, .inl f_t_found)), ((a_t 1), .inl (cy 0, 155, .inl f_t_s))]) [0, 1, 2] rfl
            have hD9 := hD.sub (ws' := [((a_t 0), oX8 a_t v_t_isKept v_t_bestPost v_t_mostSeen v_t_taped v_t_from v_t_to v_t_isWrong), ((a_t 5), .inl (cy 0, 7, .inl f_t_found)), ((a_t 1), .inl (cy 0, 155, .inl f_t_s))]) [0, 1, 2] (by decide) rfl
            exact W.iret hx hb hr (fun t ht hW => ⟨⟨_, (), rfl, rfl, by rw [ht]; exact hP9, va_K.moved hW.alike hK, hD9⟩, hS.F ht⟩) hS.2.2 dX8_of_82
        · replace h := bb_ifp c15 h
          refine lv_aload_n hx hb dX8_of_44 rfl (lv_at hl 0 rfl) ?_
          refine lv_iload_n hx hb dX8_of_45 rfl (lv_at hl 1 rfl) ?_
          obtain ⟨r27, hc28, h⟩ := bb_b1_o h
          refine vp_callSi (W.runV (As := [.int p1]) (rest := []) ⟨hx, hb, hml, hown, hts⟩ (kX8_isCaught l dC dI cy a_t p1 v_t_isKept v_t_bestPost v_t_mostSeen v_t_taped v_t_from v_t_to v_t_isWrong f_t_s nn r27 hc28) (cwV 1 hts gX8_of_X8_isCaught rfl rfl rfl kdX8_isCaught ⟨Nat.le_of_ble_eq_true rfl, Nat.le_of_ble_eq_true rfl⟩) (bb_preV (va_recv hK hP (ci := 7) (q0 := 0) rfl rfl) (hP.sub (ws' := [((a_t 0), oX8 a_t v_t_isKept v_t_bestPost v_t_mostSeen v_t_taped v_t_from v_t_to v_t_isWrong), ((a_t 1), .inl (cy 0, 155, .inl f_t_s))]) [0, 2] rfl) hK) rfl rfl hl.1 rfl (lv_room (Nat.le_of_ble_eq_true rfl)) dX8_of_46 ⟨Nat.zero_le _, Nat.zero_le _⟩) (fun t29 et29 => ?_)
          obtain ⟨rfl, hz30⟩ := et29
          refine lv_if_eq (tgt := 56) hx hb dX8_of_49 (by decide) (fun c31 => ?_) (fun c31 => ?_)
          · replace h := bb_ifp c31 h
            refine lv_iconst (v := (0 : Int32)) hx hb dX8_of_56 (by decide) ?_
            refine lv_goto (tgt := 82) hx hb dX8_of_57 (by decide) ?_
            obtain ⟨rfl, rfl⟩ := bb_some2 h
            have hP9 := hP.sub (ws' := [((a_t 0), oX8 a_t v_t_isKept v_t_bestPost v_t_mostSeen v_t_taped v_t_from v_t_to v_t_isWrong), ((a_t 5), .inl (cy 0, 7, .inl f_t_found)), ((a_t 1), .inl (cy 0, 155, .inl f_t_s))]) [0, 1, 2] rfl
            have hD9 := hD.sub (ws' := [((a_t 0), oX8 a_t v_t_isKept v_t_bestPost v_t_mostSeen v_t_taped v_t_from v_t_to v_t_isWrong), ((a_t 5), .inl (cy 0, 7, .inl f_t_found)), ((a_t 1), .inl (cy 0, 155, .inl f_t_s))]) [0, 1, 2] (by decide) rfl
            exact W.iret hx hb hr (fun t ht hW => ⟨⟨_, (), rfl, rfl, by rw [ht]; exact hP9, va_K.moved hW.alike hK, hD9⟩, hS.F ht⟩) hS.2.2 dX8_of_82
          · replace h := bb_ifn c31 h
            refine lv_iconst (v := (1 : Int32)) hx hb dX8_of_52 (by decide) ?_
            refine lv_goto (tgt := 82) hx hb dX8_of_53 (by decide) ?_
            obtain ⟨rfl, rfl⟩ := bb_some2 h
            have hP9 := hP.sub (ws' := [((a_t 0), oX8 a_t v_t_isKept v_t_bestPost v_t_mostSeen v_t_taped v_t_from v_t_to v_t_isWrong), ((a_t 5), .inl (cy 0, 7, .inl f_t_found)), ((a_t 1), .inl (cy 0, 155, .inl f_t_s))]) [0, 1, 2] rfl
            have hD9 := hD.sub (ws' := [((a_t 0), oX8 a_t v_t_isKept v_t_bestPost v_t_mostSeen v_t_taped v_t_from v_t_to v_t_isWrong), ((a_t 5), .inl (cy 0, 7, .inl f_t_found)), ((a_t 1), .inl (cy 0, 155, .inl f_t_s))]) [0, 1, 2] (by decide) rfl
            exact W.iret hx hb hr (fun t ht hW => ⟨⟨_, (), rfl, rfl, by rw [ht]; exact hP9, va_K.moved hW.alike hK, hD9⟩, hS.F ht⟩) hS.2.2 dX8_of_82
      · replace h := bb_ifn c14 h
        refine lv_aload_n hx hb dX8_of_31 rfl (lv_at hl 0 rfl) ?_
        refine lv_iload_n hx hb dX8_of_32 rfl (lv_at hl 1 rfl) ?_
        refine lv_iload_n hx hb dX8_of_33 rfl (lv_at hl 2 rfl) ?_
        obtain ⟨r32, hc33, h⟩ := bb_b1_o h
        refine vp_callSi (W.runV (As := [.int p1, .int p2]) (rest := []) ⟨hx, hb, hml, hown, hts⟩ (kX8_its l dC dI cy a_t p1 p2 v_t_isKept v_t_bestPost v_t_mostSeen v_t_taped v_t_from v_t_to v_t_isWrong f_t_s r32 hc33) (cwV 2 hts gX8_of_X8_its rfl rfl rfl kdX8_its ⟨Nat.le_of_ble_eq_true rfl, Nat.le_of_ble_eq_true rfl⟩) (bb_preV (va_recv hK hP (ci := 7) (q0 := 0) rfl rfl) (hP.sub (ws' := [((a_t 0), oX8 a_t v_t_isKept v_t_bestPost v_t_mostSeen v_t_taped v_t_from v_t_to v_t_isWrong), ((a_t 1), .inl (cy 0, 155, .inl f_t_s))]) [0, 2] rfl) hK) rfl rfl hl.1 rfl (lv_room (Nat.le_of_ble_eq_true rfl)) dX8_of_34 ⟨Nat.zero_le _, Nat.zero_le _⟩) (fun t34 et34 => ?_)
        obtain rfl := et34
        obtain ⟨rfl, rfl⟩ := bb_some2 h
        have hP9 := hP.sub (ws' := [((a_t 0), oX8 a_t v_t_isKept v_t_bestPost v_t_mostSeen v_t_taped v_t_from v_t_to v_t_isWrong), ((a_t 5), .inl (cy 0, 7, .inl f_t_found)), ((a_t 1), .inl (cy 0, 155, .inl f_t_s))]) [0, 1, 2] rfl
        have hD9 := hD.sub (ws' := [((a_t 0), oX8 a_t v_t_isKept v_t_bestPost v_t_mostSeen v_t_taped v_t_from v_t_to v_t_isWrong), ((a_t 5), .inl (cy 0, 7, .inl f_t_found)), ((a_t 1), .inl (cy 0, 155, .inl f_t_s))]) [0, 1, 2] (by decide) rfl
        exact W.iret hx hb hr (fun t ht hW => ⟨⟨_, (), rfl, rfl, by rw [ht]; exact hP9, va_K.moved hW.alike hK, hD9⟩, hS.F ht⟩) hS.2.2 dX8_of_37
    · replace h := bb_ifp c13 h
      refine lv_aload_n hx hb dX8_of_20 rfl (lv_at hl 0 rfl) ?_
      refine lv_iconst (v := (0 : Int32)) hx hb dX8_of_21 (by decide) ?_
      obtain ⟨r35, w36, hc37, h⟩ := bb_b2_o h
      refine bb_cwi (wr := [((a_t 1), .inl (cy 0, 155, .inl f_t_s))]) (w1 := [((a_t 0), oX8 a_t v_t_isKept v_t_bestPost v_t_mostSeen v_t_taped v_t_from v_t_to v_t_isWrong), ((a_t 5), .inl (cy 0, 7, .inl w36))]) (va_runV (As := [.int (0 : Int32)]) (rest := []) ⟨hx, hb, hml, hown, hts⟩ (kX8_finds l dC dI cy s.heap.size a_t (0 : Int32) v_t_isKept v_t_bestPost v_t_mostSeen v_t_taped v_t_from v_t_to v_t_isWrong f_t_found r35 w36 hc37) (cwV 1 hts gX8_of_X8_finds rfl rfl rfl kdX8_finds ⟨Nat.le_of_ble_eq_true rfl, Nat.le_of_ble_eq_true rfl⟩) (bb_preVw (va_recv hK hP (ci := 7) (q0 := 0) rfl rfl) (hP.sub (ws' := [((a_t 0), oX8 a_t v_t_isKept v_t_bestPost v_t_mostSeen v_t_taped v_t_from v_t_to v_t_isWrong), ((a_t 5), .inl (cy 0, 7, .inl f_t_found))]) [0, 1] rfl) hK (hD.sub (ws' := [((a_t 0), oX8 a_t v_t_isKept v_t_bestPost v_t_mostSeen v_t_taped v_t_from v_t_to v_t_isWrong), ((a_t 5), .inl (cy 0, 7, .inl f_t_found))]) [0, 1] (by decide) rfl)) rfl rfl hl.1 rfl (lv_room (Nat.le_of_ble_eq_true rfl)) dX8_of_22 ⟨Nat.zero_le _, Nat.zero_le _⟩) hP hD hS hA [0, 1] [2] rfl rfl (by decide) (by decide) (fun H locs hP hD hS => ?_)
      have hP : va_P (dC, dI) vwCl [((a_t 1), .inl (cy 0, 155, .inl f_t_s)), ((a_t 0), oX8 a_t v_t_isKept v_t_bestPost v_t_mostSeen v_t_taped v_t_from v_t_to v_t_isWrong), ((a_t 5), .inl (cy 0, 7, .inl w36))] H := hP
      have hD : va_D A [((a_t 1), .inl (cy 0, 155, .inl f_t_s)), ((a_t 0), oX8 a_t v_t_isKept v_t_bestPost v_t_mostSeen v_t_taped v_t_from v_t_to v_t_isWrong), ((a_t 5), .inl (cy 0, 7, .inl w36))] := hD
      obtain ⟨rfl, rfl⟩ := bb_some2 h
      have hP9 := hP.sub (ws' := [((a_t 0), oX8 a_t v_t_isKept v_t_bestPost v_t_mostSeen v_t_taped v_t_from v_t_to v_t_isWrong), ((a_t 5), .inl (cy 0, 7, .inl w36)), ((a_t 1), .inl (cy 0, 155, .inl f_t_s))]) [1, 2, 0] rfl
      have hD9 := hD.sub (ws' := [((a_t 0), oX8 a_t v_t_isKept v_t_bestPost v_t_mostSeen v_t_taped v_t_from v_t_to v_t_isWrong), ((a_t 5), .inl (cy 0, 7, .inl w36)), ((a_t 1), .inl (cy 0, 155, .inl f_t_s))]) [1, 2, 0] (by decide) rfl
      exact W.iret hx hb hr (fun t ht hW => ⟨⟨_, (), rfl, rfl, by rw [ht]; exact hP9, va_K.moved hW.alike hK, hD9⟩, hS.F ht⟩) hS.2.2 dX8_of_25
/-! X8_mayBe -/
def uX8_mayBe (p1 : Int32) (p2 : Int32) : Option (Int32) :=
  (if p1 = (0 : Int32) then bb_b1 (uX8_isKind p2) (fun (r2 : Int32) => some r2) else (if p1 = (1 : Int32) then bb_b1 (uX8_isCell p2) (fun (r7 : Int32) => some r7) else (if p1 = (2 : Int32) then bb_b1 (uX8_isSide p2) (fun (r12 : Int32) => some r12) else (if p1 = (3 : Int32) then bb_b1 (uX8_in p2.toInt64 (0 : Int64) (99 : Int64)) (fun (r17 : Int32) => some r17) else (if p1 = (4 : Int32) then bb_b1 (uX8_in p2.toInt64 (0 : Int64) (7 : Int64)) (fun (r26 : Int32) => (if r26 = 0 then some (0 : Int32) else some (1 : Int32))) else some (0 : Int32))))))
theorem kdX8_mayBe : yX8_mayBe.cls ≠ "java/lang/invoke/MethodHandle" ∧ yX8_mayBe.cls ≠ "java/lang/invoke/VarHandle" ∧ (parseMethodDescriptor yX8_mayBe.desc).map (fun d => d.parameters.length) = some 2 := by decide +kernel
set_option maxHeartbeats 4000000 in
set_option maxRecDepth 100000 in
theorem kX8_mayBe (l : Launch) (dC : Nat → ClassId) (dI : Nat → Nat → Nat) (cy : Nat → ClassId) (p1 : Int32) (p2 : Int32) (r : Int32) (h : uX8_mayBe p1 p2 = some r) : Met l yX8_mayBe wsX8_mayBe ({ frames := 2, cells := 0, slots := 0, locals := 45 }) (va_Pc [.int p1, .int p2] (fun U => va_P (dC, dI) vwCl [] U.heap ∧ va_K (dC, dI) vwCl (tyX cy) U)) (vp_Si (fun r2 => r = r2 ∧ narrow .boolean (.int r2) = .int r2)) 0 0 (fun _ => False) := by
  refine Met.ofW (cc := cX8_mayBe) (maxL := 2) (ret := (some .boolean)) (by decide) rfl ?_
  intro p e s m args below meth c s₁ B hml hv
  obtain ⟨rfl, hP, hK⟩ := hv
  have hx := B.exec
  have hb := B.bytes
  have hr := B.returns
  have hts := atoms_spec (ws := wsX8_mayBe) B.pre
  have hown : s.vm.findClass RX8 = some m.cls := findClass_of_methodNamed B.named
  have hlocks := B.notSynchronized
  have lk1 := hts (Cond.constantLong RX8 166 (99)) (List.mem_of_getElem? (i := 1) rfl)
  have lk2 := hts (Cond.constantLong RX8 83 (7)) (List.mem_of_getElem? (i := 2) rfl)
  have hl := lv_entry ([.int p1, .int p2]) (n := 2) (Nat.le_of_ble_eq_true rfl)
  rw [lg_entry_eq]
  generalize (lg_sl ([.int p1, .int p2]) ++ List.replicate (2 - (lg_sl ([.int p1, .int p2])).length) Slot.unset).toArray = ls at hl ⊢
  have hl : lv_has ls 2 [(0, .int p1), (1, .int p2)] := hl
  unfold uX8_mayBe at h
  refine bb_cap (fun WW toW ofW => ?_)
  refine lv_iload_n hx hb dX8_mayBe_0 rfl (lv_at hl 0 rfl) ?_
  by_cases c1 : p1 = (0 : Int32)
  · replace h := bb_ifp c1 h
    refine lv_tableIn (tgt := 32) (off := 31) hx hb dX8_mayBe_1 (by rw [c1]; decide) (by rw [c1]; decide) (by rw [c1]; decide) (by decide) ?_
    refine lv_iload_n hx hb dX8_mayBe_32 rfl (lv_at hl 1 rfl) ?_
    obtain ⟨r2, hc3, h⟩ := bb_b1_o h
    refine vp_callSi (W.runS (As := [.int p2]) (rest := []) ⟨hx, hb, hml, hown, hts⟩ (kX8_isKind l dC dI cy p2 r2 hc3) (va_cwS 1 hts gX8_mayBe_X8_isKind rfl rfl rfl kdX8_isKind ⟨Nat.le_of_ble_eq_true rfl, Nat.le_of_ble_eq_true rfl⟩) (bb_preS hP hK) rfl rfl hl.1 rfl (lv_room (Nat.le_of_ble_eq_true rfl)) dX8_mayBe_33 ⟨Nat.zero_le _, Nat.zero_le _⟩) (fun t4 et4 => ?_)
    obtain ⟨rfl, hz5⟩ := et4
    obtain rfl := bb_some1 h
    exact W.zret hx hb hr hz5 (fun t ht hW => ⟨_, rfl, ⟨rfl, hz5⟩, ht⟩) (fun q hq => by cases hq) dX8_mayBe_36
  · replace h := bb_ifn c1 h
    by_cases c6 : p1 = (1 : Int32)
    · replace h := bb_ifp c6 h
      refine lv_tableIn (tgt := 37) (off := 36) hx hb dX8_mayBe_1 (by rw [c6]; decide) (by rw [c6]; decide) (by rw [c6]; decide) (by decide) ?_
      refine lv_iload_n hx hb dX8_mayBe_37 rfl (lv_at hl 1 rfl) ?_
      obtain ⟨r7, hc8, h⟩ := bb_b1_o h
      refine vp_callSi (W.runS (As := [.int p2]) (rest := []) ⟨hx, hb, hml, hown, hts⟩ (kX8_isCell l dC dI cy p2 r7 hc8) (va_cwS 1 hts gX8_mayBe_X8_isCell rfl rfl rfl kdX8_isCell ⟨Nat.le_of_ble_eq_true rfl, Nat.le_of_ble_eq_true rfl⟩) (bb_preS hP hK) rfl rfl hl.1 rfl (lv_room (Nat.le_of_ble_eq_true rfl)) dX8_mayBe_38 ⟨Nat.zero_le _, Nat.zero_le _⟩) (fun t9 et9 => ?_)
      obtain ⟨rfl, hz10⟩ := et9
      obtain rfl := bb_some1 h
      exact W.zret hx hb hr hz10 (fun t ht hW => ⟨_, rfl, ⟨rfl, hz10⟩, ht⟩) (fun q hq => by cases hq) dX8_mayBe_41
    · replace h := bb_ifn c6 h
      by_cases c11 : p1 = (2 : Int32)
      · replace h := bb_ifp c11 h
        refine lv_tableIn (tgt := 42) (off := 41) hx hb dX8_mayBe_1 (by rw [c11]; decide) (by rw [c11]; decide) (by rw [c11]; decide) (by decide) ?_
        refine lv_iload_n hx hb dX8_mayBe_42 rfl (lv_at hl 1 rfl) ?_
        obtain ⟨r12, hc13, h⟩ := bb_b1_o h
        refine vp_callSi (W.runS (As := [.int p2]) (rest := []) ⟨hx, hb, hml, hown, hts⟩ (kX8_isSide l dC dI cy p2 r12 hc13) (va_cwS 1 hts gX8_mayBe_X8_isSide rfl rfl rfl kdX8_isSide ⟨Nat.le_of_ble_eq_true rfl, Nat.le_of_ble_eq_true rfl⟩) (bb_preS hP hK) rfl rfl hl.1 rfl (lv_room (Nat.le_of_ble_eq_true rfl)) dX8_mayBe_43 ⟨Nat.zero_le _, Nat.zero_le _⟩) (fun t14 et14 => ?_)
        obtain ⟨rfl, hz15⟩ := et14
        obtain rfl := bb_some1 h
        exact W.zret hx hb hr hz15 (fun t ht hW => ⟨_, rfl, ⟨rfl, hz15⟩, ht⟩) (fun q hq => by cases hq) dX8_mayBe_46
      · replace h := bb_ifn c11 h
        by_cases c16 : p1 = (3 : Int32)
        · replace h := bb_ifp c16 h
          refine lv_tableIn (tgt := 47) (off := 46) hx hb dX8_mayBe_1 (by rw [c16]; decide) (by rw [c16]; decide) (by rw [c16]; decide) (by decide) ?_
          refine lv_iload_n hx hb dX8_mayBe_47 rfl (lv_at hl 1 rfl) ?_
          refine lv_i2l hx hb dX8_mayBe_48 rfl ?_
          refine lv_lconst (v := (0 : Int64)) hx hb dX8_mayBe_49 (by decide) ?_
          refine lv_ldc2 (v := (99 : Int64)) hx hb hown lk1 dX8_mayBe_50 ?_
          obtain ⟨r17, hc18, h⟩ := bb_b1_o h
          refine vp_callSi (W.runS (As := [.long p2.toInt64, .long (0 : Int64), .long (99 : Int64)]) (rest := []) ⟨hx, hb, hml, hown, hts⟩ (kX8_in l dC dI cy p2.toInt64 (0 : Int64) (99 : Int64) r17 hc18) (va_cwS 3 hts gX8_mayBe_X8_in rfl rfl rfl kdX8_in ⟨Nat.le_of_ble_eq_true rfl, Nat.le_of_ble_eq_true rfl⟩) (bb_preS hP hK) rfl rfl hl.1 rfl (lv_room (Nat.le_of_ble_eq_true rfl)) dX8_mayBe_53 ⟨Nat.zero_le _, Nat.zero_le _⟩) (fun t19 et19 => ?_)
          obtain ⟨rfl, hz20⟩ := et19
          obtain rfl := bb_some1 h
          exact W.zret hx hb hr hz20 (fun t ht hW => ⟨_, rfl, ⟨rfl, hz20⟩, ht⟩) (fun q hq => by cases hq) dX8_mayBe_56
        · replace h := bb_ifn c16 h
          have q21 := bb_ne (n := 0) (by decide) c1
          have q22 := bb_ne (n := 1) (by decide) c6
          have q23 := bb_ne (n := 2) (by decide) c11
          have q24 := bb_ne (n := 3) (by decide) c16
          refine lv_tableOut (tgt := 57) hx hb dX8_mayBe_1 (by omega) (by decide) ?_
          refine lv_iload_n hx hb dX8_mayBe_57 rfl (lv_at hl 0 rfl) ?_
          refine lv_iconst (v := (4 : Int32)) hx hb dX8_mayBe_58 (by decide) ?_
          refine lv_icmp_ne (tgt := 78) hx hb dX8_mayBe_59 (by decide) (fun c25 => ?_) (fun c25 => ?_)
          · replace h := bb_ifn c25 h
            refine lv_iconst (v := (0 : Int32)) hx hb dX8_mayBe_78 (by decide) ?_
            obtain rfl := bb_some1 h
            exact W.zret hx hb hr (by decide) (fun t ht hW => ⟨_, rfl, ⟨rfl, (by decide)⟩, ht⟩) (fun q hq => by cases hq) dX8_mayBe_79
          · replace h := bb_ifp c25 h
            refine lv_iload_n hx hb dX8_mayBe_62 rfl (lv_at hl 1 rfl) ?_
            refine lv_i2l hx hb dX8_mayBe_63 rfl ?_
            refine lv_lconst (v := (0 : Int64)) hx hb dX8_mayBe_64 (by decide) ?_
            refine lv_ldc2 (v := (7 : Int64)) hx hb hown lk2 dX8_mayBe_65 ?_
            obtain ⟨r26, hc27, h⟩ := bb_b1_o h
            refine vp_callSi (W.runS (As := [.long p2.toInt64, .long (0 : Int64), .long (7 : Int64)]) (rest := []) ⟨hx, hb, hml, hown, hts⟩ (kX8_in l dC dI cy p2.toInt64 (0 : Int64) (7 : Int64) r26 hc27) (va_cwS 3 hts gX8_mayBe_X8_in rfl rfl rfl kdX8_in ⟨Nat.le_of_ble_eq_true rfl, Nat.le_of_ble_eq_true rfl⟩) (bb_preS hP hK) rfl rfl hl.1 rfl (lv_room (Nat.le_of_ble_eq_true rfl)) dX8_mayBe_68 ⟨Nat.zero_le _, Nat.zero_le _⟩) (fun t28 et28 => ?_)
            obtain ⟨rfl, hz29⟩ := et28
            refine lv_if_eq (tgt := 78) hx hb dX8_mayBe_71 (by decide) (fun c30 => ?_) (fun c30 => ?_)
            · replace h := bb_ifp c30 h
              refine lv_iconst (v := (0 : Int32)) hx hb dX8_mayBe_78 (by decide) ?_
              obtain rfl := bb_some1 h
              exact W.zret hx hb hr (by decide) (fun t ht hW => ⟨_, rfl, ⟨rfl, (by decide)⟩, ht⟩) (fun q hq => by cases hq) dX8_mayBe_79
            · replace h := bb_ifn c30 h
              refine lv_iconst (v := (1 : Int32)) hx hb dX8_mayBe_74 (by decide) ?_
              refine lv_goto (tgt := 79) hx hb dX8_mayBe_75 (by decide) ?_
              obtain rfl := bb_some1 h
              exact W.zret hx hb hr (by decide) (fun t ht hW => ⟨_, rfl, ⟨rfl, (by decide)⟩, ht⟩) (fun q hq => by cases hq) dX8_mayBe_79
/-! X8_change -/
def uX8_change (p1 : Int32) (p2 : Int32) (p3 : Int32) (f_t_found : Nat → Int32) (f_t_s : Nat → Int32) : Option (Int32 × (Nat → Int32) × (Nat → Int32)) :=
  bb_b1 (uX8_isBather p1 f_t_s) (fun (r1 : Int32) => (if r1 = 0 then bb_b2 (uX8_finds (0 : Int32) f_t_found) (fun (r6 : Int32) (w7 : Nat → Int32) => some (r6, w7, f_t_s)) else bb_b1 (uX8_mayBe p2 p3) (fun (r9 : Int32) => (if r9 = 0 then bb_b2 (uX8_finds (0 : Int32) f_t_found) (fun (r14 : Int32) (w15 : Nat → Int32) => some (r14, w15, f_t_s)) else bb_b2 (uX8_becomes (((105 : Int32) + ((5 : Int32) * p1)) + p2) p3 f_t_s) (fun (r17 : Int32) (w18 : Nat → Int32) => some (r17, f_t_found, w18))))))
theorem kdX8_change : yX8_change.cls = RX8 ∧ yX8_change.cls ≠ "java/lang/invoke/MethodHandle" ∧ yX8_change.cls ≠ "java/lang/invoke/VarHandle" ∧ (parseMethodDescriptor yX8_change.desc).map (fun d => d.parameters.length) = some 3 := by decide +kernel
set_option maxHeartbeats 4000000 in
set_option maxRecDepth 100000 in
theorem kX8_change (l : Launch) (dC : Nat → ClassId) (dI : Nat → Nat → Nat) (cy : Nat → ClassId) (sz : Nat) (a_t : Nat → Nat) (p1 : Int32) (p2 : Int32) (p3 : Int32) (v_t_isKept : Int32) (v_t_bestPost : Int32) (v_t_mostSeen : Int32) (v_t_taped : Int32) (v_t_from : Int32) (v_t_to : Int32) (v_t_isWrong : Int32) (f_t_found : Nat → Int32) (f_t_s : Nat → Int32) (r : Int32) (f_t_found_o : Nat → Int32) (f_t_s_o : Nat → Int32) (h : uX8_change p1 p2 p3 f_t_found f_t_s = some (r, f_t_found_o, f_t_s_o)) : Met l yX8_change wsX8_change ({ frames := 3, cells := 0, slots := 0, locals := 66 }) (va_Pc [.ref (a_t 0), .int p1, .int p2, .int p3] (fun U => U.heap.size = sz ∧ va_P (dC, dI) vwCl [((a_t 0), oX8 a_t v_t_isKept v_t_bestPost v_t_mostSeen v_t_taped v_t_from v_t_to v_t_isWrong), ((a_t 5), .inl (cy 0, 7, .inl f_t_found)), ((a_t 1), .inl (cy 0, 155, .inl f_t_s))] U.heap ∧ va_K (dC, dI) vwCl (tyX cy) U ∧ va_D (fun _ => True) [((a_t 0), oX8 a_t v_t_isKept v_t_bestPost v_t_mostSeen v_t_taped v_t_from v_t_to v_t_isWrong), ((a_t 5), .inl (cy 0, 7, .inl f_t_found)), ((a_t 1), .inl (cy 0, 155, .inl f_t_s))])) (va_Qi (fun (r2 : Int32) (_ : Unit) => r = r2) (fun _ t => va_P (dC, dI) vwCl [((a_t 0), oX8 a_t v_t_isKept v_t_bestPost v_t_mostSeen v_t_taped v_t_from v_t_to v_t_isWrong), ((a_t 5), .inl (cy 0, 7, .inl f_t_found_o)), ((a_t 1), .inl (cy 0, 155, .inl f_t_s_o))] t.heap ∧ va_K (dC, dI) vwCl (tyX cy) t ∧ va_D (va_A [((a_t 0), oX8 a_t v_t_isKept v_t_bestPost v_t_mostSeen v_t_taped v_t_from v_t_to v_t_isWrong), ((a_t 5), .inl (cy 0, 7, .inl f_t_found)), ((a_t 1), .inl (cy 0, 155, .inl f_t_s))] sz) [((a_t 0), oX8 a_t v_t_isKept v_t_bestPost v_t_mostSeen v_t_taped v_t_from v_t_to v_t_isWrong), ((a_t 5), .inl (cy 0, 7, .inl f_t_found_o)), ((a_t 1), .inl (cy 0, 155, .inl f_t_s_o))]) (va_A [((a_t 0), oX8 a_t v_t_isKept v_t_bestPost v_t_mostSeen v_t_taped v_t_from v_t_to v_t_isWrong), ((a_t 5), .inl (cy 0, 7, .inl f_t_found)), ((a_t 1), .inl (cy 0, 155, .inl f_t_s))] sz)) 0 0 (va_A [((a_t 0), oX8 a_t v_t_isKept v_t_bestPost v_t_mostSeen v_t_taped v_t_from v_t_to v_t_isWrong), ((a_t 5), .inl (cy 0, 7, .inl f_t_found)), ((a_t 1), .inl (cy 0, 155, .inl f_t_s))] sz) := by
  refine Met.ofW (cc := cX8_change) (maxL := 4) (ret := (some .int)) (by decide) rfl ?_
  intro p e s m args below meth c s₁ B hml hv
  obtain ⟨rfl, hsz, hP, hK, hD0⟩ := hv
  have hx := B.exec
  have hb := B.bytes
  have hr := B.returns
  have hts := atoms_spec (ws := wsX8_change) B.pre
  have hown : s.vm.findClass RX8 = some m.cls := findClass_of_methodNamed B.named
  have hlocks := B.notSynchronized
  subst hsz
  have hD := hD0.self (sz := s.heap.size)
  generalize hAe : va_A [((a_t 0), oX8 a_t v_t_isKept v_t_bestPost v_t_mostSeen v_t_taped v_t_from v_t_to v_t_isWrong), ((a_t 5), .inl (cy 0, 7, .inl f_t_found)), ((a_t 1), .inl (cy 0, 155, .inl f_t_s))] s.heap.size = A at hD ⊢
  have hA : ∀ q : Nat, s.heap.size ≤ q → A q := fun q h => by rw [← hAe]; exact Or.inr h
  have hS : va_S A s.heap s.heap [] := va_S.rf
  have hP : va_P (dC, dI) vwCl [((a_t 0), oX8 a_t v_t_isKept v_t_bestPost v_t_mostSeen v_t_taped v_t_from v_t_to v_t_isWrong), ((a_t 5), .inl (cy 0, 7, .inl f_t_found)), ((a_t 1), .inl (cy 0, 155, .inl f_t_s))] s.heap := hP
  have hl := lv_entry ([.ref (a_t 0), .int p1, .int p2, .int p3]) (n := 4) (Nat.le_of_ble_eq_true rfl)
  rw [lg_entry_eq]
  generalize (lg_sl ([.ref (a_t 0), .int p1, .int p2, .int p3]) ++ List.replicate (4 - (lg_sl ([.ref (a_t 0), .int p1, .int p2, .int p3])).length) Slot.unset).toArray = ls at hl ⊢
  have hl : lv_has ls 4 [(0, .ref (a_t 0)), (1, .int p1), (2, .int p2), (3, .int p3)] := hl
  unfold uX8_change at h
  refine bb_cap (fun WW toW ofW => ?_)
  refine lv_aload_n hx hb dX8_change_0 rfl (lv_at hl 0 rfl) ?_
  refine lv_iload_n hx hb dX8_change_1 rfl (lv_at hl 1 rfl) ?_
  obtain ⟨r1, hc2, h⟩ := bb_b1_o h
  refine vp_callSi (W.runV (As := [.int p1]) (rest := []) ⟨hx, hb, hml, hown, hts⟩ (kX8_isBather l dC dI cy a_t p1 v_t_isKept v_t_bestPost v_t_mostSeen v_t_taped v_t_from v_t_to v_t_isWrong f_t_s r1 hc2) (cwV 1 hts gX8_change_X8_isBather rfl rfl rfl kdX8_isBather ⟨Nat.le_of_ble_eq_true rfl, Nat.le_of_ble_eq_true rfl⟩) (bb_preV (va_recv hK hP (ci := 7) (q0 := 0) rfl rfl) (hP.sub (ws' := [((a_t 0), oX8 a_t v_t_isKept v_t_bestPost v_t_mostSeen v_t_taped v_t_from v_t_to v_t_isWrong), ((a_t 1), .inl (cy 0, 155, .inl f_t_s))]) [0, 2] rfl) hK) rfl rfl hl.1 rfl (lv_room (Nat.le_of_ble_eq_true rfl)) dX8_change_2 ⟨Nat.zero_le _, Nat.zero_le _⟩) (fun t3 et3 => ?_)
  obtain ⟨rfl, hz4⟩ := et3
  refine lv_if_eq (tgt := 32) hx hb dX8_change_5 (by decide) (fun c5 => ?_) (fun c5 => ?_)
  · replace h := bb_ifp c5 h
    refine lv_aload_n hx hb dX8_change_32 rfl (lv_at hl 0 rfl) ?_
    refine lv_iconst (v := (0 : Int32)) hx hb dX8_change_33 (by decide) ?_
    obtain ⟨r6, w7, hc8, h⟩ := bb_b2_o h
    refine bb_cwi (wr := [((a_t 1), .inl (cy 0, 155, .inl f_t_s))]) (w1 := [((a_t 0), oX8 a_t v_t_isKept v_t_bestPost v_t_mostSeen v_t_taped v_t_from v_t_to v_t_isWrong), ((a_t 5), .inl (cy 0, 7, .inl w7))]) (va_runV (As := [.int (0 : Int32)]) (rest := []) ⟨hx, hb, hml, hown, hts⟩ (kX8_finds l dC dI cy s.heap.size a_t (0 : Int32) v_t_isKept v_t_bestPost v_t_mostSeen v_t_taped v_t_from v_t_to v_t_isWrong f_t_found r6 w7 hc8) (cwV 1 hts gX8_change_X8_finds rfl rfl rfl kdX8_finds ⟨Nat.le_of_ble_eq_true rfl, Nat.le_of_ble_eq_true rfl⟩) (bb_preVw (va_recv hK hP (ci := 7) (q0 := 0) rfl rfl) (hP.sub (ws' := [((a_t 0), oX8 a_t v_t_isKept v_t_bestPost v_t_mostSeen v_t_taped v_t_from v_t_to v_t_isWrong), ((a_t 5), .inl (cy 0, 7, .inl f_t_found))]) [0, 1] rfl) hK (hD.sub (ws' := [((a_t 0), oX8 a_t v_t_isKept v_t_bestPost v_t_mostSeen v_t_taped v_t_from v_t_to v_t_isWrong), ((a_t 5), .inl (cy 0, 7, .inl f_t_found))]) [0, 1] (by decide) rfl)) rfl rfl hl.1 rfl (lv_room (Nat.le_of_ble_eq_true rfl)) dX8_change_34 ⟨Nat.zero_le _, Nat.zero_le _⟩) hP hD hS hA [0, 1] [2] rfl rfl (by decide) (by decide) (fun H locs hP hD hS => ?_)
    have hP : va_P (dC, dI) vwCl [((a_t 1), .inl (cy 0, 155, .inl f_t_s)), ((a_t 0), oX8 a_t v_t_isKept v_t_bestPost v_t_mostSeen v_t_taped v_t_from v_t_to v_t_isWrong), ((a_t 5), .inl (cy 0, 7, .inl w7))] H := hP
    have hD : va_D A [((a_t 1), .inl (cy 0, 155, .inl f_t_s)), ((a_t 0), oX8 a_t v_t_isKept v_t_bestPost v_t_mostSeen v_t_taped v_t_from v_t_to v_t_isWrong), ((a_t 5), .inl (cy 0, 7, .inl w7))] := hD
    obtain ⟨rfl, rfl, rfl⟩ := bb_some3 h
    have hP9 := hP.sub (ws' := [((a_t 0), oX8 a_t v_t_isKept v_t_bestPost v_t_mostSeen v_t_taped v_t_from v_t_to v_t_isWrong), ((a_t 5), .inl (cy 0, 7, .inl w7)), ((a_t 1), .inl (cy 0, 155, .inl f_t_s))]) [1, 2, 0] rfl
    have hD9 := hD.sub (ws' := [((a_t 0), oX8 a_t v_t_isKept v_t_bestPost v_t_mostSeen v_t_taped v_t_from v_t_to v_t_isWrong), ((a_t 5), .inl (cy 0, 7, .inl w7)), ((a_t 1), .inl (cy 0, 155, .inl f_t_s))]) [1, 2, 0] (by decide) rfl
    exact W.iret hx hb hr (fun t ht hW => ⟨⟨_, (), rfl, rfl, by rw [ht]; exact hP9, va_K.moved hW.alike hK, hD9⟩, hS.F ht⟩) hS.2.2 dX8_change_37
  · replace h := bb_ifn c5 h
    refine lv_iload_n hx hb dX8_change_8 rfl (lv_at hl 2 rfl) ?_
    refine lv_iload_n hx hb dX8_change_9 rfl (lv_at hl 3 rfl) ?_
    obtain ⟨r9, hc10, h⟩ := bb_b1_o h
    refine vp_callSi (W.runS (As := [.int p2, .int p3]) (rest := []) ⟨hx, hb, hml, hown, hts⟩ (kX8_mayBe l dC dI cy p2 p3 r9 hc10) (va_cwS 2 hts gX8_change_X8_mayBe rfl rfl rfl kdX8_mayBe ⟨Nat.le_of_ble_eq_true rfl, Nat.le_of_ble_eq_true rfl⟩) (bb_preS (hP.sub (ws' := []) [] rfl) hK) rfl rfl hl.1 rfl (lv_room (Nat.le_of_ble_eq_true rfl)) dX8_change_10 ⟨Nat.zero_le _, Nat.zero_le _⟩) (fun t11 et11 => ?_)
    obtain ⟨rfl, hz12⟩ := et11
    refine lv_if_eq (tgt := 32) hx hb dX8_change_13 (by decide) (fun c13 => ?_) (fun c13 => ?_)
    · replace h := bb_ifp c13 h
      refine lv_aload_n hx hb dX8_change_32 rfl (lv_at hl 0 rfl) ?_
      refine lv_iconst (v := (0 : Int32)) hx hb dX8_change_33 (by decide) ?_
      obtain ⟨r14, w15, hc16, h⟩ := bb_b2_o h
      refine bb_cwi (wr := [((a_t 1), .inl (cy 0, 155, .inl f_t_s))]) (w1 := [((a_t 0), oX8 a_t v_t_isKept v_t_bestPost v_t_mostSeen v_t_taped v_t_from v_t_to v_t_isWrong), ((a_t 5), .inl (cy 0, 7, .inl w15))]) (va_runV (As := [.int (0 : Int32)]) (rest := []) ⟨hx, hb, hml, hown, hts⟩ (kX8_finds l dC dI cy s.heap.size a_t (0 : Int32) v_t_isKept v_t_bestPost v_t_mostSeen v_t_taped v_t_from v_t_to v_t_isWrong f_t_found r14 w15 hc16) (cwV 1 hts gX8_change_X8_finds rfl rfl rfl kdX8_finds ⟨Nat.le_of_ble_eq_true rfl, Nat.le_of_ble_eq_true rfl⟩) (bb_preVw (va_recv hK hP (ci := 7) (q0 := 0) rfl rfl) (hP.sub (ws' := [((a_t 0), oX8 a_t v_t_isKept v_t_bestPost v_t_mostSeen v_t_taped v_t_from v_t_to v_t_isWrong), ((a_t 5), .inl (cy 0, 7, .inl f_t_found))]) [0, 1] rfl) hK (hD.sub (ws' := [((a_t 0), oX8 a_t v_t_isKept v_t_bestPost v_t_mostSeen v_t_taped v_t_from v_t_to v_t_isWrong), ((a_t 5), .inl (cy 0, 7, .inl f_t_found))]) [0, 1] (by decide) rfl)) rfl rfl hl.1 rfl (lv_room (Nat.le_of_ble_eq_true rfl)) dX8_change_34 ⟨Nat.zero_le _, Nat.zero_le _⟩) hP hD hS hA [0, 1] [2] rfl rfl (by decide) (by decide) (fun H locs hP hD hS => ?_)
      have hP : va_P (dC, dI) vwCl [((a_t 1), .inl (cy 0, 155, .inl f_t_s)), ((a_t 0), oX8 a_t v_t_isKept v_t_bestPost v_t_mostSeen v_t_taped v_t_from v_t_to v_t_isWrong), ((a_t 5), .inl (cy 0, 7, .inl w15))] H := hP
      have hD : va_D A [((a_t 1), .inl (cy 0, 155, .inl f_t_s)), ((a_t 0), oX8 a_t v_t_isKept v_t_bestPost v_t_mostSeen v_t_taped v_t_from v_t_to v_t_isWrong), ((a_t 5), .inl (cy 0, 7, .inl w15))] := hD
      obtain ⟨rfl, rfl, rfl⟩ := bb_some3 h
      have hP9 := hP.sub (ws' := [((a_t 0), oX8 a_t v_t_isKept v_t_bestPost v_t_mostSeen v_t_taped v_t_from v_t_to v_t_isWrong), ((a_t 5), .inl (cy 0, 7, .inl w15)), ((a_t 1), .inl (cy 0, 155, .inl f_t_s))]) [1, 2, 0] rfl
      have hD9 := hD.sub (ws' := [((a_t 0), oX8 a_t v_t_isKept v_t_bestPost v_t_mostSeen v_t_taped v_t_from v_t_to v_t_isWrong), ((a_t 5), .inl (cy 0, 7, .inl w15)), ((a_t 1), .inl (cy 0, 155, .inl f_t_s))]) [1, 2, 0] (by decide) rfl
      exact W.iret hx hb hr (fun t ht hW => ⟨⟨_, (), rfl, rfl, by rw [ht]; exact hP9, va_K.moved hW.alike hK, hD9⟩, hS.F ht⟩) hS.2.2 dX8_change_37
    · replace h := bb_ifn c13 h
      refine lv_aload_n hx hb dX8_change_16 rfl (lv_at hl 0 rfl) ?_
      refine lv_bipush (v := (105 : Int32)) hx hb dX8_change_17 (by decide) ?_
      refine lv_iconst (v := (5 : Int32)) hx hb dX8_change_19 (by decide) ?_
      refine lv_iload_n hx hb dX8_change_20 rfl (lv_at hl 1 rfl) ?_
      refine lv_imul hx hb dX8_change_21 ?_
      refine lv_iadd hx hb dX8_change_22 ?_
      refine lv_iload_n hx hb dX8_change_23 rfl (lv_at hl 2 rfl) ?_
      refine lv_iadd hx hb dX8_change_24 ?_
      refine lv_iload_n hx hb dX8_change_25 rfl (lv_at hl 3 rfl) ?_
      obtain ⟨r17, w18, hc19, h⟩ := bb_b2_o h
      refine bb_cwi (wr := [((a_t 5), .inl (cy 0, 7, .inl f_t_found))]) (w1 := [((a_t 0), oX8 a_t v_t_isKept v_t_bestPost v_t_mostSeen v_t_taped v_t_from v_t_to v_t_isWrong), ((a_t 1), .inl (cy 0, 155, .inl w18))]) (va_runV (As := [.int (((105 : Int32) + ((5 : Int32) * p1)) + p2), .int p3]) (rest := []) ⟨hx, hb, hml, hown, hts⟩ (kX8_becomes l dC dI cy s.heap.size a_t (((105 : Int32) + ((5 : Int32) * p1)) + p2) p3 v_t_isKept v_t_bestPost v_t_mostSeen v_t_taped v_t_from v_t_to v_t_isWrong f_t_s r17 w18 hc19) (cwV 2 hts gX8_change_X8_becomes rfl rfl rfl kdX8_becomes ⟨Nat.le_of_ble_eq_true rfl, Nat.le_of_ble_eq_true rfl⟩) (bb_preVw (va_recv hK hP (ci := 7) (q0 := 0) rfl rfl) (hP.sub (ws' := [((a_t 0), oX8 a_t v_t_isKept v_t_bestPost v_t_mostSeen v_t_taped v_t_from v_t_to v_t_isWrong), ((a_t 1), .inl (cy 0, 155, .inl f_t_s))]) [0, 2] rfl) hK (hD.sub (ws' := [((a_t 0), oX8 a_t v_t_isKept v_t_bestPost v_t_mostSeen v_t_taped v_t_from v_t_to v_t_isWrong), ((a_t 1), .inl (cy 0, 155, .inl f_t_s))]) [0, 2] (by decide) rfl)) rfl rfl hl.1 rfl (lv_room (Nat.le_of_ble_eq_true rfl)) dX8_change_26 ⟨Nat.zero_le _, Nat.zero_le _⟩) hP hD hS hA [0, 2] [1] rfl rfl (by decide) (by decide) (fun H locs hP hD hS => ?_)
      have hP : va_P (dC, dI) vwCl [((a_t 5), .inl (cy 0, 7, .inl f_t_found)), ((a_t 0), oX8 a_t v_t_isKept v_t_bestPost v_t_mostSeen v_t_taped v_t_from v_t_to v_t_isWrong), ((a_t 1), .inl (cy 0, 155, .inl w18))] H := hP
      have hD : va_D A [((a_t 5), .inl (cy 0, 7, .inl f_t_found)), ((a_t 0), oX8 a_t v_t_isKept v_t_bestPost v_t_mostSeen v_t_taped v_t_from v_t_to v_t_isWrong), ((a_t 1), .inl (cy 0, 155, .inl w18))] := hD
      refine lv_goto (tgt := 37) hx hb dX8_change_29 (by decide) ?_
      obtain ⟨rfl, rfl, rfl⟩ := bb_some3 h
      have hP9 := hP.sub (ws' := [((a_t 0), oX8 a_t v_t_isKept v_t_bestPost v_t_mostSeen v_t_taped v_t_from v_t_to v_t_isWrong), ((a_t 5), .inl (cy 0, 7, .inl f_t_found)), ((a_t 1), .inl (cy 0, 155, .inl w18))]) [1, 0, 2] rfl
      have hD9 := hD.sub (ws' := [((a_t 0), oX8 a_t v_t_isKept v_t_bestPost v_t_mostSeen v_t_taped v_t_from v_t_to v_t_isWrong), ((a_t 5), .inl (cy 0, 7, .inl f_t_found)), ((a_t 1), .inl (cy 0, 155, .inl w18))]) [1, 0, 2] (by decide) rfl
      exact W.iret hx hb hr (fun t ht hW => ⟨⟨_, (), rfl, rfl, by rw [ht]; exact hP9, va_K.moved hW.alike hK, hD9⟩, hS.F ht⟩) hS.2.2 dX8_change_37
/-! X8_bathes -/
def uX8_bathes (nn : Nat) (p1 : Int32) (f_t_s : Nat → Int32) : Option ((Nat → Int32)) :=
  bb_b1 (uX8_its p1 (2 : Int32) f_t_s) (fun (r1 : Int32) => bb_cut (fun (z4 : Int32) => bb_b1 (uX8_its p1 (1 : Int32) f_t_s) (fun (r6 : Int32) => bb_cut (fun (u9 : Unit) => bb_b1 (uX8_stepOf nn p1 f_t_s) (fun (r11 : Int32) => bb_b1 (uX8_sets p1 (1 : Int32) r11 f_t_s) (fun (w14 : Nat → Int32) => bb_b1 (uX8_its p1 (3 : Int32) w14) (fun (r16 : Int32) => bb_b1 (uX8_sets p1 (3 : Int32) (if (r16 + (1 : Int32)) < (99 : Int32) then (r16 + (1 : Int32)) else (99 : Int32)) w14) (fun (w19 : Nat → Int32) => bb_b1 (uX8_its p1 (1 : Int32) w19) (fun (r21 : Int32) => bb_b1 (uX8_isSeen nn r21 w19) (fun (r24 : Int32) => (if r24 = 0 then some (upd w19 (3 : Int32).toNatClampNeg (if ((w19 (3 : Int32).toNatClampNeg) + (0 : Int32)) < (99999 : Int32) then ((w19 (3 : Int32).toNatClampNeg) + (0 : Int32)) else (99999 : Int32))) else some (upd w19 (3 : Int32).toNatClampNeg (if ((w19 (3 : Int32).toNatClampNeg) + (1 : Int32)) < (99999 : Int32) then ((w19 (3 : Int32).toNatClampNeg) + (1 : Int32)) else (99999 : Int32))))))))))) (fun k10 => (if (r6 - r6 / (8 : Int32) * (8 : Int32)) = z4 then bb_b1 (uX8_its p1 (0 : Int32) f_t_s) (fun (r30 : Int32) => (if r30 = (4 : Int32) then k10 () else bb_b1 (uX8_its p1 (2 : Int32) f_t_s) (fun (r34 : Int32) => bb_b1 (uX8_sets p1 (1 : Int32) ((100 : Int32) + r34) f_t_s) (fun (w37 : Nat → Int32) => some w37)))) else k10 ())))) (fun k5 => (if r1 = 0 then k5 (0 : Int32) else k5 (7 : Int32))))
theorem kdX8_bathes : yX8_bathes.cls = RX8 ∧ yX8_bathes.cls ≠ "java/lang/invoke/MethodHandle" ∧ yX8_bathes.cls ≠ "java/lang/invoke/VarHandle" ∧ (parseMethodDescriptor yX8_bathes.desc).map (fun d => d.parameters.length) = some 1 := by decide +kernel
set_option maxHeartbeats 4000000 in
set_option maxRecDepth 100000 in
theorem kX8_bathes (l : Launch) (dC : Nat → ClassId) (dI : Nat → Nat → Nat) (cy : Nat → ClassId) (sz : Nat) (a_t : Nat → Nat) (p1 : Int32) (v_t_isKept : Int32) (v_t_bestPost : Int32) (v_t_mostSeen : Int32) (v_t_taped : Int32) (v_t_from : Int32) (v_t_to : Int32) (v_t_isWrong : Int32) (f_t_s : Nat → Int32) (nn : Nat) (f_t_s_o : Nat → Int32) (h : uX8_bathes nn p1 f_t_s = some f_t_s_o) : Met l yX8_bathes wsX8_bathes ({ frames := 8, cells := 0, slots := 0, locals := 178 }) (va_Pc [.ref (a_t 0), .int p1] (fun U => U.heap.size = sz ∧ va_P (dC, dI) vwCl [((a_t 0), oX8 a_t v_t_isKept v_t_bestPost v_t_mostSeen v_t_taped v_t_from v_t_to v_t_isWrong), ((a_t 1), .inl (cy 0, 155, .inl f_t_s))] U.heap ∧ va_K (dC, dI) vwCl (tyX cy) U ∧ va_D (fun _ => True) [((a_t 0), oX8 a_t v_t_isKept v_t_bestPost v_t_mostSeen v_t_taped v_t_from v_t_to v_t_isWrong), ((a_t 1), .inl (cy 0, 155, .inl f_t_s))])) (va_Qv (fun (_ : Unit) => True) (fun _ t => va_P (dC, dI) vwCl [((a_t 0), oX8 a_t v_t_isKept v_t_bestPost v_t_mostSeen v_t_taped v_t_from v_t_to v_t_isWrong), ((a_t 1), .inl (cy 0, 155, .inl f_t_s_o))] t.heap ∧ va_K (dC, dI) vwCl (tyX cy) t ∧ va_D (va_A [((a_t 0), oX8 a_t v_t_isKept v_t_bestPost v_t_mostSeen v_t_taped v_t_from v_t_to v_t_isWrong), ((a_t 1), .inl (cy 0, 155, .inl f_t_s))] sz) [((a_t 0), oX8 a_t v_t_isKept v_t_bestPost v_t_mostSeen v_t_taped v_t_from v_t_to v_t_isWrong), ((a_t 1), .inl (cy 0, 155, .inl f_t_s_o))]) (va_A [((a_t 0), oX8 a_t v_t_isKept v_t_bestPost v_t_mostSeen v_t_taped v_t_from v_t_to v_t_isWrong), ((a_t 1), .inl (cy 0, 155, .inl f_t_s))] sz)) 0 0 (va_A [((a_t 0), oX8 a_t v_t_isKept v_t_bestPost v_t_mostSeen v_t_taped v_t_from v_t_to v_t_isWrong), ((a_t 1), .inl (cy 0, 155, .inl f_t_s))] sz) := by
  refine Met.ofW (cc := cX8_bathes) (maxL := 3) (ret := none) (by decide) rfl ?_
  intro p e s m args below meth c s₁ B hml hv
  obtain ⟨rfl, hsz, hP, hK, hD0⟩ := hv
  have hx := B.exec
  have hb := B.bytes
  have hr := B.returns
  have hts := atoms_spec (ws := wsX8_bathes) B.pre
  have hown : s.vm.findClass RX8 = some m.cls := findClass_of_methodNamed B.named
  have hlocks := B.notSynchronized
  have iwX8 : ∀ w ∈ wsX80, w ∈ wsX8_bathes := fun w h9 => List.mem_cons_of_mem _ (List.mem_append_right _ (h9))
  have lk1 := hts (Cond.methodLink RX8 171 Lib.Math.min.name) (List.mem_of_getElem? (i := 1) rfl)
  have lk2 := hts (Cond.static Lib.Math.min.name) (List.mem_of_getElem? (i := 2) rfl)
  have lk3 := hts (Cond.initialized "java/lang/Math") (List.mem_of_getElem? (i := 3) rfl)
  have lk4 := hts (Cond.code Lib.Math.min.name Lib.Math.min.code 2 (some .int)) (List.mem_of_getElem? (i := 4) rfl)
  have lk5 := hts (Cond.fieldLink RX8 9 "BathBorderModel" "s" "[I") (List.mem_of_getElem? (i := 5) rfl)
  have lk6 := hts (Cond.constant RX8 174 (99999)) (List.mem_of_getElem? (i := 6) rfl)
  subst hsz
  have hD := hD0.self (sz := s.heap.size)
  generalize hAe : va_A [((a_t 0), oX8 a_t v_t_isKept v_t_bestPost v_t_mostSeen v_t_taped v_t_from v_t_to v_t_isWrong), ((a_t 1), .inl (cy 0, 155, .inl f_t_s))] s.heap.size = A at hD ⊢
  have hA : ∀ q : Nat, s.heap.size ≤ q → A q := fun q h => by rw [← hAe]; exact Or.inr h
  have hS : va_S A s.heap s.heap [] := va_S.rf
  have hP : va_P (dC, dI) vwCl [((a_t 0), oX8 a_t v_t_isKept v_t_bestPost v_t_mostSeen v_t_taped v_t_from v_t_to v_t_isWrong), ((a_t 1), .inl (cy 0, 155, .inl f_t_s))] s.heap := hP
  have hl := lv_entry ([.ref (a_t 0), .int p1]) (n := 3) (Nat.le_of_ble_eq_true rfl)
  rw [lg_entry_eq]
  generalize (lg_sl ([.ref (a_t 0), .int p1]) ++ List.replicate (3 - (lg_sl ([.ref (a_t 0), .int p1])).length) Slot.unset).toArray = ls at hl ⊢
  have hl : lv_has ls 3 [(0, .ref (a_t 0)), (1, .int p1)] := hl
  unfold uX8_bathes at h
  refine bb_cap (fun WW toW ofW => ?_)
  refine lv_aload_n hx hb dX8_bathes_0 rfl (lv_at hl 0 rfl) ?_
  refine lv_iload_n hx hb dX8_bathes_1 rfl (lv_at hl 1 rfl) ?_
  refine lv_iconst (v := (2 : Int32)) hx hb dX8_bathes_2 (by decide) ?_
  obtain ⟨r1, hc2, h⟩ := bb_b1_o h
  refine vp_callSi (W.runV (As := [.int p1, .int (2 : Int32)]) (rest := []) ⟨hx, hb, hml, hown, hts⟩ (kX8_its l dC dI cy a_t p1 (2 : Int32) v_t_isKept v_t_bestPost v_t_mostSeen v_t_taped v_t_from v_t_to v_t_isWrong f_t_s r1 hc2) (cwV 2 hts gX8_bathes_X8_its rfl rfl rfl kdX8_its ⟨Nat.le_of_ble_eq_true rfl, Nat.le_of_ble_eq_true rfl⟩) (bb_preV (va_recv hK hP (ci := 7) (q0 := 0) rfl rfl) hP hK) rfl rfl hl.1 rfl (lv_room (Nat.le_of_ble_eq_true rfl)) dX8_bathes_3 ⟨Nat.zero_le _, Nat.zero_le _⟩) (fun t3 et3 => ?_)
  obtain rfl := et3
  obtain ⟨k5, ek5, h⟩ := bb_cut_o h
  have Jk5 : ∀ (z4 : Int32) (H : Heap) (locs : List Loc) (ls : Array Slot), k5 z4 = some f_t_s_o → va_P (dC, dI) vwCl [((a_t 0), oX8 a_t v_t_isKept v_t_bestPost v_t_mostSeen v_t_taped v_t_from v_t_to v_t_isWrong), ((a_t 1), .inl (cy 0, 155, .inl f_t_s))] H → va_D A [((a_t 0), oX8 a_t v_t_isKept v_t_bestPost v_t_mostSeen v_t_taped v_t_from v_t_to v_t_isWrong), ((a_t 1), .inl (cy 0, 155, .inl f_t_s))] → va_S A s.heap H locs → lv_has ls 3 [(0, .ref (a_t 0)), (1, .int p1)] → WW H locs (F0 m 15 ls [.int z4]) := by
    intro z4 H locs ls h hP hD hS hl
    refine ofW _ _ _ ?_
    subst ek5
    refine lv_istore_n (lv' := [(2, .int z4), (0, .ref (a_t 0)), (1, .int p1)]) hx hb dX8_bathes_15 rfl hl (by decide) rfl (fun ls hl => ?_)
    refine lv_aload_n hx hb dX8_bathes_16 rfl (lv_at hl 1 rfl) ?_
    refine lv_iload_n hx hb dX8_bathes_17 rfl (lv_at hl 2 rfl) ?_
    refine lv_iconst (v := (1 : Int32)) hx hb dX8_bathes_18 (by decide) ?_
    obtain ⟨r6, hc7, h⟩ := bb_b1_o h
    refine vp_callSi (W.runV (As := [.int p1, .int (1 : Int32)]) (rest := []) ⟨hx, hb, hml, hown, hts⟩ (kX8_its l dC dI cy a_t p1 (1 : Int32) v_t_isKept v_t_bestPost v_t_mostSeen v_t_taped v_t_from v_t_to v_t_isWrong f_t_s r6 hc7) (cwV 2 hts gX8_bathes_X8_its rfl rfl rfl kdX8_its ⟨Nat.le_of_ble_eq_true rfl, Nat.le_of_ble_eq_true rfl⟩) (bb_preV (va_recv hK hP (ci := 7) (q0 := 0) rfl rfl) hP hK) rfl rfl hl.1 rfl (lv_room (Nat.le_of_ble_eq_true rfl)) dX8_bathes_19 ⟨Nat.zero_le _, Nat.zero_le _⟩) (fun t8 et8 => ?_)
    obtain rfl := et8
    refine lv_bipush (v := (8 : Int32)) hx hb dX8_bathes_22 (by decide) ?_
    refine lv_irem hx hb dX8_bathes_24 (by decide) ?_
    refine lv_iload_n hx hb dX8_bathes_25 rfl (lv_at hl 0 rfl) ?_
    obtain ⟨k10, ek10, h⟩ := bb_cut_o h
    have Jk10 : ∀ (u9 : Unit) (H : Heap) (locs : List Loc) (ls : Array Slot), k10 u9 = some f_t_s_o → va_P (dC, dI) vwCl [((a_t 0), oX8 a_t v_t_isKept v_t_bestPost v_t_mostSeen v_t_taped v_t_from v_t_to v_t_isWrong), ((a_t 1), .inl (cy 0, 155, .inl f_t_s))] H → va_D A [((a_t 0), oX8 a_t v_t_isKept v_t_bestPost v_t_mostSeen v_t_taped v_t_from v_t_to v_t_isWrong), ((a_t 1), .inl (cy 0, 155, .inl f_t_s))] → va_S A s.heap H locs → lv_has ls 3 [(0, .ref (a_t 0)), (1, .int p1)] → WW H locs (F0 m 55 ls []) := by
      intro u9 H locs ls h hP hD hS hl
      refine ofW _ _ _ ?_
      subst ek10
      refine lv_aload_n hx hb dX8_bathes_55 rfl (lv_at hl 0 rfl) ?_
      refine lv_iload_n hx hb dX8_bathes_56 rfl (lv_at hl 1 rfl) ?_
      refine lv_iconst (v := (1 : Int32)) hx hb dX8_bathes_57 (by decide) ?_
      refine lv_aload_n hx hb dX8_bathes_58 rfl (lv_at hl 0 rfl) ?_
      refine lv_iload_n hx hb dX8_bathes_59 rfl (lv_at hl 1 rfl) ?_
      obtain ⟨r11, hc12, h⟩ := bb_b1_o h
      refine vp_callSi (W.runV (As := [.int p1]) (rest := [.int (1 : Int32), .int p1, .ref (a_t 0)]) ⟨hx, hb, hml, hown, hts⟩ (kX8_stepOf l dC dI cy a_t p1 v_t_isKept v_t_bestPost v_t_mostSeen v_t_taped v_t_from v_t_to v_t_isWrong f_t_s nn r11 hc12) (cwV 1 hts gX8_bathes_X8_stepOf rfl rfl rfl kdX8_stepOf ⟨Nat.le_of_ble_eq_true rfl, Nat.le_of_ble_eq_true rfl⟩) (bb_preV (va_recv hK hP (ci := 7) (q0 := 0) rfl rfl) hP hK) rfl rfl hl.1 rfl (lv_room (Nat.le_of_ble_eq_true rfl)) dX8_bathes_60 ⟨Nat.zero_le _, Nat.zero_le _⟩) (fun t13 et13 => ?_)
      obtain rfl := et13
      obtain ⟨w14, hc15, h⟩ := bb_b1_o h
      refine bb_cwv (wr := []) (w1 := [((a_t 0), oX8 a_t v_t_isKept v_t_bestPost v_t_mostSeen v_t_taped v_t_from v_t_to v_t_isWrong), ((a_t 1), .inl (cy 0, 155, .inl w14))]) (va_runV (As := [.int p1, .int (1 : Int32), .int r11]) (rest := []) ⟨hx, hb, hml, hown, hts⟩ (kX8_sets l dC dI cy H.size a_t p1 (1 : Int32) r11 v_t_isKept v_t_bestPost v_t_mostSeen v_t_taped v_t_from v_t_to v_t_isWrong f_t_s w14 hc15) (cwV 3 hts gX8_bathes_X8_sets rfl rfl rfl kdX8_sets ⟨Nat.le_of_ble_eq_true rfl, Nat.le_of_ble_eq_true rfl⟩) (bb_preVw (va_recv hK hP (ci := 7) (q0 := 0) rfl rfl) hP hK (hD.sub (ws' := [((a_t 0), oX8 a_t v_t_isKept v_t_bestPost v_t_mostSeen v_t_taped v_t_from v_t_to v_t_isWrong), ((a_t 1), .inl (cy 0, 155, .inl f_t_s))]) [0, 1] (by decide) rfl)) rfl rfl hl.1 rfl (lv_room (Nat.le_of_ble_eq_true rfl)) dX8_bathes_63 ⟨Nat.zero_le _, Nat.zero_le _⟩) hP hD hS hA [0, 1] [] rfl rfl (by decide) (by decide) (fun H locs hP hD hS => ?_)
      have hP : va_P (dC, dI) vwCl [((a_t 0), oX8 a_t v_t_isKept v_t_bestPost v_t_mostSeen v_t_taped v_t_from v_t_to v_t_isWrong), ((a_t 1), .inl (cy 0, 155, .inl w14))] H := hP
      have hD : va_D A [((a_t 0), oX8 a_t v_t_isKept v_t_bestPost v_t_mostSeen v_t_taped v_t_from v_t_to v_t_isWrong), ((a_t 1), .inl (cy 0, 155, .inl w14))] := hD
      refine lv_aload_n hx hb dX8_bathes_66 rfl (lv_at hl 0 rfl) ?_
      refine lv_iload_n hx hb dX8_bathes_67 rfl (lv_at hl 1 rfl) ?_
      refine lv_iconst (v := (3 : Int32)) hx hb dX8_bathes_68 (by decide) ?_
      refine lv_bipush (v := (99 : Int32)) hx hb dX8_bathes_69 (by decide) ?_
      refine lv_aload_n hx hb dX8_bathes_71 rfl (lv_at hl 0 rfl) ?_
      refine lv_iload_n hx hb dX8_bathes_72 rfl (lv_at hl 1 rfl) ?_
      refine lv_iconst (v := (3 : Int32)) hx hb dX8_bathes_73 (by decide) ?_
      obtain ⟨r16, hc17, h⟩ := bb_b1_o h
      refine vp_callSi (W.runV (As := [.int p1, .int (3 : Int32)]) (rest := [.int (99 : Int32), .int (3 : Int32), .int p1, .ref (a_t 0)]) ⟨hx, hb, hml, hown, hts⟩ (kX8_its l dC dI cy a_t p1 (3 : Int32) v_t_isKept v_t_bestPost v_t_mostSeen v_t_taped v_t_from v_t_to v_t_isWrong w14 r16 hc17) (cwV 2 hts gX8_bathes_X8_its rfl rfl rfl kdX8_its ⟨Nat.le_of_ble_eq_true rfl, Nat.le_of_ble_eq_true rfl⟩) (bb_preV (va_recv hK hP (ci := 7) (q0 := 0) rfl rfl) hP hK) rfl rfl hl.1 rfl (lv_room (Nat.le_of_ble_eq_true rfl)) dX8_bathes_74 ⟨Nat.zero_le _, Nat.zero_le _⟩) (fun t18 et18 => ?_)
      obtain rfl := et18
      refine lv_iconst (v := (1 : Int32)) hx hb dX8_bathes_77 (by decide) ?_
      refine lv_iadd hx hb dX8_bathes_78 ?_
      refine va_mmin hx hb (hml.trans hl.1.symm) hown lk1 lk2 lk3 lk4 (Nat.le_of_ble_eq_true rfl) (Nat.le_of_ble_eq_true rfl) (Nat.zero_le _) (Nat.zero_le _) dX8_bathes_79 ?_
      obtain ⟨w19, hc20, h⟩ := bb_b1_o h
      refine bb_cwv (wr := []) (w1 := [((a_t 0), oX8 a_t v_t_isKept v_t_bestPost v_t_mostSeen v_t_taped v_t_from v_t_to v_t_isWrong), ((a_t 1), .inl (cy 0, 155, .inl w19))]) (va_runV (As := [.int p1, .int (3 : Int32), .int (if (r16 + (1 : Int32)) < (99 : Int32) then (r16 + (1 : Int32)) else (99 : Int32))]) (rest := []) ⟨hx, hb, hml, hown, hts⟩ (kX8_sets l dC dI cy H.size a_t p1 (3 : Int32) (if (r16 + (1 : Int32)) < (99 : Int32) then (r16 + (1 : Int32)) else (99 : Int32)) v_t_isKept v_t_bestPost v_t_mostSeen v_t_taped v_t_from v_t_to v_t_isWrong w14 w19 hc20) (cwV 3 hts gX8_bathes_X8_sets rfl rfl rfl kdX8_sets ⟨Nat.le_of_ble_eq_true rfl, Nat.le_of_ble_eq_true rfl⟩) (bb_preVw (va_recv hK hP (ci := 7) (q0 := 0) rfl rfl) hP hK (hD.sub (ws' := [((a_t 0), oX8 a_t v_t_isKept v_t_bestPost v_t_mostSeen v_t_taped v_t_from v_t_to v_t_isWrong), ((a_t 1), .inl (cy 0, 155, .inl w14))]) [0, 1] (by decide) rfl)) rfl rfl hl.1 rfl (lv_room (Nat.le_of_ble_eq_true rfl)) dX8_bathes_82 ⟨Nat.zero_le _, Nat.zero_le _⟩) hP hD hS hA [0, 1] [] rfl rfl (by decide) (by decide) (fun H locs hP hD hS => ?_)
      have hP : va_P (dC, dI) vwCl [((a_t 0), oX8 a_t v_t_isKept v_t_bestPost v_t_mostSeen v_t_taped v_t_from v_t_to v_t_isWrong), ((a_t 1), .inl (cy 0, 155, .inl w19))] H := hP
      have hD : va_D A [((a_t 0), oX8 a_t v_t_isKept v_t_bestPost v_t_mostSeen v_t_taped v_t_from v_t_to v_t_isWrong), ((a_t 1), .inl (cy 0, 155, .inl w19))] := hD
      refine lv_aload_n hx hb dX8_bathes_85 rfl (lv_at hl 0 rfl) ?_
      refine va_get (D := (dC, dI)) (ci := 7) (v := .ref (a_t 1)) (C := RX8) (T := TX8) (N := 20) hx hb hts iwX8 hown hK hP 0 rfl rfl 0 (by decide) lk5 (fun _ h9 => h9) rfl dX8_bathes_86 ?_
      refine lv_iconst (v := (3 : Int32)) hx hb dX8_bathes_89 (by decide) ?_
      refine lv_ldc (v := (99999 : Int32)) hx hb hown lk6 dX8_bathes_90 ?_
      refine lv_aload_n hx hb dX8_bathes_92 rfl (lv_at hl 0 rfl) ?_
      refine va_get (D := (dC, dI)) (ci := 7) (v := .ref (a_t 1)) (C := RX8) (T := TX8) (N := 20) hx hb hts iwX8 hown hK hP 0 rfl rfl 0 (by decide) lk5 (fun _ h9 => h9) rfl dX8_bathes_93 ?_
      refine lv_iconst (v := (3 : Int32)) hx hb dX8_bathes_96 (by decide) ?_
      refine va_iald hx hb hK hP 1 0 rfl rfl (bb_in (by decide)) dX8_bathes_97 ?_
      refine lv_aload_n hx hb dX8_bathes_98 rfl (lv_at hl 0 rfl) ?_
      refine lv_aload_n hx hb dX8_bathes_99 rfl (lv_at hl 0 rfl) ?_
      refine lv_iload_n hx hb dX8_bathes_100 rfl (lv_at hl 1 rfl) ?_
      refine lv_iconst (v := (1 : Int32)) hx hb dX8_bathes_101 (by decide) ?_
      obtain ⟨r21, hc22, h⟩ := bb_b1_o h
      refine vp_callSi (W.runV (As := [.int p1, .int (1 : Int32)]) (rest := [.ref (a_t 0), .int (w19 (3 : Int32).toNatClampNeg), .int (99999 : Int32), .int (3 : Int32), .ref (a_t 1)]) ⟨hx, hb, hml, hown, hts⟩ (kX8_its l dC dI cy a_t p1 (1 : Int32) v_t_isKept v_t_bestPost v_t_mostSeen v_t_taped v_t_from v_t_to v_t_isWrong w19 r21 hc22) (cwV 2 hts gX8_bathes_X8_its rfl rfl rfl kdX8_its ⟨Nat.le_of_ble_eq_true rfl, Nat.le_of_ble_eq_true rfl⟩) (bb_preV (va_recv hK hP (ci := 7) (q0 := 0) rfl rfl) hP hK) rfl rfl hl.1 rfl (lv_room (Nat.le_of_ble_eq_true rfl)) dX8_bathes_102 ⟨Nat.zero_le _, Nat.zero_le _⟩) (fun t23 et23 => ?_)
      obtain rfl := et23
      obtain ⟨r24, hc25, h⟩ := bb_b1_o h
      refine vp_callSi (W.runV (As := [.int r21]) (rest := [.int (w19 (3 : Int32).toNatClampNeg), .int (99999 : Int32), .int (3 : Int32), .ref (a_t 1)]) ⟨hx, hb, hml, hown, hts⟩ (kX8_isSeen l dC dI cy a_t r21 v_t_isKept v_t_bestPost v_t_mostSeen v_t_taped v_t_from v_t_to v_t_isWrong w19 nn r24 hc25) (cwV 1 hts gX8_bathes_X8_isSeen rfl rfl rfl kdX8_isSeen ⟨Nat.le_of_ble_eq_true rfl, Nat.le_of_ble_eq_true rfl⟩) (bb_preV (va_recv hK hP (ci := 7) (q0 := 0) rfl rfl) hP hK) rfl rfl hl.1 rfl (lv_room (Nat.le_of_ble_eq_true rfl)) dX8_bathes_105 ⟨Nat.zero_le _, Nat.zero_le _⟩) (fun t26 et26 => ?_)
      obtain ⟨rfl, hz27⟩ := et26
      refine lv_if_eq (tgt := 115) hx hb dX8_bathes_108 (by decide) (fun c28 => ?_) (fun c28 => ?_)
      · replace h := bb_ifp c28 h
        refine lv_iconst (v := (0 : Int32)) hx hb dX8_bathes_115 (by decide) ?_
        refine lv_iadd hx hb dX8_bathes_116 ?_
        refine va_mmin hx hb (hml.trans hl.1.symm) hown lk1 lk2 lk3 lk4 (Nat.le_of_ble_eq_true rfl) (Nat.le_of_ble_eq_true rfl) (Nat.zero_le _) (Nat.zero_le _) dX8_bathes_117 ?_
        refine va_iast hx hb hK hP hD hS 1 0 rfl rfl (bb_in (by decide)) dX8_bathes_120 (fun H locs hP hD hS => ?_)
        have hP : va_P (dC, dI) vwCl [((a_t 0), oX8 a_t v_t_isKept v_t_bestPost v_t_mostSeen v_t_taped v_t_from v_t_to v_t_isWrong), ((a_t 1), .inl (cy 0, 155, .inl (upd w19 (3 : Int32).toNatClampNeg (if ((w19 (3 : Int32).toNatClampNeg) + (0 : Int32)) < (99999 : Int32) then ((w19 (3 : Int32).toNatClampNeg) + (0 : Int32)) else (99999 : Int32)))))] H := hP
        have hD : va_D A [((a_t 0), oX8 a_t v_t_isKept v_t_bestPost v_t_mostSeen v_t_taped v_t_from v_t_to v_t_isWrong), ((a_t 1), .inl (cy 0, 155, .inl (upd w19 (3 : Int32).toNatClampNeg (if ((w19 (3 : Int32).toNatClampNeg) + (0 : Int32)) < (99999 : Int32) then ((w19 (3 : Int32).toNatClampNeg) + (0 : Int32)) else (99999 : Int32)))))] := hD
        obtain rfl := bb_some1 h
        have hP9 := hP.sub (ws' := [((a_t 0), oX8 a_t v_t_isKept v_t_bestPost v_t_mostSeen v_t_taped v_t_from v_t_to v_t_isWrong), ((a_t 1), .inl (cy 0, 155, .inl (upd w19 (3 : Int32).toNatClampNeg (if ((w19 (3 : Int32).toNatClampNeg) + (0 : Int32)) < (99999 : Int32) then ((w19 (3 : Int32).toNatClampNeg) + (0 : Int32)) else (99999 : Int32)))))]) [0, 1] rfl
        have hD9 := hD.sub (ws' := [((a_t 0), oX8 a_t v_t_isKept v_t_bestPost v_t_mostSeen v_t_taped v_t_from v_t_to v_t_isWrong), ((a_t 1), .inl (cy 0, 155, .inl (upd w19 (3 : Int32).toNatClampNeg (if ((w19 (3 : Int32).toNatClampNeg) + (0 : Int32)) < (99999 : Int32) then ((w19 (3 : Int32).toNatClampNeg) + (0 : Int32)) else (99999 : Int32)))))]) [0, 1] (by decide) rfl
        exact W.vret hx hb hr (fun t ht hW => ⟨⟨(), rfl, trivial, by rw [ht]; exact hP9, va_K.moved hW.alike hK, hD9⟩, hS.F ht⟩) hS.2.2 dX8_bathes_121
      · replace h := bb_ifn c28 h
        refine lv_iconst (v := (1 : Int32)) hx hb dX8_bathes_111 (by decide) ?_
        refine lv_goto (tgt := 116) hx hb dX8_bathes_112 (by decide) ?_
        refine lv_iadd hx hb dX8_bathes_116 ?_
        refine va_mmin hx hb (hml.trans hl.1.symm) hown lk1 lk2 lk3 lk4 (Nat.le_of_ble_eq_true rfl) (Nat.le_of_ble_eq_true rfl) (Nat.zero_le _) (Nat.zero_le _) dX8_bathes_117 ?_
        refine va_iast hx hb hK hP hD hS 1 0 rfl rfl (bb_in (by decide)) dX8_bathes_120 (fun H locs hP hD hS => ?_)
        have hP : va_P (dC, dI) vwCl [((a_t 0), oX8 a_t v_t_isKept v_t_bestPost v_t_mostSeen v_t_taped v_t_from v_t_to v_t_isWrong), ((a_t 1), .inl (cy 0, 155, .inl (upd w19 (3 : Int32).toNatClampNeg (if ((w19 (3 : Int32).toNatClampNeg) + (1 : Int32)) < (99999 : Int32) then ((w19 (3 : Int32).toNatClampNeg) + (1 : Int32)) else (99999 : Int32)))))] H := hP
        have hD : va_D A [((a_t 0), oX8 a_t v_t_isKept v_t_bestPost v_t_mostSeen v_t_taped v_t_from v_t_to v_t_isWrong), ((a_t 1), .inl (cy 0, 155, .inl (upd w19 (3 : Int32).toNatClampNeg (if ((w19 (3 : Int32).toNatClampNeg) + (1 : Int32)) < (99999 : Int32) then ((w19 (3 : Int32).toNatClampNeg) + (1 : Int32)) else (99999 : Int32)))))] := hD
        obtain rfl := bb_some1 h
        have hP9 := hP.sub (ws' := [((a_t 0), oX8 a_t v_t_isKept v_t_bestPost v_t_mostSeen v_t_taped v_t_from v_t_to v_t_isWrong), ((a_t 1), .inl (cy 0, 155, .inl (upd w19 (3 : Int32).toNatClampNeg (if ((w19 (3 : Int32).toNatClampNeg) + (1 : Int32)) < (99999 : Int32) then ((w19 (3 : Int32).toNatClampNeg) + (1 : Int32)) else (99999 : Int32)))))]) [0, 1] rfl
        have hD9 := hD.sub (ws' := [((a_t 0), oX8 a_t v_t_isKept v_t_bestPost v_t_mostSeen v_t_taped v_t_from v_t_to v_t_isWrong), ((a_t 1), .inl (cy 0, 155, .inl (upd w19 (3 : Int32).toNatClampNeg (if ((w19 (3 : Int32).toNatClampNeg) + (1 : Int32)) < (99999 : Int32) then ((w19 (3 : Int32).toNatClampNeg) + (1 : Int32)) else (99999 : Int32)))))]) [0, 1] (by decide) rfl
        exact W.vret hx hb hr (fun t ht hW => ⟨⟨(), rfl, trivial, by rw [ht]; exact hP9, va_K.moved hW.alike hK, hD9⟩, hS.F ht⟩) hS.2.2 dX8_bathes_121
    refine lv_icmp_ne (tgt := 55) hx hb dX8_bathes_26 (by decide) (fun c29 => ?_) (fun c29 => ?_)
    · replace h := bb_ifn c29 h
      exact toW _ _ _ (Jk10 () _ _ _ h hP hD hS (lv_sub hl [1, 2] rfl))
    · replace h := bb_ifp c29 h
      refine lv_aload_n hx hb dX8_bathes_29 rfl (lv_at hl 1 rfl) ?_
      refine lv_iload_n hx hb dX8_bathes_30 rfl (lv_at hl 2 rfl) ?_
      refine lv_iconst (v := (0 : Int32)) hx hb dX8_bathes_31 (by decide) ?_
      obtain ⟨r30, hc31, h⟩ := bb_b1_o h
      refine vp_callSi (W.runV (As := [.int p1, .int (0 : Int32)]) (rest := []) ⟨hx, hb, hml, hown, hts⟩ (kX8_its l dC dI cy a_t p1 (0 : Int32) v_t_isKept v_t_bestPost v_t_mostSeen v_t_taped v_t_from v_t_to v_t_isWrong f_t_s r30 hc31) (cwV 2 hts gX8_bathes_X8_its rfl rfl rfl kdX8_its ⟨Nat.le_of_ble_eq_true rfl, Nat.le_of_ble_eq_true rfl⟩) (bb_preV (va_recv hK hP (ci := 7) (q0 := 0) rfl rfl) hP hK) rfl rfl hl.1 rfl (lv_room (Nat.le_of_ble_eq_true rfl)) dX8_bathes_32 ⟨Nat.zero_le _, Nat.zero_le _⟩) (fun t32 et32 => ?_)
      obtain rfl := et32
      refine lv_iconst (v := (4 : Int32)) hx hb dX8_bathes_35 (by decide) ?_
      refine lv_icmp_eq (tgt := 55) hx hb dX8_bathes_36 (by decide) (fun c33 => ?_) (fun c33 => ?_)
      · replace h := bb_ifp c33 h
        exact toW _ _ _ (Jk10 () _ _ _ h hP hD hS (lv_sub hl [1, 2] rfl))
      · replace h := bb_ifn c33 h
        refine lv_aload_n hx hb dX8_bathes_39 rfl (lv_at hl 1 rfl) ?_
        refine lv_iload_n hx hb dX8_bathes_40 rfl (lv_at hl 2 rfl) ?_
        refine lv_iconst (v := (1 : Int32)) hx hb dX8_bathes_41 (by decide) ?_
        refine lv_bipush (v := (100 : Int32)) hx hb dX8_bathes_42 (by decide) ?_
        refine lv_aload_n hx hb dX8_bathes_44 rfl (lv_at hl 1 rfl) ?_
        refine lv_iload_n hx hb dX8_bathes_45 rfl (lv_at hl 2 rfl) ?_
        refine lv_iconst (v := (2 : Int32)) hx hb dX8_bathes_46 (by decide) ?_
        obtain ⟨r34, hc35, h⟩ := bb_b1_o h
        refine vp_callSi (W.runV (As := [.int p1, .int (2 : Int32)]) (rest := [.int (100 : Int32), .int (1 : Int32), .int p1, .ref (a_t 0)]) ⟨hx, hb, hml, hown, hts⟩ (kX8_its l dC dI cy a_t p1 (2 : Int32) v_t_isKept v_t_bestPost v_t_mostSeen v_t_taped v_t_from v_t_to v_t_isWrong f_t_s r34 hc35) (cwV 2 hts gX8_bathes_X8_its rfl rfl rfl kdX8_its ⟨Nat.le_of_ble_eq_true rfl, Nat.le_of_ble_eq_true rfl⟩) (bb_preV (va_recv hK hP (ci := 7) (q0 := 0) rfl rfl) hP hK) rfl rfl hl.1 rfl (lv_room (Nat.le_of_ble_eq_true rfl)) dX8_bathes_47 ⟨Nat.zero_le _, Nat.zero_le _⟩) (fun t36 et36 => ?_)
        obtain rfl := et36
        refine lv_iadd hx hb dX8_bathes_50 ?_
        obtain ⟨w37, hc38, h⟩ := bb_b1_o h
        refine bb_cwv (wr := []) (w1 := [((a_t 0), oX8 a_t v_t_isKept v_t_bestPost v_t_mostSeen v_t_taped v_t_from v_t_to v_t_isWrong), ((a_t 1), .inl (cy 0, 155, .inl w37))]) (va_runV (As := [.int p1, .int (1 : Int32), .int ((100 : Int32) + r34)]) (rest := []) ⟨hx, hb, hml, hown, hts⟩ (kX8_sets l dC dI cy H.size a_t p1 (1 : Int32) ((100 : Int32) + r34) v_t_isKept v_t_bestPost v_t_mostSeen v_t_taped v_t_from v_t_to v_t_isWrong f_t_s w37 hc38) (cwV 3 hts gX8_bathes_X8_sets rfl rfl rfl kdX8_sets ⟨Nat.le_of_ble_eq_true rfl, Nat.le_of_ble_eq_true rfl⟩) (bb_preVw (va_recv hK hP (ci := 7) (q0 := 0) rfl rfl) hP hK (hD.sub (ws' := [((a_t 0), oX8 a_t v_t_isKept v_t_bestPost v_t_mostSeen v_t_taped v_t_from v_t_to v_t_isWrong), ((a_t 1), .inl (cy 0, 155, .inl f_t_s))]) [0, 1] (by decide) rfl)) rfl rfl hl.1 rfl (lv_room (Nat.le_of_ble_eq_true rfl)) dX8_bathes_51 ⟨Nat.zero_le _, Nat.zero_le _⟩) hP hD hS hA [0, 1] [] rfl rfl (by decide) (by decide) (fun H locs hP hD hS => ?_)
        have hP : va_P (dC, dI) vwCl [((a_t 0), oX8 a_t v_t_isKept v_t_bestPost v_t_mostSeen v_t_taped v_t_from v_t_to v_t_isWrong), ((a_t 1), .inl (cy 0, 155, .inl w37))] H := hP
        have hD : va_D A [((a_t 0), oX8 a_t v_t_isKept v_t_bestPost v_t_mostSeen v_t_taped v_t_from v_t_to v_t_isWrong), ((a_t 1), .inl (cy 0, 155, .inl w37))] := hD
        obtain rfl := bb_some1 h
        have hP9 := hP.sub (ws' := [((a_t 0), oX8 a_t v_t_isKept v_t_bestPost v_t_mostSeen v_t_taped v_t_from v_t_to v_t_isWrong), ((a_t 1), .inl (cy 0, 155, .inl w37))]) [0, 1] rfl
        have hD9 := hD.sub (ws' := [((a_t 0), oX8 a_t v_t_isKept v_t_bestPost v_t_mostSeen v_t_taped v_t_from v_t_to v_t_isWrong), ((a_t 1), .inl (cy 0, 155, .inl w37))]) [0, 1] (by decide) rfl
        exact W.vret hx hb hr (fun t ht hW => ⟨⟨(), rfl, trivial, by rw [ht]; exact hP9, va_K.moved hW.alike hK, hD9⟩, hS.F ht⟩) hS.2.2 dX8_bathes_54
  refine lv_if_ne (tgt := 13) hx hb dX8_bathes_6 (by decide) (fun c39 => ?_) (fun c39 => ?_)
  · replace h := bb_ifn c39 h
    refine lv_bipush (v := (7 : Int32)) hx hb dX8_bathes_13 (by decide) ?_
    exact toW _ _ _ (Jk5 (7 : Int32) _ _ _ h hP hD hS (lv_sub hl [0, 1] rfl))
  · replace h := bb_ifp c39 h
    refine lv_iconst (v := (0 : Int32)) hx hb dX8_bathes_9 (by decide) ?_
    refine lv_goto (tgt := 15) hx hb dX8_bathes_10 (by decide) ?_
    exact toW _ _ _ (Jk5 (0 : Int32) _ _ _ h hP hD hS (lv_sub hl [0, 1] rfl))
/-! X8_aMinute -/
def uX8_aMinute_s2 (nn : Nat) (k_31 : (Nat → Int32) → Option ((Nat → Int32))) (rec5 : Int32 → (Nat → Int32) → Option ((Nat → Int32))) (x1_3 : Int32) (f_t_s_4 : Nat → Int32) : Option ((Nat → Int32)) :=
  (if (f_t_s_4 (1 : Int32).toNatClampNeg) ≤ x1_3 then k_31 f_t_s_4 else bb_b1 (uX8_isIn x1_3 f_t_s_4) (fun (r9 : Int32) => bb_cut (fun (f_t_s_13 : Nat → Int32) => rec5 (x1_3 + (1 : Int32)) f_t_s_13) (fun k14 => (if r9 = 0 then k14 f_t_s_4 else bb_b1 (uX8_bathes nn x1_3 f_t_s_4) (fun (w16 : Nat → Int32) => k14 w16)))))
def uX8_aMinute (nn : Nat) (f_t_s : Nat → Int32) : Option ((Nat → Int32)) :=
  bb_cut (fun (f_t_s_1 : Nat → Int32) => some (upd f_t_s_1 (0 : Int32).toNatClampNeg ((f_t_s_1 (0 : Int32).toNatClampNeg) + (1 : Int32)))) (fun k2 => bb_loop2 (uX8_aMinute_s2 nn k2) nn (0 : Int32) f_t_s)
theorem kdX8_aMinute : yX8_aMinute.cls = RX8 ∧ yX8_aMinute.cls ≠ "java/lang/invoke/MethodHandle" ∧ yX8_aMinute.cls ≠ "java/lang/invoke/VarHandle" ∧ (parseMethodDescriptor yX8_aMinute.desc).map (fun d => d.parameters.length) = some 0 := by decide +kernel
set_option maxHeartbeats 4000000 in
set_option maxRecDepth 100000 in
theorem kX8_aMinute (l : Launch) (dC : Nat → ClassId) (dI : Nat → Nat → Nat) (cy : Nat → ClassId) (sz : Nat) (a_t : Nat → Nat) (v_t_isKept : Int32) (v_t_bestPost : Int32) (v_t_mostSeen : Int32) (v_t_taped : Int32) (v_t_from : Int32) (v_t_to : Int32) (v_t_isWrong : Int32) (f_t_s : Nat → Int32) (nn : Nat) (f_t_s_o : Nat → Int32) (h : uX8_aMinute nn f_t_s = some f_t_s_o) : Met l yX8_aMinute wsX8_aMinute ({ frames := 9, cells := 0, slots := 0, locals := 200 }) (va_Pc [.ref (a_t 0)] (fun U => U.heap.size = sz ∧ va_P (dC, dI) vwCl [((a_t 0), oX8 a_t v_t_isKept v_t_bestPost v_t_mostSeen v_t_taped v_t_from v_t_to v_t_isWrong), ((a_t 1), .inl (cy 0, 155, .inl f_t_s))] U.heap ∧ va_K (dC, dI) vwCl (tyX cy) U ∧ va_D (fun _ => True) [((a_t 0), oX8 a_t v_t_isKept v_t_bestPost v_t_mostSeen v_t_taped v_t_from v_t_to v_t_isWrong), ((a_t 1), .inl (cy 0, 155, .inl f_t_s))])) (va_Qv (fun (_ : Unit) => True) (fun _ t => va_P (dC, dI) vwCl [((a_t 0), oX8 a_t v_t_isKept v_t_bestPost v_t_mostSeen v_t_taped v_t_from v_t_to v_t_isWrong), ((a_t 1), .inl (cy 0, 155, .inl f_t_s_o))] t.heap ∧ va_K (dC, dI) vwCl (tyX cy) t ∧ va_D (va_A [((a_t 0), oX8 a_t v_t_isKept v_t_bestPost v_t_mostSeen v_t_taped v_t_from v_t_to v_t_isWrong), ((a_t 1), .inl (cy 0, 155, .inl f_t_s))] sz) [((a_t 0), oX8 a_t v_t_isKept v_t_bestPost v_t_mostSeen v_t_taped v_t_from v_t_to v_t_isWrong), ((a_t 1), .inl (cy 0, 155, .inl f_t_s_o))]) (va_A [((a_t 0), oX8 a_t v_t_isKept v_t_bestPost v_t_mostSeen v_t_taped v_t_from v_t_to v_t_isWrong), ((a_t 1), .inl (cy 0, 155, .inl f_t_s))] sz)) 0 0 (va_A [((a_t 0), oX8 a_t v_t_isKept v_t_bestPost v_t_mostSeen v_t_taped v_t_from v_t_to v_t_isWrong), ((a_t 1), .inl (cy 0, 155, .inl f_t_s))] sz) := by
  refine Met.ofW (cc := cX8_aMinute) (maxL := 2) (ret := none) (by decide) rfl ?_
  intro p e s m args below meth c s₁ B hml hv
  obtain ⟨rfl, hsz, hP, hK, hD0⟩ := hv
  have hx := B.exec
  have hb := B.bytes
  have hr := B.returns
  have hts := atoms_spec (ws := wsX8_aMinute) B.pre
  have hown : s.vm.findClass RX8 = some m.cls := findClass_of_methodNamed B.named
  have hlocks := B.notSynchronized
  have iwX8 : ∀ w ∈ wsX80, w ∈ wsX8_aMinute := fun w h9 => List.mem_cons_of_mem _ (List.mem_append_right _ (h9))
  have lk1 := hts (Cond.fieldLink RX8 9 "BathBorderModel" "s" "[I") (List.mem_of_getElem? (i := 1) rfl)
  subst hsz
  have hD := hD0.self (sz := s.heap.size)
  generalize hAe : va_A [((a_t 0), oX8 a_t v_t_isKept v_t_bestPost v_t_mostSeen v_t_taped v_t_from v_t_to v_t_isWrong), ((a_t 1), .inl (cy 0, 155, .inl f_t_s))] s.heap.size = A at hD ⊢
  have hA : ∀ q : Nat, s.heap.size ≤ q → A q := fun q h => by rw [← hAe]; exact Or.inr h
  have hS : va_S A s.heap s.heap [] := va_S.rf
  have hP : va_P (dC, dI) vwCl [((a_t 0), oX8 a_t v_t_isKept v_t_bestPost v_t_mostSeen v_t_taped v_t_from v_t_to v_t_isWrong), ((a_t 1), .inl (cy 0, 155, .inl f_t_s))] s.heap := hP
  have hl := lv_entry ([.ref (a_t 0)]) (n := 2) (Nat.le_of_ble_eq_true rfl)
  rw [lg_entry_eq]
  generalize (lg_sl ([.ref (a_t 0)]) ++ List.replicate (2 - (lg_sl ([.ref (a_t 0)])).length) Slot.unset).toArray = ls at hl ⊢
  have hl : lv_has ls 2 [(0, .ref (a_t 0))] := hl
  unfold uX8_aMinute at h
  refine bb_cap (fun WW toW ofW => ?_)
  refine lv_iconst (v := (0 : Int32)) hx hb dX8_aMinute_0 (by decide) ?_
  refine lv_istore_n (lv' := [(1, .int (0 : Int32)), (0, .ref (a_t 0))]) hx hb dX8_aMinute_1 rfl hl (by decide) rfl (fun ls hl => ?_)
  obtain ⟨k2, ek2, h⟩ := bb_cut_o h
  have Jk2 : ∀ (f_t_s_1 : Nat → Int32) (H : Heap) (locs : List Loc) (ls : Array Slot), k2 f_t_s_1 = some f_t_s_o → va_P (dC, dI) vwCl [((a_t 0), oX8 a_t v_t_isKept v_t_bestPost v_t_mostSeen v_t_taped v_t_from v_t_to v_t_isWrong), ((a_t 1), .inl (cy 0, 155, .inl f_t_s_1))] H → va_D A [((a_t 0), oX8 a_t v_t_isKept v_t_bestPost v_t_mostSeen v_t_taped v_t_from v_t_to v_t_isWrong), ((a_t 1), .inl (cy 0, 155, .inl f_t_s_1))] → va_S A s.heap H locs → lv_has ls 2 [(0, .ref (a_t 0))] → WW H locs (F0 m 31 ls []) := by
    intro f_t_s_1 H locs ls h hP hD hS hl
    refine ofW _ _ _ ?_
    subst ek2
    refine lv_aload_n hx hb dX8_aMinute_31 rfl (lv_at hl 0 rfl) ?_
    refine va_get (D := (dC, dI)) (ci := 7) (v := .ref (a_t 1)) (C := RX8) (T := TX8) (N := 20) hx hb hts iwX8 hown hK hP 0 rfl rfl 0 (by decide) lk1 (fun _ h9 => h9) rfl dX8_aMinute_32 ?_
    refine lv_iconst (v := (0 : Int32)) hx hb dX8_aMinute_35 (by decide) ?_
    refine lv_dup2_11 hx hb dX8_aMinute_36 rfl rfl ?_
    refine va_iald hx hb hK hP 1 0 rfl rfl (bb_in (by decide)) dX8_aMinute_37 ?_
    refine lv_iconst (v := (1 : Int32)) hx hb dX8_aMinute_38 (by decide) ?_
    refine lv_iadd hx hb dX8_aMinute_39 ?_
    refine va_iast hx hb hK hP hD hS 1 0 rfl rfl (bb_in (by decide)) dX8_aMinute_40 (fun H locs hP hD hS => ?_)
    have hP : va_P (dC, dI) vwCl [((a_t 0), oX8 a_t v_t_isKept v_t_bestPost v_t_mostSeen v_t_taped v_t_from v_t_to v_t_isWrong), ((a_t 1), .inl (cy 0, 155, .inl (upd f_t_s_1 (0 : Int32).toNatClampNeg ((f_t_s_1 (0 : Int32).toNatClampNeg) + (1 : Int32)))))] H := hP
    have hD : va_D A [((a_t 0), oX8 a_t v_t_isKept v_t_bestPost v_t_mostSeen v_t_taped v_t_from v_t_to v_t_isWrong), ((a_t 1), .inl (cy 0, 155, .inl (upd f_t_s_1 (0 : Int32).toNatClampNeg ((f_t_s_1 (0 : Int32).toNatClampNeg) + (1 : Int32)))))] := hD
    obtain rfl := bb_some1 h
    have hP9 := hP.sub (ws' := [((a_t 0), oX8 a_t v_t_isKept v_t_bestPost v_t_mostSeen v_t_taped v_t_from v_t_to v_t_isWrong), ((a_t 1), .inl (cy 0, 155, .inl (upd f_t_s_1 (0 : Int32).toNatClampNeg ((f_t_s_1 (0 : Int32).toNatClampNeg) + (1 : Int32)))))]) [0, 1] rfl
    have hD9 := hD.sub (ws' := [((a_t 0), oX8 a_t v_t_isKept v_t_bestPost v_t_mostSeen v_t_taped v_t_from v_t_to v_t_isWrong), ((a_t 1), .inl (cy 0, 155, .inl (upd f_t_s_1 (0 : Int32).toNatClampNeg ((f_t_s_1 (0 : Int32).toNatClampNeg) + (1 : Int32)))))]) [0, 1] (by decide) rfl
    exact W.vret hx hb hr (fun t ht hW => ⟨⟨(), rfl, trivial, by rw [ht]; exact hP9, va_K.moved hW.alike hK, hD9⟩, hS.F ht⟩) hS.2.2 dX8_aMinute_41
  have L6 : ∀ (n : Nat) (x1_3 : Int32) (f_t_s_4 : Nat → Int32) (H : Heap) (locs : List Loc) (ls : Array Slot), bb_loop2 (uX8_aMinute_s2 nn k2) n x1_3 f_t_s_4 = some f_t_s_o → va_P (dC, dI) vwCl [((a_t 0), oX8 a_t v_t_isKept v_t_bestPost v_t_mostSeen v_t_taped v_t_from v_t_to v_t_isWrong), ((a_t 1), .inl (cy 0, 155, .inl f_t_s_4))] H → va_D A [((a_t 0), oX8 a_t v_t_isKept v_t_bestPost v_t_mostSeen v_t_taped v_t_from v_t_to v_t_isWrong), ((a_t 1), .inl (cy 0, 155, .inl f_t_s_4))] → va_S A s.heap H locs → lv_has ls 2 [(0, .ref (a_t 0)), (1, .int x1_3)] → WW H locs (F0 m 2 ls []) := by
    intro n
    induction n with
    | zero => intro x1_3 f_t_s_4 H locs ls h; exact (bb_no h).elim
    | succ n ih7 =>
      intro x1_3 f_t_s_4 H locs ls h hP hD hS hl
      refine ofW _ _ _ ?_
      obtain ⟨rec5, erec5, h⟩ := bb_loop2_o h
      unfold uX8_aMinute_s2 at h
      refine lv_iload_n hx hb dX8_aMinute_2 rfl (lv_at hl 1 rfl) ?_
      refine lv_aload_n hx hb dX8_aMinute_3 rfl (lv_at hl 0 rfl) ?_
      refine va_get (D := (dC, dI)) (ci := 7) (v := .ref (a_t 1)) (C := RX8) (T := TX8) (N := 20) hx hb hts iwX8 hown hK hP 0 rfl rfl 0 (by decide) lk1 (fun _ h9 => h9) rfl dX8_aMinute_4 ?_
      refine lv_iconst (v := (1 : Int32)) hx hb dX8_aMinute_7 (by decide) ?_
      refine va_iald hx hb hK hP 1 0 rfl rfl (bb_in (by decide)) dX8_aMinute_8 ?_
      refine lv_icmp_ge (tgt := 31) hx hb dX8_aMinute_9 (by decide) (fun c8 => ?_) (fun c8 => ?_)
      · replace h := bb_ifp c8 h
        exact toW _ _ _ (Jk2 f_t_s_4 _ _ _ h hP hD hS (lv_sub hl [0] rfl))
      · replace h := bb_ifn c8 h
        refine lv_aload_n hx hb dX8_aMinute_12 rfl (lv_at hl 0 rfl) ?_
        refine lv_iload_n hx hb dX8_aMinute_13 rfl (lv_at hl 1 rfl) ?_
        obtain ⟨r9, hc10, h⟩ := bb_b1_o h
        refine vp_callSi (W.runV (As := [.int x1_3]) (rest := []) ⟨hx, hb, hml, hown, hts⟩ (kX8_isIn l dC dI cy a_t x1_3 v_t_isKept v_t_bestPost v_t_mostSeen v_t_taped v_t_from v_t_to v_t_isWrong f_t_s_4 r9 hc10) (cwV 1 hts gX8_aMinute_X8_isIn rfl rfl rfl kdX8_isIn ⟨Nat.le_of_ble_eq_true rfl, Nat.le_of_ble_eq_true rfl⟩) (bb_preV (va_recv hK hP (ci := 7) (q0 := 0) rfl rfl) hP hK) rfl rfl hl.1 rfl (lv_room (Nat.le_of_ble_eq_true rfl)) dX8_aMinute_14 ⟨Nat.zero_le _, Nat.zero_le _⟩) (fun t11 et11 => ?_)
        obtain ⟨rfl, hz12⟩ := et11
        obtain ⟨k14, ek14, h⟩ := bb_cut_o h
        have Jk14 : ∀ (f_t_s_13 : Nat → Int32) (H : Heap) (locs : List Loc) (ls : Array Slot), k14 f_t_s_13 = some f_t_s_o → va_P (dC, dI) vwCl [((a_t 0), oX8 a_t v_t_isKept v_t_bestPost v_t_mostSeen v_t_taped v_t_from v_t_to v_t_isWrong), ((a_t 1), .inl (cy 0, 155, .inl f_t_s_13))] H → va_D A [((a_t 0), oX8 a_t v_t_isKept v_t_bestPost v_t_mostSeen v_t_taped v_t_from v_t_to v_t_isWrong), ((a_t 1), .inl (cy 0, 155, .inl f_t_s_13))] → va_S A s.heap H locs → lv_has ls 2 [(0, .ref (a_t 0)), (1, .int x1_3)] → WW H locs (F0 m 25 ls []) := by
          intro f_t_s_13 H locs ls h hP hD hS hl
          refine ofW _ _ _ ?_
          subst ek14
          refine lv_iinc (v := x1_3 + (1 : Int32)) (lv' := [(1, .int (x1_3 + (1 : Int32))), (0, .ref (a_t 0))]) hx hb dX8_aMinute_25 hl (k := 1) rfl rfl (by decide) rfl (fun ls hl => ?_)
          refine lv_goto (tgt := 2) hx hb dX8_aMinute_28 (by decide) ?_
          rw [erec5] at h
          exact toW _ _ _ (ih7 (x1_3 + (1 : Int32)) f_t_s_13 _ _ _ h hP hD hS (lv_sub hl [1, 0] rfl))
        refine lv_if_eq (tgt := 25) hx hb dX8_aMinute_17 (by decide) (fun c15 => ?_) (fun c15 => ?_)
        · replace h := bb_ifp c15 h
          exact toW _ _ _ (Jk14 f_t_s_4 _ _ _ h hP hD hS (lv_sub hl [0, 1] rfl))
        · replace h := bb_ifn c15 h
          refine lv_aload_n hx hb dX8_aMinute_20 rfl (lv_at hl 0 rfl) ?_
          refine lv_iload_n hx hb dX8_aMinute_21 rfl (lv_at hl 1 rfl) ?_
          obtain ⟨w16, hc17, h⟩ := bb_b1_o h
          refine bb_cwv (wr := []) (w1 := [((a_t 0), oX8 a_t v_t_isKept v_t_bestPost v_t_mostSeen v_t_taped v_t_from v_t_to v_t_isWrong), ((a_t 1), .inl (cy 0, 155, .inl w16))]) (va_runV (As := [.int x1_3]) (rest := []) ⟨hx, hb, hml, hown, hts⟩ (kX8_bathes l dC dI cy H.size a_t x1_3 v_t_isKept v_t_bestPost v_t_mostSeen v_t_taped v_t_from v_t_to v_t_isWrong f_t_s_4 nn w16 hc17) (cwV 1 hts gX8_aMinute_X8_bathes rfl rfl rfl kdX8_bathes ⟨Nat.le_of_ble_eq_true rfl, Nat.le_of_ble_eq_true rfl⟩) (bb_preVw (va_recv hK hP (ci := 7) (q0 := 0) rfl rfl) hP hK (hD.sub (ws' := [((a_t 0), oX8 a_t v_t_isKept v_t_bestPost v_t_mostSeen v_t_taped v_t_from v_t_to v_t_isWrong), ((a_t 1), .inl (cy 0, 155, .inl f_t_s_4))]) [0, 1] (by decide) rfl)) rfl rfl hl.1 rfl (lv_room (Nat.le_of_ble_eq_true rfl)) dX8_aMinute_22 ⟨Nat.zero_le _, Nat.zero_le _⟩) hP hD hS hA [0, 1] [] rfl rfl (by decide) (by decide) (fun H locs hP hD hS => ?_)
          have hP : va_P (dC, dI) vwCl [((a_t 0), oX8 a_t v_t_isKept v_t_bestPost v_t_mostSeen v_t_taped v_t_from v_t_to v_t_isWrong), ((a_t 1), .inl (cy 0, 155, .inl w16))] H := hP
          have hD : va_D A [((a_t 0), oX8 a_t v_t_isKept v_t_bestPost v_t_mostSeen v_t_taped v_t_from v_t_to v_t_isWrong), ((a_t 1), .inl (cy 0, 155, .inl w16))] := hD
          exact toW _ _ _ (Jk14 w16 _ _ _ h hP hD hS (lv_sub hl [0, 1] rfl))
  exact toW _ _ _ (L6 nn (0 : Int32) f_t_s _ _ _ h hP hD hS (lv_sub hl [1, 0] rfl))
/-! X8_outSet -/
def uX8_outSet_s4 (x1_3 : Int32) (f_t_s_4 : Nat → Int32) (rec5 : Int32 → Int32 → Option (Int32)) (x2_1 : Int32) (x3_2 : Int32) : Option (Int32) :=
  (if (f_t_s_4 (1 : Int32).toNatClampNeg) ≤ x3_2 then some x2_1 else bb_b1 (uX8_its x3_2 (1 : Int32) f_t_s_4) (fun (r9 : Int32) => bb_cut (fun (z12 : Int32) => rec5 (x2_1 ||| z12) (x3_2 + (1 : Int32))) (fun k13 => (if r9 = ((100 : Int32) + x1_3) then k13 ((1 : Int32) <<< (x3_2 &&& 31)) else k13 (0 : Int32)))))
def uX8_outSet (nn : Nat) (p1 : Int32) (f_t_s : Nat → Int32) : Option (Int32) :=
  bb_loop2 (uX8_outSet_s4 p1 f_t_s) nn (0 : Int32) (0 : Int32)
theorem kdX8_outSet : yX8_outSet.cls = RX8 ∧ yX8_outSet.cls ≠ "java/lang/invoke/MethodHandle" ∧ yX8_outSet.cls ≠ "java/lang/invoke/VarHandle" ∧ (parseMethodDescriptor yX8_outSet.desc).map (fun d => d.parameters.length) = some 1 := by decide +kernel
set_option maxHeartbeats 4000000 in
set_option maxRecDepth 100000 in
theorem kX8_outSet (l : Launch) (dC : Nat → ClassId) (dI : Nat → Nat → Nat) (cy : Nat → ClassId) (a_t : Nat → Nat) (p1 : Int32) (v_t_isKept : Int32) (v_t_bestPost : Int32) (v_t_mostSeen : Int32) (v_t_taped : Int32) (v_t_from : Int32) (v_t_to : Int32) (v_t_isWrong : Int32) (f_t_s : Nat → Int32) (nn : Nat) (r : Int32) (h : uX8_outSet nn p1 f_t_s = some r) : Met l yX8_outSet wsX8_outSet ({ frames := 1, cells := 0, slots := 0, locals := 22 }) (va_Pc [.ref (a_t 0), .int p1] (fun U => va_P (dC, dI) vwCl [((a_t 0), oX8 a_t v_t_isKept v_t_bestPost v_t_mostSeen v_t_taped v_t_from v_t_to v_t_isWrong), ((a_t 1), .inl (cy 0, 155, .inl f_t_s))] U.heap ∧ va_K (dC, dI) vwCl (tyX cy) U)) (vp_Si (fun r2 => r = r2)) 0 0 (fun _ => False) := by
  refine Met.ofW (cc := cX8_outSet) (maxL := 4) (ret := (some .int)) (by decide) rfl ?_
  intro p e s m args below meth c s₁ B hml hv
  obtain ⟨rfl, hP, hK⟩ := hv
  have hx := B.exec
  have hb := B.bytes
  have hr := B.returns
  have hts := atoms_spec (ws := wsX8_outSet) B.pre
  have hown : s.vm.findClass RX8 = some m.cls := findClass_of_methodNamed B.named
  have hlocks := B.notSynchronized
  have iwX8 : ∀ w ∈ wsX80, w ∈ wsX8_outSet := fun w h9 => List.mem_cons_of_mem _ (List.mem_append_right _ (h9))
  have lk1 := hts (Cond.fieldLink RX8 9 "BathBorderModel" "s" "[I") (List.mem_of_getElem? (i := 1) rfl)
  have hl := lv_entry ([.ref (a_t 0), .int p1]) (n := 4) (Nat.le_of_ble_eq_true rfl)
  rw [lg_entry_eq]
  generalize (lg_sl ([.ref (a_t 0), .int p1]) ++ List.replicate (4 - (lg_sl ([.ref (a_t 0), .int p1])).length) Slot.unset).toArray = ls at hl ⊢
  have hl : lv_has ls 4 [(0, .ref (a_t 0)), (1, .int p1)] := hl
  unfold uX8_outSet at h
  refine bb_cap (fun WW toW ofW => ?_)
  refine lv_iconst (v := (0 : Int32)) hx hb dX8_outSet_0 (by decide) ?_
  refine lv_istore_n (lv' := [(2, .int (0 : Int32)), (0, .ref (a_t 0)), (1, .int p1)]) hx hb dX8_outSet_1 rfl hl (by decide) rfl (fun ls hl => ?_)
  refine lv_iconst (v := (0 : Int32)) hx hb dX8_outSet_2 (by decide) ?_
  refine lv_istore_n (lv' := [(3, .int (0 : Int32)), (2, .int (0 : Int32)), (0, .ref (a_t 0)), (1, .int p1)]) hx hb dX8_outSet_3 rfl hl (by decide) rfl (fun ls hl => ?_)
  have L6 : ∀ (n : Nat) (x2_1 : Int32) (x3_2 : Int32) (ls : Array Slot), bb_loop2 (uX8_outSet_s4 p1 f_t_s) n x2_1 x3_2 = some r → lv_has ls 4 [(0, .ref (a_t 0)), (1, .int p1), (2, .int x2_1), (3, .int x3_2)] → WW s.heap [] (F0 m 4 ls []) := by
    intro n
    induction n with
    | zero => intro x2_1 x3_2 ls h; exact (bb_no h).elim
    | succ n ih7 =>
      intro x2_1 x3_2 ls h hl
      refine ofW _ _ _ ?_
      obtain ⟨rec5, erec5, h⟩ := bb_loop2_o h
      unfold uX8_outSet_s4 at h
      refine lv_iload_n hx hb dX8_outSet_4 rfl (lv_at hl 3 rfl) ?_
      refine lv_aload_n hx hb dX8_outSet_5 rfl (lv_at hl 0 rfl) ?_
      refine va_get (D := (dC, dI)) (ci := 7) (v := .ref (a_t 1)) (C := RX8) (T := TX8) (N := 20) hx hb hts iwX8 hown hK hP 0 rfl rfl 0 (by decide) lk1 (fun _ h9 => h9) rfl dX8_outSet_6 ?_
      refine lv_iconst (v := (1 : Int32)) hx hb dX8_outSet_9 (by decide) ?_
      refine va_iald hx hb hK hP 1 0 rfl rfl (bb_in (by decide)) dX8_outSet_10 ?_
      refine lv_icmp_ge (tgt := 43) hx hb dX8_outSet_11 (by decide) (fun c8 => ?_) (fun c8 => ?_)
      · replace h := bb_ifp c8 h
        refine lv_iload_n hx hb dX8_outSet_43 rfl (lv_at hl 2 rfl) ?_
        obtain rfl := bb_some1 h
        exact W.iret hx hb hr (fun t ht hW => ⟨_, rfl, rfl, ht⟩) (fun q hq => by cases hq) dX8_outSet_44
      · replace h := bb_ifn c8 h
        refine lv_iload_n hx hb dX8_outSet_14 rfl (lv_at hl 2 rfl) ?_
        refine lv_aload_n hx hb dX8_outSet_15 rfl (lv_at hl 0 rfl) ?_
        refine lv_iload_n hx hb dX8_outSet_16 rfl (lv_at hl 3 rfl) ?_
        refine lv_iconst (v := (1 : Int32)) hx hb dX8_outSet_17 (by decide) ?_
        obtain ⟨r9, hc10, h⟩ := bb_b1_o h
        refine vp_callSi (W.runV (As := [.int x3_2, .int (1 : Int32)]) (rest := [.int x2_1]) ⟨hx, hb, hml, hown, hts⟩ (kX8_its l dC dI cy a_t x3_2 (1 : Int32) v_t_isKept v_t_bestPost v_t_mostSeen v_t_taped v_t_from v_t_to v_t_isWrong f_t_s r9 hc10) (cwV 2 hts gX8_outSet_X8_its rfl rfl rfl kdX8_its ⟨Nat.le_of_ble_eq_true rfl, Nat.le_of_ble_eq_true rfl⟩) (bb_preV (va_recv hK hP (ci := 7) (q0 := 0) rfl rfl) hP hK) rfl rfl hl.1 rfl (lv_room (Nat.le_of_ble_eq_true rfl)) dX8_outSet_18 ⟨Nat.zero_le _, Nat.zero_le _⟩) (fun t11 et11 => ?_)
        obtain rfl := et11
        refine lv_bipush (v := (100 : Int32)) hx hb dX8_outSet_21 (by decide) ?_
        refine lv_iload_n hx hb dX8_outSet_23 rfl (lv_at hl 1 rfl) ?_
        refine lv_iadd hx hb dX8_outSet_24 ?_
        obtain ⟨k13, ek13, h⟩ := bb_cut_o h
        have Jk13 : ∀ (z12 : Int32) (ls : Array Slot), k13 z12 = some r → lv_has ls 4 [(0, .ref (a_t 0)), (1, .int p1), (3, .int x3_2)] → WW s.heap [] (F0 m 35 ls [.int z12, .int x2_1]) := by
          intro z12 ls h hl
          refine ofW _ _ _ ?_
          subst ek13
          refine lv_ior hx hb dX8_outSet_35 ?_
          refine lv_istore_n (lv' := [(2, .int (x2_1 ||| z12)), (0, .ref (a_t 0)), (1, .int p1), (3, .int x3_2)]) hx hb dX8_outSet_36 rfl hl (by decide) rfl (fun ls hl => ?_)
          refine lv_iinc (v := x3_2 + (1 : Int32)) (lv' := [(3, .int (x3_2 + (1 : Int32))), (2, .int (x2_1 ||| z12)), (0, .ref (a_t 0)), (1, .int p1)]) hx hb dX8_outSet_37 hl (k := 3) rfl rfl (by decide) rfl (fun ls hl => ?_)
          refine lv_goto (tgt := 4) hx hb dX8_outSet_40 (by decide) ?_
          rw [erec5] at h
          exact toW _ _ _ (ih7 (x2_1 ||| z12) (x3_2 + (1 : Int32)) _ h (lv_sub hl [2, 3, 1, 0] rfl))
        refine lv_icmp_ne (tgt := 34) hx hb dX8_outSet_25 (by decide) (fun c14 => ?_) (fun c14 => ?_)
        · replace h := bb_ifn c14 h
          refine lv_iconst (v := (0 : Int32)) hx hb dX8_outSet_34 (by decide) ?_
          exact toW _ _ _ (Jk13 (0 : Int32) _ h (lv_sub hl [0, 1, 3] rfl))
        · replace h := bb_ifp c14 h
          refine lv_iconst (v := (1 : Int32)) hx hb dX8_outSet_28 (by decide) ?_
          refine lv_iload_n hx hb dX8_outSet_29 rfl (lv_at hl 3 rfl) ?_
          refine lv_ishl hx hb dX8_outSet_30 ?_
          refine lv_goto (tgt := 35) hx hb dX8_outSet_31 (by decide) ?_
          exact toW _ _ _ (Jk13 ((1 : Int32) <<< (x3_2 &&& 31)) _ h (lv_sub hl [0, 1, 3] rfl))
  exact toW _ _ _ (L6 nn (0 : Int32) (0 : Int32) _ h (lv_sub hl [2, 3, 1, 0] rfl))
/-! X8_outMany -/
def uX8_outMany_s4 (f_t_s_3 : Nat → Int32) (rec4 : Int32 → Int32 → Option (Int32)) (x1_1 : Int32) (x2_2 : Int32) : Option (Int32) :=
  (if (f_t_s_3 (1 : Int32).toNatClampNeg) ≤ x2_2 then some x1_1 else bb_b1 (uX8_isIn x2_2 f_t_s_3) (fun (r8 : Int32) => bb_cut (fun (z12 : Int32) => rec4 (x1_1 + z12) (x2_2 + (1 : Int32))) (fun k13 => (if r8 = 0 then k13 (1 : Int32) else k13 (0 : Int32)))))
def uX8_outMany (nn : Nat) (f_t_s : Nat → Int32) : Option (Int32) :=
  bb_loop2 (uX8_outMany_s4 f_t_s) nn (0 : Int32) (0 : Int32)
theorem kdX8_outMany : yX8_outMany.cls = RX8 ∧ yX8_outMany.cls ≠ "java/lang/invoke/MethodHandle" ∧ yX8_outMany.cls ≠ "java/lang/invoke/VarHandle" ∧ (parseMethodDescriptor yX8_outMany.desc).map (fun d => d.parameters.length) = some 0 := by decide +kernel
set_option maxHeartbeats 4000000 in
set_option maxRecDepth 100000 in
theorem kX8_outMany (l : Launch) (dC : Nat → ClassId) (dI : Nat → Nat → Nat) (cy : Nat → ClassId) (a_t : Nat → Nat) (v_t_isKept : Int32) (v_t_bestPost : Int32) (v_t_mostSeen : Int32) (v_t_taped : Int32) (v_t_from : Int32) (v_t_to : Int32) (v_t_isWrong : Int32) (f_t_s : Nat → Int32) (nn : Nat) (r : Int32) (h : uX8_outMany nn f_t_s = some r) : Met l yX8_outMany wsX8_outMany ({ frames := 2, cells := 0, slots := 0, locals := 43 }) (va_Pc [.ref (a_t 0)] (fun U => va_P (dC, dI) vwCl [((a_t 0), oX8 a_t v_t_isKept v_t_bestPost v_t_mostSeen v_t_taped v_t_from v_t_to v_t_isWrong), ((a_t 1), .inl (cy 0, 155, .inl f_t_s))] U.heap ∧ va_K (dC, dI) vwCl (tyX cy) U)) (vp_Si (fun r2 => r = r2)) 0 0 (fun _ => False) := by
  refine Met.ofW (cc := cX8_outMany) (maxL := 3) (ret := (some .int)) (by decide) rfl ?_
  intro p e s m args below meth c s₁ B hml hv
  obtain ⟨rfl, hP, hK⟩ := hv
  have hx := B.exec
  have hb := B.bytes
  have hr := B.returns
  have hts := atoms_spec (ws := wsX8_outMany) B.pre
  have hown : s.vm.findClass RX8 = some m.cls := findClass_of_methodNamed B.named
  have hlocks := B.notSynchronized
  have iwX8 : ∀ w ∈ wsX80, w ∈ wsX8_outMany := fun w h9 => List.mem_cons_of_mem _ (List.mem_append_right _ (h9))
  have lk1 := hts (Cond.fieldLink RX8 9 "BathBorderModel" "s" "[I") (List.mem_of_getElem? (i := 1) rfl)
  have hl := lv_entry ([.ref (a_t 0)]) (n := 3) (Nat.le_of_ble_eq_true rfl)
  rw [lg_entry_eq]
  generalize (lg_sl ([.ref (a_t 0)]) ++ List.replicate (3 - (lg_sl ([.ref (a_t 0)])).length) Slot.unset).toArray = ls at hl ⊢
  have hl : lv_has ls 3 [(0, .ref (a_t 0))] := hl
  unfold uX8_outMany at h
  refine bb_cap (fun WW toW ofW => ?_)
  refine lv_iconst (v := (0 : Int32)) hx hb dX8_outMany_0 (by decide) ?_
  refine lv_istore_n (lv' := [(1, .int (0 : Int32)), (0, .ref (a_t 0))]) hx hb dX8_outMany_1 rfl hl (by decide) rfl (fun ls hl => ?_)
  refine lv_iconst (v := (0 : Int32)) hx hb dX8_outMany_2 (by decide) ?_
  refine lv_istore_n (lv' := [(2, .int (0 : Int32)), (1, .int (0 : Int32)), (0, .ref (a_t 0))]) hx hb dX8_outMany_3 rfl hl (by decide) rfl (fun ls hl => ?_)
  have L5 : ∀ (n : Nat) (x1_1 : Int32) (x2_2 : Int32) (ls : Array Slot), bb_loop2 (uX8_outMany_s4 f_t_s) n x1_1 x2_2 = some r → lv_has ls 3 [(0, .ref (a_t 0)), (1, .int x1_1), (2, .int x2_2)] → WW s.heap [] (F0 m 4 ls []) := by
    intro n
    induction n with
    | zero => intro x1_1 x2_2 ls h; exact (bb_no h).elim
    | succ n ih6 =>
      intro x1_1 x2_2 ls h hl
      refine ofW _ _ _ ?_
      obtain ⟨rec4, erec4, h⟩ := bb_loop2_o h
      unfold uX8_outMany_s4 at h
      refine lv_iload_n hx hb dX8_outMany_4 rfl (lv_at hl 2 rfl) ?_
      refine lv_aload_n hx hb dX8_outMany_5 rfl (lv_at hl 0 rfl) ?_
      refine va_get (D := (dC, dI)) (ci := 7) (v := .ref (a_t 1)) (C := RX8) (T := TX8) (N := 20) hx hb hts iwX8 hown hK hP 0 rfl rfl 0 (by decide) lk1 (fun _ h9 => h9) rfl dX8_outMany_6 ?_
      refine lv_iconst (v := (1 : Int32)) hx hb dX8_outMany_9 (by decide) ?_
      refine va_iald hx hb hK hP 1 0 rfl rfl (bb_in (by decide)) dX8_outMany_10 ?_
      refine lv_icmp_ge (tgt := 36) hx hb dX8_outMany_11 (by decide) (fun c7 => ?_) (fun c7 => ?_)
      · replace h := bb_ifp c7 h
        refine lv_iload_n hx hb dX8_outMany_36 rfl (lv_at hl 1 rfl) ?_
        obtain rfl := bb_some1 h
        exact W.iret hx hb hr (fun t ht hW => ⟨_, rfl, rfl, ht⟩) (fun q hq => by cases hq) dX8_outMany_37
      · replace h := bb_ifn c7 h
        refine lv_iload_n hx hb dX8_outMany_14 rfl (lv_at hl 1 rfl) ?_
        refine lv_aload_n hx hb dX8_outMany_15 rfl (lv_at hl 0 rfl) ?_
        refine lv_iload_n hx hb dX8_outMany_16 rfl (lv_at hl 2 rfl) ?_
        obtain ⟨r8, hc9, h⟩ := bb_b1_o h
        refine vp_callSi (W.runV (As := [.int x2_2]) (rest := [.int x1_1]) ⟨hx, hb, hml, hown, hts⟩ (kX8_isIn l dC dI cy a_t x2_2 v_t_isKept v_t_bestPost v_t_mostSeen v_t_taped v_t_from v_t_to v_t_isWrong f_t_s r8 hc9) (cwV 1 hts gX8_outMany_X8_isIn rfl rfl rfl kdX8_isIn ⟨Nat.le_of_ble_eq_true rfl, Nat.le_of_ble_eq_true rfl⟩) (bb_preV (va_recv hK hP (ci := 7) (q0 := 0) rfl rfl) hP hK) rfl rfl hl.1 rfl (lv_room (Nat.le_of_ble_eq_true rfl)) dX8_outMany_17 ⟨Nat.zero_le _, Nat.zero_le _⟩) (fun t10 et10 => ?_)
        obtain ⟨rfl, hz11⟩ := et10
        obtain ⟨k13, ek13, h⟩ := bb_cut_o h
        have Jk13 : ∀ (z12 : Int32) (ls : Array Slot), k13 z12 = some r → lv_has ls 3 [(0, .ref (a_t 0)), (2, .int x2_2)] → WW s.heap [] (F0 m 28 ls [.int z12, .int x1_1]) := by
          intro z12 ls h hl
          refine ofW _ _ _ ?_
          subst ek13
          refine lv_iadd hx hb dX8_outMany_28 ?_
          refine lv_istore_n (lv' := [(1, .int (x1_1 + z12)), (0, .ref (a_t 0)), (2, .int x2_2)]) hx hb dX8_outMany_29 rfl hl (by decide) rfl (fun ls hl => ?_)
          refine lv_iinc (v := x2_2 + (1 : Int32)) (lv' := [(2, .int (x2_2 + (1 : Int32))), (1, .int (x1_1 + z12)), (0, .ref (a_t 0))]) hx hb dX8_outMany_30 hl (k := 2) rfl rfl (by decide) rfl (fun ls hl => ?_)
          refine lv_goto (tgt := 4) hx hb dX8_outMany_33 (by decide) ?_
          rw [erec4] at h
          exact toW _ _ _ (ih6 (x1_1 + z12) (x2_2 + (1 : Int32)) _ h (lv_sub hl [2, 1, 0] rfl))
        refine lv_if_eq (tgt := 27) hx hb dX8_outMany_20 (by decide) (fun c14 => ?_) (fun c14 => ?_)
        · replace h := bb_ifp c14 h
          refine lv_iconst (v := (1 : Int32)) hx hb dX8_outMany_27 (by decide) ?_
          exact toW _ _ _ (Jk13 (1 : Int32) _ h (lv_sub hl [0, 2] rfl))
        · replace h := bb_ifn c14 h
          refine lv_iconst (v := (0 : Int32)) hx hb dX8_outMany_23 (by decide) ?_
          refine lv_goto (tgt := 28) hx hb dX8_outMany_24 (by decide) ?_
          exact toW _ _ _ (Jk13 (0 : Int32) _ h (lv_sub hl [0, 2] rfl))
  exact toW _ _ _ (L5 nn (0 : Int32) (0 : Int32) _ h (lv_sub hl [2, 1, 0] rfl))
/-! X8_go -/
def uX8_go_s39 (nn : Nat) (x1_14 : Int32) (k_54 : (Nat → Int32) → Option (Int32 × (Nat → Int32) × (Nat → Int32))) (rec16 : Int32 → (Nat → Int32) → Option (Int32 × (Nat → Int32) × (Nat → Int32))) (x2_12 : Int32) (f_t_s_13 : Nat → Int32) : Option (Int32 × (Nat → Int32) × (Nat → Int32)) :=
  (if x1_14 ≤ x2_12 then k_54 f_t_s_13 else bb_b1 (uX8_aMinute nn f_t_s_13) (fun (w20 : Nat → Int32) => rec16 (x2_12 + (1 : Int32)) w20))
def uX8_go (nn : Nat) (p1 : Int32) (f_t_found : Nat → Int32) (f_t_s : Nat → Int32) : Option (Int32 × (Nat → Int32) × (Nat → Int32)) :=
  bb_b1 (uX8_in p1.toInt64 (1 : Int64) (60 : Int64)) (fun (r1 : Int32) => (if r1 = 0 then bb_b2 (uX8_finds (0 : Int32) f_t_found) (fun (r25 : Int32) (w26 : Nat → Int32) => some (r25, w26, f_t_s)) else (if ((f_t_s (0 : Int32).toNatClampNeg) + p1) ≤ (99999 : Int32) then bb_cut (fun (f_t_s_7 : Nat → Int32) => bb_b1 (uX8_outMany nn f_t_s_7) (fun (r9 : Int32) => some (r9, f_t_found, f_t_s_7))) (fun k8 => bb_loop2 (uX8_go_s39 nn p1 k8) nn (0 : Int32) f_t_s) else bb_b2 (uX8_finds (4 : Int32) f_t_found) (fun (r22 : Int32) (w23 : Nat → Int32) => some (r22, w23, f_t_s)))))
theorem kdX8_go : yX8_go.cls = RX8 ∧ yX8_go.cls ≠ "java/lang/invoke/MethodHandle" ∧ yX8_go.cls ≠ "java/lang/invoke/VarHandle" ∧ (parseMethodDescriptor yX8_go.desc).map (fun d => d.parameters.length) = some 1 := by decide +kernel
set_option maxHeartbeats 4000000 in
set_option maxRecDepth 100000 in
theorem kX8_go (l : Launch) (dC : Nat → ClassId) (dI : Nat → Nat → Nat) (cy : Nat → ClassId) (sz : Nat) (a_t : Nat → Nat) (p1 : Int32) (v_t_isKept : Int32) (v_t_bestPost : Int32) (v_t_mostSeen : Int32) (v_t_taped : Int32) (v_t_from : Int32) (v_t_to : Int32) (v_t_isWrong : Int32) (f_t_found : Nat → Int32) (f_t_s : Nat → Int32) (nn : Nat) (r : Int32) (f_t_found_o : Nat → Int32) (f_t_s_o : Nat → Int32) (h : uX8_go nn p1 f_t_found f_t_s = some (r, f_t_found_o, f_t_s_o)) : Met l yX8_go wsX8_go ({ frames := 10, cells := 0, slots := 0, locals := 221 }) (va_Pc [.ref (a_t 0), .int p1] (fun U => U.heap.size = sz ∧ va_P (dC, dI) vwCl [((a_t 0), oX8 a_t v_t_isKept v_t_bestPost v_t_mostSeen v_t_taped v_t_from v_t_to v_t_isWrong), ((a_t 5), .inl (cy 0, 7, .inl f_t_found)), ((a_t 1), .inl (cy 0, 155, .inl f_t_s))] U.heap ∧ va_K (dC, dI) vwCl (tyX cy) U ∧ va_D (fun _ => True) [((a_t 0), oX8 a_t v_t_isKept v_t_bestPost v_t_mostSeen v_t_taped v_t_from v_t_to v_t_isWrong), ((a_t 5), .inl (cy 0, 7, .inl f_t_found)), ((a_t 1), .inl (cy 0, 155, .inl f_t_s))])) (va_Qi (fun (r2 : Int32) (_ : Unit) => r = r2) (fun _ t => va_P (dC, dI) vwCl [((a_t 0), oX8 a_t v_t_isKept v_t_bestPost v_t_mostSeen v_t_taped v_t_from v_t_to v_t_isWrong), ((a_t 5), .inl (cy 0, 7, .inl f_t_found_o)), ((a_t 1), .inl (cy 0, 155, .inl f_t_s_o))] t.heap ∧ va_K (dC, dI) vwCl (tyX cy) t ∧ va_D (va_A [((a_t 0), oX8 a_t v_t_isKept v_t_bestPost v_t_mostSeen v_t_taped v_t_from v_t_to v_t_isWrong), ((a_t 5), .inl (cy 0, 7, .inl f_t_found)), ((a_t 1), .inl (cy 0, 155, .inl f_t_s))] sz) [((a_t 0), oX8 a_t v_t_isKept v_t_bestPost v_t_mostSeen v_t_taped v_t_from v_t_to v_t_isWrong), ((a_t 5), .inl (cy 0, 7, .inl f_t_found_o)), ((a_t 1), .inl (cy 0, 155, .inl f_t_s_o))]) (va_A [((a_t 0), oX8 a_t v_t_isKept v_t_bestPost v_t_mostSeen v_t_taped v_t_from v_t_to v_t_isWrong), ((a_t 5), .inl (cy 0, 7, .inl f_t_found)), ((a_t 1), .inl (cy 0, 155, .inl f_t_s))] sz)) 0 0 (va_A [((a_t 0), oX8 a_t v_t_isKept v_t_bestPost v_t_mostSeen v_t_taped v_t_from v_t_to v_t_isWrong), ((a_t 5), .inl (cy 0, 7, .inl f_t_found)), ((a_t 1), .inl (cy 0, 155, .inl f_t_s))] sz) := by
  refine Met.ofW (cc := cX8_go) (maxL := 3) (ret := (some .int)) (by decide) rfl ?_
  intro p e s m args below meth c s₁ B hml hv
  obtain ⟨rfl, hsz, hP, hK, hD0⟩ := hv
  have hx := B.exec
  have hb := B.bytes
  have hr := B.returns
  have hts := atoms_spec (ws := wsX8_go) B.pre
  have hown : s.vm.findClass RX8 = some m.cls := findClass_of_methodNamed B.named
  have hlocks := B.notSynchronized
  have iwX8 : ∀ w ∈ wsX80, w ∈ wsX8_go := fun w h9 => List.mem_cons_of_mem _ (List.mem_append_right _ (h9))
  have lk1 := hts (Cond.constantLong RX8 179 (60)) (List.mem_of_getElem? (i := 1) rfl)
  have lk2 := hts (Cond.fieldLink RX8 9 "BathBorderModel" "s" "[I") (List.mem_of_getElem? (i := 2) rfl)
  have lk3 := hts (Cond.constant RX8 174 (99999)) (List.mem_of_getElem? (i := 3) rfl)
  subst hsz
  have hD := hD0.self (sz := s.heap.size)
  generalize hAe : va_A [((a_t 0), oX8 a_t v_t_isKept v_t_bestPost v_t_mostSeen v_t_taped v_t_from v_t_to v_t_isWrong), ((a_t 5), .inl (cy 0, 7, .inl f_t_found)), ((a_t 1), .inl (cy 0, 155, .inl f_t_s))] s.heap.size = A at hD ⊢
  have hA : ∀ q : Nat, s.heap.size ≤ q → A q := fun q h => by rw [← hAe]; exact Or.inr h
  have hS : va_S A s.heap s.heap [] := va_S.rf
  have hP : va_P (dC, dI) vwCl [((a_t 0), oX8 a_t v_t_isKept v_t_bestPost v_t_mostSeen v_t_taped v_t_from v_t_to v_t_isWrong), ((a_t 5), .inl (cy 0, 7, .inl f_t_found)), ((a_t 1), .inl (cy 0, 155, .inl f_t_s))] s.heap := hP
  have hl := lv_entry ([.ref (a_t 0), .int p1]) (n := 3) (Nat.le_of_ble_eq_true rfl)
  rw [lg_entry_eq]
  generalize (lg_sl ([.ref (a_t 0), .int p1]) ++ List.replicate (3 - (lg_sl ([.ref (a_t 0), .int p1])).length) Slot.unset).toArray = ls at hl ⊢
  have hl : lv_has ls 3 [(0, .ref (a_t 0)), (1, .int p1)] := hl
  unfold uX8_go at h
  refine bb_cap (fun WW toW ofW => ?_)
  refine lv_iload_n hx hb dX8_go_0 rfl (lv_at hl 1 rfl) ?_
  refine lv_i2l hx hb dX8_go_1 rfl ?_
  refine lv_lconst (v := (1 : Int64)) hx hb dX8_go_2 (by decide) ?_
  refine lv_ldc2 (v := (60 : Int64)) hx hb hown lk1 dX8_go_3 ?_
  obtain ⟨r1, hc2, h⟩ := bb_b1_o h
  refine vp_callSi (W.runS (As := [.long p1.toInt64, .long (1 : Int64), .long (60 : Int64)]) (rest := []) ⟨hx, hb, hml, hown, hts⟩ (kX8_in l dC dI cy p1.toInt64 (1 : Int64) (60 : Int64) r1 hc2) (va_cwS 3 hts gX8_go_X8_in rfl rfl rfl kdX8_in ⟨Nat.le_of_ble_eq_true rfl, Nat.le_of_ble_eq_true rfl⟩) (bb_preS (hP.sub (ws' := []) [] rfl) hK) rfl rfl hl.1 rfl (lv_room (Nat.le_of_ble_eq_true rfl)) dX8_go_6 ⟨Nat.zero_le _, Nat.zero_le _⟩) (fun t3 et3 => ?_)
  obtain ⟨rfl, hz4⟩ := et3
  refine lv_if_ne (tgt := 18) hx hb dX8_go_9 (by decide) (fun c5 => ?_) (fun c5 => ?_)
  · replace h := bb_ifn c5 h
    refine lv_aload_n hx hb dX8_go_18 rfl (lv_at hl 0 rfl) ?_
    refine va_get (D := (dC, dI)) (ci := 7) (v := .ref (a_t 1)) (C := RX8) (T := TX8) (N := 20) hx hb hts iwX8 hown hK hP 0 rfl rfl 0 (by decide) lk2 (fun _ h9 => h9) rfl dX8_go_19 ?_
    refine lv_iconst (v := (0 : Int32)) hx hb dX8_go_22 (by decide) ?_
    refine va_iald hx hb hK hP 2 0 rfl rfl (bb_in (by decide)) dX8_go_23 ?_
    refine lv_iload_n hx hb dX8_go_24 rfl (lv_at hl 1 rfl) ?_
    refine lv_iadd hx hb dX8_go_25 ?_
    refine lv_ldc (v := (99999 : Int32)) hx hb hown lk3 dX8_go_26 ?_
    refine lv_icmp_le (tgt := 37) hx hb dX8_go_28 (by decide) (fun c6 => ?_) (fun c6 => ?_)
    · replace h := bb_ifp c6 h
      refine lv_iconst (v := (0 : Int32)) hx hb dX8_go_37 (by decide) ?_
      refine lv_istore_n (lv' := [(2, .int (0 : Int32)), (0, .ref (a_t 0)), (1, .int p1)]) hx hb dX8_go_38 rfl hl (by decide) rfl (fun ls hl => ?_)
      obtain ⟨k8, ek8, h⟩ := bb_cut_o h
      have Jk8 : ∀ (f_t_s_7 : Nat → Int32) (H : Heap) (locs : List Loc) (ls : Array Slot), k8 f_t_s_7 = some (r, f_t_found_o, f_t_s_o) → va_P (dC, dI) vwCl [((a_t 0), oX8 a_t v_t_isKept v_t_bestPost v_t_mostSeen v_t_taped v_t_from v_t_to v_t_isWrong), ((a_t 5), .inl (cy 0, 7, .inl f_t_found)), ((a_t 1), .inl (cy 0, 155, .inl f_t_s_7))] H → va_D A [((a_t 0), oX8 a_t v_t_isKept v_t_bestPost v_t_mostSeen v_t_taped v_t_from v_t_to v_t_isWrong), ((a_t 5), .inl (cy 0, 7, .inl f_t_found)), ((a_t 1), .inl (cy 0, 155, .inl f_t_s_7))] → va_S A s.heap H locs → lv_has ls 3 [(0, .ref (a_t 0))] → WW H locs (F0 m 54 ls []) := by
        intro f_t_s_7 H locs ls h hP hD hS hl
        refine ofW _ _ _ ?_
        subst ek8
        refine lv_aload_n hx hb dX8_go_54 rfl (lv_at hl 0 rfl) ?_
        obtain ⟨r9, hc10, h⟩ := bb_b1_o h
        refine vp_callSi (W.runV (As := []) (rest := []) ⟨hx, hb, hml, hown, hts⟩ (kX8_outMany l dC dI cy a_t v_t_isKept v_t_bestPost v_t_mostSeen v_t_taped v_t_from v_t_to v_t_isWrong f_t_s_7 nn r9 hc10) (cwV 0 hts gX8_go_X8_outMany rfl rfl rfl kdX8_outMany ⟨Nat.le_of_ble_eq_true rfl, Nat.le_of_ble_eq_true rfl⟩) (bb_preV (va_recv hK hP (ci := 7) (q0 := 0) rfl rfl) (hP.sub (ws' := [((a_t 0), oX8 a_t v_t_isKept v_t_bestPost v_t_mostSeen v_t_taped v_t_from v_t_to v_t_isWrong), ((a_t 1), .inl (cy 0, 155, .inl f_t_s_7))]) [0, 2] rfl) hK) rfl rfl hl.1 rfl (lv_room (Nat.le_of_ble_eq_true rfl)) dX8_go_55 ⟨Nat.zero_le _, Nat.zero_le _⟩) (fun t11 et11 => ?_)
        obtain rfl := et11
        obtain ⟨rfl, rfl, rfl⟩ := bb_some3 h
        have hP9 := hP.sub (ws' := [((a_t 0), oX8 a_t v_t_isKept v_t_bestPost v_t_mostSeen v_t_taped v_t_from v_t_to v_t_isWrong), ((a_t 5), .inl (cy 0, 7, .inl f_t_found)), ((a_t 1), .inl (cy 0, 155, .inl f_t_s_7))]) [0, 1, 2] rfl
        have hD9 := hD.sub (ws' := [((a_t 0), oX8 a_t v_t_isKept v_t_bestPost v_t_mostSeen v_t_taped v_t_from v_t_to v_t_isWrong), ((a_t 5), .inl (cy 0, 7, .inl f_t_found)), ((a_t 1), .inl (cy 0, 155, .inl f_t_s_7))]) [0, 1, 2] (by decide) rfl
        exact W.iret hx hb hr (fun t ht hW => ⟨⟨_, (), rfl, rfl, by rw [ht]; exact hP9, va_K.moved hW.alike hK, hD9⟩, hS.F ht⟩) hS.2.2 dX8_go_58
      have L17 : ∀ (n : Nat) (x2_12 : Int32) (f_t_s_13 : Nat → Int32) (H : Heap) (locs : List Loc) (ls : Array Slot), bb_loop2 (uX8_go_s39 nn p1 k8) n x2_12 f_t_s_13 = some (r, f_t_found_o, f_t_s_o) → va_P (dC, dI) vwCl [((a_t 0), oX8 a_t v_t_isKept v_t_bestPost v_t_mostSeen v_t_taped v_t_from v_t_to v_t_isWrong), ((a_t 5), .inl (cy 0, 7, .inl f_t_found)), ((a_t 1), .inl (cy 0, 155, .inl f_t_s_13))] H → va_D A [((a_t 0), oX8 a_t v_t_isKept v_t_bestPost v_t_mostSeen v_t_taped v_t_from v_t_to v_t_isWrong), ((a_t 5), .inl (cy 0, 7, .inl f_t_found)), ((a_t 1), .inl (cy 0, 155, .inl f_t_s_13))] → va_S A s.heap H locs → lv_has ls 3 [(0, .ref (a_t 0)), (1, .int p1), (2, .int x2_12)] → WW H locs (F0 m 39 ls []) := by
        intro n
        induction n with
        | zero => intro x2_12 f_t_s_13 H locs ls h; exact (bb_no h).elim
        | succ n ih18 =>
          intro x2_12 f_t_s_13 H locs ls h hP hD hS hl
          refine ofW _ _ _ ?_
          obtain ⟨rec16, erec16, h⟩ := bb_loop2_o h
          unfold uX8_go_s39 at h
          refine lv_iload_n hx hb dX8_go_39 rfl (lv_at hl 2 rfl) ?_
          refine lv_iload_n hx hb dX8_go_40 rfl (lv_at hl 1 rfl) ?_
          refine lv_icmp_ge (tgt := 54) hx hb dX8_go_41 (by decide) (fun c19 => ?_) (fun c19 => ?_)
          · replace h := bb_ifp c19 h
            exact toW _ _ _ (Jk8 f_t_s_13 _ _ _ h hP hD hS (lv_sub hl [0] rfl))
          · replace h := bb_ifn c19 h
            refine lv_aload_n hx hb dX8_go_44 rfl (lv_at hl 0 rfl) ?_
            obtain ⟨w20, hc21, h⟩ := bb_b1_o h
            refine bb_cwv (wr := [((a_t 5), .inl (cy 0, 7, .inl f_t_found))]) (w1 := [((a_t 0), oX8 a_t v_t_isKept v_t_bestPost v_t_mostSeen v_t_taped v_t_from v_t_to v_t_isWrong), ((a_t 1), .inl (cy 0, 155, .inl w20))]) (va_runV (As := []) (rest := []) ⟨hx, hb, hml, hown, hts⟩ (kX8_aMinute l dC dI cy H.size a_t v_t_isKept v_t_bestPost v_t_mostSeen v_t_taped v_t_from v_t_to v_t_isWrong f_t_s_13 nn w20 hc21) (cwV 0 hts gX8_go_X8_aMinute rfl rfl rfl kdX8_aMinute ⟨Nat.le_of_ble_eq_true rfl, Nat.le_of_ble_eq_true rfl⟩) (bb_preVw (va_recv hK hP (ci := 7) (q0 := 0) rfl rfl) (hP.sub (ws' := [((a_t 0), oX8 a_t v_t_isKept v_t_bestPost v_t_mostSeen v_t_taped v_t_from v_t_to v_t_isWrong), ((a_t 1), .inl (cy 0, 155, .inl f_t_s_13))]) [0, 2] rfl) hK (hD.sub (ws' := [((a_t 0), oX8 a_t v_t_isKept v_t_bestPost v_t_mostSeen v_t_taped v_t_from v_t_to v_t_isWrong), ((a_t 1), .inl (cy 0, 155, .inl f_t_s_13))]) [0, 2] (by decide) rfl)) rfl rfl hl.1 rfl (lv_room (Nat.le_of_ble_eq_true rfl)) dX8_go_45 ⟨Nat.zero_le _, Nat.zero_le _⟩) hP hD hS hA [0, 2] [1] rfl rfl (by decide) (by decide) (fun H locs hP hD hS => ?_)
            have hP : va_P (dC, dI) vwCl [((a_t 5), .inl (cy 0, 7, .inl f_t_found)), ((a_t 0), oX8 a_t v_t_isKept v_t_bestPost v_t_mostSeen v_t_taped v_t_from v_t_to v_t_isWrong), ((a_t 1), .inl (cy 0, 155, .inl w20))] H := hP
            have hD : va_D A [((a_t 5), .inl (cy 0, 7, .inl f_t_found)), ((a_t 0), oX8 a_t v_t_isKept v_t_bestPost v_t_mostSeen v_t_taped v_t_from v_t_to v_t_isWrong), ((a_t 1), .inl (cy 0, 155, .inl w20))] := hD
            refine lv_iinc (v := x2_12 + (1 : Int32)) (lv' := [(2, .int (x2_12 + (1 : Int32))), (0, .ref (a_t 0)), (1, .int p1)]) hx hb dX8_go_48 hl (k := 2) rfl rfl (by decide) rfl (fun ls hl => ?_)
            refine lv_goto (tgt := 39) hx hb dX8_go_51 (by decide) ?_
            rw [erec16] at h
            exact toW _ _ _ (ih18 (x2_12 + (1 : Int32)) w20 _ _ _ h (hP.sub [1, 0, 2] rfl) (hD.sub [1, 0, 2] (by decide) rfl) hS (lv_sub hl [1, 2, 0] rfl))
      exact toW _ _ _ (L17 nn (0 : Int32) f_t_s _ _ _ h hP hD hS (lv_sub hl [1, 2, 0] rfl))
    · replace h := bb_ifn c6 h
      refine lv_aload_n hx hb dX8_go_31 rfl (lv_at hl 0 rfl) ?_
      refine lv_iconst (v := (4 : Int32)) hx hb dX8_go_32 (by decide) ?_
      obtain ⟨r22, w23, hc24, h⟩ := bb_b2_o h
      refine bb_cwi (wr := [((a_t 1), .inl (cy 0, 155, .inl f_t_s))]) (w1 := [((a_t 0), oX8 a_t v_t_isKept v_t_bestPost v_t_mostSeen v_t_taped v_t_from v_t_to v_t_isWrong), ((a_t 5), .inl (cy 0, 7, .inl w23))]) (va_runV (As := [.int (4 : Int32)]) (rest := []) ⟨hx, hb, hml, hown, hts⟩ (kX8_finds l dC dI cy s.heap.size a_t (4 : Int32) v_t_isKept v_t_bestPost v_t_mostSeen v_t_taped v_t_from v_t_to v_t_isWrong f_t_found r22 w23 hc24) (cwV 1 hts gX8_go_X8_finds rfl rfl rfl kdX8_finds ⟨Nat.le_of_ble_eq_true rfl, Nat.le_of_ble_eq_true rfl⟩) (bb_preVw (va_recv hK hP (ci := 7) (q0 := 0) rfl rfl) (hP.sub (ws' := [((a_t 0), oX8 a_t v_t_isKept v_t_bestPost v_t_mostSeen v_t_taped v_t_from v_t_to v_t_isWrong), ((a_t 5), .inl (cy 0, 7, .inl f_t_found))]) [0, 1] rfl) hK (hD.sub (ws' := [((a_t 0), oX8 a_t v_t_isKept v_t_bestPost v_t_mostSeen v_t_taped v_t_from v_t_to v_t_isWrong), ((a_t 5), .inl (cy 0, 7, .inl f_t_found))]) [0, 1] (by decide) rfl)) rfl rfl hl.1 rfl (lv_room (Nat.le_of_ble_eq_true rfl)) dX8_go_33 ⟨Nat.zero_le _, Nat.zero_le _⟩) hP hD hS hA [0, 1] [2] rfl rfl (by decide) (by decide) (fun H locs hP hD hS => ?_)
      have hP : va_P (dC, dI) vwCl [((a_t 1), .inl (cy 0, 155, .inl f_t_s)), ((a_t 0), oX8 a_t v_t_isKept v_t_bestPost v_t_mostSeen v_t_taped v_t_from v_t_to v_t_isWrong), ((a_t 5), .inl (cy 0, 7, .inl w23))] H := hP
      have hD : va_D A [((a_t 1), .inl (cy 0, 155, .inl f_t_s)), ((a_t 0), oX8 a_t v_t_isKept v_t_bestPost v_t_mostSeen v_t_taped v_t_from v_t_to v_t_isWrong), ((a_t 5), .inl (cy 0, 7, .inl w23))] := hD
      obtain ⟨rfl, rfl, rfl⟩ := bb_some3 h
      have hP9 := hP.sub (ws' := [((a_t 0), oX8 a_t v_t_isKept v_t_bestPost v_t_mostSeen v_t_taped v_t_from v_t_to v_t_isWrong), ((a_t 5), .inl (cy 0, 7, .inl w23)), ((a_t 1), .inl (cy 0, 155, .inl f_t_s))]) [1, 2, 0] rfl
      have hD9 := hD.sub (ws' := [((a_t 0), oX8 a_t v_t_isKept v_t_bestPost v_t_mostSeen v_t_taped v_t_from v_t_to v_t_isWrong), ((a_t 5), .inl (cy 0, 7, .inl w23)), ((a_t 1), .inl (cy 0, 155, .inl f_t_s))]) [1, 2, 0] (by decide) rfl
      exact W.iret hx hb hr (fun t ht hW => ⟨⟨_, (), rfl, rfl, by rw [ht]; exact hP9, va_K.moved hW.alike hK, hD9⟩, hS.F ht⟩) hS.2.2 dX8_go_36
  · replace h := bb_ifp c5 h
    refine lv_aload_n hx hb dX8_go_12 rfl (lv_at hl 0 rfl) ?_
    refine lv_iconst (v := (0 : Int32)) hx hb dX8_go_13 (by decide) ?_
    obtain ⟨r25, w26, hc27, h⟩ := bb_b2_o h
    refine bb_cwi (wr := [((a_t 1), .inl (cy 0, 155, .inl f_t_s))]) (w1 := [((a_t 0), oX8 a_t v_t_isKept v_t_bestPost v_t_mostSeen v_t_taped v_t_from v_t_to v_t_isWrong), ((a_t 5), .inl (cy 0, 7, .inl w26))]) (va_runV (As := [.int (0 : Int32)]) (rest := []) ⟨hx, hb, hml, hown, hts⟩ (kX8_finds l dC dI cy s.heap.size a_t (0 : Int32) v_t_isKept v_t_bestPost v_t_mostSeen v_t_taped v_t_from v_t_to v_t_isWrong f_t_found r25 w26 hc27) (cwV 1 hts gX8_go_X8_finds rfl rfl rfl kdX8_finds ⟨Nat.le_of_ble_eq_true rfl, Nat.le_of_ble_eq_true rfl⟩) (bb_preVw (va_recv hK hP (ci := 7) (q0 := 0) rfl rfl) (hP.sub (ws' := [((a_t 0), oX8 a_t v_t_isKept v_t_bestPost v_t_mostSeen v_t_taped v_t_from v_t_to v_t_isWrong), ((a_t 5), .inl (cy 0, 7, .inl f_t_found))]) [0, 1] rfl) hK (hD.sub (ws' := [((a_t 0), oX8 a_t v_t_isKept v_t_bestPost v_t_mostSeen v_t_taped v_t_from v_t_to v_t_isWrong), ((a_t 5), .inl (cy 0, 7, .inl f_t_found))]) [0, 1] (by decide) rfl)) rfl rfl hl.1 rfl (lv_room (Nat.le_of_ble_eq_true rfl)) dX8_go_14 ⟨Nat.zero_le _, Nat.zero_le _⟩) hP hD hS hA [0, 1] [2] rfl rfl (by decide) (by decide) (fun H locs hP hD hS => ?_)
    have hP : va_P (dC, dI) vwCl [((a_t 1), .inl (cy 0, 155, .inl f_t_s)), ((a_t 0), oX8 a_t v_t_isKept v_t_bestPost v_t_mostSeen v_t_taped v_t_from v_t_to v_t_isWrong), ((a_t 5), .inl (cy 0, 7, .inl w26))] H := hP
    have hD : va_D A [((a_t 1), .inl (cy 0, 155, .inl f_t_s)), ((a_t 0), oX8 a_t v_t_isKept v_t_bestPost v_t_mostSeen v_t_taped v_t_from v_t_to v_t_isWrong), ((a_t 5), .inl (cy 0, 7, .inl w26))] := hD
    obtain ⟨rfl, rfl, rfl⟩ := bb_some3 h
    have hP9 := hP.sub (ws' := [((a_t 0), oX8 a_t v_t_isKept v_t_bestPost v_t_mostSeen v_t_taped v_t_from v_t_to v_t_isWrong), ((a_t 5), .inl (cy 0, 7, .inl w26)), ((a_t 1), .inl (cy 0, 155, .inl f_t_s))]) [1, 2, 0] rfl
    have hD9 := hD.sub (ws' := [((a_t 0), oX8 a_t v_t_isKept v_t_bestPost v_t_mostSeen v_t_taped v_t_from v_t_to v_t_isWrong), ((a_t 5), .inl (cy 0, 7, .inl w26)), ((a_t 1), .inl (cy 0, 155, .inl f_t_s))]) [1, 2, 0] (by decide) rfl
    exact W.iret hx hb hr (fun t ht hW => ⟨⟨_, (), rfl, rfl, by rw [ht]; exact hP9, va_K.moved hW.alike hK, hD9⟩, hS.F ht⟩) hS.2.2 dX8_go_17
/-! X8_seenMany -/
def uX8_seenMany_s4 (nn : Nat) (f_t_s_3 : Nat → Int32) (rec4 : Int32 → Int32 → Option (Int32)) (x1_1 : Int32) (x2_2 : Int32) : Option (Int32) :=
  (if (48 : Int32) ≤ x2_2 then some x1_1 else bb_b1 (uX8_isSeen nn x2_2 f_t_s_3) (fun (r8 : Int32) => bb_cut (fun (z12 : Int32) => rec4 (x1_1 + z12) (x2_2 + (1 : Int32))) (fun k13 => (if r8 = 0 then k13 (0 : Int32) else k13 (1 : Int32)))))
def uX8_seenMany (nn : Nat) (f_t_s : Nat → Int32) : Option (Int32) :=
  bb_loop2 (uX8_seenMany_s4 nn f_t_s) nn (0 : Int32) (0 : Int32)
theorem kdX8_seenMany : yX8_seenMany.cls = RX8 ∧ yX8_seenMany.cls ≠ "java/lang/invoke/MethodHandle" ∧ yX8_seenMany.cls ≠ "java/lang/invoke/VarHandle" ∧ (parseMethodDescriptor yX8_seenMany.desc).map (fun d => d.parameters.length) = some 0 := by decide +kernel
set_option maxHeartbeats 4000000 in
set_option maxRecDepth 100000 in
theorem kX8_seenMany (l : Launch) (dC : Nat → ClassId) (dI : Nat → Nat → Nat) (cy : Nat → ClassId) (a_t : Nat → Nat) (v_t_isKept : Int32) (v_t_bestPost : Int32) (v_t_mostSeen : Int32) (v_t_taped : Int32) (v_t_from : Int32) (v_t_to : Int32) (v_t_isWrong : Int32) (f_t_s : Nat → Int32) (nn : Nat) (r : Int32) (h : uX8_seenMany nn f_t_s = some r) : Met l yX8_seenMany wsX8_seenMany ({ frames := 5, cells := 0, slots := 0, locals := 108 }) (va_Pc [.ref (a_t 0)] (fun U => va_P (dC, dI) vwCl [((a_t 0), oX8 a_t v_t_isKept v_t_bestPost v_t_mostSeen v_t_taped v_t_from v_t_to v_t_isWrong), ((a_t 1), .inl (cy 0, 155, .inl f_t_s))] U.heap ∧ va_K (dC, dI) vwCl (tyX cy) U)) (vp_Si (fun r2 => r = r2)) 0 0 (fun _ => False) := by
  refine Met.ofW (cc := cX8_seenMany) (maxL := 3) (ret := (some .int)) (by decide) rfl ?_
  intro p e s m args below meth c s₁ B hml hv
  obtain ⟨rfl, hP, hK⟩ := hv
  have hx := B.exec
  have hb := B.bytes
  have hr := B.returns
  have hts := atoms_spec (ws := wsX8_seenMany) B.pre
  have hown : s.vm.findClass RX8 = some m.cls := findClass_of_methodNamed B.named
  have hlocks := B.notSynchronized
  have hl := lv_entry ([.ref (a_t 0)]) (n := 3) (Nat.le_of_ble_eq_true rfl)
  rw [lg_entry_eq]
  generalize (lg_sl ([.ref (a_t 0)]) ++ List.replicate (3 - (lg_sl ([.ref (a_t 0)])).length) Slot.unset).toArray = ls at hl ⊢
  have hl : lv_has ls 3 [(0, .ref (a_t 0))] := hl
  unfold uX8_seenMany at h
  refine bb_cap (fun WW toW ofW => ?_)
  refine lv_iconst (v := (0 : Int32)) hx hb dX8_seenMany_0 (by decide) ?_
  refine lv_istore_n (lv' := [(1, .int (0 : Int32)), (0, .ref (a_t 0))]) hx hb dX8_seenMany_1 rfl hl (by decide) rfl (fun ls hl => ?_)
  refine lv_iconst (v := (0 : Int32)) hx hb dX8_seenMany_2 (by decide) ?_
  refine lv_istore_n (lv' := [(2, .int (0 : Int32)), (1, .int (0 : Int32)), (0, .ref (a_t 0))]) hx hb dX8_seenMany_3 rfl hl (by decide) rfl (fun ls hl => ?_)
  have L5 : ∀ (n : Nat) (x1_1 : Int32) (x2_2 : Int32) (ls : Array Slot), bb_loop2 (uX8_seenMany_s4 nn f_t_s) n x1_1 x2_2 = some r → lv_has ls 3 [(0, .ref (a_t 0)), (1, .int x1_1), (2, .int x2_2)] → WW s.heap [] (F0 m 4 ls []) := by
    intro n
    induction n with
    | zero => intro x1_1 x2_2 ls h; exact (bb_no h).elim
    | succ n ih6 =>
      intro x1_1 x2_2 ls h hl
      refine ofW _ _ _ ?_
      obtain ⟨rec4, erec4, h⟩ := bb_loop2_o h
      unfold uX8_seenMany_s4 at h
      refine lv_iload_n hx hb dX8_seenMany_4 rfl (lv_at hl 2 rfl) ?_
      refine lv_bipush (v := (48 : Int32)) hx hb dX8_seenMany_5 (by decide) ?_
      refine lv_icmp_ge (tgt := 32) hx hb dX8_seenMany_7 (by decide) (fun c7 => ?_) (fun c7 => ?_)
      · replace h := bb_ifp c7 h
        refine lv_iload_n hx hb dX8_seenMany_32 rfl (lv_at hl 1 rfl) ?_
        obtain rfl := bb_some1 h
        exact W.iret hx hb hr (fun t ht hW => ⟨_, rfl, rfl, ht⟩) (fun q hq => by cases hq) dX8_seenMany_33
      · replace h := bb_ifn c7 h
        refine lv_iload_n hx hb dX8_seenMany_10 rfl (lv_at hl 1 rfl) ?_
        refine lv_aload_n hx hb dX8_seenMany_11 rfl (lv_at hl 0 rfl) ?_
        refine lv_iload_n hx hb dX8_seenMany_12 rfl (lv_at hl 2 rfl) ?_
        obtain ⟨r8, hc9, h⟩ := bb_b1_o h
        refine vp_callSi (W.runV (As := [.int x2_2]) (rest := [.int x1_1]) ⟨hx, hb, hml, hown, hts⟩ (kX8_isSeen l dC dI cy a_t x2_2 v_t_isKept v_t_bestPost v_t_mostSeen v_t_taped v_t_from v_t_to v_t_isWrong f_t_s nn r8 hc9) (cwV 1 hts gX8_seenMany_X8_isSeen rfl rfl rfl kdX8_isSeen ⟨Nat.le_of_ble_eq_true rfl, Nat.le_of_ble_eq_true rfl⟩) (bb_preV (va_recv hK hP (ci := 7) (q0 := 0) rfl rfl) hP hK) rfl rfl hl.1 rfl (lv_room (Nat.le_of_ble_eq_true rfl)) dX8_seenMany_13 ⟨Nat.zero_le _, Nat.zero_le _⟩) (fun t10 et10 => ?_)
        obtain ⟨rfl, hz11⟩ := et10
        obtain ⟨k13, ek13, h⟩ := bb_cut_o h
        have Jk13 : ∀ (z12 : Int32) (ls : Array Slot), k13 z12 = some r → lv_has ls 3 [(0, .ref (a_t 0)), (2, .int x2_2)] → WW s.heap [] (F0 m 24 ls [.int z12, .int x1_1]) := by
          intro z12 ls h hl
          refine ofW _ _ _ ?_
          subst ek13
          refine lv_iadd hx hb dX8_seenMany_24 ?_
          refine lv_istore_n (lv' := [(1, .int (x1_1 + z12)), (0, .ref (a_t 0)), (2, .int x2_2)]) hx hb dX8_seenMany_25 rfl hl (by decide) rfl (fun ls hl => ?_)
          refine lv_iinc (v := x2_2 + (1 : Int32)) (lv' := [(2, .int (x2_2 + (1 : Int32))), (1, .int (x1_1 + z12)), (0, .ref (a_t 0))]) hx hb dX8_seenMany_26 hl (k := 2) rfl rfl (by decide) rfl (fun ls hl => ?_)
          refine lv_goto (tgt := 4) hx hb dX8_seenMany_29 (by decide) ?_
          rw [erec4] at h
          exact toW _ _ _ (ih6 (x1_1 + z12) (x2_2 + (1 : Int32)) _ h (lv_sub hl [2, 1, 0] rfl))
        refine lv_if_eq (tgt := 23) hx hb dX8_seenMany_16 (by decide) (fun c14 => ?_) (fun c14 => ?_)
        · replace h := bb_ifp c14 h
          refine lv_iconst (v := (0 : Int32)) hx hb dX8_seenMany_23 (by decide) ?_
          exact toW _ _ _ (Jk13 (0 : Int32) _ h (lv_sub hl [0, 2] rfl))
        · replace h := bb_ifn c14 h
          refine lv_iconst (v := (1 : Int32)) hx hb dX8_seenMany_19 (by decide) ?_
          refine lv_goto (tgt := 24) hx hb dX8_seenMany_20 (by decide) ?_
          exact toW _ _ _ (Jk13 (1 : Int32) _ h (lv_sub hl [0, 2] rfl))
  exact toW _ _ _ (L5 nn (0 : Int32) (0 : Int32) _ h (lv_sub hl [2, 1, 0] rfl))
/-! X8_now -/
def uX8_now (nn : Nat) (p1 : Int32) (f_t_found : Nat → Int32) (f_t_s : Nat → Int32) : Option (Int32 × (Nat → Int32)) :=
  bb_cut (fun (u1 : Unit) => bb_b1 (uX8_outSet nn (p1 - (1 : Int32)) f_t_s) (fun (r3 : Int32) => some (r3, f_t_found))) (fun k2 => (if p1 = (0 : Int32) then some (f_t_s (0 : Int32).toNatClampNeg, f_t_found) else (if p1 = (1 : Int32) then k2 () else (if p1 = (2 : Int32) then k2 () else (if p1 = (3 : Int32) then some (f_t_s (3 : Int32).toNatClampNeg, f_t_found) else (if p1 = (4 : Int32) then some (f_t_s (2 : Int32).toNatClampNeg, f_t_found) else (if p1 = (5 : Int32) then bb_b1 (uX8_seenMany nn f_t_s) (fun (r12 : Int32) => some (r12, f_t_found)) else bb_b2 (uX8_finds (0 : Int32) f_t_found) (fun (r21 : Int32) (w22 : Nat → Int32) => some (r21, w22)))))))))
theorem kdX8_now : yX8_now.cls = RX8 ∧ yX8_now.cls ≠ "java/lang/invoke/MethodHandle" ∧ yX8_now.cls ≠ "java/lang/invoke/VarHandle" ∧ (parseMethodDescriptor yX8_now.desc).map (fun d => d.parameters.length) = some 1 := by decide +kernel
set_option maxHeartbeats 4000000 in
set_option maxRecDepth 100000 in
theorem kX8_now (l : Launch) (dC : Nat → ClassId) (dI : Nat → Nat → Nat) (cy : Nat → ClassId) (sz : Nat) (a_t : Nat → Nat) (p1 : Int32) (v_t_isKept : Int32) (v_t_bestPost : Int32) (v_t_mostSeen : Int32) (v_t_taped : Int32) (v_t_from : Int32) (v_t_to : Int32) (v_t_isWrong : Int32) (f_t_found : Nat → Int32) (f_t_s : Nat → Int32) (nn : Nat) (r : Int32) (f_t_found_o : Nat → Int32) (h : uX8_now nn p1 f_t_found f_t_s = some (r, f_t_found_o)) : Met l yX8_now wsX8_now ({ frames := 6, cells := 0, slots := 0, locals := 130 }) (va_Pc [.ref (a_t 0), .int p1] (fun U => U.heap.size = sz ∧ va_P (dC, dI) vwCl [((a_t 0), oX8 a_t v_t_isKept v_t_bestPost v_t_mostSeen v_t_taped v_t_from v_t_to v_t_isWrong), ((a_t 5), .inl (cy 0, 7, .inl f_t_found)), ((a_t 1), .inl (cy 0, 155, .inl f_t_s))] U.heap ∧ va_K (dC, dI) vwCl (tyX cy) U ∧ va_D (fun _ => True) [((a_t 0), oX8 a_t v_t_isKept v_t_bestPost v_t_mostSeen v_t_taped v_t_from v_t_to v_t_isWrong), ((a_t 5), .inl (cy 0, 7, .inl f_t_found)), ((a_t 1), .inl (cy 0, 155, .inl f_t_s))])) (va_Qi (fun (r2 : Int32) (_ : Unit) => r = r2) (fun _ t => va_P (dC, dI) vwCl [((a_t 0), oX8 a_t v_t_isKept v_t_bestPost v_t_mostSeen v_t_taped v_t_from v_t_to v_t_isWrong), ((a_t 5), .inl (cy 0, 7, .inl f_t_found_o)), ((a_t 1), .inl (cy 0, 155, .inl f_t_s))] t.heap ∧ va_K (dC, dI) vwCl (tyX cy) t ∧ va_D (va_A [((a_t 0), oX8 a_t v_t_isKept v_t_bestPost v_t_mostSeen v_t_taped v_t_from v_t_to v_t_isWrong), ((a_t 5), .inl (cy 0, 7, .inl f_t_found)), ((a_t 1), .inl (cy 0, 155, .inl f_t_s))] sz) [((a_t 0), oX8 a_t v_t_isKept v_t_bestPost v_t_mostSeen v_t_taped v_t_from v_t_to v_t_isWrong), ((a_t 5), .inl (cy 0, 7, .inl f_t_found_o)), ((a_t 1), .inl (cy 0, 155, .inl f_t_s))]) (va_A [((a_t 0), oX8 a_t v_t_isKept v_t_bestPost v_t_mostSeen v_t_taped v_t_from v_t_to v_t_isWrong), ((a_t 5), .inl (cy 0, 7, .inl f_t_found)), ((a_t 1), .inl (cy 0, 155, .inl f_t_s))] sz)) 0 0 (va_A [((a_t 0), oX8 a_t v_t_isKept v_t_bestPost v_t_mostSeen v_t_taped v_t_from v_t_to v_t_isWrong), ((a_t 5), .inl (cy 0, 7, .inl f_t_found)), ((a_t 1), .inl (cy 0, 155, .inl f_t_s))] sz) := by
  refine Met.ofW (cc := cX8_now) (maxL := 2) (ret := (some .int)) (by decide) rfl ?_
  intro p e s m args below meth c s₁ B hml hv
  obtain ⟨rfl, hsz, hP, hK, hD0⟩ := hv
  have hx := B.exec
  have hb := B.bytes
  have hr := B.returns
  have hts := atoms_spec (ws := wsX8_now) B.pre
  have hown : s.vm.findClass RX8 = some m.cls := findClass_of_methodNamed B.named
  have hlocks := B.notSynchronized
  have iwX8 : ∀ w ∈ wsX80, w ∈ wsX8_now := fun w h9 => List.mem_cons_of_mem _ (List.mem_append_right _ (h9))
  have lk1 := hts (Cond.fieldLink RX8 9 "BathBorderModel" "s" "[I") (List.mem_of_getElem? (i := 1) rfl)
  subst hsz
  have hD := hD0.self (sz := s.heap.size)
  generalize hAe : va_A [((a_t 0), oX8 a_t v_t_isKept v_t_bestPost v_t_mostSeen v_t_taped v_t_from v_t_to v_t_isWrong), ((a_t 5), .inl (cy 0, 7, .inl f_t_found)), ((a_t 1), .inl (cy 0, 155, .inl f_t_s))] s.heap.size = A at hD ⊢
  have hA : ∀ q : Nat, s.heap.size ≤ q → A q := fun q h => by rw [← hAe]; exact Or.inr h
  have hS : va_S A s.heap s.heap [] := va_S.rf
  have hP : va_P (dC, dI) vwCl [((a_t 0), oX8 a_t v_t_isKept v_t_bestPost v_t_mostSeen v_t_taped v_t_from v_t_to v_t_isWrong), ((a_t 5), .inl (cy 0, 7, .inl f_t_found)), ((a_t 1), .inl (cy 0, 155, .inl f_t_s))] s.heap := hP
  have hl := lv_entry ([.ref (a_t 0), .int p1]) (n := 2) (Nat.le_of_ble_eq_true rfl)
  rw [lg_entry_eq]
  generalize (lg_sl ([.ref (a_t 0), .int p1]) ++ List.replicate (2 - (lg_sl ([.ref (a_t 0), .int p1])).length) Slot.unset).toArray = ls at hl ⊢
  have hl : lv_has ls 2 [(0, .ref (a_t 0)), (1, .int p1)] := hl
  unfold uX8_now at h
  refine bb_cap (fun WW toW ofW => ?_)
  refine lv_iload_n hx hb dX8_now_0 rfl (lv_at hl 1 rfl) ?_
  obtain ⟨k2, ek2, h⟩ := bb_cut_o h
  have Jk2 : ∀ (u1 : Unit) (H : Heap) (locs : List Loc) (ls : Array Slot), k2 u1 = some (r, f_t_found_o) → va_P (dC, dI) vwCl [((a_t 0), oX8 a_t v_t_isKept v_t_bestPost v_t_mostSeen v_t_taped v_t_from v_t_to v_t_isWrong), ((a_t 5), .inl (cy 0, 7, .inl f_t_found)), ((a_t 1), .inl (cy 0, 155, .inl f_t_s))] H → va_D A [((a_t 0), oX8 a_t v_t_isKept v_t_bestPost v_t_mostSeen v_t_taped v_t_from v_t_to v_t_isWrong), ((a_t 5), .inl (cy 0, 7, .inl f_t_found)), ((a_t 1), .inl (cy 0, 155, .inl f_t_s))] → va_S A s.heap H locs → lv_has ls 2 [(0, .ref (a_t 0)), (1, .int p1)] → WW H locs (F0 m 47 ls []) := by
    intro u1 H locs ls h hP hD hS hl
    refine ofW _ _ _ ?_
    subst ek2
    refine lv_aload_n hx hb dX8_now_47 rfl (lv_at hl 0 rfl) ?_
    refine lv_iload_n hx hb dX8_now_48 rfl (lv_at hl 1 rfl) ?_
    refine lv_iconst (v := (1 : Int32)) hx hb dX8_now_49 (by decide) ?_
    refine lv_isub hx hb dX8_now_50 ?_
    obtain ⟨r3, hc4, h⟩ := bb_b1_o h
    refine vp_callSi (W.runV (As := [.int (p1 - (1 : Int32))]) (rest := []) ⟨hx, hb, hml, hown, hts⟩ (kX8_outSet l dC dI cy a_t (p1 - (1 : Int32)) v_t_isKept v_t_bestPost v_t_mostSeen v_t_taped v_t_from v_t_to v_t_isWrong f_t_s nn r3 hc4) (cwV 1 hts gX8_now_X8_outSet rfl rfl rfl kdX8_outSet ⟨Nat.le_of_ble_eq_true rfl, Nat.le_of_ble_eq_true rfl⟩) (bb_preV (va_recv hK hP (ci := 7) (q0 := 0) rfl rfl) (hP.sub (ws' := [((a_t 0), oX8 a_t v_t_isKept v_t_bestPost v_t_mostSeen v_t_taped v_t_from v_t_to v_t_isWrong), ((a_t 1), .inl (cy 0, 155, .inl f_t_s))]) [0, 2] rfl) hK) rfl rfl hl.1 rfl (lv_room (Nat.le_of_ble_eq_true rfl)) dX8_now_51 ⟨Nat.zero_le _, Nat.zero_le _⟩) (fun t5 et5 => ?_)
    obtain rfl := et5
    obtain ⟨rfl, rfl⟩ := bb_some2 h
    have hP9 := hP.sub (ws' := [((a_t 0), oX8 a_t v_t_isKept v_t_bestPost v_t_mostSeen v_t_taped v_t_from v_t_to v_t_isWrong), ((a_t 5), .inl (cy 0, 7, .inl f_t_found)), ((a_t 1), .inl (cy 0, 155, .inl f_t_s))]) [0, 1, 2] rfl
    have hD9 := hD.sub (ws' := [((a_t 0), oX8 a_t v_t_isKept v_t_bestPost v_t_mostSeen v_t_taped v_t_from v_t_to v_t_isWrong), ((a_t 5), .inl (cy 0, 7, .inl f_t_found)), ((a_t 1), .inl (cy 0, 155, .inl f_t_s))]) [0, 1, 2] (by decide) rfl
    exact W.iret hx hb hr (fun t ht hW => ⟨⟨_, (), rfl, rfl, by rw [ht]; exact hP9, va_K.moved hW.alike hK, hD9⟩, hS.F ht⟩) hS.2.2 dX8_now_54
  by_cases c6 : p1 = (0 : Int32)
  · replace h := bb_ifp c6 h
    refine lv_tableIn (tgt := 40) (off := 39) hx hb dX8_now_1 (by rw [c6]; decide) (by rw [c6]; decide) (by rw [c6]; decide) (by decide) ?_
    refine lv_aload_n hx hb dX8_now_40 rfl (lv_at hl 0 rfl) ?_
    refine va_get (D := (dC, dI)) (ci := 7) (v := .ref (a_t 1)) (C := RX8) (T := TX8) (N := 20) hx hb hts iwX8 hown hK hP 0 rfl rfl 0 (by decide) lk1 (fun _ h9 => h9) rfl dX8_now_41 ?_
    refine lv_iconst (v := (0 : Int32)) hx hb dX8_now_44 (by decide) ?_
    refine va_iald hx hb hK hP 2 0 rfl rfl (bb_in (by decide)) dX8_now_45 ?_
    obtain ⟨rfl, rfl⟩ := bb_some2 h
    have hP9 := hP.sub (ws' := [((a_t 0), oX8 a_t v_t_isKept v_t_bestPost v_t_mostSeen v_t_taped v_t_from v_t_to v_t_isWrong), ((a_t 5), .inl (cy 0, 7, .inl f_t_found)), ((a_t 1), .inl (cy 0, 155, .inl f_t_s))]) [0, 1, 2] rfl
    have hD9 := hD.sub (ws' := [((a_t 0), oX8 a_t v_t_isKept v_t_bestPost v_t_mostSeen v_t_taped v_t_from v_t_to v_t_isWrong), ((a_t 5), .inl (cy 0, 7, .inl f_t_found)), ((a_t 1), .inl (cy 0, 155, .inl f_t_s))]) [0, 1, 2] (by decide) rfl
    exact W.iret hx hb hr (fun t ht hW => ⟨⟨_, (), rfl, rfl, by rw [ht]; exact hP9, va_K.moved hW.alike hK, hD9⟩, hS.F ht⟩) hS.2.2 dX8_now_46
  · replace h := bb_ifn c6 h
    by_cases c7 : p1 = (1 : Int32)
    · replace h := bb_ifp c7 h
      refine lv_tableIn (tgt := 47) (off := 46) hx hb dX8_now_1 (by rw [c7]; decide) (by rw [c7]; decide) (by rw [c7]; decide) (by decide) ?_
      exact toW _ _ _ (Jk2 () _ _ _ h hP hD hS (lv_sub hl [0, 1] rfl))
    · replace h := bb_ifn c7 h
      by_cases c8 : p1 = (2 : Int32)
      · replace h := bb_ifp c8 h
        refine lv_tableIn (tgt := 47) (off := 46) hx hb dX8_now_1 (by rw [c8]; decide) (by rw [c8]; decide) (by rw [c8]; decide) (by decide) ?_
        exact toW _ _ _ (Jk2 () _ _ _ h hP hD hS (lv_sub hl [0, 1] rfl))
      · replace h := bb_ifn c8 h
        by_cases c9 : p1 = (3 : Int32)
        · replace h := bb_ifp c9 h
          refine lv_tableIn (tgt := 55) (off := 54) hx hb dX8_now_1 (by rw [c9]; decide) (by rw [c9]; decide) (by rw [c9]; decide) (by decide) ?_
          refine lv_aload_n hx hb dX8_now_55 rfl (lv_at hl 0 rfl) ?_
          refine va_get (D := (dC, dI)) (ci := 7) (v := .ref (a_t 1)) (C := RX8) (T := TX8) (N := 20) hx hb hts iwX8 hown hK hP 0 rfl rfl 0 (by decide) lk1 (fun _ h9 => h9) rfl dX8_now_56 ?_
          refine lv_iconst (v := (3 : Int32)) hx hb dX8_now_59 (by decide) ?_
          refine va_iald hx hb hK hP 2 0 rfl rfl (bb_in (by decide)) dX8_now_60 ?_
          obtain ⟨rfl, rfl⟩ := bb_some2 h
          have hP9 := hP.sub (ws' := [((a_t 0), oX8 a_t v_t_isKept v_t_bestPost v_t_mostSeen v_t_taped v_t_from v_t_to v_t_isWrong), ((a_t 5), .inl (cy 0, 7, .inl f_t_found)), ((a_t 1), .inl (cy 0, 155, .inl f_t_s))]) [0, 1, 2] rfl
          have hD9 := hD.sub (ws' := [((a_t 0), oX8 a_t v_t_isKept v_t_bestPost v_t_mostSeen v_t_taped v_t_from v_t_to v_t_isWrong), ((a_t 5), .inl (cy 0, 7, .inl f_t_found)), ((a_t 1), .inl (cy 0, 155, .inl f_t_s))]) [0, 1, 2] (by decide) rfl
          exact W.iret hx hb hr (fun t ht hW => ⟨⟨_, (), rfl, rfl, by rw [ht]; exact hP9, va_K.moved hW.alike hK, hD9⟩, hS.F ht⟩) hS.2.2 dX8_now_61
        · replace h := bb_ifn c9 h
          by_cases c10 : p1 = (4 : Int32)
          · replace h := bb_ifp c10 h
            refine lv_tableIn (tgt := 62) (off := 61) hx hb dX8_now_1 (by rw [c10]; decide) (by rw [c10]; decide) (by rw [c10]; decide) (by decide) ?_
            refine lv_aload_n hx hb dX8_now_62 rfl (lv_at hl 0 rfl) ?_
            refine va_get (D := (dC, dI)) (ci := 7) (v := .ref (a_t 1)) (C := RX8) (T := TX8) (N := 20) hx hb hts iwX8 hown hK hP 0 rfl rfl 0 (by decide) lk1 (fun _ h9 => h9) rfl dX8_now_63 ?_
            refine lv_iconst (v := (2 : Int32)) hx hb dX8_now_66 (by decide) ?_
            refine va_iald hx hb hK hP 2 0 rfl rfl (bb_in (by decide)) dX8_now_67 ?_
            obtain ⟨rfl, rfl⟩ := bb_some2 h
            have hP9 := hP.sub (ws' := [((a_t 0), oX8 a_t v_t_isKept v_t_bestPost v_t_mostSeen v_t_taped v_t_from v_t_to v_t_isWrong), ((a_t 5), .inl (cy 0, 7, .inl f_t_found)), ((a_t 1), .inl (cy 0, 155, .inl f_t_s))]) [0, 1, 2] rfl
            have hD9 := hD.sub (ws' := [((a_t 0), oX8 a_t v_t_isKept v_t_bestPost v_t_mostSeen v_t_taped v_t_from v_t_to v_t_isWrong), ((a_t 5), .inl (cy 0, 7, .inl f_t_found)), ((a_t 1), .inl (cy 0, 155, .inl f_t_s))]) [0, 1, 2] (by decide) rfl
            exact W.iret hx hb hr (fun t ht hW => ⟨⟨_, (), rfl, rfl, by rw [ht]; exact hP9, va_K.moved hW.alike hK, hD9⟩, hS.F ht⟩) hS.2.2 dX8_now_68
          · replace h := bb_ifn c10 h
            by_cases c11 : p1 = (5 : Int32)
            · replace h := bb_ifp c11 h
              refine lv_tableIn (tgt := 69) (off := 68) hx hb dX8_now_1 (by rw [c11]; decide) (by rw [c11]; decide) (by rw [c11]; decide) (by decide) ?_
              refine lv_aload_n hx hb dX8_now_69 rfl (lv_at hl 0 rfl) ?_
              obtain ⟨r12, hc13, h⟩ := bb_b1_o h
              refine vp_callSi (W.runV (As := []) (rest := []) ⟨hx, hb, hml, hown, hts⟩ (kX8_seenMany l dC dI cy a_t v_t_isKept v_t_bestPost v_t_mostSeen v_t_taped v_t_from v_t_to v_t_isWrong f_t_s nn r12 hc13) (cwV 0 hts gX8_now_X8_seenMany rfl rfl rfl kdX8_seenMany ⟨Nat.le_of_ble_eq_true rfl, Nat.le_of_ble_eq_true rfl⟩) (bb_preV (va_recv hK hP (ci := 7) (q0 := 0) rfl rfl) (hP.sub (ws' := [((a_t 0), oX8 a_t v_t_isKept v_t_bestPost v_t_mostSeen v_t_taped v_t_from v_t_to v_t_isWrong), ((a_t 1), .inl (cy 0, 155, .inl f_t_s))]) [0, 2] rfl) hK) rfl rfl hl.1 rfl (lv_room (Nat.le_of_ble_eq_true rfl)) dX8_now_70 ⟨Nat.zero_le _, Nat.zero_le _⟩) (fun t14 et14 => ?_)
              obtain rfl := et14
              obtain ⟨rfl, rfl⟩ := bb_some2 h
              have hP9 := hP.sub (ws' := [((a_t 0), oX8 a_t v_t_isKept v_t_bestPost v_t_mostSeen v_t_taped v_t_from v_t_to v_t_isWrong), ((a_t 5), .inl (cy 0, 7, .inl f_t_found)), ((a_t 1), .inl (cy 0, 155, .inl f_t_s))]) [0, 1, 2] rfl
              have hD9 := hD.sub (ws' := [((a_t 0), oX8 a_t v_t_isKept v_t_bestPost v_t_mostSeen v_t_taped v_t_from v_t_to v_t_isWrong), ((a_t 5), .inl (cy 0, 7, .inl f_t_found)), ((a_t 1), .inl (cy 0, 155, .inl f_t_s))]) [0, 1, 2] (by decide) rfl
              exact W.iret hx hb hr (fun t ht hW => ⟨⟨_, (), rfl, rfl, by rw [ht]; exact hP9, va_K.moved hW.alike hK, hD9⟩, hS.F ht⟩) hS.2.2 dX8_now_73
            · replace h := bb_ifn c11 h
              have q15 := bb_ne (n := 0) (by decide) c6
              have q16 := bb_ne (n := 1) (by decide) c7
              have q17 := bb_ne (n := 2) (by decide) c8
              have q18 := bb_ne (n := 3) (by decide) c9
              have q19 := bb_ne (n := 4) (by decide) c10
              have q20 := bb_ne (n := 5) (by decide) c11
              refine lv_tableOut (tgt := 74) hx hb dX8_now_1 (by omega) (by decide) ?_
              refine lv_aload_n hx hb dX8_now_74 rfl (lv_at hl 0 rfl) ?_
              refine lv_iconst (v := (0 : Int32)) hx hb dX8_now_75 (by decide) ?_
              obtain ⟨r21, w22, hc23, h⟩ := bb_b2_o h
              refine bb_cwi (wr := [((a_t 1), .inl (cy 0, 155, .inl f_t_s))]) (w1 := [((a_t 0), oX8 a_t v_t_isKept v_t_bestPost v_t_mostSeen v_t_taped v_t_from v_t_to v_t_isWrong), ((a_t 5), .inl (cy 0, 7, .inl w22))]) (va_runV (As := [.int (0 : Int32)]) (rest := []) ⟨hx, hb, hml, hown, hts⟩ (kX8_finds l dC dI cy s.heap.size a_t (0 : Int32) v_t_isKept v_t_bestPost v_t_mostSeen v_t_taped v_t_from v_t_to v_t_isWrong f_t_found r21 w22 hc23) (cwV 1 hts gX8_now_X8_finds rfl rfl rfl kdX8_finds ⟨Nat.le_of_ble_eq_true rfl, Nat.le_of_ble_eq_true rfl⟩) (bb_preVw (va_recv hK hP (ci := 7) (q0 := 0) rfl rfl) (hP.sub (ws' := [((a_t 0), oX8 a_t v_t_isKept v_t_bestPost v_t_mostSeen v_t_taped v_t_from v_t_to v_t_isWrong), ((a_t 5), .inl (cy 0, 7, .inl f_t_found))]) [0, 1] rfl) hK (hD.sub (ws' := [((a_t 0), oX8 a_t v_t_isKept v_t_bestPost v_t_mostSeen v_t_taped v_t_from v_t_to v_t_isWrong), ((a_t 5), .inl (cy 0, 7, .inl f_t_found))]) [0, 1] (by decide) rfl)) rfl rfl hl.1 rfl (lv_room (Nat.le_of_ble_eq_true rfl)) dX8_now_76 ⟨Nat.zero_le _, Nat.zero_le _⟩) hP hD hS hA [0, 1] [2] rfl rfl (by decide) (by decide) (fun H locs hP hD hS => ?_)
              have hP : va_P (dC, dI) vwCl [((a_t 1), .inl (cy 0, 155, .inl f_t_s)), ((a_t 0), oX8 a_t v_t_isKept v_t_bestPost v_t_mostSeen v_t_taped v_t_from v_t_to v_t_isWrong), ((a_t 5), .inl (cy 0, 7, .inl w22))] H := hP
              have hD : va_D A [((a_t 1), .inl (cy 0, 155, .inl f_t_s)), ((a_t 0), oX8 a_t v_t_isKept v_t_bestPost v_t_mostSeen v_t_taped v_t_from v_t_to v_t_isWrong), ((a_t 5), .inl (cy 0, 7, .inl w22))] := hD
              obtain ⟨rfl, rfl⟩ := bb_some2 h
              have hP9 := hP.sub (ws' := [((a_t 0), oX8 a_t v_t_isKept v_t_bestPost v_t_mostSeen v_t_taped v_t_from v_t_to v_t_isWrong), ((a_t 5), .inl (cy 0, 7, .inl w22)), ((a_t 1), .inl (cy 0, 155, .inl f_t_s))]) [1, 2, 0] rfl
              have hD9 := hD.sub (ws' := [((a_t 0), oX8 a_t v_t_isKept v_t_bestPost v_t_mostSeen v_t_taped v_t_from v_t_to v_t_isWrong), ((a_t 5), .inl (cy 0, 7, .inl w22)), ((a_t 1), .inl (cy 0, 155, .inl f_t_s))]) [1, 2, 0] (by decide) rfl
              exact W.iret hx hb hr (fun t ht hW => ⟨⟨_, (), rfl, rfl, by rw [ht]; exact hP9, va_K.moved hW.alike hK, hD9⟩, hS.F ht⟩) hS.2.2 dX8_now_79
/-! X8_seen -/
def uX8_seen_s4 (nn : Nat) (f_t_s_3 : Nat → Int32) (rec4 : Int64 → Int32 → Option (Int64)) (x1_1 : Int64) (x3_2 : Int32) : Option (Int64) :=
  (if (48 : Int32) ≤ x3_2 then some x1_1 else bb_b1 (uX8_isSeen nn x3_2 f_t_s_3) (fun (r8 : Int32) => bb_cut (fun (z12 : Int64) => rec4 (x1_1 ||| z12) (x3_2 + (1 : Int32))) (fun k13 => (if r8 = 0 then k13 (0 : Int64) else k13 ((1 : Int64) <<< (x3_2.toInt64 &&& 63))))))
def uX8_seen (nn : Nat) (f_t_s : Nat → Int32) : Option (Int64) :=
  bb_loop2 (uX8_seen_s4 nn f_t_s) nn (0 : Int64) (0 : Int32)
theorem kdX8_seen : yX8_seen.cls = RX8 ∧ yX8_seen.cls ≠ "java/lang/invoke/MethodHandle" ∧ yX8_seen.cls ≠ "java/lang/invoke/VarHandle" ∧ (parseMethodDescriptor yX8_seen.desc).map (fun d => d.parameters.length) = some 0 := by decide +kernel
set_option maxHeartbeats 4000000 in
set_option maxRecDepth 100000 in
theorem kX8_seen (l : Launch) (dC : Nat → ClassId) (dI : Nat → Nat → Nat) (cy : Nat → ClassId) (a_t : Nat → Nat) (v_t_isKept : Int32) (v_t_bestPost : Int32) (v_t_mostSeen : Int32) (v_t_taped : Int32) (v_t_from : Int32) (v_t_to : Int32) (v_t_isWrong : Int32) (f_t_s : Nat → Int32) (nn : Nat) (r : Int64) (h : uX8_seen nn f_t_s = some r) : Met l yX8_seen wsX8_seen ({ frames := 5, cells := 0, slots := 0, locals := 108 }) (va_Pc [.ref (a_t 0)] (fun U => va_P (dC, dI) vwCl [((a_t 0), oX8 a_t v_t_isKept v_t_bestPost v_t_mostSeen v_t_taped v_t_from v_t_to v_t_isWrong), ((a_t 1), .inl (cy 0, 155, .inl f_t_s))] U.heap ∧ va_K (dC, dI) vwCl (tyX cy) U)) (vp_Sl (fun r2 => r = r2)) 0 0 (fun _ => False) := by
  refine Met.ofW (cc := cX8_seen) (maxL := 4) (ret := (some .long)) (by decide) rfl ?_
  intro p e s m args below meth c s₁ B hml hv
  obtain ⟨rfl, hP, hK⟩ := hv
  have hx := B.exec
  have hb := B.bytes
  have hr := B.returns
  have hts := atoms_spec (ws := wsX8_seen) B.pre
  have hown : s.vm.findClass RX8 = some m.cls := findClass_of_methodNamed B.named
  have hlocks := B.notSynchronized
  have hl := lv_entry ([.ref (a_t 0)]) (n := 4) (Nat.le_of_ble_eq_true rfl)
  rw [lg_entry_eq]
  generalize (lg_sl ([.ref (a_t 0)]) ++ List.replicate (4 - (lg_sl ([.ref (a_t 0)])).length) Slot.unset).toArray = ls at hl ⊢
  have hl : lv_has ls 4 [(0, .ref (a_t 0))] := hl
  unfold uX8_seen at h
  refine bb_cap (fun WW toW ofW => ?_)
  refine lv_lconst (v := (0 : Int64)) hx hb dX8_seen_0 (by decide) ?_
  refine lv_lstore_n (lv' := [(1, .long (0 : Int64)), (0, .ref (a_t 0))]) hx hb dX8_seen_1 rfl hl (by decide) rfl (fun ls hl => ?_)
  refine lv_iconst (v := (0 : Int32)) hx hb dX8_seen_2 (by decide) ?_
  refine lv_istore_n (lv' := [(3, .int (0 : Int32)), (1, .long (0 : Int64)), (0, .ref (a_t 0))]) hx hb dX8_seen_3 rfl hl (by decide) rfl (fun ls hl => ?_)
  have L5 : ∀ (n : Nat) (x1_1 : Int64) (x3_2 : Int32) (ls : Array Slot), bb_loop2 (uX8_seen_s4 nn f_t_s) n x1_1 x3_2 = some r → lv_has ls 4 [(0, .ref (a_t 0)), (1, .long x1_1), (3, .int x3_2)] → WW s.heap [] (F0 m 4 ls []) := by
    intro n
    induction n with
    | zero => intro x1_1 x3_2 ls h; exact (bb_no h).elim
    | succ n ih6 =>
      intro x1_1 x3_2 ls h hl
      refine ofW _ _ _ ?_
      obtain ⟨rec4, erec4, h⟩ := bb_loop2_o h
      unfold uX8_seen_s4 at h
      refine lv_iload_n hx hb dX8_seen_4 rfl (lv_at hl 2 rfl) ?_
      refine lv_bipush (v := (48 : Int32)) hx hb dX8_seen_5 (by decide) ?_
      refine lv_icmp_ge (tgt := 34) hx hb dX8_seen_7 (by decide) (fun c7 => ?_) (fun c7 => ?_)
      · replace h := bb_ifp c7 h
        refine lv_lload_n hx hb dX8_seen_34 rfl (lv_at hl 1 rfl) ?_
        obtain rfl := bb_some1 h
        exact W.lret hx hb hr (fun t ht hW => ⟨_, rfl, rfl, ht⟩) (fun q hq => by cases hq) dX8_seen_35
      · replace h := bb_ifn c7 h
        refine lv_lload_n hx hb dX8_seen_10 rfl (lv_at hl 1 rfl) ?_
        refine lv_aload_n hx hb dX8_seen_11 rfl (lv_at hl 0 rfl) ?_
        refine lv_iload_n hx hb dX8_seen_12 rfl (lv_at hl 2 rfl) ?_
        obtain ⟨r8, hc9, h⟩ := bb_b1_o h
        refine vp_callSi (W.runV (As := [.int x3_2]) (rest := [.long x1_1]) ⟨hx, hb, hml, hown, hts⟩ (kX8_isSeen l dC dI cy a_t x3_2 v_t_isKept v_t_bestPost v_t_mostSeen v_t_taped v_t_from v_t_to v_t_isWrong f_t_s nn r8 hc9) (cwV 1 hts gX8_seen_X8_isSeen rfl rfl rfl kdX8_isSeen ⟨Nat.le_of_ble_eq_true rfl, Nat.le_of_ble_eq_true rfl⟩) (bb_preV (va_recv hK hP (ci := 7) (q0 := 0) rfl rfl) hP hK) rfl rfl hl.1 rfl (lv_room (Nat.le_of_ble_eq_true rfl)) dX8_seen_13 ⟨Nat.zero_le _, Nat.zero_le _⟩) (fun t10 et10 => ?_)
        obtain ⟨rfl, hz11⟩ := et10
        obtain ⟨k13, ek13, h⟩ := bb_cut_o h
        have Jk13 : ∀ (z12 : Int64) (ls : Array Slot), k13 z12 = some r → lv_has ls 4 [(0, .ref (a_t 0)), (3, .int x3_2)] → WW s.heap [] (F0 m 26 ls [.long z12, .long x1_1]) := by
          intro z12 ls h hl
          refine ofW _ _ _ ?_
          subst ek13
          refine lv_lor hx hb dX8_seen_26 ?_
          refine lv_lstore_n (lv' := [(1, .long (x1_1 ||| z12)), (0, .ref (a_t 0)), (3, .int x3_2)]) hx hb dX8_seen_27 rfl hl (by decide) rfl (fun ls hl => ?_)
          refine lv_iinc (v := x3_2 + (1 : Int32)) (lv' := [(3, .int (x3_2 + (1 : Int32))), (1, .long (x1_1 ||| z12)), (0, .ref (a_t 0))]) hx hb dX8_seen_28 hl (k := 2) rfl rfl (by decide) rfl (fun ls hl => ?_)
          refine lv_goto (tgt := 4) hx hb dX8_seen_31 (by decide) ?_
          rw [erec4] at h
          exact toW _ _ _ (ih6 (x1_1 ||| z12) (x3_2 + (1 : Int32)) _ h (lv_sub hl [2, 1, 0] rfl))
        refine lv_if_eq (tgt := 25) hx hb dX8_seen_16 (by decide) (fun c14 => ?_) (fun c14 => ?_)
        · replace h := bb_ifp c14 h
          refine lv_lconst (v := (0 : Int64)) hx hb dX8_seen_25 (by decide) ?_
          exact toW _ _ _ (Jk13 (0 : Int64) _ h (lv_sub hl [0, 2] rfl))
        · replace h := bb_ifn c14 h
          refine lv_lconst (v := (1 : Int64)) hx hb dX8_seen_19 (by decide) ?_
          refine lv_iload_n hx hb dX8_seen_20 rfl (lv_at hl 2 rfl) ?_
          refine lv_lshl hx hb dX8_seen_21 rfl ?_
          refine lv_goto (tgt := 26) hx hb dX8_seen_22 (by decide) ?_
          exact toW _ _ _ (Jk13 ((1 : Int64) <<< (x3_2.toInt64 &&& 63)) _ h (lv_sub hl [0, 2] rfl))
  exact toW _ _ _ (L5 nn (0 : Int64) (0 : Int32) _ h (lv_sub hl [2, 1, 0] rfl))
/-! X8_isAhead -/
def uX8_isAhead (p1 : Int32) : Option (Int32) :=
  bb_b1 (uX8_in p1.toInt64 (0 : Int64) (100 : Int64)) (fun (r1 : Int32) => some r1)
theorem kdX8_isAhead : yX8_isAhead.cls ≠ "java/lang/invoke/MethodHandle" ∧ yX8_isAhead.cls ≠ "java/lang/invoke/VarHandle" ∧ (parseMethodDescriptor yX8_isAhead.desc).map (fun d => d.parameters.length) = some 1 := by decide +kernel
set_option maxHeartbeats 4000000 in
set_option maxRecDepth 100000 in
theorem kX8_isAhead (l : Launch) (dC : Nat → ClassId) (dI : Nat → Nat → Nat) (cy : Nat → ClassId) (p1 : Int32) (r : Int32) (h : uX8_isAhead p1 = some r) : Met l yX8_isAhead wsX8_isAhead ({ frames := 1, cells := 0, slots := 0, locals := 25 }) (va_Pc [.int p1] (fun U => va_P (dC, dI) vwCl [] U.heap ∧ va_K (dC, dI) vwCl (tyX cy) U)) (vp_Si (fun r2 => r = r2 ∧ narrow .boolean (.int r2) = .int r2)) 0 0 (fun _ => False) := by
  refine Met.ofW (cc := cX8_isAhead) (maxL := 1) (ret := (some .boolean)) (by decide) rfl ?_
  intro p e s m args below meth c s₁ B hml hv
  obtain ⟨rfl, hP, hK⟩ := hv
  have hx := B.exec
  have hb := B.bytes
  have hr := B.returns
  have hts := atoms_spec (ws := wsX8_isAhead) B.pre
  have hown : s.vm.findClass RX8 = some m.cls := findClass_of_methodNamed B.named
  have hlocks := B.notSynchronized
  have lk1 := hts (Cond.constantLong RX8 194 (100)) (List.mem_of_getElem? (i := 1) rfl)
  have hl := lv_entry ([.int p1]) (n := 1) (Nat.le_of_ble_eq_true rfl)
  rw [lg_entry_eq]
  generalize (lg_sl ([.int p1]) ++ List.replicate (1 - (lg_sl ([.int p1])).length) Slot.unset).toArray = ls at hl ⊢
  have hl : lv_has ls 1 [(0, .int p1)] := hl
  unfold uX8_isAhead at h
  refine bb_cap (fun WW toW ofW => ?_)
  refine lv_iload_n hx hb dX8_isAhead_0 rfl (lv_at hl 0 rfl) ?_
  refine lv_i2l hx hb dX8_isAhead_1 rfl ?_
  refine lv_lconst (v := (0 : Int64)) hx hb dX8_isAhead_2 (by decide) ?_
  refine lv_ldc2 (v := (100 : Int64)) hx hb hown lk1 dX8_isAhead_3 ?_
  obtain ⟨r1, hc2, h⟩ := bb_b1_o h
  refine vp_callSi (W.runS (As := [.long p1.toInt64, .long (0 : Int64), .long (100 : Int64)]) (rest := []) ⟨hx, hb, hml, hown, hts⟩ (kX8_in l dC dI cy p1.toInt64 (0 : Int64) (100 : Int64) r1 hc2) (va_cwS 3 hts gX8_isAhead_X8_in rfl rfl rfl kdX8_in ⟨Nat.le_of_ble_eq_true rfl, Nat.le_of_ble_eq_true rfl⟩) (bb_preS hP hK) rfl rfl hl.1 rfl (lv_room (Nat.le_of_ble_eq_true rfl)) dX8_isAhead_6 ⟨Nat.zero_le _, Nat.zero_le _⟩) (fun t3 et3 => ?_)
  obtain ⟨rfl, hz4⟩ := et3
  obtain rfl := bb_some1 h
  exact W.zret hx hb hr hz4 (fun t ht hW => ⟨_, rfl, ⟨rfl, hz4⟩, ht⟩) (fun q hq => by cases hq) dX8_isAhead_9
/-! X8_ahead -/
def uX8_ahead_s27 (nn : Nat) (x2_26 : Int32) (k_42 : (Nat → Int32) → Option (Int32 × (Nat → Int32) × (Nat → Int32) × (Nat → Int32))) (rec29 : Int32 → (Nat → Int32) → Option (Int32 × (Nat → Int32) × (Nat → Int32) × (Nat → Int32))) (x3_23 : Int32) (f_t_s_24 : Nat → Int32) : Option (Int32 × (Nat → Int32) × (Nat → Int32) × (Nat → Int32)) :=
  (if x2_26 ≤ x3_23 then k_42 f_t_s_24 else bb_b1 (uX8_aMinute nn f_t_s_24) (fun (w33 : Nat → Int32) => rec29 (x3_23 + (1 : Int32)) w33))
def uX8_ahead (nn : Nat) (p1 : Int32) (p2 : Int32) (f_t_aside : Nat → Int32) (f_t_found : Nat → Int32) (f_t_s : Nat → Int32) : Option (Int32 × (Nat → Int32) × (Nat → Int32) × (Nat → Int32)) :=
  bb_b1 (uX8_isBather p1 f_t_s) (fun (r1 : Int32) => (if r1 = 0 then bb_b2 (uX8_finds (0 : Int32) f_t_found) (fun (r6 : Int32) (w7 : Nat → Int32) => some (r6, f_t_aside, w7, f_t_s)) else bb_b1 (uX8_isAhead p2) (fun (r9 : Int32) => (if r9 = 0 then bb_b2 (uX8_finds (0 : Int32) f_t_found) (fun (r35 : Int32) (w36 : Nat → Int32) => some (r35, f_t_aside, w36, f_t_s)) else bb_b1 (uX8_lends nn f_t_aside f_t_s) (fun (w14 : Nat → Int32) => bb_cut (fun (f_t_s_16 : Nat → Int32) => bb_b1 (uX8_its p1 (1 : Int32) f_t_s_16) (fun (r18 : Int32) => bb_b1 (uX8_laysBack nn w14 f_t_s_16) (fun (w21 : Nat → Int32) => some (r18, w14, f_t_found, w21)))) (fun k17 => bb_loop2 (uX8_ahead_s27 nn p2 k17) nn (0 : Int32) f_t_s))))))
theorem kdX8_ahead : yX8_ahead.cls = RX8 ∧ yX8_ahead.cls ≠ "java/lang/invoke/MethodHandle" ∧ yX8_ahead.cls ≠ "java/lang/invoke/VarHandle" ∧ (parseMethodDescriptor yX8_ahead.desc).map (fun d => d.parameters.length) = some 2 := by decide +kernel
set_option maxHeartbeats 4000000 in
set_option maxRecDepth 100000 in
theorem kX8_ahead (l : Launch) (dC : Nat → ClassId) (dI : Nat → Nat → Nat) (cy : Nat → ClassId) (sz : Nat) (a_t : Nat → Nat) (p1 : Int32) (p2 : Int32) (v_t_isKept : Int32) (v_t_bestPost : Int32) (v_t_mostSeen : Int32) (v_t_taped : Int32) (v_t_from : Int32) (v_t_to : Int32) (v_t_isWrong : Int32) (f_t_aside : Nat → Int32) (f_t_found : Nat → Int32) (f_t_s : Nat → Int32) (nn : Nat) (r : Int32) (f_t_aside_o : Nat → Int32) (f_t_found_o : Nat → Int32) (f_t_s_o : Nat → Int32) (h : uX8_ahead nn p1 p2 f_t_aside f_t_found f_t_s = some (r, f_t_aside_o, f_t_found_o, f_t_s_o)) : Met l yX8_ahead wsX8_ahead ({ frames := 10, cells := 0, slots := 0, locals := 221 }) (va_Pc [.ref (a_t 0), .int p1, .int p2] (fun U => U.heap.size = sz ∧ va_P (dC, dI) vwCl [((a_t 0), oX8 a_t v_t_isKept v_t_bestPost v_t_mostSeen v_t_taped v_t_from v_t_to v_t_isWrong), ((a_t 3), .inl (cy 0, 155, .inl f_t_aside)), ((a_t 5), .inl (cy 0, 7, .inl f_t_found)), ((a_t 1), .inl (cy 0, 155, .inl f_t_s))] U.heap ∧ va_K (dC, dI) vwCl (tyX cy) U ∧ va_D (fun _ => True) [((a_t 0), oX8 a_t v_t_isKept v_t_bestPost v_t_mostSeen v_t_taped v_t_from v_t_to v_t_isWrong), ((a_t 3), .inl (cy 0, 155, .inl f_t_aside)), ((a_t 5), .inl (cy 0, 7, .inl f_t_found)), ((a_t 1), .inl (cy 0, 155, .inl f_t_s))])) (va_Qi (fun (r2 : Int32) (_ : Unit) => r = r2) (fun _ t => va_P (dC, dI) vwCl [((a_t 0), oX8 a_t v_t_isKept v_t_bestPost v_t_mostSeen v_t_taped v_t_from v_t_to v_t_isWrong), ((a_t 3), .inl (cy 0, 155, .inl f_t_aside_o)), ((a_t 5), .inl (cy 0, 7, .inl f_t_found_o)), ((a_t 1), .inl (cy 0, 155, .inl f_t_s_o))] t.heap ∧ va_K (dC, dI) vwCl (tyX cy) t ∧ va_D (va_A [((a_t 0), oX8 a_t v_t_isKept v_t_bestPost v_t_mostSeen v_t_taped v_t_from v_t_to v_t_isWrong), ((a_t 3), .inl (cy 0, 155, .inl f_t_aside)), ((a_t 5), .inl (cy 0, 7, .inl f_t_found)), ((a_t 1), .inl (cy 0, 155, .inl f_t_s))] sz) [((a_t 0), oX8 a_t v_t_isKept v_t_bestPost v_t_mostSeen v_t_taped v_t_from v_t_to v_t_isWrong), ((a_t 3), .inl (cy 0, 155, .inl f_t_aside_o)), ((a_t 5), .inl (cy 0, 7, .inl f_t_found_o)), ((a_t 1), .inl (cy 0, 155, .inl f_t_s_o))]) (va_A [((a_t 0), oX8 a_t v_t_isKept v_t_bestPost v_t_mostSeen v_t_taped v_t_from v_t_to v_t_isWrong), ((a_t 3), .inl (cy 0, 155, .inl f_t_aside)), ((a_t 5), .inl (cy 0, 7, .inl f_t_found)), ((a_t 1), .inl (cy 0, 155, .inl f_t_s))] sz)) 0 0 (va_A [((a_t 0), oX8 a_t v_t_isKept v_t_bestPost v_t_mostSeen v_t_taped v_t_from v_t_to v_t_isWrong), ((a_t 3), .inl (cy 0, 155, .inl f_t_aside)), ((a_t 5), .inl (cy 0, 7, .inl f_t_found)), ((a_t 1), .inl (cy 0, 155, .inl f_t_s))] sz) := by
  refine Met.ofW (cc := cX8_ahead) (maxL := 4) (ret := (some .int)) (by decide) rfl ?_
  intro p e s m args below meth c s₁ B hml hv
  obtain ⟨rfl, hsz, hP, hK, hD0⟩ := hv
  have hx := B.exec
  have hb := B.bytes
  have hr := B.returns
  have hts := atoms_spec (ws := wsX8_ahead) B.pre
  have hown : s.vm.findClass RX8 = some m.cls := findClass_of_methodNamed B.named
  have hlocks := B.notSynchronized
  subst hsz
  have hD := hD0.self (sz := s.heap.size)
  generalize hAe : va_A [((a_t 0), oX8 a_t v_t_isKept v_t_bestPost v_t_mostSeen v_t_taped v_t_from v_t_to v_t_isWrong), ((a_t 3), .inl (cy 0, 155, .inl f_t_aside)), ((a_t 5), .inl (cy 0, 7, .inl f_t_found)), ((a_t 1), .inl (cy 0, 155, .inl f_t_s))] s.heap.size = A at hD ⊢
  have hA : ∀ q : Nat, s.heap.size ≤ q → A q := fun q h => by rw [← hAe]; exact Or.inr h
  have hS : va_S A s.heap s.heap [] := va_S.rf
  have hP : va_P (dC, dI) vwCl [((a_t 0), oX8 a_t v_t_isKept v_t_bestPost v_t_mostSeen v_t_taped v_t_from v_t_to v_t_isWrong), ((a_t 3), .inl (cy 0, 155, .inl f_t_aside)), ((a_t 5), .inl (cy 0, 7, .inl f_t_found)), ((a_t 1), .inl (cy 0, 155, .inl f_t_s))] s.heap := hP
  have hl := lv_entry ([.ref (a_t 0), .int p1, .int p2]) (n := 4) (Nat.le_of_ble_eq_true rfl)
  rw [lg_entry_eq]
  generalize (lg_sl ([.ref (a_t 0), .int p1, .int p2]) ++ List.replicate (4 - (lg_sl ([.ref (a_t 0), .int p1, .int p2])).length) Slot.unset).toArray = ls at hl ⊢
  have hl : lv_has ls 4 [(0, .ref (a_t 0)), (1, .int p1), (2, .int p2)] := hl
  unfold uX8_ahead at h
  refine bb_cap (fun WW toW ofW => ?_)
  refine lv_aload_n hx hb dX8_ahead_0 rfl (lv_at hl 0 rfl) ?_
  refine lv_iload_n hx hb dX8_ahead_1 rfl (lv_at hl 1 rfl) ?_
  obtain ⟨r1, hc2, h⟩ := bb_b1_o h
  refine vp_callSi (W.runV (As := [.int p1]) (rest := []) ⟨hx, hb, hml, hown, hts⟩ (kX8_isBather l dC dI cy a_t p1 v_t_isKept v_t_bestPost v_t_mostSeen v_t_taped v_t_from v_t_to v_t_isWrong f_t_s r1 hc2) (cwV 1 hts gX8_ahead_X8_isBather rfl rfl rfl kdX8_isBather ⟨Nat.le_of_ble_eq_true rfl, Nat.le_of_ble_eq_true rfl⟩) (bb_preV (va_recv hK hP (ci := 7) (q0 := 0) rfl rfl) (hP.sub (ws' := [((a_t 0), oX8 a_t v_t_isKept v_t_bestPost v_t_mostSeen v_t_taped v_t_from v_t_to v_t_isWrong), ((a_t 1), .inl (cy 0, 155, .inl f_t_s))]) [0, 3] rfl) hK) rfl rfl hl.1 rfl (lv_room (Nat.le_of_ble_eq_true rfl)) dX8_ahead_2 ⟨Nat.zero_le _, Nat.zero_le _⟩) (fun t3 et3 => ?_)
  obtain ⟨rfl, hz4⟩ := et3
  refine lv_if_eq (tgt := 15) hx hb dX8_ahead_5 (by decide) (fun c5 => ?_) (fun c5 => ?_)
  · replace h := bb_ifp c5 h
    refine lv_aload_n hx hb dX8_ahead_15 rfl (lv_at hl 0 rfl) ?_
    refine lv_iconst (v := (0 : Int32)) hx hb dX8_ahead_16 (by decide) ?_
    obtain ⟨r6, w7, hc8, h⟩ := bb_b2_o h
    refine bb_cwi (wr := [((a_t 3), .inl (cy 0, 155, .inl f_t_aside)), ((a_t 1), .inl (cy 0, 155, .inl f_t_s))]) (w1 := [((a_t 0), oX8 a_t v_t_isKept v_t_bestPost v_t_mostSeen v_t_taped v_t_from v_t_to v_t_isWrong), ((a_t 5), .inl (cy 0, 7, .inl w7))]) (va_runV (As := [.int (0 : Int32)]) (rest := []) ⟨hx, hb, hml, hown, hts⟩ (kX8_finds l dC dI cy s.heap.size a_t (0 : Int32) v_t_isKept v_t_bestPost v_t_mostSeen v_t_taped v_t_from v_t_to v_t_isWrong f_t_found r6 w7 hc8) (cwV 1 hts gX8_ahead_X8_finds rfl rfl rfl kdX8_finds ⟨Nat.le_of_ble_eq_true rfl, Nat.le_of_ble_eq_true rfl⟩) (bb_preVw (va_recv hK hP (ci := 7) (q0 := 0) rfl rfl) (hP.sub (ws' := [((a_t 0), oX8 a_t v_t_isKept v_t_bestPost v_t_mostSeen v_t_taped v_t_from v_t_to v_t_isWrong), ((a_t 5), .inl (cy 0, 7, .inl f_t_found))]) [0, 2] rfl) hK (hD.sub (ws' := [((a_t 0), oX8 a_t v_t_isKept v_t_bestPost v_t_mostSeen v_t_taped v_t_from v_t_to v_t_isWrong), ((a_t 5), .inl (cy 0, 7, .inl f_t_found))]) [0, 2] (by decide) rfl)) rfl rfl hl.1 rfl (lv_room (Nat.le_of_ble_eq_true rfl)) dX8_ahead_17 ⟨Nat.zero_le _, Nat.zero_le _⟩) hP hD hS hA [0, 2] [1, 3] rfl rfl (by decide) (by decide) (fun H locs hP hD hS => ?_)
    have hP : va_P (dC, dI) vwCl [((a_t 3), .inl (cy 0, 155, .inl f_t_aside)), ((a_t 1), .inl (cy 0, 155, .inl f_t_s)), ((a_t 0), oX8 a_t v_t_isKept v_t_bestPost v_t_mostSeen v_t_taped v_t_from v_t_to v_t_isWrong), ((a_t 5), .inl (cy 0, 7, .inl w7))] H := hP
    have hD : va_D A [((a_t 3), .inl (cy 0, 155, .inl f_t_aside)), ((a_t 1), .inl (cy 0, 155, .inl f_t_s)), ((a_t 0), oX8 a_t v_t_isKept v_t_bestPost v_t_mostSeen v_t_taped v_t_from v_t_to v_t_isWrong), ((a_t 5), .inl (cy 0, 7, .inl w7))] := hD
    obtain ⟨rfl, rfl, rfl, rfl⟩ := bb_some4 h
    have hP9 := hP.sub (ws' := [((a_t 0), oX8 a_t v_t_isKept v_t_bestPost v_t_mostSeen v_t_taped v_t_from v_t_to v_t_isWrong), ((a_t 3), .inl (cy 0, 155, .inl f_t_aside)), ((a_t 5), .inl (cy 0, 7, .inl w7)), ((a_t 1), .inl (cy 0, 155, .inl f_t_s))]) [2, 0, 3, 1] rfl
    have hD9 := hD.sub (ws' := [((a_t 0), oX8 a_t v_t_isKept v_t_bestPost v_t_mostSeen v_t_taped v_t_from v_t_to v_t_isWrong), ((a_t 3), .inl (cy 0, 155, .inl f_t_aside)), ((a_t 5), .inl (cy 0, 7, .inl w7)), ((a_t 1), .inl (cy 0, 155, .inl f_t_s))]) [2, 0, 3, 1] (by decide) rfl
    exact W.iret hx hb hr (fun t ht hW => ⟨⟨_, (), rfl, rfl, by rw [ht]; exact hP9, va_K.moved hW.alike hK, hD9⟩, hS.F ht⟩) hS.2.2 dX8_ahead_20
  · replace h := bb_ifn c5 h
    refine lv_iload_n hx hb dX8_ahead_8 rfl (lv_at hl 2 rfl) ?_
    obtain ⟨r9, hc10, h⟩ := bb_b1_o h
    refine vp_callSi (W.runS (As := [.int p2]) (rest := []) ⟨hx, hb, hml, hown, hts⟩ (kX8_isAhead l dC dI cy p2 r9 hc10) (va_cwS 1 hts gX8_ahead_X8_isAhead rfl rfl rfl kdX8_isAhead ⟨Nat.le_of_ble_eq_true rfl, Nat.le_of_ble_eq_true rfl⟩) (bb_preS (hP.sub (ws' := []) [] rfl) hK) rfl rfl hl.1 rfl (lv_room (Nat.le_of_ble_eq_true rfl)) dX8_ahead_9 ⟨Nat.zero_le _, Nat.zero_le _⟩) (fun t11 et11 => ?_)
    obtain ⟨rfl, hz12⟩ := et11
    refine lv_if_ne (tgt := 21) hx hb dX8_ahead_12 (by decide) (fun c13 => ?_) (fun c13 => ?_)
    · replace h := bb_ifn c13 h
      refine lv_aload_n hx hb dX8_ahead_21 rfl (lv_at hl 0 rfl) ?_
      obtain ⟨w14, hc15, h⟩ := bb_b1_o h
      refine bb_cwv (wr := [((a_t 5), .inl (cy 0, 7, .inl f_t_found))]) (w1 := [((a_t 0), oX8 a_t v_t_isKept v_t_bestPost v_t_mostSeen v_t_taped v_t_from v_t_to v_t_isWrong), ((a_t 3), .inl (cy 0, 155, .inl w14)), ((a_t 1), .inl (cy 0, 155, .inl f_t_s))]) (va_runV (As := []) (rest := []) ⟨hx, hb, hml, hown, hts⟩ (kX8_lends l dC dI cy s.heap.size a_t v_t_isKept v_t_bestPost v_t_mostSeen v_t_taped v_t_from v_t_to v_t_isWrong f_t_aside f_t_s nn w14 hc15) (cwV 0 hts gX8_ahead_X8_lends rfl rfl rfl kdX8_lends ⟨Nat.le_of_ble_eq_true rfl, Nat.le_of_ble_eq_true rfl⟩) (bb_preVw (va_recv hK hP (ci := 7) (q0 := 0) rfl rfl) (hP.sub (ws' := [((a_t 0), oX8 a_t v_t_isKept v_t_bestPost v_t_mostSeen v_t_taped v_t_from v_t_to v_t_isWrong), ((a_t 3), .inl (cy 0, 155, .inl f_t_aside)), ((a_t 1), .inl (cy 0, 155, .inl f_t_s))]) [0, 1, 3] rfl) hK (hD.sub (ws' := [((a_t 0), oX8 a_t v_t_isKept v_t_bestPost v_t_mostSeen v_t_taped v_t_from v_t_to v_t_isWrong), ((a_t 3), .inl (cy 0, 155, .inl f_t_aside)), ((a_t 1), .inl (cy 0, 155, .inl f_t_s))]) [0, 1, 3] (by decide) rfl)) rfl rfl hl.1 rfl (lv_room (Nat.le_of_ble_eq_true rfl)) dX8_ahead_22 ⟨Nat.zero_le _, Nat.zero_le _⟩) hP hD hS hA [0, 1, 3] [2] rfl rfl (by decide) (by decide) (fun H locs hP hD hS => ?_)
      have hP : va_P (dC, dI) vwCl [((a_t 5), .inl (cy 0, 7, .inl f_t_found)), ((a_t 0), oX8 a_t v_t_isKept v_t_bestPost v_t_mostSeen v_t_taped v_t_from v_t_to v_t_isWrong), ((a_t 3), .inl (cy 0, 155, .inl w14)), ((a_t 1), .inl (cy 0, 155, .inl f_t_s))] H := hP
      have hD : va_D A [((a_t 5), .inl (cy 0, 7, .inl f_t_found)), ((a_t 0), oX8 a_t v_t_isKept v_t_bestPost v_t_mostSeen v_t_taped v_t_from v_t_to v_t_isWrong), ((a_t 3), .inl (cy 0, 155, .inl w14)), ((a_t 1), .inl (cy 0, 155, .inl f_t_s))] := hD
      refine lv_iconst (v := (0 : Int32)) hx hb dX8_ahead_25 (by decide) ?_
      refine lv_istore_n (lv' := [(3, .int (0 : Int32)), (0, .ref (a_t 0)), (1, .int p1), (2, .int p2)]) hx hb dX8_ahead_26 rfl hl (by decide) rfl (fun ls hl => ?_)
      obtain ⟨k17, ek17, h⟩ := bb_cut_o h
      have Jk17 : ∀ (f_t_s_16 : Nat → Int32) (H : Heap) (locs : List Loc) (ls : Array Slot), k17 f_t_s_16 = some (r, f_t_aside_o, f_t_found_o, f_t_s_o) → va_P (dC, dI) vwCl [((a_t 0), oX8 a_t v_t_isKept v_t_bestPost v_t_mostSeen v_t_taped v_t_from v_t_to v_t_isWrong), ((a_t 3), .inl (cy 0, 155, .inl w14)), ((a_t 5), .inl (cy 0, 7, .inl f_t_found)), ((a_t 1), .inl (cy 0, 155, .inl f_t_s_16))] H → va_D A [((a_t 0), oX8 a_t v_t_isKept v_t_bestPost v_t_mostSeen v_t_taped v_t_from v_t_to v_t_isWrong), ((a_t 3), .inl (cy 0, 155, .inl w14)), ((a_t 5), .inl (cy 0, 7, .inl f_t_found)), ((a_t 1), .inl (cy 0, 155, .inl f_t_s_16))] → va_S A s.heap H locs → lv_has ls 4 [(0, .ref (a_t 0)), (1, .int p1)] → WW H locs (F0 m 42 ls []) := by
        intro f_t_s_16 H locs ls h hP hD hS hl
        refine ofW _ _ _ ?_
        subst ek17
        refine lv_aload_n hx hb dX8_ahead_42 rfl (lv_at hl 0 rfl) ?_
        refine lv_iload_n hx hb dX8_ahead_43 rfl (lv_at hl 1 rfl) ?_
        refine lv_iconst (v := (1 : Int32)) hx hb dX8_ahead_44 (by decide) ?_
        obtain ⟨r18, hc19, h⟩ := bb_b1_o h
        refine vp_callSi (W.runV (As := [.int p1, .int (1 : Int32)]) (rest := []) ⟨hx, hb, hml, hown, hts⟩ (kX8_its l dC dI cy a_t p1 (1 : Int32) v_t_isKept v_t_bestPost v_t_mostSeen v_t_taped v_t_from v_t_to v_t_isWrong f_t_s_16 r18 hc19) (cwV 2 hts gX8_ahead_X8_its rfl rfl rfl kdX8_its ⟨Nat.le_of_ble_eq_true rfl, Nat.le_of_ble_eq_true rfl⟩) (bb_preV (va_recv hK hP (ci := 7) (q0 := 0) rfl rfl) (hP.sub (ws' := [((a_t 0), oX8 a_t v_t_isKept v_t_bestPost v_t_mostSeen v_t_taped v_t_from v_t_to v_t_isWrong), ((a_t 1), .inl (cy 0, 155, .inl f_t_s_16))]) [0, 3] rfl) hK) rfl rfl hl.1 rfl (lv_room (Nat.le_of_ble_eq_true rfl)) dX8_ahead_45 ⟨Nat.zero_le _, Nat.zero_le _⟩) (fun t20 et20 => ?_)
        obtain rfl := et20
        refine lv_istore_n (lv' := [(3, .int r18), (0, .ref (a_t 0)), (1, .int p1)]) hx hb dX8_ahead_48 rfl hl (by decide) rfl (fun ls hl => ?_)
        refine lv_aload_n hx hb dX8_ahead_49 rfl (lv_at hl 1 rfl) ?_
        obtain ⟨w21, hc22, h⟩ := bb_b1_o h
        refine bb_cwv (wr := [((a_t 5), .inl (cy 0, 7, .inl f_t_found))]) (w1 := [((a_t 0), oX8 a_t v_t_isKept v_t_bestPost v_t_mostSeen v_t_taped v_t_from v_t_to v_t_isWrong), ((a_t 3), .inl (cy 0, 155, .inl w14)), ((a_t 1), .inl (cy 0, 155, .inl w21))]) (va_runV (As := []) (rest := []) ⟨hx, hb, hml, hown, hts⟩ (kX8_laysBack l dC dI cy H.size a_t v_t_isKept v_t_bestPost v_t_mostSeen v_t_taped v_t_from v_t_to v_t_isWrong w14 f_t_s_16 nn w21 hc22) (cwV 0 hts gX8_ahead_X8_laysBack rfl rfl rfl kdX8_laysBack ⟨Nat.le_of_ble_eq_true rfl, Nat.le_of_ble_eq_true rfl⟩) (bb_preVw (va_recv hK hP (ci := 7) (q0 := 0) rfl rfl) (hP.sub (ws' := [((a_t 0), oX8 a_t v_t_isKept v_t_bestPost v_t_mostSeen v_t_taped v_t_from v_t_to v_t_isWrong), ((a_t 3), .inl (cy 0, 155, .inl w14)), ((a_t 1), .inl (cy 0, 155, .inl f_t_s_16))]) [0, 1, 3] rfl) hK (hD.sub (ws' := [((a_t 0), oX8 a_t v_t_isKept v_t_bestPost v_t_mostSeen v_t_taped v_t_from v_t_to v_t_isWrong), ((a_t 3), .inl (cy 0, 155, .inl w14)), ((a_t 1), .inl (cy 0, 155, .inl f_t_s_16))]) [0, 1, 3] (by decide) rfl)) rfl rfl hl.1 rfl (lv_room (Nat.le_of_ble_eq_true rfl)) dX8_ahead_50 ⟨Nat.zero_le _, Nat.zero_le _⟩) hP hD hS hA [0, 1, 3] [2] rfl rfl (by decide) (by decide) (fun H locs hP hD hS => ?_)
        have hP : va_P (dC, dI) vwCl [((a_t 5), .inl (cy 0, 7, .inl f_t_found)), ((a_t 0), oX8 a_t v_t_isKept v_t_bestPost v_t_mostSeen v_t_taped v_t_from v_t_to v_t_isWrong), ((a_t 3), .inl (cy 0, 155, .inl w14)), ((a_t 1), .inl (cy 0, 155, .inl w21))] H := hP
        have hD : va_D A [((a_t 5), .inl (cy 0, 7, .inl f_t_found)), ((a_t 0), oX8 a_t v_t_isKept v_t_bestPost v_t_mostSeen v_t_taped v_t_from v_t_to v_t_isWrong), ((a_t 3), .inl (cy 0, 155, .inl w14)), ((a_t 1), .inl (cy 0, 155, .inl w21))] := hD
        refine lv_iload_n hx hb dX8_ahead_53 rfl (lv_at hl 0 rfl) ?_
        obtain ⟨rfl, rfl, rfl, rfl⟩ := bb_some4 h
        have hP9 := hP.sub (ws' := [((a_t 0), oX8 a_t v_t_isKept v_t_bestPost v_t_mostSeen v_t_taped v_t_from v_t_to v_t_isWrong), ((a_t 3), .inl (cy 0, 155, .inl w14)), ((a_t 5), .inl (cy 0, 7, .inl f_t_found)), ((a_t 1), .inl (cy 0, 155, .inl w21))]) [1, 2, 0, 3] rfl
        have hD9 := hD.sub (ws' := [((a_t 0), oX8 a_t v_t_isKept v_t_bestPost v_t_mostSeen v_t_taped v_t_from v_t_to v_t_isWrong), ((a_t 3), .inl (cy 0, 155, .inl w14)), ((a_t 5), .inl (cy 0, 7, .inl f_t_found)), ((a_t 1), .inl (cy 0, 155, .inl w21))]) [1, 2, 0, 3] (by decide) rfl
        exact W.iret hx hb hr (fun t ht hW => ⟨⟨_, (), rfl, rfl, by rw [ht]; exact hP9, va_K.moved hW.alike hK, hD9⟩, hS.F ht⟩) hS.2.2 dX8_ahead_54
      have L30 : ∀ (n : Nat) (x3_23 : Int32) (f_t_s_24 : Nat → Int32) (H : Heap) (locs : List Loc) (ls : Array Slot), bb_loop2 (uX8_ahead_s27 nn p2 k17) n x3_23 f_t_s_24 = some (r, f_t_aside_o, f_t_found_o, f_t_s_o) → va_P (dC, dI) vwCl [((a_t 0), oX8 a_t v_t_isKept v_t_bestPost v_t_mostSeen v_t_taped v_t_from v_t_to v_t_isWrong), ((a_t 3), .inl (cy 0, 155, .inl w14)), ((a_t 5), .inl (cy 0, 7, .inl f_t_found)), ((a_t 1), .inl (cy 0, 155, .inl f_t_s_24))] H → va_D A [((a_t 0), oX8 a_t v_t_isKept v_t_bestPost v_t_mostSeen v_t_taped v_t_from v_t_to v_t_isWrong), ((a_t 3), .inl (cy 0, 155, .inl w14)), ((a_t 5), .inl (cy 0, 7, .inl f_t_found)), ((a_t 1), .inl (cy 0, 155, .inl f_t_s_24))] → va_S A s.heap H locs → lv_has ls 4 [(0, .ref (a_t 0)), (1, .int p1), (2, .int p2), (3, .int x3_23)] → WW H locs (F0 m 27 ls []) := by
        intro n
        induction n with
        | zero => intro x3_23 f_t_s_24 H locs ls h; exact (bb_no h).elim
        | succ n ih31 =>
          intro x3_23 f_t_s_24 H locs ls h hP hD hS hl
          refine ofW _ _ _ ?_
          obtain ⟨rec29, erec29, h⟩ := bb_loop2_o h
          unfold uX8_ahead_s27 at h
          refine lv_iload_n hx hb dX8_ahead_27 rfl (lv_at hl 3 rfl) ?_
          refine lv_iload_n hx hb dX8_ahead_28 rfl (lv_at hl 2 rfl) ?_
          refine lv_icmp_ge (tgt := 42) hx hb dX8_ahead_29 (by decide) (fun c32 => ?_) (fun c32 => ?_)
          · replace h := bb_ifp c32 h
            exact toW _ _ _ (Jk17 f_t_s_24 _ _ _ h hP hD hS (lv_sub hl [0, 1] rfl))
          · replace h := bb_ifn c32 h
            refine lv_aload_n hx hb dX8_ahead_32 rfl (lv_at hl 0 rfl) ?_
            obtain ⟨w33, hc34, h⟩ := bb_b1_o h
            refine bb_cwv (wr := [((a_t 3), .inl (cy 0, 155, .inl w14)), ((a_t 5), .inl (cy 0, 7, .inl f_t_found))]) (w1 := [((a_t 0), oX8 a_t v_t_isKept v_t_bestPost v_t_mostSeen v_t_taped v_t_from v_t_to v_t_isWrong), ((a_t 1), .inl (cy 0, 155, .inl w33))]) (va_runV (As := []) (rest := []) ⟨hx, hb, hml, hown, hts⟩ (kX8_aMinute l dC dI cy H.size a_t v_t_isKept v_t_bestPost v_t_mostSeen v_t_taped v_t_from v_t_to v_t_isWrong f_t_s_24 nn w33 hc34) (cwV 0 hts gX8_ahead_X8_aMinute rfl rfl rfl kdX8_aMinute ⟨Nat.le_of_ble_eq_true rfl, Nat.le_of_ble_eq_true rfl⟩) (bb_preVw (va_recv hK hP (ci := 7) (q0 := 0) rfl rfl) (hP.sub (ws' := [((a_t 0), oX8 a_t v_t_isKept v_t_bestPost v_t_mostSeen v_t_taped v_t_from v_t_to v_t_isWrong), ((a_t 1), .inl (cy 0, 155, .inl f_t_s_24))]) [0, 3] rfl) hK (hD.sub (ws' := [((a_t 0), oX8 a_t v_t_isKept v_t_bestPost v_t_mostSeen v_t_taped v_t_from v_t_to v_t_isWrong), ((a_t 1), .inl (cy 0, 155, .inl f_t_s_24))]) [0, 3] (by decide) rfl)) rfl rfl hl.1 rfl (lv_room (Nat.le_of_ble_eq_true rfl)) dX8_ahead_33 ⟨Nat.zero_le _, Nat.zero_le _⟩) hP hD hS hA [0, 3] [1, 2] rfl rfl (by decide) (by decide) (fun H locs hP hD hS => ?_)
            have hP : va_P (dC, dI) vwCl [((a_t 3), .inl (cy 0, 155, .inl w14)), ((a_t 5), .inl (cy 0, 7, .inl f_t_found)), ((a_t 0), oX8 a_t v_t_isKept v_t_bestPost v_t_mostSeen v_t_taped v_t_from v_t_to v_t_isWrong), ((a_t 1), .inl (cy 0, 155, .inl w33))] H := hP
            have hD : va_D A [((a_t 3), .inl (cy 0, 155, .inl w14)), ((a_t 5), .inl (cy 0, 7, .inl f_t_found)), ((a_t 0), oX8 a_t v_t_isKept v_t_bestPost v_t_mostSeen v_t_taped v_t_from v_t_to v_t_isWrong), ((a_t 1), .inl (cy 0, 155, .inl w33))] := hD
            refine lv_iinc (v := x3_23 + (1 : Int32)) (lv' := [(3, .int (x3_23 + (1 : Int32))), (0, .ref (a_t 0)), (1, .int p1), (2, .int p2)]) hx hb dX8_ahead_36 hl (k := 3) rfl rfl (by decide) rfl (fun ls hl => ?_)
            refine lv_goto (tgt := 27) hx hb dX8_ahead_39 (by decide) ?_
            rw [erec29] at h
            exact toW _ _ _ (ih31 (x3_23 + (1 : Int32)) w33 _ _ _ h (hP.sub [2, 0, 1, 3] rfl) (hD.sub [2, 0, 1, 3] (by decide) rfl) hS (lv_sub hl [1, 2, 3, 0] rfl))
      exact toW _ _ _ (L30 nn (0 : Int32) f_t_s _ _ _ h (hP.sub [1, 2, 0, 3] rfl) (hD.sub [1, 2, 0, 3] (by decide) rfl) hS (lv_sub hl [1, 2, 3, 0] rfl))
    · replace h := bb_ifp c13 h
      refine lv_aload_n hx hb dX8_ahead_15 rfl (lv_at hl 0 rfl) ?_
      refine lv_iconst (v := (0 : Int32)) hx hb dX8_ahead_16 (by decide) ?_
      obtain ⟨r35, w36, hc37, h⟩ := bb_b2_o h
      refine bb_cwi (wr := [((a_t 3), .inl (cy 0, 155, .inl f_t_aside)), ((a_t 1), .inl (cy 0, 155, .inl f_t_s))]) (w1 := [((a_t 0), oX8 a_t v_t_isKept v_t_bestPost v_t_mostSeen v_t_taped v_t_from v_t_to v_t_isWrong), ((a_t 5), .inl (cy 0, 7, .inl w36))]) (va_runV (As := [.int (0 : Int32)]) (rest := []) ⟨hx, hb, hml, hown, hts⟩ (kX8_finds l dC dI cy s.heap.size a_t (0 : Int32) v_t_isKept v_t_bestPost v_t_mostSeen v_t_taped v_t_from v_t_to v_t_isWrong f_t_found r35 w36 hc37) (cwV 1 hts gX8_ahead_X8_finds rfl rfl rfl kdX8_finds ⟨Nat.le_of_ble_eq_true rfl, Nat.le_of_ble_eq_true rfl⟩) (bb_preVw (va_recv hK hP (ci := 7) (q0 := 0) rfl rfl) (hP.sub (ws' := [((a_t 0), oX8 a_t v_t_isKept v_t_bestPost v_t_mostSeen v_t_taped v_t_from v_t_to v_t_isWrong), ((a_t 5), .inl (cy 0, 7, .inl f_t_found))]) [0, 2] rfl) hK (hD.sub (ws' := [((a_t 0), oX8 a_t v_t_isKept v_t_bestPost v_t_mostSeen v_t_taped v_t_from v_t_to v_t_isWrong), ((a_t 5), .inl (cy 0, 7, .inl f_t_found))]) [0, 2] (by decide) rfl)) rfl rfl hl.1 rfl (lv_room (Nat.le_of_ble_eq_true rfl)) dX8_ahead_17 ⟨Nat.zero_le _, Nat.zero_le _⟩) hP hD hS hA [0, 2] [1, 3] rfl rfl (by decide) (by decide) (fun H locs hP hD hS => ?_)
      have hP : va_P (dC, dI) vwCl [((a_t 3), .inl (cy 0, 155, .inl f_t_aside)), ((a_t 1), .inl (cy 0, 155, .inl f_t_s)), ((a_t 0), oX8 a_t v_t_isKept v_t_bestPost v_t_mostSeen v_t_taped v_t_from v_t_to v_t_isWrong), ((a_t 5), .inl (cy 0, 7, .inl w36))] H := hP
      have hD : va_D A [((a_t 3), .inl (cy 0, 155, .inl f_t_aside)), ((a_t 1), .inl (cy 0, 155, .inl f_t_s)), ((a_t 0), oX8 a_t v_t_isKept v_t_bestPost v_t_mostSeen v_t_taped v_t_from v_t_to v_t_isWrong), ((a_t 5), .inl (cy 0, 7, .inl w36))] := hD
      obtain ⟨rfl, rfl, rfl, rfl⟩ := bb_some4 h
      have hP9 := hP.sub (ws' := [((a_t 0), oX8 a_t v_t_isKept v_t_bestPost v_t_mostSeen v_t_taped v_t_from v_t_to v_t_isWrong), ((a_t 3), .inl (cy 0, 155, .inl f_t_aside)), ((a_t 5), .inl (cy 0, 7, .inl w36)), ((a_t 1), .inl (cy 0, 155, .inl f_t_s))]) [2, 0, 3, 1] rfl
      have hD9 := hD.sub (ws' := [((a_t 0), oX8 a_t v_t_isKept v_t_bestPost v_t_mostSeen v_t_taped v_t_from v_t_to v_t_isWrong), ((a_t 3), .inl (cy 0, 155, .inl f_t_aside)), ((a_t 5), .inl (cy 0, 7, .inl w36)), ((a_t 1), .inl (cy 0, 155, .inl f_t_s))]) [2, 0, 3, 1] (by decide) rfl
      exact W.iret hx hb hr (fun t ht hW => ⟨⟨_, (), rfl, rfl, by rw [ht]; exact hP9, va_K.moved hW.alike hK, hD9⟩, hS.F ht⟩) hS.2.2 dX8_ahead_20
/-! X8_isSo -/
def uX8_isSo (nn : Nat) (p1 : Int32) (p2 : Int32) (p3 : Int32) (f_t_s : Nat → Int32) : Option (Int32) :=
  (if p2 = (0 : Int32) then bb_b1 (uX8_isIn p1 f_t_s) (fun (r2 : Int32) => (if r2 = 0 then some (1 : Int32) else some (0 : Int32))) else (if p2 = (1 : Int32) then bb_b1 (uX8_isCaught nn p1 f_t_s) (fun (r8 : Int32) => some r8) else bb_b1 (uX8_isIn p1 f_t_s) (fun (r14 : Int32) => (if r14 = 0 then some (0 : Int32) else bb_b1 (uX8_its p1 (1 : Int32) f_t_s) (fun (r19 : Int32) => bb_b1 (uX8_its p3 (1 : Int32) f_t_s) (fun (r22 : Int32) => (if r19 = r22 then some (1 : Int32) else some (0 : Int32))))))))
theorem kdX8_isSo : yX8_isSo.cls = RX8 ∧ yX8_isSo.cls ≠ "java/lang/invoke/MethodHandle" ∧ yX8_isSo.cls ≠ "java/lang/invoke/VarHandle" ∧ (parseMethodDescriptor yX8_isSo.desc).map (fun d => d.parameters.length) = some 3 := by decide +kernel
set_option maxHeartbeats 4000000 in
set_option maxRecDepth 100000 in
theorem kX8_isSo (l : Launch) (dC : Nat → ClassId) (dI : Nat → Nat → Nat) (cy : Nat → ClassId) (a_t : Nat → Nat) (p1 : Int32) (p2 : Int32) (p3 : Int32) (v_t_isKept : Int32) (v_t_bestPost : Int32) (v_t_mostSeen : Int32) (v_t_taped : Int32) (v_t_from : Int32) (v_t_to : Int32) (v_t_isWrong : Int32) (f_t_s : Nat → Int32) (nn : Nat) (r : Int32) (h : uX8_isSo nn p1 p2 p3 f_t_s = some r) : Met l yX8_isSo wsX8_isSo ({ frames := 6, cells := 0, slots := 0, locals := 129 }) (va_Pc [.ref (a_t 0), .int p1, .int p2, .int p3] (fun U => va_P (dC, dI) vwCl [((a_t 0), oX8 a_t v_t_isKept v_t_bestPost v_t_mostSeen v_t_taped v_t_from v_t_to v_t_isWrong), ((a_t 1), .inl (cy 0, 155, .inl f_t_s))] U.heap ∧ va_K (dC, dI) vwCl (tyX cy) U)) (vp_Si (fun r2 => r = r2 ∧ narrow .boolean (.int r2) = .int r2)) 0 0 (fun _ => False) := by
  refine Met.ofW (cc := cX8_isSo) (maxL := 4) (ret := (some .boolean)) (by decide) rfl ?_
  intro p e s m args below meth c s₁ B hml hv
  obtain ⟨rfl, hP, hK⟩ := hv
  have hx := B.exec
  have hb := B.bytes
  have hr := B.returns
  have hts := atoms_spec (ws := wsX8_isSo) B.pre
  have hown : s.vm.findClass RX8 = some m.cls := findClass_of_methodNamed B.named
  have hlocks := B.notSynchronized
  have hl := lv_entry ([.ref (a_t 0), .int p1, .int p2, .int p3]) (n := 4) (Nat.le_of_ble_eq_true rfl)
  rw [lg_entry_eq]
  generalize (lg_sl ([.ref (a_t 0), .int p1, .int p2, .int p3]) ++ List.replicate (4 - (lg_sl ([.ref (a_t 0), .int p1, .int p2, .int p3])).length) Slot.unset).toArray = ls at hl ⊢
  have hl : lv_has ls 4 [(0, .ref (a_t 0)), (1, .int p1), (2, .int p2), (3, .int p3)] := hl
  unfold uX8_isSo at h
  refine bb_cap (fun WW toW ofW => ?_)
  refine lv_iload_n hx hb dX8_isSo_0 rfl (lv_at hl 2 rfl) ?_
  by_cases c1 : p2 = (0 : Int32)
  · replace h := bb_ifp c1 h
    refine lv_lookup (tgt := 28) (off := 27) hx hb dX8_isSo_1 (by decide) (by rw [c1]; decide) (by decide) ?_
    refine lv_aload_n hx hb dX8_isSo_28 rfl (lv_at hl 0 rfl) ?_
    refine lv_iload_n hx hb dX8_isSo_29 rfl (lv_at hl 1 rfl) ?_
    obtain ⟨r2, hc3, h⟩ := bb_b1_o h
    refine vp_callSi (W.runV (As := [.int p1]) (rest := []) ⟨hx, hb, hml, hown, hts⟩ (kX8_isIn l dC dI cy a_t p1 v_t_isKept v_t_bestPost v_t_mostSeen v_t_taped v_t_from v_t_to v_t_isWrong f_t_s r2 hc3) (cwV 1 hts gX8_isSo_X8_isIn rfl rfl rfl kdX8_isIn ⟨Nat.le_of_ble_eq_true rfl, Nat.le_of_ble_eq_true rfl⟩) (bb_preV (va_recv hK hP (ci := 7) (q0 := 0) rfl rfl) hP hK) rfl rfl hl.1 rfl (lv_room (Nat.le_of_ble_eq_true rfl)) dX8_isSo_30 ⟨Nat.zero_le _, Nat.zero_le _⟩) (fun t4 et4 => ?_)
    obtain ⟨rfl, hz5⟩ := et4
    refine lv_if_ne (tgt := 40) hx hb dX8_isSo_33 (by decide) (fun c6 => ?_) (fun c6 => ?_)
    · replace h := bb_ifn c6 h
      refine lv_iconst (v := (0 : Int32)) hx hb dX8_isSo_40 (by decide) ?_
      obtain rfl := bb_some1 h
      exact W.zret hx hb hr (by decide) (fun t ht hW => ⟨_, rfl, ⟨rfl, (by decide)⟩, ht⟩) (fun q hq => by cases hq) dX8_isSo_41
    · replace h := bb_ifp c6 h
      refine lv_iconst (v := (1 : Int32)) hx hb dX8_isSo_36 (by decide) ?_
      refine lv_goto (tgt := 41) hx hb dX8_isSo_37 (by decide) ?_
      obtain rfl := bb_some1 h
      exact W.zret hx hb hr (by decide) (fun t ht hW => ⟨_, rfl, ⟨rfl, (by decide)⟩, ht⟩) (fun q hq => by cases hq) dX8_isSo_41
  · replace h := bb_ifn c1 h
    by_cases c7 : p2 = (1 : Int32)
    · replace h := bb_ifp c7 h
      refine lv_lookup (tgt := 42) (off := 41) hx hb dX8_isSo_1 (by decide) (by rw [c7]; decide) (by decide) ?_
      refine lv_aload_n hx hb dX8_isSo_42 rfl (lv_at hl 0 rfl) ?_
      refine lv_iload_n hx hb dX8_isSo_43 rfl (lv_at hl 1 rfl) ?_
      obtain ⟨r8, hc9, h⟩ := bb_b1_o h
      refine vp_callSi (W.runV (As := [.int p1]) (rest := []) ⟨hx, hb, hml, hown, hts⟩ (kX8_isCaught l dC dI cy a_t p1 v_t_isKept v_t_bestPost v_t_mostSeen v_t_taped v_t_from v_t_to v_t_isWrong f_t_s nn r8 hc9) (cwV 1 hts gX8_isSo_X8_isCaught rfl rfl rfl kdX8_isCaught ⟨Nat.le_of_ble_eq_true rfl, Nat.le_of_ble_eq_true rfl⟩) (bb_preV (va_recv hK hP (ci := 7) (q0 := 0) rfl rfl) hP hK) rfl rfl hl.1 rfl (lv_room (Nat.le_of_ble_eq_true rfl)) dX8_isSo_44 ⟨Nat.zero_le _, Nat.zero_le _⟩) (fun t10 et10 => ?_)
      obtain ⟨rfl, hz11⟩ := et10
      obtain rfl := bb_some1 h
      exact W.zret hx hb hr hz11 (fun t ht hW => ⟨_, rfl, ⟨rfl, hz11⟩, ht⟩) (fun q hq => by cases hq) dX8_isSo_47
    · replace h := bb_ifn c7 h
      have q12 := bb_ne (n := 0) (by decide) c1
      have q13 := bb_ne (n := 1) (by decide) c7
      refine lv_lookup (tgt := 48) (off := 47) hx hb dX8_isSo_1 (by decide) (by simp [Op.lookupswitch.offset, Ne.symm q12, Ne.symm q13]) (by decide) ?_
      refine lv_aload_n hx hb dX8_isSo_48 rfl (lv_at hl 0 rfl) ?_
      refine lv_iload_n hx hb dX8_isSo_49 rfl (lv_at hl 1 rfl) ?_
      obtain ⟨r14, hc15, h⟩ := bb_b1_o h
      refine vp_callSi (W.runV (As := [.int p1]) (rest := []) ⟨hx, hb, hml, hown, hts⟩ (kX8_isIn l dC dI cy a_t p1 v_t_isKept v_t_bestPost v_t_mostSeen v_t_taped v_t_from v_t_to v_t_isWrong f_t_s r14 hc15) (cwV 1 hts gX8_isSo_X8_isIn rfl rfl rfl kdX8_isIn ⟨Nat.le_of_ble_eq_true rfl, Nat.le_of_ble_eq_true rfl⟩) (bb_preV (va_recv hK hP (ci := 7) (q0 := 0) rfl rfl) hP hK) rfl rfl hl.1 rfl (lv_room (Nat.le_of_ble_eq_true rfl)) dX8_isSo_50 ⟨Nat.zero_le _, Nat.zero_le _⟩) (fun t16 et16 => ?_)
      obtain ⟨rfl, hz17⟩ := et16
      refine lv_if_eq (tgt := 75) hx hb dX8_isSo_53 (by decide) (fun c18 => ?_) (fun c18 => ?_)
      · replace h := bb_ifp c18 h
        refine lv_iconst (v := (0 : Int32)) hx hb dX8_isSo_75 (by decide) ?_
        obtain rfl := bb_some1 h
        exact W.zret hx hb hr (by decide) (fun t ht hW => ⟨_, rfl, ⟨rfl, (by decide)⟩, ht⟩) (fun q hq => by cases hq) dX8_isSo_76
      · replace h := bb_ifn c18 h
        refine lv_aload_n hx hb dX8_isSo_56 rfl (lv_at hl 0 rfl) ?_
        refine lv_iload_n hx hb dX8_isSo_57 rfl (lv_at hl 1 rfl) ?_
        refine lv_iconst (v := (1 : Int32)) hx hb dX8_isSo_58 (by decide) ?_
        obtain ⟨r19, hc20, h⟩ := bb_b1_o h
        refine vp_callSi (W.runV (As := [.int p1, .int (1 : Int32)]) (rest := []) ⟨hx, hb, hml, hown, hts⟩ (kX8_its l dC dI cy a_t p1 (1 : Int32) v_t_isKept v_t_bestPost v_t_mostSeen v_t_taped v_t_from v_t_to v_t_isWrong f_t_s r19 hc20) (cwV 2 hts gX8_isSo_X8_its rfl rfl rfl kdX8_its ⟨Nat.le_of_ble_eq_true rfl, Nat.le_of_ble_eq_true rfl⟩) (bb_preV (va_recv hK hP (ci := 7) (q0 := 0) rfl rfl) hP hK) rfl rfl hl.1 rfl (lv_room (Nat.le_of_ble_eq_true rfl)) dX8_isSo_59 ⟨Nat.zero_le _, Nat.zero_le _⟩) (fun t21 et21 => ?_)
        obtain rfl := et21
        refine lv_aload_n hx hb dX8_isSo_62 rfl (lv_at hl 0 rfl) ?_
        refine lv_iload_n hx hb dX8_isSo_63 rfl (lv_at hl 3 rfl) ?_
        refine lv_iconst (v := (1 : Int32)) hx hb dX8_isSo_64 (by decide) ?_
        obtain ⟨r22, hc23, h⟩ := bb_b1_o h
        refine vp_callSi (W.runV (As := [.int p3, .int (1 : Int32)]) (rest := [.int r19]) ⟨hx, hb, hml, hown, hts⟩ (kX8_its l dC dI cy a_t p3 (1 : Int32) v_t_isKept v_t_bestPost v_t_mostSeen v_t_taped v_t_from v_t_to v_t_isWrong f_t_s r22 hc23) (cwV 2 hts gX8_isSo_X8_its rfl rfl rfl kdX8_its ⟨Nat.le_of_ble_eq_true rfl, Nat.le_of_ble_eq_true rfl⟩) (bb_preV (va_recv hK hP (ci := 7) (q0 := 0) rfl rfl) hP hK) rfl rfl hl.1 rfl (lv_room (Nat.le_of_ble_eq_true rfl)) dX8_isSo_65 ⟨Nat.zero_le _, Nat.zero_le _⟩) (fun t24 et24 => ?_)
        obtain rfl := et24
        refine lv_icmp_ne (tgt := 75) hx hb dX8_isSo_68 (by decide) (fun c25 => ?_) (fun c25 => ?_)
        · replace h := bb_ifn c25 h
          refine lv_iconst (v := (0 : Int32)) hx hb dX8_isSo_75 (by decide) ?_
          obtain rfl := bb_some1 h
          exact W.zret hx hb hr (by decide) (fun t ht hW => ⟨_, rfl, ⟨rfl, (by decide)⟩, ht⟩) (fun q hq => by cases hq) dX8_isSo_76
        · replace h := bb_ifp c25 h
          refine lv_iconst (v := (1 : Int32)) hx hb dX8_isSo_71 (by decide) ?_
          refine lv_goto (tgt := 76) hx hb dX8_isSo_72 (by decide) ?_
          obtain rfl := bb_some1 h
          exact W.zret hx hb hr (by decide) (fun t ht hW => ⟨_, rfl, ⟨rfl, (by decide)⟩, ht⟩) (fun q hq => by cases hq) dX8_isSo_76
/-! X8_until -/
def uX8_until_s7 (nn : Nat) (x1_10 : Int32) (x2_11 : Int32) (x3_12 : Int32) (k_34 : Int32 → (Nat → Int32) → Option (Int32 × (Nat → Int32) × (Nat → Int32))) (rec14 : Int32 → (Nat → Int32) → Option (Int32 × (Nat → Int32) × (Nat → Int32))) (x4_8 : Int32) (f_t_s_9 : Nat → Int32) : Option (Int32 × (Nat → Int32) × (Nat → Int32)) :=
  (if (100 : Int32) < x4_8 then k_34 x4_8 f_t_s_9 else bb_b1 (uX8_isSo nn x1_10 x2_11 x3_12 f_t_s_9) (fun (r18 : Int32) => (if r18 = 0 then bb_b1 (uX8_aMinute nn f_t_s_9) (fun (w23 : Nat → Int32) => rec14 (x4_8 + (1 : Int32)) w23) else k_34 x4_8 f_t_s_9)))
def uX8_until (nn : Nat) (p1 : Int32) (p2 : Int32) (p3 : Int32) (f_t_aside : Nat → Int32) (f_t_s : Nat → Int32) : Option (Int32 × (Nat → Int32) × (Nat → Int32)) :=
  bb_b1 (uX8_lends nn f_t_aside f_t_s) (fun (w1 : Nat → Int32) => bb_cut (fun (x4_3 : Int32) (f_t_s_4 : Nat → Int32) => bb_b1 (uX8_laysBack nn w1 f_t_s_4) (fun (w6 : Nat → Int32) => some (x4_3, w1, w6))) (fun k5 => bb_loop2 (uX8_until_s7 nn p1 p2 p3 k5) nn (0 : Int32) f_t_s))
theorem kdX8_until : yX8_until.cls = RX8 ∧ yX8_until.cls ≠ "java/lang/invoke/MethodHandle" ∧ yX8_until.cls ≠ "java/lang/invoke/VarHandle" ∧ (parseMethodDescriptor yX8_until.desc).map (fun d => d.parameters.length) = some 3 := by decide +kernel
set_option maxHeartbeats 4000000 in
set_option maxRecDepth 100000 in
theorem kX8_until (l : Launch) (dC : Nat → ClassId) (dI : Nat → Nat → Nat) (cy : Nat → ClassId) (sz : Nat) (a_t : Nat → Nat) (p1 : Int32) (p2 : Int32) (p3 : Int32) (v_t_isKept : Int32) (v_t_bestPost : Int32) (v_t_mostSeen : Int32) (v_t_taped : Int32) (v_t_from : Int32) (v_t_to : Int32) (v_t_isWrong : Int32) (f_t_aside : Nat → Int32) (f_t_s : Nat → Int32) (nn : Nat) (r : Int32) (f_t_aside_o : Nat → Int32) (f_t_s_o : Nat → Int32) (h : uX8_until nn p1 p2 p3 f_t_aside f_t_s = some (r, f_t_aside_o, f_t_s_o)) : Met l yX8_until wsX8_until ({ frames := 10, cells := 0, slots := 0, locals := 221 }) (va_Pc [.ref (a_t 0), .int p1, .int p2, .int p3] (fun U => U.heap.size = sz ∧ va_P (dC, dI) vwCl [((a_t 0), oX8 a_t v_t_isKept v_t_bestPost v_t_mostSeen v_t_taped v_t_from v_t_to v_t_isWrong), ((a_t 3), .inl (cy 0, 155, .inl f_t_aside)), ((a_t 1), .inl (cy 0, 155, .inl f_t_s))] U.heap ∧ va_K (dC, dI) vwCl (tyX cy) U ∧ va_D (fun _ => True) [((a_t 0), oX8 a_t v_t_isKept v_t_bestPost v_t_mostSeen v_t_taped v_t_from v_t_to v_t_isWrong), ((a_t 3), .inl (cy 0, 155, .inl f_t_aside)), ((a_t 1), .inl (cy 0, 155, .inl f_t_s))])) (va_Qi (fun (r2 : Int32) (_ : Unit) => r = r2) (fun _ t => va_P (dC, dI) vwCl [((a_t 0), oX8 a_t v_t_isKept v_t_bestPost v_t_mostSeen v_t_taped v_t_from v_t_to v_t_isWrong), ((a_t 3), .inl (cy 0, 155, .inl f_t_aside_o)), ((a_t 1), .inl (cy 0, 155, .inl f_t_s_o))] t.heap ∧ va_K (dC, dI) vwCl (tyX cy) t ∧ va_D (va_A [((a_t 0), oX8 a_t v_t_isKept v_t_bestPost v_t_mostSeen v_t_taped v_t_from v_t_to v_t_isWrong), ((a_t 3), .inl (cy 0, 155, .inl f_t_aside)), ((a_t 1), .inl (cy 0, 155, .inl f_t_s))] sz) [((a_t 0), oX8 a_t v_t_isKept v_t_bestPost v_t_mostSeen v_t_taped v_t_from v_t_to v_t_isWrong), ((a_t 3), .inl (cy 0, 155, .inl f_t_aside_o)), ((a_t 1), .inl (cy 0, 155, .inl f_t_s_o))]) (va_A [((a_t 0), oX8 a_t v_t_isKept v_t_bestPost v_t_mostSeen v_t_taped v_t_from v_t_to v_t_isWrong), ((a_t 3), .inl (cy 0, 155, .inl f_t_aside)), ((a_t 1), .inl (cy 0, 155, .inl f_t_s))] sz)) 0 0 (va_A [((a_t 0), oX8 a_t v_t_isKept v_t_bestPost v_t_mostSeen v_t_taped v_t_from v_t_to v_t_isWrong), ((a_t 3), .inl (cy 0, 155, .inl f_t_aside)), ((a_t 1), .inl (cy 0, 155, .inl f_t_s))] sz) := by
  refine Met.ofW (cc := cX8_until) (maxL := 5) (ret := (some .int)) (by decide) rfl ?_
  intro p e s m args below meth c s₁ B hml hv
  obtain ⟨rfl, hsz, hP, hK, hD0⟩ := hv
  have hx := B.exec
  have hb := B.bytes
  have hr := B.returns
  have hts := atoms_spec (ws := wsX8_until) B.pre
  have hown : s.vm.findClass RX8 = some m.cls := findClass_of_methodNamed B.named
  have hlocks := B.notSynchronized
  subst hsz
  have hD := hD0.self (sz := s.heap.size)
  generalize hAe : va_A [((a_t 0), oX8 a_t v_t_isKept v_t_bestPost v_t_mostSeen v_t_taped v_t_from v_t_to v_t_isWrong), ((a_t 3), .inl (cy 0, 155, .inl f_t_aside)), ((a_t 1), .inl (cy 0, 155, .inl f_t_s))] s.heap.size = A at hD ⊢
  have hA : ∀ q : Nat, s.heap.size ≤ q → A q := fun q h => by rw [← hAe]; exact Or.inr h
  have hS : va_S A s.heap s.heap [] := va_S.rf
  have hP : va_P (dC, dI) vwCl [((a_t 0), oX8 a_t v_t_isKept v_t_bestPost v_t_mostSeen v_t_taped v_t_from v_t_to v_t_isWrong), ((a_t 3), .inl (cy 0, 155, .inl f_t_aside)), ((a_t 1), .inl (cy 0, 155, .inl f_t_s))] s.heap := hP
  have hl := lv_entry ([.ref (a_t 0), .int p1, .int p2, .int p3]) (n := 5) (Nat.le_of_ble_eq_true rfl)
  rw [lg_entry_eq]
  generalize (lg_sl ([.ref (a_t 0), .int p1, .int p2, .int p3]) ++ List.replicate (5 - (lg_sl ([.ref (a_t 0), .int p1, .int p2, .int p3])).length) Slot.unset).toArray = ls at hl ⊢
  have hl : lv_has ls 5 [(0, .ref (a_t 0)), (1, .int p1), (2, .int p2), (3, .int p3)] := hl
  unfold uX8_until at h
  refine bb_cap (fun WW toW ofW => ?_)
  refine lv_aload_n hx hb dX8_until_0 rfl (lv_at hl 0 rfl) ?_
  obtain ⟨w1, hc2, h⟩ := bb_b1_o h
  refine bb_cwv (wr := []) (w1 := [((a_t 0), oX8 a_t v_t_isKept v_t_bestPost v_t_mostSeen v_t_taped v_t_from v_t_to v_t_isWrong), ((a_t 3), .inl (cy 0, 155, .inl w1)), ((a_t 1), .inl (cy 0, 155, .inl f_t_s))]) (va_runV (As := []) (rest := []) ⟨hx, hb, hml, hown, hts⟩ (kX8_lends l dC dI cy s.heap.size a_t v_t_isKept v_t_bestPost v_t_mostSeen v_t_taped v_t_from v_t_to v_t_isWrong f_t_aside f_t_s nn w1 hc2) (cwV 0 hts gX8_until_X8_lends rfl rfl rfl kdX8_lends ⟨Nat.le_of_ble_eq_true rfl, Nat.le_of_ble_eq_true rfl⟩) (bb_preVw (va_recv hK hP (ci := 7) (q0 := 0) rfl rfl) hP hK (hD.sub (ws' := [((a_t 0), oX8 a_t v_t_isKept v_t_bestPost v_t_mostSeen v_t_taped v_t_from v_t_to v_t_isWrong), ((a_t 3), .inl (cy 0, 155, .inl f_t_aside)), ((a_t 1), .inl (cy 0, 155, .inl f_t_s))]) [0, 1, 2] (by decide) rfl)) rfl rfl hl.1 rfl (lv_room (Nat.le_of_ble_eq_true rfl)) dX8_until_1 ⟨Nat.zero_le _, Nat.zero_le _⟩) hP hD hS hA [0, 1, 2] [] rfl rfl (by decide) (by decide) (fun H locs hP hD hS => ?_)
  have hP : va_P (dC, dI) vwCl [((a_t 0), oX8 a_t v_t_isKept v_t_bestPost v_t_mostSeen v_t_taped v_t_from v_t_to v_t_isWrong), ((a_t 3), .inl (cy 0, 155, .inl w1)), ((a_t 1), .inl (cy 0, 155, .inl f_t_s))] H := hP
  have hD : va_D A [((a_t 0), oX8 a_t v_t_isKept v_t_bestPost v_t_mostSeen v_t_taped v_t_from v_t_to v_t_isWrong), ((a_t 3), .inl (cy 0, 155, .inl w1)), ((a_t 1), .inl (cy 0, 155, .inl f_t_s))] := hD
  refine lv_iconst (v := (0 : Int32)) hx hb dX8_until_4 (by decide) ?_
  refine lv_istore (lv' := [(4, .int (0 : Int32)), (0, .ref (a_t 0)), (1, .int p1), (2, .int p2), (3, .int p3)]) hx hb dX8_until_5 hl (by decide) rfl (fun ls hl => ?_)
  obtain ⟨k5, ek5, h⟩ := bb_cut_o h
  have Jk5 : ∀ (x4_3 : Int32) (f_t_s_4 : Nat → Int32) (H : Heap) (locs : List Loc) (ls : Array Slot), k5 x4_3 f_t_s_4 = some (r, f_t_aside_o, f_t_s_o) → va_P (dC, dI) vwCl [((a_t 0), oX8 a_t v_t_isKept v_t_bestPost v_t_mostSeen v_t_taped v_t_from v_t_to v_t_isWrong), ((a_t 3), .inl (cy 0, 155, .inl w1)), ((a_t 1), .inl (cy 0, 155, .inl f_t_s_4))] H → va_D A [((a_t 0), oX8 a_t v_t_isKept v_t_bestPost v_t_mostSeen v_t_taped v_t_from v_t_to v_t_isWrong), ((a_t 3), .inl (cy 0, 155, .inl w1)), ((a_t 1), .inl (cy 0, 155, .inl f_t_s_4))] → va_S A s.heap H locs → lv_has ls 5 [(0, .ref (a_t 0)), (4, .int x4_3)] → WW H locs (F0 m 34 ls []) := by
    intro x4_3 f_t_s_4 H locs ls h hP hD hS hl
    refine ofW _ _ _ ?_
    subst ek5
    refine lv_aload_n hx hb dX8_until_34 rfl (lv_at hl 0 rfl) ?_
    obtain ⟨w6, hc7, h⟩ := bb_b1_o h
    refine bb_cwv (wr := []) (w1 := [((a_t 0), oX8 a_t v_t_isKept v_t_bestPost v_t_mostSeen v_t_taped v_t_from v_t_to v_t_isWrong), ((a_t 3), .inl (cy 0, 155, .inl w1)), ((a_t 1), .inl (cy 0, 155, .inl w6))]) (va_runV (As := []) (rest := []) ⟨hx, hb, hml, hown, hts⟩ (kX8_laysBack l dC dI cy H.size a_t v_t_isKept v_t_bestPost v_t_mostSeen v_t_taped v_t_from v_t_to v_t_isWrong w1 f_t_s_4 nn w6 hc7) (cwV 0 hts gX8_until_X8_laysBack rfl rfl rfl kdX8_laysBack ⟨Nat.le_of_ble_eq_true rfl, Nat.le_of_ble_eq_true rfl⟩) (bb_preVw (va_recv hK hP (ci := 7) (q0 := 0) rfl rfl) hP hK (hD.sub (ws' := [((a_t 0), oX8 a_t v_t_isKept v_t_bestPost v_t_mostSeen v_t_taped v_t_from v_t_to v_t_isWrong), ((a_t 3), .inl (cy 0, 155, .inl w1)), ((a_t 1), .inl (cy 0, 155, .inl f_t_s_4))]) [0, 1, 2] (by decide) rfl)) rfl rfl hl.1 rfl (lv_room (Nat.le_of_ble_eq_true rfl)) dX8_until_35 ⟨Nat.zero_le _, Nat.zero_le _⟩) hP hD hS hA [0, 1, 2] [] rfl rfl (by decide) (by decide) (fun H locs hP hD hS => ?_)
    have hP : va_P (dC, dI) vwCl [((a_t 0), oX8 a_t v_t_isKept v_t_bestPost v_t_mostSeen v_t_taped v_t_from v_t_to v_t_isWrong), ((a_t 3), .inl (cy 0, 155, .inl w1)), ((a_t 1), .inl (cy 0, 155, .inl w6))] H := hP
    have hD : va_D A [((a_t 0), oX8 a_t v_t_isKept v_t_bestPost v_t_mostSeen v_t_taped v_t_from v_t_to v_t_isWrong), ((a_t 3), .inl (cy 0, 155, .inl w1)), ((a_t 1), .inl (cy 0, 155, .inl w6))] := hD
    refine lv_iload hx hb dX8_until_38 (lv_at hl 1 rfl) ?_
    obtain ⟨rfl, rfl, rfl⟩ := bb_some3 h
    have hP9 := hP.sub (ws' := [((a_t 0), oX8 a_t v_t_isKept v_t_bestPost v_t_mostSeen v_t_taped v_t_from v_t_to v_t_isWrong), ((a_t 3), .inl (cy 0, 155, .inl w1)), ((a_t 1), .inl (cy 0, 155, .inl w6))]) [0, 1, 2] rfl
    have hD9 := hD.sub (ws' := [((a_t 0), oX8 a_t v_t_isKept v_t_bestPost v_t_mostSeen v_t_taped v_t_from v_t_to v_t_isWrong), ((a_t 3), .inl (cy 0, 155, .inl w1)), ((a_t 1), .inl (cy 0, 155, .inl w6))]) [0, 1, 2] (by decide) rfl
    exact W.iret hx hb hr (fun t ht hW => ⟨⟨_, (), rfl, rfl, by rw [ht]; exact hP9, va_K.moved hW.alike hK, hD9⟩, hS.F ht⟩) hS.2.2 dX8_until_40
  have L15 : ∀ (n : Nat) (x4_8 : Int32) (f_t_s_9 : Nat → Int32) (H : Heap) (locs : List Loc) (ls : Array Slot), bb_loop2 (uX8_until_s7 nn p1 p2 p3 k5) n x4_8 f_t_s_9 = some (r, f_t_aside_o, f_t_s_o) → va_P (dC, dI) vwCl [((a_t 0), oX8 a_t v_t_isKept v_t_bestPost v_t_mostSeen v_t_taped v_t_from v_t_to v_t_isWrong), ((a_t 3), .inl (cy 0, 155, .inl w1)), ((a_t 1), .inl (cy 0, 155, .inl f_t_s_9))] H → va_D A [((a_t 0), oX8 a_t v_t_isKept v_t_bestPost v_t_mostSeen v_t_taped v_t_from v_t_to v_t_isWrong), ((a_t 3), .inl (cy 0, 155, .inl w1)), ((a_t 1), .inl (cy 0, 155, .inl f_t_s_9))] → va_S A s.heap H locs → lv_has ls 5 [(0, .ref (a_t 0)), (1, .int p1), (2, .int p2), (3, .int p3), (4, .int x4_8)] → WW H locs (F0 m 7 ls []) := by
    intro n
    induction n with
    | zero => intro x4_8 f_t_s_9 H locs ls h; exact (bb_no h).elim
    | succ n ih16 =>
      intro x4_8 f_t_s_9 H locs ls h hP hD hS hl
      refine ofW _ _ _ ?_
      obtain ⟨rec14, erec14, h⟩ := bb_loop2_o h
      unfold uX8_until_s7 at h
      refine lv_iload hx hb dX8_until_7 (lv_at hl 4 rfl) ?_
      refine lv_bipush (v := (100 : Int32)) hx hb dX8_until_9 (by decide) ?_
      refine lv_icmp_gt (tgt := 34) hx hb dX8_until_11 (by decide) (fun c17 => ?_) (fun c17 => ?_)
      · replace h := bb_ifp c17 h
        exact toW _ _ _ (Jk5 x4_8 f_t_s_9 _ _ _ h hP hD hS (lv_sub hl [0, 4] rfl))
      · replace h := bb_ifn c17 h
        refine lv_aload_n hx hb dX8_until_14 rfl (lv_at hl 0 rfl) ?_
        refine lv_iload_n hx hb dX8_until_15 rfl (lv_at hl 1 rfl) ?_
        refine lv_iload_n hx hb dX8_until_16 rfl (lv_at hl 2 rfl) ?_
        refine lv_iload_n hx hb dX8_until_17 rfl (lv_at hl 3 rfl) ?_
        obtain ⟨r18, hc19, h⟩ := bb_b1_o h
        refine vp_callSi (W.runV (As := [.int p1, .int p2, .int p3]) (rest := []) ⟨hx, hb, hml, hown, hts⟩ (kX8_isSo l dC dI cy a_t p1 p2 p3 v_t_isKept v_t_bestPost v_t_mostSeen v_t_taped v_t_from v_t_to v_t_isWrong f_t_s_9 nn r18 hc19) (cwV 3 hts gX8_until_X8_isSo rfl rfl rfl kdX8_isSo ⟨Nat.le_of_ble_eq_true rfl, Nat.le_of_ble_eq_true rfl⟩) (bb_preV (va_recv hK hP (ci := 7) (q0 := 0) rfl rfl) (hP.sub (ws' := [((a_t 0), oX8 a_t v_t_isKept v_t_bestPost v_t_mostSeen v_t_taped v_t_from v_t_to v_t_isWrong), ((a_t 1), .inl (cy 0, 155, .inl f_t_s_9))]) [0, 2] rfl) hK) rfl rfl hl.1 rfl (lv_room (Nat.le_of_ble_eq_true rfl)) dX8_until_18 ⟨Nat.zero_le _, Nat.zero_le _⟩) (fun t20 et20 => ?_)
        obtain ⟨rfl, hz21⟩ := et20
        refine lv_if_ne (tgt := 34) hx hb dX8_until_21 (by decide) (fun c22 => ?_) (fun c22 => ?_)
        · replace h := bb_ifn c22 h
          exact toW _ _ _ (Jk5 x4_8 f_t_s_9 _ _ _ h hP hD hS (lv_sub hl [0, 4] rfl))
        · replace h := bb_ifp c22 h
          refine lv_aload_n hx hb dX8_until_24 rfl (lv_at hl 0 rfl) ?_
          obtain ⟨w23, hc24, h⟩ := bb_b1_o h
          refine bb_cwv (wr := [((a_t 3), .inl (cy 0, 155, .inl w1))]) (w1 := [((a_t 0), oX8 a_t v_t_isKept v_t_bestPost v_t_mostSeen v_t_taped v_t_from v_t_to v_t_isWrong), ((a_t 1), .inl (cy 0, 155, .inl w23))]) (va_runV (As := []) (rest := []) ⟨hx, hb, hml, hown, hts⟩ (kX8_aMinute l dC dI cy H.size a_t v_t_isKept v_t_bestPost v_t_mostSeen v_t_taped v_t_from v_t_to v_t_isWrong f_t_s_9 nn w23 hc24) (cwV 0 hts gX8_until_X8_aMinute rfl rfl rfl kdX8_aMinute ⟨Nat.le_of_ble_eq_true rfl, Nat.le_of_ble_eq_true rfl⟩) (bb_preVw (va_recv hK hP (ci := 7) (q0 := 0) rfl rfl) (hP.sub (ws' := [((a_t 0), oX8 a_t v_t_isKept v_t_bestPost v_t_mostSeen v_t_taped v_t_from v_t_to v_t_isWrong), ((a_t 1), .inl (cy 0, 155, .inl f_t_s_9))]) [0, 2] rfl) hK (hD.sub (ws' := [((a_t 0), oX8 a_t v_t_isKept v_t_bestPost v_t_mostSeen v_t_taped v_t_from v_t_to v_t_isWrong), ((a_t 1), .inl (cy 0, 155, .inl f_t_s_9))]) [0, 2] (by decide) rfl)) rfl rfl hl.1 rfl (lv_room (Nat.le_of_ble_eq_true rfl)) dX8_until_25 ⟨Nat.zero_le _, Nat.zero_le _⟩) hP hD hS hA [0, 2] [1] rfl rfl (by decide) (by decide) (fun H locs hP hD hS => ?_)
          have hP : va_P (dC, dI) vwCl [((a_t 3), .inl (cy 0, 155, .inl w1)), ((a_t 0), oX8 a_t v_t_isKept v_t_bestPost v_t_mostSeen v_t_taped v_t_from v_t_to v_t_isWrong), ((a_t 1), .inl (cy 0, 155, .inl w23))] H := hP
          have hD : va_D A [((a_t 3), .inl (cy 0, 155, .inl w1)), ((a_t 0), oX8 a_t v_t_isKept v_t_bestPost v_t_mostSeen v_t_taped v_t_from v_t_to v_t_isWrong), ((a_t 1), .inl (cy 0, 155, .inl w23))] := hD
          refine lv_iinc (v := x4_8 + (1 : Int32)) (lv' := [(4, .int (x4_8 + (1 : Int32))), (0, .ref (a_t 0)), (1, .int p1), (2, .int p2), (3, .int p3)]) hx hb dX8_until_28 hl (k := 4) rfl rfl (by decide) rfl (fun ls hl => ?_)
          refine lv_goto (tgt := 7) hx hb dX8_until_31 (by decide) ?_
          rw [erec14] at h
          exact toW _ _ _ (ih16 (x4_8 + (1 : Int32)) w23 _ _ _ h (hP.sub [1, 0, 2] rfl) (hD.sub [1, 0, 2] (by decide) rfl) hS (lv_sub hl [1, 2, 3, 4, 0] rfl))
  exact toW _ _ _ (L15 nn (0 : Int32) f_t_s _ _ _ h hP hD hS (lv_sub hl [1, 2, 3, 4, 0] rfl))
/-! X8_orNone -/
def uX8_orNone (p1 : Int32) (f_t_found : Nat → Int32) : Option (Int32 × (Nat → Int32)) :=
  (if (100 : Int32) < p1 then bb_b2 (uX8_finds (3 : Int32) f_t_found) (fun (r2 : Int32) (w3 : Nat → Int32) => some (r2, w3)) else some (p1, f_t_found))
theorem kdX8_orNone : yX8_orNone.cls = RX8 ∧ yX8_orNone.cls ≠ "java/lang/invoke/MethodHandle" ∧ yX8_orNone.cls ≠ "java/lang/invoke/VarHandle" ∧ (parseMethodDescriptor yX8_orNone.desc).map (fun d => d.parameters.length) = some 1 := by decide +kernel
set_option maxHeartbeats 4000000 in
set_option maxRecDepth 100000 in
theorem kX8_orNone (l : Launch) (dC : Nat → ClassId) (dI : Nat → Nat → Nat) (cy : Nat → ClassId) (sz : Nat) (a_t : Nat → Nat) (p1 : Int32) (v_t_isKept : Int32) (v_t_bestPost : Int32) (v_t_mostSeen : Int32) (v_t_taped : Int32) (v_t_from : Int32) (v_t_to : Int32) (v_t_isWrong : Int32) (f_t_found : Nat → Int32) (r : Int32) (f_t_found_o : Nat → Int32) (h : uX8_orNone p1 f_t_found = some (r, f_t_found_o)) : Met l yX8_orNone wsX8_orNone ({ frames := 1, cells := 0, slots := 0, locals := 21 }) (va_Pc [.ref (a_t 0), .int p1] (fun U => U.heap.size = sz ∧ va_P (dC, dI) vwCl [((a_t 0), oX8 a_t v_t_isKept v_t_bestPost v_t_mostSeen v_t_taped v_t_from v_t_to v_t_isWrong), ((a_t 5), .inl (cy 0, 7, .inl f_t_found))] U.heap ∧ va_K (dC, dI) vwCl (tyX cy) U ∧ va_D (fun _ => True) [((a_t 0), oX8 a_t v_t_isKept v_t_bestPost v_t_mostSeen v_t_taped v_t_from v_t_to v_t_isWrong), ((a_t 5), .inl (cy 0, 7, .inl f_t_found))])) (va_Qi (fun (r2 : Int32) (_ : Unit) => r = r2) (fun _ t => va_P (dC, dI) vwCl [((a_t 0), oX8 a_t v_t_isKept v_t_bestPost v_t_mostSeen v_t_taped v_t_from v_t_to v_t_isWrong), ((a_t 5), .inl (cy 0, 7, .inl f_t_found_o))] t.heap ∧ va_K (dC, dI) vwCl (tyX cy) t ∧ va_D (va_A [((a_t 0), oX8 a_t v_t_isKept v_t_bestPost v_t_mostSeen v_t_taped v_t_from v_t_to v_t_isWrong), ((a_t 5), .inl (cy 0, 7, .inl f_t_found))] sz) [((a_t 0), oX8 a_t v_t_isKept v_t_bestPost v_t_mostSeen v_t_taped v_t_from v_t_to v_t_isWrong), ((a_t 5), .inl (cy 0, 7, .inl f_t_found_o))]) (va_A [((a_t 0), oX8 a_t v_t_isKept v_t_bestPost v_t_mostSeen v_t_taped v_t_from v_t_to v_t_isWrong), ((a_t 5), .inl (cy 0, 7, .inl f_t_found))] sz)) 0 0 (va_A [((a_t 0), oX8 a_t v_t_isKept v_t_bestPost v_t_mostSeen v_t_taped v_t_from v_t_to v_t_isWrong), ((a_t 5), .inl (cy 0, 7, .inl f_t_found))] sz) := by
  refine Met.ofW (cc := cX8_orNone) (maxL := 2) (ret := (some .int)) (by decide) rfl ?_
  intro p e s m args below meth c s₁ B hml hv
  obtain ⟨rfl, hsz, hP, hK, hD0⟩ := hv
  have hx := B.exec
  have hb := B.bytes
  have hr := B.returns
  have hts := atoms_spec (ws := wsX8_orNone) B.pre
  have hown : s.vm.findClass RX8 = some m.cls := findClass_of_methodNamed B.named
  have hlocks := B.notSynchronized
  subst hsz
  have hD := hD0.self (sz := s.heap.size)
  generalize hAe : va_A [((a_t 0), oX8 a_t v_t_isKept v_t_bestPost v_t_mostSeen v_t_taped v_t_from v_t_to v_t_isWrong), ((a_t 5), .inl (cy 0, 7, .inl f_t_found))] s.heap.size = A at hD ⊢
  have hA : ∀ q : Nat, s.heap.size ≤ q → A q := fun q h => by rw [← hAe]; exact Or.inr h
  have hS : va_S A s.heap s.heap [] := va_S.rf
  have hP : va_P (dC, dI) vwCl [((a_t 0), oX8 a_t v_t_isKept v_t_bestPost v_t_mostSeen v_t_taped v_t_from v_t_to v_t_isWrong), ((a_t 5), .inl (cy 0, 7, .inl f_t_found))] s.heap := hP
  have hl := lv_entry ([.ref (a_t 0), .int p1]) (n := 2) (Nat.le_of_ble_eq_true rfl)
  rw [lg_entry_eq]
  generalize (lg_sl ([.ref (a_t 0), .int p1]) ++ List.replicate (2 - (lg_sl ([.ref (a_t 0), .int p1])).length) Slot.unset).toArray = ls at hl ⊢
  have hl : lv_has ls 2 [(0, .ref (a_t 0)), (1, .int p1)] := hl
  unfold uX8_orNone at h
  refine bb_cap (fun WW toW ofW => ?_)
  refine lv_iload_n hx hb dX8_orNone_0 rfl (lv_at hl 1 rfl) ?_
  refine lv_bipush (v := (100 : Int32)) hx hb dX8_orNone_1 (by decide) ?_
  refine lv_icmp_gt (tgt := 10) hx hb dX8_orNone_3 (by decide) (fun c1 => ?_) (fun c1 => ?_)
  · replace h := bb_ifp c1 h
    refine lv_aload_n hx hb dX8_orNone_10 rfl (lv_at hl 0 rfl) ?_
    refine lv_iconst (v := (3 : Int32)) hx hb dX8_orNone_11 (by decide) ?_
    obtain ⟨r2, w3, hc4, h⟩ := bb_b2_o h
    refine bb_cwi (wr := []) (w1 := [((a_t 0), oX8 a_t v_t_isKept v_t_bestPost v_t_mostSeen v_t_taped v_t_from v_t_to v_t_isWrong), ((a_t 5), .inl (cy 0, 7, .inl w3))]) (va_runV (As := [.int (3 : Int32)]) (rest := []) ⟨hx, hb, hml, hown, hts⟩ (kX8_finds l dC dI cy s.heap.size a_t (3 : Int32) v_t_isKept v_t_bestPost v_t_mostSeen v_t_taped v_t_from v_t_to v_t_isWrong f_t_found r2 w3 hc4) (cwV 1 hts gX8_orNone_X8_finds rfl rfl rfl kdX8_finds ⟨Nat.le_of_ble_eq_true rfl, Nat.le_of_ble_eq_true rfl⟩) (bb_preVw (va_recv hK hP (ci := 7) (q0 := 0) rfl rfl) hP hK (hD.sub (ws' := [((a_t 0), oX8 a_t v_t_isKept v_t_bestPost v_t_mostSeen v_t_taped v_t_from v_t_to v_t_isWrong), ((a_t 5), .inl (cy 0, 7, .inl f_t_found))]) [0, 1] (by decide) rfl)) rfl rfl hl.1 rfl (lv_room (Nat.le_of_ble_eq_true rfl)) dX8_orNone_12 ⟨Nat.zero_le _, Nat.zero_le _⟩) hP hD hS hA [0, 1] [] rfl rfl (by decide) (by decide) (fun H locs hP hD hS => ?_)
    have hP : va_P (dC, dI) vwCl [((a_t 0), oX8 a_t v_t_isKept v_t_bestPost v_t_mostSeen v_t_taped v_t_from v_t_to v_t_isWrong), ((a_t 5), .inl (cy 0, 7, .inl w3))] H := hP
    have hD : va_D A [((a_t 0), oX8 a_t v_t_isKept v_t_bestPost v_t_mostSeen v_t_taped v_t_from v_t_to v_t_isWrong), ((a_t 5), .inl (cy 0, 7, .inl w3))] := hD
    obtain ⟨rfl, rfl⟩ := bb_some2 h
    have hP9 := hP.sub (ws' := [((a_t 0), oX8 a_t v_t_isKept v_t_bestPost v_t_mostSeen v_t_taped v_t_from v_t_to v_t_isWrong), ((a_t 5), .inl (cy 0, 7, .inl w3))]) [0, 1] rfl
    have hD9 := hD.sub (ws' := [((a_t 0), oX8 a_t v_t_isKept v_t_bestPost v_t_mostSeen v_t_taped v_t_from v_t_to v_t_isWrong), ((a_t 5), .inl (cy 0, 7, .inl w3))]) [0, 1] (by decide) rfl
    exact W.iret hx hb hr (fun t ht hW => ⟨⟨_, (), rfl, rfl, by rw [ht]; exact hP9, va_K.moved hW.alike hK, hD9⟩, hS.F ht⟩) hS.2.2 dX8_orNone_15
  · replace h := bb_ifn c1 h
    refine lv_iload_n hx hb dX8_orNone_6 rfl (lv_at hl 1 rfl) ?_
    refine lv_goto (tgt := 15) hx hb dX8_orNone_7 (by decide) ?_
    obtain ⟨rfl, rfl⟩ := bb_some2 h
    have hP9 := hP.sub (ws' := [((a_t 0), oX8 a_t v_t_isKept v_t_bestPost v_t_mostSeen v_t_taped v_t_from v_t_to v_t_isWrong), ((a_t 5), .inl (cy 0, 7, .inl f_t_found))]) [0, 1] rfl
    have hD9 := hD.sub (ws' := [((a_t 0), oX8 a_t v_t_isKept v_t_bestPost v_t_mostSeen v_t_taped v_t_from v_t_to v_t_isWrong), ((a_t 5), .inl (cy 0, 7, .inl f_t_found))]) [0, 1] (by decide) rfl
    exact W.iret hx hb hr (fun t ht hW => ⟨⟨_, (), rfl, rfl, by rw [ht]; exact hP9, va_K.moved hW.alike hK, hD9⟩, hS.F ht⟩) hS.2.2 dX8_orNone_15
/-! X8_out -/
def uX8_out (nn : Nat) (p1 : Int32) (f_t_aside : Nat → Int32) (f_t_found : Nat → Int32) (f_t_s : Nat → Int32) : Option (Int32 × (Nat → Int32) × (Nat → Int32) × (Nat → Int32)) :=
  bb_b1 (uX8_isBather p1 f_t_s) (fun (r1 : Int32) => (if r1 = 0 then bb_b2 (uX8_finds (0 : Int32) f_t_found) (fun (r6 : Int32) (w7 : Nat → Int32) => some (r6, f_t_aside, w7, f_t_s)) else bb_b3 (uX8_until nn p1 (0 : Int32) (0 : Int32) f_t_aside f_t_s) (fun (r9 : Int32) (w10 : Nat → Int32) (w11 : Nat → Int32) => bb_b2 (uX8_orNone r9 f_t_found) (fun (r13 : Int32) (w14 : Nat → Int32) => some (r13, w10, w14, w11)))))
theorem kdX8_out : yX8_out.cls = RX8 ∧ yX8_out.cls ≠ "java/lang/invoke/MethodHandle" ∧ yX8_out.cls ≠ "java/lang/invoke/VarHandle" ∧ (parseMethodDescriptor yX8_out.desc).map (fun d => d.parameters.length) = some 1 := by decide +kernel
set_option maxHeartbeats 4000000 in
set_option maxRecDepth 100000 in
theorem kX8_out (l : Launch) (dC : Nat → ClassId) (dI : Nat → Nat → Nat) (cy : Nat → ClassId) (sz : Nat) (a_t : Nat → Nat) (p1 : Int32) (v_t_isKept : Int32) (v_t_bestPost : Int32) (v_t_mostSeen : Int32) (v_t_taped : Int32) (v_t_from : Int32) (v_t_to : Int32) (v_t_isWrong : Int32) (f_t_aside : Nat → Int32) (f_t_found : Nat → Int32) (f_t_s : Nat → Int32) (nn : Nat) (r : Int32) (f_t_aside_o : Nat → Int32) (f_t_found_o : Nat → Int32) (f_t_s_o : Nat → Int32) (h : uX8_out nn p1 f_t_aside f_t_found f_t_s = some (r, f_t_aside_o, f_t_found_o, f_t_s_o)) : Met l yX8_out wsX8_out ({ frames := 11, cells := 0, slots := 0, locals := 245 }) (va_Pc [.ref (a_t 0), .int p1] (fun U => U.heap.size = sz ∧ va_P (dC, dI) vwCl [((a_t 0), oX8 a_t v_t_isKept v_t_bestPost v_t_mostSeen v_t_taped v_t_from v_t_to v_t_isWrong), ((a_t 3), .inl (cy 0, 155, .inl f_t_aside)), ((a_t 5), .inl (cy 0, 7, .inl f_t_found)), ((a_t 1), .inl (cy 0, 155, .inl f_t_s))] U.heap ∧ va_K (dC, dI) vwCl (tyX cy) U ∧ va_D (fun _ => True) [((a_t 0), oX8 a_t v_t_isKept v_t_bestPost v_t_mostSeen v_t_taped v_t_from v_t_to v_t_isWrong), ((a_t 3), .inl (cy 0, 155, .inl f_t_aside)), ((a_t 5), .inl (cy 0, 7, .inl f_t_found)), ((a_t 1), .inl (cy 0, 155, .inl f_t_s))])) (va_Qi (fun (r2 : Int32) (_ : Unit) => r = r2) (fun _ t => va_P (dC, dI) vwCl [((a_t 0), oX8 a_t v_t_isKept v_t_bestPost v_t_mostSeen v_t_taped v_t_from v_t_to v_t_isWrong), ((a_t 3), .inl (cy 0, 155, .inl f_t_aside_o)), ((a_t 5), .inl (cy 0, 7, .inl f_t_found_o)), ((a_t 1), .inl (cy 0, 155, .inl f_t_s_o))] t.heap ∧ va_K (dC, dI) vwCl (tyX cy) t ∧ va_D (va_A [((a_t 0), oX8 a_t v_t_isKept v_t_bestPost v_t_mostSeen v_t_taped v_t_from v_t_to v_t_isWrong), ((a_t 3), .inl (cy 0, 155, .inl f_t_aside)), ((a_t 5), .inl (cy 0, 7, .inl f_t_found)), ((a_t 1), .inl (cy 0, 155, .inl f_t_s))] sz) [((a_t 0), oX8 a_t v_t_isKept v_t_bestPost v_t_mostSeen v_t_taped v_t_from v_t_to v_t_isWrong), ((a_t 3), .inl (cy 0, 155, .inl f_t_aside_o)), ((a_t 5), .inl (cy 0, 7, .inl f_t_found_o)), ((a_t 1), .inl (cy 0, 155, .inl f_t_s_o))]) (va_A [((a_t 0), oX8 a_t v_t_isKept v_t_bestPost v_t_mostSeen v_t_taped v_t_from v_t_to v_t_isWrong), ((a_t 3), .inl (cy 0, 155, .inl f_t_aside)), ((a_t 5), .inl (cy 0, 7, .inl f_t_found)), ((a_t 1), .inl (cy 0, 155, .inl f_t_s))] sz)) 0 0 (va_A [((a_t 0), oX8 a_t v_t_isKept v_t_bestPost v_t_mostSeen v_t_taped v_t_from v_t_to v_t_isWrong), ((a_t 3), .inl (cy 0, 155, .inl f_t_aside)), ((a_t 5), .inl (cy 0, 7, .inl f_t_found)), ((a_t 1), .inl (cy 0, 155, .inl f_t_s))] sz) := by
  refine Met.ofW (cc := cX8_out) (maxL := 2) (ret := (some .int)) (by decide) rfl ?_
  intro p e s m args below meth c s₁ B hml hv
  obtain ⟨rfl, hsz, hP, hK, hD0⟩ := hv
  have hx := B.exec
  have hb := B.bytes
  have hr := B.returns
  have hts := atoms_spec (ws := wsX8_out) B.pre
  have hown : s.vm.findClass RX8 = some m.cls := findClass_of_methodNamed B.named
  have hlocks := B.notSynchronized
  subst hsz
  have hD := hD0.self (sz := s.heap.size)
  generalize hAe : va_A [((a_t 0), oX8 a_t v_t_isKept v_t_bestPost v_t_mostSeen v_t_taped v_t_from v_t_to v_t_isWrong), ((a_t 3), .inl (cy 0, 155, .inl f_t_aside)), ((a_t 5), .inl (cy 0, 7, .inl f_t_found)), ((a_t 1), .inl (cy 0, 155, .inl f_t_s))] s.heap.size = A at hD ⊢
  have hA : ∀ q : Nat, s.heap.size ≤ q → A q := fun q h => by rw [← hAe]; exact Or.inr h
  have hS : va_S A s.heap s.heap [] := va_S.rf
  have hP : va_P (dC, dI) vwCl [((a_t 0), oX8 a_t v_t_isKept v_t_bestPost v_t_mostSeen v_t_taped v_t_from v_t_to v_t_isWrong), ((a_t 3), .inl (cy 0, 155, .inl f_t_aside)), ((a_t 5), .inl (cy 0, 7, .inl f_t_found)), ((a_t 1), .inl (cy 0, 155, .inl f_t_s))] s.heap := hP
  have hl := lv_entry ([.ref (a_t 0), .int p1]) (n := 2) (Nat.le_of_ble_eq_true rfl)
  rw [lg_entry_eq]
  generalize (lg_sl ([.ref (a_t 0), .int p1]) ++ List.replicate (2 - (lg_sl ([.ref (a_t 0), .int p1])).length) Slot.unset).toArray = ls at hl ⊢
  have hl : lv_has ls 2 [(0, .ref (a_t 0)), (1, .int p1)] := hl
  unfold uX8_out at h
  refine bb_cap (fun WW toW ofW => ?_)
  refine lv_aload_n hx hb dX8_out_0 rfl (lv_at hl 0 rfl) ?_
  refine lv_iload_n hx hb dX8_out_1 rfl (lv_at hl 1 rfl) ?_
  obtain ⟨r1, hc2, h⟩ := bb_b1_o h
  refine vp_callSi (W.runV (As := [.int p1]) (rest := []) ⟨hx, hb, hml, hown, hts⟩ (kX8_isBather l dC dI cy a_t p1 v_t_isKept v_t_bestPost v_t_mostSeen v_t_taped v_t_from v_t_to v_t_isWrong f_t_s r1 hc2) (cwV 1 hts gX8_out_X8_isBather rfl rfl rfl kdX8_isBather ⟨Nat.le_of_ble_eq_true rfl, Nat.le_of_ble_eq_true rfl⟩) (bb_preV (va_recv hK hP (ci := 7) (q0 := 0) rfl rfl) (hP.sub (ws' := [((a_t 0), oX8 a_t v_t_isKept v_t_bestPost v_t_mostSeen v_t_taped v_t_from v_t_to v_t_isWrong), ((a_t 1), .inl (cy 0, 155, .inl f_t_s))]) [0, 3] rfl) hK) rfl rfl hl.1 rfl (lv_room (Nat.le_of_ble_eq_true rfl)) dX8_out_2 ⟨Nat.zero_le _, Nat.zero_le _⟩) (fun t3 et3 => ?_)
  obtain ⟨rfl, hz4⟩ := et3
  refine lv_if_eq (tgt := 22) hx hb dX8_out_5 (by decide) (fun c5 => ?_) (fun c5 => ?_)
  · replace h := bb_ifp c5 h
    refine lv_aload_n hx hb dX8_out_22 rfl (lv_at hl 0 rfl) ?_
    refine lv_iconst (v := (0 : Int32)) hx hb dX8_out_23 (by decide) ?_
    obtain ⟨r6, w7, hc8, h⟩ := bb_b2_o h
    refine bb_cwi (wr := [((a_t 3), .inl (cy 0, 155, .inl f_t_aside)), ((a_t 1), .inl (cy 0, 155, .inl f_t_s))]) (w1 := [((a_t 0), oX8 a_t v_t_isKept v_t_bestPost v_t_mostSeen v_t_taped v_t_from v_t_to v_t_isWrong), ((a_t 5), .inl (cy 0, 7, .inl w7))]) (va_runV (As := [.int (0 : Int32)]) (rest := []) ⟨hx, hb, hml, hown, hts⟩ (kX8_finds l dC dI cy s.heap.size a_t (0 : Int32) v_t_isKept v_t_bestPost v_t_mostSeen v_t_taped v_t_from v_t_to v_t_isWrong f_t_found r6 w7 hc8) (cwV 1 hts gX8_out_X8_finds rfl rfl rfl kdX8_finds ⟨Nat.le_of_ble_eq_true rfl, Nat.le_of_ble_eq_true rfl⟩) (bb_preVw (va_recv hK hP (ci := 7) (q0 := 0) rfl rfl) (hP.sub (ws' := [((a_t 0), oX8 a_t v_t_isKept v_t_bestPost v_t_mostSeen v_t_taped v_t_from v_t_to v_t_isWrong), ((a_t 5), .inl (cy 0, 7, .inl f_t_found))]) [0, 2] rfl) hK (hD.sub (ws' := [((a_t 0), oX8 a_t v_t_isKept v_t_bestPost v_t_mostSeen v_t_taped v_t_from v_t_to v_t_isWrong), ((a_t 5), .inl (cy 0, 7, .inl f_t_found))]) [0, 2] (by decide) rfl)) rfl rfl hl.1 rfl (lv_room (Nat.le_of_ble_eq_true rfl)) dX8_out_24 ⟨Nat.zero_le _, Nat.zero_le _⟩) hP hD hS hA [0, 2] [1, 3] rfl rfl (by decide) (by decide) (fun H locs hP hD hS => ?_)
    have hP : va_P (dC, dI) vwCl [((a_t 3), .inl (cy 0, 155, .inl f_t_aside)), ((a_t 1), .inl (cy 0, 155, .inl f_t_s)), ((a_t 0), oX8 a_t v_t_isKept v_t_bestPost v_t_mostSeen v_t_taped v_t_from v_t_to v_t_isWrong), ((a_t 5), .inl (cy 0, 7, .inl w7))] H := hP
    have hD : va_D A [((a_t 3), .inl (cy 0, 155, .inl f_t_aside)), ((a_t 1), .inl (cy 0, 155, .inl f_t_s)), ((a_t 0), oX8 a_t v_t_isKept v_t_bestPost v_t_mostSeen v_t_taped v_t_from v_t_to v_t_isWrong), ((a_t 5), .inl (cy 0, 7, .inl w7))] := hD
    obtain ⟨rfl, rfl, rfl, rfl⟩ := bb_some4 h
    have hP9 := hP.sub (ws' := [((a_t 0), oX8 a_t v_t_isKept v_t_bestPost v_t_mostSeen v_t_taped v_t_from v_t_to v_t_isWrong), ((a_t 3), .inl (cy 0, 155, .inl f_t_aside)), ((a_t 5), .inl (cy 0, 7, .inl w7)), ((a_t 1), .inl (cy 0, 155, .inl f_t_s))]) [2, 0, 3, 1] rfl
    have hD9 := hD.sub (ws' := [((a_t 0), oX8 a_t v_t_isKept v_t_bestPost v_t_mostSeen v_t_taped v_t_from v_t_to v_t_isWrong), ((a_t 3), .inl (cy 0, 155, .inl f_t_aside)), ((a_t 5), .inl (cy 0, 7, .inl w7)), ((a_t 1), .inl (cy 0, 155, .inl f_t_s))]) [2, 0, 3, 1] (by decide) rfl
    exact W.iret hx hb hr (fun t ht hW => ⟨⟨_, (), rfl, rfl, by rw [ht]; exact hP9, va_K.moved hW.alike hK, hD9⟩, hS.F ht⟩) hS.2.2 dX8_out_27
  · replace h := bb_ifn c5 h
    refine lv_aload_n hx hb dX8_out_8 rfl (lv_at hl 0 rfl) ?_
    refine lv_aload_n hx hb dX8_out_9 rfl (lv_at hl 0 rfl) ?_
    refine lv_iload_n hx hb dX8_out_10 rfl (lv_at hl 1 rfl) ?_
    refine lv_iconst (v := (0 : Int32)) hx hb dX8_out_11 (by decide) ?_
    refine lv_iconst (v := (0 : Int32)) hx hb dX8_out_12 (by decide) ?_
    obtain ⟨r9, w10, w11, hc12, h⟩ := bb_b3_o h
    refine bb_cwi (wr := [((a_t 5), .inl (cy 0, 7, .inl f_t_found))]) (w1 := [((a_t 0), oX8 a_t v_t_isKept v_t_bestPost v_t_mostSeen v_t_taped v_t_from v_t_to v_t_isWrong), ((a_t 3), .inl (cy 0, 155, .inl w10)), ((a_t 1), .inl (cy 0, 155, .inl w11))]) (va_runV (As := [.int p1, .int (0 : Int32), .int (0 : Int32)]) (rest := [.ref (a_t 0)]) ⟨hx, hb, hml, hown, hts⟩ (kX8_until l dC dI cy s.heap.size a_t p1 (0 : Int32) (0 : Int32) v_t_isKept v_t_bestPost v_t_mostSeen v_t_taped v_t_from v_t_to v_t_isWrong f_t_aside f_t_s nn r9 w10 w11 hc12) (cwV 3 hts gX8_out_X8_until rfl rfl rfl kdX8_until ⟨Nat.le_of_ble_eq_true rfl, Nat.le_of_ble_eq_true rfl⟩) (bb_preVw (va_recv hK hP (ci := 7) (q0 := 0) rfl rfl) (hP.sub (ws' := [((a_t 0), oX8 a_t v_t_isKept v_t_bestPost v_t_mostSeen v_t_taped v_t_from v_t_to v_t_isWrong), ((a_t 3), .inl (cy 0, 155, .inl f_t_aside)), ((a_t 1), .inl (cy 0, 155, .inl f_t_s))]) [0, 1, 3] rfl) hK (hD.sub (ws' := [((a_t 0), oX8 a_t v_t_isKept v_t_bestPost v_t_mostSeen v_t_taped v_t_from v_t_to v_t_isWrong), ((a_t 3), .inl (cy 0, 155, .inl f_t_aside)), ((a_t 1), .inl (cy 0, 155, .inl f_t_s))]) [0, 1, 3] (by decide) rfl)) rfl rfl hl.1 rfl (lv_room (Nat.le_of_ble_eq_true rfl)) dX8_out_13 ⟨Nat.zero_le _, Nat.zero_le _⟩) hP hD hS hA [0, 1, 3] [2] rfl rfl (by decide) (by decide) (fun H locs hP hD hS => ?_)
    have hP : va_P (dC, dI) vwCl [((a_t 5), .inl (cy 0, 7, .inl f_t_found)), ((a_t 0), oX8 a_t v_t_isKept v_t_bestPost v_t_mostSeen v_t_taped v_t_from v_t_to v_t_isWrong), ((a_t 3), .inl (cy 0, 155, .inl w10)), ((a_t 1), .inl (cy 0, 155, .inl w11))] H := hP
    have hD : va_D A [((a_t 5), .inl (cy 0, 7, .inl f_t_found)), ((a_t 0), oX8 a_t v_t_isKept v_t_bestPost v_t_mostSeen v_t_taped v_t_from v_t_to v_t_isWrong), ((a_t 3), .inl (cy 0, 155, .inl w10)), ((a_t 1), .inl (cy 0, 155, .inl w11))] := hD
    obtain ⟨r13, w14, hc15, h⟩ := bb_b2_o h
    refine bb_cwi (wr := [((a_t 3), .inl (cy 0, 155, .inl w10)), ((a_t 1), .inl (cy 0, 155, .inl w11))]) (w1 := [((a_t 0), oX8 a_t v_t_isKept v_t_bestPost v_t_mostSeen v_t_taped v_t_from v_t_to v_t_isWrong), ((a_t 5), .inl (cy 0, 7, .inl w14))]) (va_runV (As := [.int r9]) (rest := []) ⟨hx, hb, hml, hown, hts⟩ (kX8_orNone l dC dI cy H.size a_t r9 v_t_isKept v_t_bestPost v_t_mostSeen v_t_taped v_t_from v_t_to v_t_isWrong f_t_found r13 w14 hc15) (cwV 1 hts gX8_out_X8_orNone rfl rfl rfl kdX8_orNone ⟨Nat.le_of_ble_eq_true rfl, Nat.le_of_ble_eq_true rfl⟩) (bb_preVw (va_recv hK hP (ci := 7) (q0 := 1) rfl rfl) (hP.sub (ws' := [((a_t 0), oX8 a_t v_t_isKept v_t_bestPost v_t_mostSeen v_t_taped v_t_from v_t_to v_t_isWrong), ((a_t 5), .inl (cy 0, 7, .inl f_t_found))]) [1, 0] rfl) hK (hD.sub (ws' := [((a_t 0), oX8 a_t v_t_isKept v_t_bestPost v_t_mostSeen v_t_taped v_t_from v_t_to v_t_isWrong), ((a_t 5), .inl (cy 0, 7, .inl f_t_found))]) [1, 0] (by decide) rfl)) rfl rfl hl.1 rfl (lv_room (Nat.le_of_ble_eq_true rfl)) dX8_out_16 ⟨Nat.zero_le _, Nat.zero_le _⟩) hP hD hS hA [1, 0] [2, 3] rfl rfl (by decide) (by decide) (fun H locs hP hD hS => ?_)
    have hP : va_P (dC, dI) vwCl [((a_t 3), .inl (cy 0, 155, .inl w10)), ((a_t 1), .inl (cy 0, 155, .inl w11)), ((a_t 0), oX8 a_t v_t_isKept v_t_bestPost v_t_mostSeen v_t_taped v_t_from v_t_to v_t_isWrong), ((a_t 5), .inl (cy 0, 7, .inl w14))] H := hP
    have hD : va_D A [((a_t 3), .inl (cy 0, 155, .inl w10)), ((a_t 1), .inl (cy 0, 155, .inl w11)), ((a_t 0), oX8 a_t v_t_isKept v_t_bestPost v_t_mostSeen v_t_taped v_t_from v_t_to v_t_isWrong), ((a_t 5), .inl (cy 0, 7, .inl w14))] := hD
    refine lv_goto (tgt := 27) hx hb dX8_out_19 (by decide) ?_
    obtain ⟨rfl, rfl, rfl, rfl⟩ := bb_some4 h
    have hP9 := hP.sub (ws' := [((a_t 0), oX8 a_t v_t_isKept v_t_bestPost v_t_mostSeen v_t_taped v_t_from v_t_to v_t_isWrong), ((a_t 3), .inl (cy 0, 155, .inl w10)), ((a_t 5), .inl (cy 0, 7, .inl w14)), ((a_t 1), .inl (cy 0, 155, .inl w11))]) [2, 0, 3, 1] rfl
    have hD9 := hD.sub (ws' := [((a_t 0), oX8 a_t v_t_isKept v_t_bestPost v_t_mostSeen v_t_taped v_t_from v_t_to v_t_isWrong), ((a_t 3), .inl (cy 0, 155, .inl w10)), ((a_t 5), .inl (cy 0, 7, .inl w14)), ((a_t 1), .inl (cy 0, 155, .inl w11))]) [2, 0, 3, 1] (by decide) rfl
    exact W.iret hx hb hr (fun t ht hW => ⟨⟨_, (), rfl, rfl, by rw [ht]; exact hP9, va_K.moved hW.alike hK, hD9⟩, hS.F ht⟩) hS.2.2 dX8_out_27
