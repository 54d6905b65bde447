/-! X8_caught -/
def uX8_caught (nn : Nat) (p1 : Int32) (f_t_aside : Nat → Int32) (f_t_found : Nat → Int32) (f_t_s : Nat → Int32) : Option (Int32 × (Nat → Int32) × (Nat → Int32) × (Nat → Int32)) :=
  bb_b1 (uX8_isBather p1 f_t_s) (fun (r1 : Int32) => (if r1 = 0 then bb_b2 (uX8_finds (0 : Int32) f_t_found) (fun (r6 : Int32) (w7 : Nat → Int32) => some (r6, f_t_aside, w7, f_t_s)) else bb_b3 (uX8_until nn p1 (1 : Int32) (0 : Int32) f_t_aside f_t_s) (fun (r9 : Int32) (w10 : Nat → Int32) (w11 : Nat → Int32) => bb_b2 (uX8_orNone r9 f_t_found) (fun (r13 : Int32) (w14 : Nat → Int32) => some (r13, w10, w14, w11)))))
theorem kdX8_caught : yX8_caught.cls = RX8 ∧ yX8_caught.cls ≠ "java/lang/invoke/MethodHandle" ∧ yX8_caught.cls ≠ "java/lang/invoke/VarHandle" ∧ (parseMethodDescriptor yX8_caught.desc).map (fun d => d.parameters.length) = some 1 := by decide +kernel
set_option maxHeartbeats 4000000 in
set_option maxRecDepth 100000 in
theorem kX8_caught (l : Launch) (dC : Nat → ClassId) (dI : Nat → Nat → Nat) (cy : Nat → ClassId) (sz : Nat) (a_t : Nat → Nat) (p1 : Int32) (v_t_isKept : Int32) (v_t_bestPost : Int32) (v_t_mostSeen : Int32) (v_t_taped : Int32) (v_t_from : Int32) (v_t_to : Int32) (v_t_isWrong : Int32) (f_t_aside : Nat → Int32) (f_t_found : Nat → Int32) (f_t_s : Nat → Int32) (nn : Nat) (r : Int32) (f_t_aside_o : Nat → Int32) (f_t_found_o : Nat → Int32) (f_t_s_o : Nat → Int32) (h : uX8_caught nn p1 f_t_aside f_t_found f_t_s = some (r, f_t_aside_o, f_t_found_o, f_t_s_o)) : Met l yX8_caught wsX8_caught ({ frames := 11, cells := 0, slots := 0, locals := 245 }) (va_Pc [.ref (a_t 0), .int p1] (fun U => U.heap.size = sz ∧ va_P (dC, dI) vwCl [((a_t 0), oX8 a_t v_t_isKept v_t_bestPost v_t_mostSeen v_t_taped v_t_from v_t_to v_t_isWrong), ((a_t 3), .inl (cy 0, 155, .inl f_t_aside)), ((a_t 5), .inl (cy 0, 7, .inl f_t_found)), ((a_t 1), .inl (cy 0, 155, .inl f_t_s))] U.heap ∧ va_K (dC, dI) vwCl (tyX cy) U ∧ va_D (fun _ => True) [((a_t 0), oX8 a_t v_t_isKept v_t_bestPost v_t_mostSeen v_t_taped v_t_from v_t_to v_t_isWrong), ((a_t 3), .inl (cy 0, 155, .inl f_t_aside)), ((a_t 5), .inl (cy 0, 7, .inl f_t_found)), ((a_t 1), .inl (cy 0, 155, .inl f_t_s))])) (va_Qi (fun (r2 : Int32) (_ : Unit) => r = r2) (fun _ t => va_P (dC, dI) vwCl [((a_t 0), oX8 a_t v_t_isKept v_t_bestPost v_t_mostSeen v_t_taped v_t_from v_t_to v_t_isWrong), ((a_t 3), .inl (cy 0, 155, .inl f_t_aside_o)), ((a_t 5), .inl (cy 0, 7, .inl f_t_found_o)), ((a_t 1), .inl (cy 0, 155, .inl f_t_s_o))] t.heap ∧ va_K (dC, dI) vwCl (tyX cy) t ∧ va_D (va_A [((a_t 0), oX8 a_t v_t_isKept v_t_bestPost v_t_mostSeen v_t_taped v_t_from v_t_to v_t_isWrong), ((a_t 3), .inl (cy 0, 155, .inl f_t_aside)), ((a_t 5), .inl (cy 0, 7, .inl f_t_found)), ((a_t 1), .inl (cy 0, 155, .inl f_t_s))] sz) [((a_t 0), oX8 a_t v_t_isKept v_t_bestPost v_t_mostSeen v_t_taped v_t_from v_t_to v_t_isWrong), ((a_t 3), .inl (cy 0, 155, .inl f_t_aside_o)), ((a_t 5), .inl (cy 0, 7, .inl f_t_found_o)), ((a_t 1), .inl (cy 0, 155, .inl f_t_s_o))]) (va_A [((a_t 0), oX8 a_t v_t_isKept v_t_bestPost v_t_mostSeen v_t_taped v_t_from v_t_to v_t_isWrong), ((a_t 3), .inl (cy 0, 155, .inl f_t_aside)), ((a_t 5), .inl (cy 0, 7, .inl f_t_found)), ((a_t 1), .inl (cy 0, 155, .inl f_t_s))] sz)) 0 0 (va_A [((a_t 0), oX8 a_t v_t_isKept v_t_bestPost v_t_mostSeen v_t_taped v_t_from v_t_to v_t_isWrong), ((a_t 3), .inl (cy 0, 155, .inl f_t_aside)), ((a_t 5), .inl (cy 0, 7, .inl f_t_found)), ((a_t 1), .inl (cy 0, 155, .inl f_t_s))] sz) := by
  refine Met.ofW (cc := cX8_caught) (maxL := 2) (ret := (some .int)) (by decide) rfl ?_
  intro p e s m args below meth c s₁ B hml hv
  obtain ⟨rfl, hsz, hP, hK, hD0⟩ := hv
  have hx := B.exec
  have hb := B.bytes
  have hr := B.returns
  have hts := atoms_spec (ws := wsX8_caught) B.pre
  have hown : s.vm.findClass RX8 = some m.cls := findClass_of_methodNamed B.named
  have hlocks := B.notSynchronized
  subst hsz
  have hD := hD0.self (sz := s.heap.size)
  generalize hAe : va_A [((a_t 0), oX8 a_t v_t_isKept v_t_bestPost v_t_mostSeen v_t_taped v_t_from v_t_to v_t_isWrong), ((a_t 3), .inl (cy 0, 155, .inl f_t_aside)), ((a_t 5), .inl (cy 0, 7, .inl f_t_found)), ((a_t 1), .inl (cy 0, 155, .inl f_t_s))] s.heap.size = A at hD ⊢
  have hA : ∀ q : Nat, s.heap.size ≤ q → A q := fun q h => by rw [← hAe]; exact Or.inr h
  have hS : va_S A s.heap s.heap [] := va_S.rf
  have hP : va_P (dC, dI) vwCl [((a_t 0), oX8 a_t v_t_isKept v_t_bestPost v_t_mostSeen v_t_taped v_t_from v_t_to v_t_isWrong), ((a_t 3), .inl (cy 0, 155, .inl f_t_aside)), ((a_t 5), .inl (cy 0, 7, .inl f_t_found)), ((a_t 1), .inl (cy 0, 155, .inl f_t_s))] s.heap := hP
  have hl := lv_entry ([.ref (a_t 0), .int p1]) (n := 2) (Nat.le_of_ble_eq_true rfl)
  rw [lg_entry_eq]
  generalize (lg_sl ([.ref (a_t 0), .int p1]) ++ List.replicate (2 - (lg_sl ([.ref (a_t 0), .int p1])).length) Slot.unset).toArray = ls at hl ⊢
  have hl : lv_has ls 2 [(0, .ref (a_t 0)), (1, .int p1)] := hl
  unfold uX8_caught at h
  refine bb_cap (fun WW toW ofW => ?_)
  refine lv_aload_n hx hb dX8_caught_0 rfl (lv_at hl 0 rfl) ?_
  refine lv_iload_n hx hb dX8_caught_1 rfl (lv_at hl 1 rfl) ?_
  obtain ⟨r1, hc2, h⟩ := bb_b1_o h
  refine vp_callSi (W.runV (As := [.int p1]) (rest := []) ⟨hx, hb, hml, hown, hts⟩ (kX8_isBather l dC dI cy a_t p1 v_t_isKept v_t_bestPost v_t_mostSeen v_t_taped v_t_from v_t_to v_t_isWrong f_t_s r1 hc2) (cwV 1 hts gX8_caught_X8_isBather rfl rfl rfl kdX8_isBather ⟨Nat.le_of_ble_eq_true rfl, Nat.le_of_ble_eq_true rfl⟩) (bb_preV (va_recv hK hP (ci := 7) (q0 := 0) rfl rfl) (hP.sub (ws' := [((a_t 0), oX8 a_t v_t_isKept v_t_bestPost v_t_mostSeen v_t_taped v_t_from v_t_to v_t_isWrong), ((a_t 1), .inl (cy 0, 155, .inl f_t_s))]) [0, 3] rfl) hK) rfl rfl hl.1 rfl (lv_room (Nat.le_of_ble_eq_true rfl)) dX8_caught_2 ⟨Nat.zero_le _, Nat.zero_le _⟩) (fun t3 et3 => ?_)
  obtain ⟨rfl, hz4⟩ := et3
  refine lv_if_eq (tgt := 22) hx hb dX8_caught_5 (by decide) (fun c5 => ?_) (fun c5 => ?_)
  · replace h := bb_ifp c5 h
    refine lv_aload_n hx hb dX8_caught_22 rfl (lv_at hl 0 rfl) ?_
    refine lv_iconst (v := (0 : Int32)) hx hb dX8_caught_23 (by decide) ?_
    obtain ⟨r6, w7, hc8, h⟩ := bb_b2_o h
    refine bb_cwi (wr := [((a_t 3), .inl (cy 0, 155, .inl f_t_aside)), ((a_t 1), .inl (cy 0, 155, .inl f_t_s))]) (w1 := [((a_t 0), oX8 a_t v_t_isKept v_t_bestPost v_t_mostSeen v_t_taped v_t_from v_t_to v_t_isWrong), ((a_t 5), .inl (cy 0, 7, .inl w7))]) (va_runV (As := [.int (0 : Int32)]) (rest := []) ⟨hx, hb, hml, hown, hts⟩ (kX8_finds l dC dI cy s.heap.size a_t (0 : Int32) v_t_isKept v_t_bestPost v_t_mostSeen v_t_taped v_t_from v_t_to v_t_isWrong f_t_found r6 w7 hc8) (cwV 1 hts gX8_caught_X8_finds rfl rfl rfl kdX8_finds ⟨Nat.le_of_ble_eq_true rfl, Nat.le_of_ble_eq_true rfl⟩) (bb_preVw (va_recv hK hP (ci := 7) (q0 := 0) rfl rfl) (hP.sub (ws' := [((a_t 0), oX8 a_t v_t_isKept v_t_bestPost v_t_mostSeen v_t_taped v_t_from v_t_to v_t_isWrong), ((a_t 5), .inl (cy 0, 7, .inl f_t_found))]) [0, 2] rfl) hK (hD.sub (ws' := [((a_t 0), oX8 a_t v_t_isKept v_t_bestPost v_t_mostSeen v_t_taped v_t_from v_t_to v_t_isWrong), ((a_t 5), .inl (cy 0, 7, .inl f_t_found))]) [0, 2] (by decide) rfl)) rfl rfl hl.1 rfl (lv_room (Nat.le_of_ble_eq_true rfl)) dX8_caught_24 ⟨Nat.zero_le _, Nat.zero_le _⟩) hP hD hS hA [0, 2] [1, 3] rfl rfl (by decide) (by decide) (fun H locs hP hD hS => ?_)
    have hP : va_P (dC, dI) vwCl [((a_t 3), .inl (cy 0, 155, .inl f_t_aside)), ((a_t 1), .inl (cy 0, 155, .inl f_t_s)), ((a_t 0), oX8 a_t v_t_isKept v_t_bestPost v_t_mostSeen v_t_taped v_t_from v_t_to v_t_isWrong), ((a_t 5), .inl (cy 0, 7, .inl w7))] H := hP
    have hD : va_D A [((a_t 3), .inl (cy 0, 155, .inl f_t_aside)), ((a_t 1), .inl (cy 0, 155, .inl f_t_s)), ((a_t 0), oX8 a_t v_t_isKept v_t_bestPost v_t_mostSeen v_t_taped v_t_from v_t_to v_t_isWrong), ((a_t 5), .inl (cy 0, 7, .inl w7))] := hD
    obtain ⟨rfl, rfl, rfl, rfl⟩ := bb_some4 h
    have hP9 := hP.sub (ws' := [((a_t 0), oX8 a_t v_t_isKept v_t_bestPost v_t_mostSeen v_t_taped v_t_from v_t_to v_t_isWrong), ((a_t 3), .inl (cy 0, 155, .inl f_t_aside)), ((a_t 5), .inl (cy 0, 7, .inl w7)), ((a_t 1), .inl (cy 0, 155, .inl f_t_s))]) [2, 0, 3, 1] rfl
    have hD9 := hD.sub (ws' := [((a_t 0), oX8 a_t v_t_isKept v_t_bestPost v_t_mostSeen v_t_taped v_t_from v_t_to v_t_isWrong), ((a_t 3), .inl (cy 0, 155, .inl f_t_aside)), ((a_t 5), .inl (cy 0, 7, .inl w7)), ((a_t 1), .inl (cy 0, 155, .inl f_t_s))]) [2, 0, 3, 1] (by decide) rfl
    exact W.iret hx hb hr (fun t ht hW => ⟨⟨_, (), rfl, rfl, by rw [ht]; exact hP9, va_K.moved hW.alike hK, hD9⟩, hS.F ht⟩) hS.2.2 dX8_caught_27
  · replace h := bb_ifn c5 h
    refine lv_aload_n hx hb dX8_caught_8 rfl (lv_at hl 0 rfl) ?_
    refine lv_aload_n hx hb dX8_caught_9 rfl (lv_at hl 0 rfl) ?_
    refine lv_iload_n hx hb dX8_caught_10 rfl (lv_at hl 1 rfl) ?_
    refine lv_iconst (v := (1 : Int32)) hx hb dX8_caught_11 (by decide) ?_
    refine lv_iconst (v := (0 : Int32)) hx hb dX8_caught_12 (by decide) ?_
    obtain ⟨r9, w10, w11, hc12, h⟩ := bb_b3_o h
    refine bb_cwi (wr := [((a_t 5), .inl (cy 0, 7, .inl f_t_found))]) (w1 := [((a_t 0), oX8 a_t v_t_isKept v_t_bestPost v_t_mostSeen v_t_taped v_t_from v_t_to v_t_isWrong), ((a_t 3), .inl (cy 0, 155, .inl w10)), ((a_t 1), .inl (cy 0, 155, .inl w11))]) (va_runV (As := [.int p1, .int (1 : Int32), .int (0 : Int32)]) (rest := [.ref (a_t 0)]) ⟨hx, hb, hml, hown, hts⟩ (kX8_until l dC dI cy s.heap.size a_t p1 (1 : Int32) (0 : Int32) v_t_isKept v_t_bestPost v_t_mostSeen v_t_taped v_t_from v_t_to v_t_isWrong f_t_aside f_t_s nn r9 w10 w11 hc12) (cwV 3 hts gX8_caught_X8_until rfl rfl rfl kdX8_until ⟨Nat.le_of_ble_eq_true rfl, Nat.le_of_ble_eq_true rfl⟩) (bb_preVw (va_recv hK hP (ci := 7) (q0 := 0) rfl rfl) (hP.sub (ws' := [((a_t 0), oX8 a_t v_t_isKept v_t_bestPost v_t_mostSeen v_t_taped v_t_from v_t_to v_t_isWrong), ((a_t 3), .inl (cy 0, 155, .inl f_t_aside)), ((a_t 1), .inl (cy 0, 155, .inl f_t_s))]) [0, 1, 3] rfl) hK (hD.sub (ws' := [((a_t 0), oX8 a_t v_t_isKept v_t_bestPost v_t_mostSeen v_t_taped v_t_from v_t_to v_t_isWrong), ((a_t 3), .inl (cy 0, 155, .inl f_t_aside)), ((a_t 1), .inl (cy 0, 155, .inl f_t_s))]) [0, 1, 3] (by decide) rfl)) rfl rfl hl.1 rfl (lv_room (Nat.le_of_ble_eq_true rfl)) dX8_caught_13 ⟨Nat.zero_le _, Nat.zero_le _⟩) hP hD hS hA [0, 1, 3] [2] rfl rfl (by decide) (by decide) (fun H locs hP hD hS => ?_)
    have hP : va_P (dC, dI) vwCl [((a_t 5), .inl (cy 0, 7, .inl f_t_found)), ((a_t 0), oX8 a_t v_t_isKept v_t_bestPost v_t_mostSeen v_t_taped v_t_from v_t_to v_t_isWrong), ((a_t 3), .inl (cy 0, 155, .inl w10)), ((a_t 1), .inl (cy 0, 155, .inl w11))] H := hP
    have hD : va_D A [((a_t 5), .inl (cy 0, 7, .inl f_t_found)), ((a_t 0), oX8 a_t v_t_isKept v_t_bestPost v_t_mostSeen v_t_taped v_t_from v_t_to v_t_isWrong), ((a_t 3), .inl (cy 0, 155, .inl w10)), ((a_t 1), .inl (cy 0, 155, .inl w11))] := hD
    obtain ⟨r13, w14, hc15, h⟩ := bb_b2_o h
    refine bb_cwi (wr := [((a_t 3), .inl (cy 0, 155, .inl w10)), ((a_t 1), .inl (cy 0, 155, .inl w11))]) (w1 := [((a_t 0), oX8 a_t v_t_isKept v_t_bestPost v_t_mostSeen v_t_taped v_t_from v_t_to v_t_isWrong), ((a_t 5), .inl (cy 0, 7, .inl w14))]) (va_runV (As := [.int r9]) (rest := []) ⟨hx, hb, hml, hown, hts⟩ (kX8_orNone l dC dI cy H.size a_t r9 v_t_isKept v_t_bestPost v_t_mostSeen v_t_taped v_t_from v_t_to v_t_isWrong f_t_found r13 w14 hc15) (cwV 1 hts gX8_caught_X8_orNone rfl rfl rfl kdX8_orNone ⟨Nat.le_of_ble_eq_true rfl, Nat.le_of_ble_eq_true rfl⟩) (bb_preVw (va_recv hK hP (ci := 7) (q0 := 1) rfl rfl) (hP.sub (ws' := [((a_t 0), oX8 a_t v_t_isKept v_t_bestPost v_t_mostSeen v_t_taped v_t_from v_t_to v_t_isWrong), ((a_t 5), .inl (cy 0, 7, .inl f_t_found))]) [1, 0] rfl) hK (hD.sub (ws' := [((a_t 0), oX8 a_t v_t_isKept v_t_bestPost v_t_mostSeen v_t_taped v_t_from v_t_to v_t_isWrong), ((a_t 5), .inl (cy 0, 7, .inl f_t_found))]) [1, 0] (by decide) rfl)) rfl rfl hl.1 rfl (lv_room (Nat.le_of_ble_eq_true rfl)) dX8_caught_16 ⟨Nat.zero_le _, Nat.zero_le _⟩) hP hD hS hA [1, 0] [2, 3] rfl rfl (by decide) (by decide) (fun H locs hP hD hS => ?_)
    have hP : va_P (dC, dI) vwCl [((a_t 3), .inl (cy 0, 155, .inl w10)), ((a_t 1), .inl (cy 0, 155, .inl w11)), ((a_t 0), oX8 a_t v_t_isKept v_t_bestPost v_t_mostSeen v_t_taped v_t_from v_t_to v_t_isWrong), ((a_t 5), .inl (cy 0, 7, .inl w14))] H := hP
    have hD : va_D A [((a_t 3), .inl (cy 0, 155, .inl w10)), ((a_t 1), .inl (cy 0, 155, .inl w11)), ((a_t 0), oX8 a_t v_t_isKept v_t_bestPost v_t_mostSeen v_t_taped v_t_from v_t_to v_t_isWrong), ((a_t 5), .inl (cy 0, 7, .inl w14))] := hD
    refine lv_goto (tgt := 27) hx hb dX8_caught_19 (by decide) ?_
    obtain ⟨rfl, rfl, rfl, rfl⟩ := bb_some4 h
    have hP9 := hP.sub (ws' := [((a_t 0), oX8 a_t v_t_isKept v_t_bestPost v_t_mostSeen v_t_taped v_t_from v_t_to v_t_isWrong), ((a_t 3), .inl (cy 0, 155, .inl w10)), ((a_t 5), .inl (cy 0, 7, .inl w14)), ((a_t 1), .inl (cy 0, 155, .inl w11))]) [2, 0, 3, 1] rfl
    have hD9 := hD.sub (ws' := [((a_t 0), oX8 a_t v_t_isKept v_t_bestPost v_t_mostSeen v_t_taped v_t_from v_t_to v_t_isWrong), ((a_t 3), .inl (cy 0, 155, .inl w10)), ((a_t 5), .inl (cy 0, 7, .inl w14)), ((a_t 1), .inl (cy 0, 155, .inl w11))]) [2, 0, 3, 1] (by decide) rfl
    exact W.iret hx hb hr (fun t ht hW => ⟨⟨_, (), rfl, rfl, by rw [ht]; exact hP9, va_K.moved hW.alike hK, hD9⟩, hS.F ht⟩) hS.2.2 dX8_caught_27
/-! X8_meet -/
def uX8_meet (nn : Nat) (p1 : Int32) (p2 : Int32) (f_t_aside : Nat → Int32) (f_t_found : Nat → Int32) (f_t_s : Nat → Int32) : Option (Int32 × (Nat → Int32) × (Nat → Int32) × (Nat → Int32)) :=
  bb_b1 (uX8_isBather p1 f_t_s) (fun (r1 : Int32) => (if r1 = 0 then bb_b2 (uX8_finds (0 : Int32) f_t_found) (fun (r6 : Int32) (w7 : Nat → Int32) => some (r6, f_t_aside, w7, f_t_s)) else bb_b1 (uX8_isBather p2 f_t_s) (fun (r9 : Int32) => (if r9 = 0 then bb_b2 (uX8_finds (0 : Int32) f_t_found) (fun (r14 : Int32) (w15 : Nat → Int32) => some (r14, f_t_aside, w15, f_t_s)) else (if p1 = p2 then bb_b2 (uX8_finds (0 : Int32) f_t_found) (fun (r18 : Int32) (w19 : Nat → Int32) => some (r18, f_t_aside, w19, f_t_s)) else bb_b3 (uX8_until nn p1 (2 : Int32) p2 f_t_aside f_t_s) (fun (r21 : Int32) (w22 : Nat → Int32) (w23 : Nat → Int32) => bb_b2 (uX8_orNone r21 f_t_found) (fun (r25 : Int32) (w26 : Nat → Int32) => some (r25, w22, w26, w23))))))))
theorem kdX8_meet : yX8_meet.cls = RX8 ∧ yX8_meet.cls ≠ "java/lang/invoke/MethodHandle" ∧ yX8_meet.cls ≠ "java/lang/invoke/VarHandle" ∧ (parseMethodDescriptor yX8_meet.desc).map (fun d => d.parameters.length) = some 2 := by decide +kernel
set_option maxHeartbeats 4000000 in
set_option maxRecDepth 100000 in
theorem kX8_meet (l : Launch) (dC : Nat → ClassId) (dI : Nat → Nat → Nat) (cy : Nat → ClassId) (sz : Nat) (a_t : Nat → Nat) (p1 : Int32) (p2 : Int32) (v_t_isKept : Int32) (v_t_bestPost : Int32) (v_t_mostSeen : Int32) (v_t_taped : Int32) (v_t_from : Int32) (v_t_to : Int32) (v_t_isWrong : Int32) (f_t_aside : Nat → Int32) (f_t_found : Nat → Int32) (f_t_s : Nat → Int32) (nn : Nat) (r : Int32) (f_t_aside_o : Nat → Int32) (f_t_found_o : Nat → Int32) (f_t_s_o : Nat → Int32) (h : uX8_meet nn p1 p2 f_t_aside f_t_found f_t_s = some (r, f_t_aside_o, f_t_found_o, f_t_s_o)) : Met l yX8_meet wsX8_meet ({ frames := 11, cells := 0, slots := 0, locals := 245 }) (va_Pc [.ref (a_t 0), .int p1, .int p2] (fun U => U.heap.size = sz ∧ va_P (dC, dI) vwCl [((a_t 0), oX8 a_t v_t_isKept v_t_bestPost v_t_mostSeen v_t_taped v_t_from v_t_to v_t_isWrong), ((a_t 3), .inl (cy 0, 155, .inl f_t_aside)), ((a_t 5), .inl (cy 0, 7, .inl f_t_found)), ((a_t 1), .inl (cy 0, 155, .inl f_t_s))] U.heap ∧ va_K (dC, dI) vwCl (tyX cy) U ∧ va_D (fun _ => True) [((a_t 0), oX8 a_t v_t_isKept v_t_bestPost v_t_mostSeen v_t_taped v_t_from v_t_to v_t_isWrong), ((a_t 3), .inl (cy 0, 155, .inl f_t_aside)), ((a_t 5), .inl (cy 0, 7, .inl f_t_found)), ((a_t 1), .inl (cy 0, 155, .inl f_t_s))])) (va_Qi (fun (r2 : Int32) (_ : Unit) => r = r2) (fun _ t => va_P (dC, dI) vwCl [((a_t 0), oX8 a_t v_t_isKept v_t_bestPost v_t_mostSeen v_t_taped v_t_from v_t_to v_t_isWrong), ((a_t 3), .inl (cy 0, 155, .inl f_t_aside_o)), ((a_t 5), .inl (cy 0, 7, .inl f_t_found_o)), ((a_t 1), .inl (cy 0, 155, .inl f_t_s_o))] t.heap ∧ va_K (dC, dI) vwCl (tyX cy) t ∧ va_D (va_A [((a_t 0), oX8 a_t v_t_isKept v_t_bestPost v_t_mostSeen v_t_taped v_t_from v_t_to v_t_isWrong), ((a_t 3), .inl (cy 0, 155, .inl f_t_aside)), ((a_t 5), .inl (cy 0, 7, .inl f_t_found)), ((a_t 1), .inl (cy 0, 155, .inl f_t_s))] sz) [((a_t 0), oX8 a_t v_t_isKept v_t_bestPost v_t_mostSeen v_t_taped v_t_from v_t_to v_t_isWrong), ((a_t 3), .inl (cy 0, 155, .inl f_t_aside_o)), ((a_t 5), .inl (cy 0, 7, .inl f_t_found_o)), ((a_t 1), .inl (cy 0, 155, .inl f_t_s_o))]) (va_A [((a_t 0), oX8 a_t v_t_isKept v_t_bestPost v_t_mostSeen v_t_taped v_t_from v_t_to v_t_isWrong), ((a_t 3), .inl (cy 0, 155, .inl f_t_aside)), ((a_t 5), .inl (cy 0, 7, .inl f_t_found)), ((a_t 1), .inl (cy 0, 155, .inl f_t_s))] sz)) 0 0 (va_A [((a_t 0), oX8 a_t v_t_isKept v_t_bestPost v_t_mostSeen v_t_taped v_t_from v_t_to v_t_isWrong), ((a_t 3), .inl (cy 0, 155, .inl f_t_aside)), ((a_t 5), .inl (cy 0, 7, .inl f_t_found)), ((a_t 1), .inl (cy 0, 155, .inl f_t_s))] sz) := by
  refine Met.ofW (cc := cX8_meet) (maxL := 3) (ret := (some .int)) (by decide) rfl ?_
  intro p e s m args below meth c s₁ B hml hv
  obtain ⟨rfl, hsz, hP, hK, hD0⟩ := hv
  have hx := B.exec
  have hb := B.bytes
  have hr := B.returns
  have hts := atoms_spec (ws := wsX8_meet) B.pre
  have hown : s.vm.findClass RX8 = some m.cls := findClass_of_methodNamed B.named
  have hlocks := B.notSynchronized
  subst hsz
  have hD := hD0.self (sz := s.heap.size)
  generalize hAe : va_A [((a_t 0), oX8 a_t v_t_isKept v_t_bestPost v_t_mostSeen v_t_taped v_t_from v_t_to v_t_isWrong), ((a_t 3), .inl (cy 0, 155, .inl f_t_aside)), ((a_t 5), .inl (cy 0, 7, .inl f_t_found)), ((a_t 1), .inl (cy 0, 155, .inl f_t_s))] s.heap.size = A at hD ⊢
  have hA : ∀ q : Nat, s.heap.size ≤ q → A q := fun q h => by rw [← hAe]; exact Or.inr h
  have hS : va_S A s.heap s.heap [] := va_S.rf
  have hP : va_P (dC, dI) vwCl [((a_t 0), oX8 a_t v_t_isKept v_t_bestPost v_t_mostSeen v_t_taped v_t_from v_t_to v_t_isWrong), ((a_t 3), .inl (cy 0, 155, .inl f_t_aside)), ((a_t 5), .inl (cy 0, 7, .inl f_t_found)), ((a_t 1), .inl (cy 0, 155, .inl f_t_s))] s.heap := hP
  have hl := lv_entry ([.ref (a_t 0), .int p1, .int p2]) (n := 3) (Nat.le_of_ble_eq_true rfl)
  rw [lg_entry_eq]
  generalize (lg_sl ([.ref (a_t 0), .int p1, .int p2]) ++ List.replicate (3 - (lg_sl ([.ref (a_t 0), .int p1, .int p2])).length) Slot.unset).toArray = ls at hl ⊢
  have hl : lv_has ls 3 [(0, .ref (a_t 0)), (1, .int p1), (2, .int p2)] := hl
  unfold uX8_meet at h
  refine bb_cap (fun WW toW ofW => ?_)
  refine lv_aload_n hx hb dX8_meet_0 rfl (lv_at hl 0 rfl) ?_
  refine lv_iload_n hx hb dX8_meet_1 rfl (lv_at hl 1 rfl) ?_
  obtain ⟨r1, hc2, h⟩ := bb_b1_o h
  refine vp_callSi (W.runV (As := [.int p1]) (rest := []) ⟨hx, hb, hml, hown, hts⟩ (kX8_isBather l dC dI cy a_t p1 v_t_isKept v_t_bestPost v_t_mostSeen v_t_taped v_t_from v_t_to v_t_isWrong f_t_s r1 hc2) (cwV 1 hts gX8_meet_X8_isBather rfl rfl rfl kdX8_isBather ⟨Nat.le_of_ble_eq_true rfl, Nat.le_of_ble_eq_true rfl⟩) (bb_preV (va_recv hK hP (ci := 7) (q0 := 0) rfl rfl) (hP.sub (ws' := [((a_t 0), oX8 a_t v_t_isKept v_t_bestPost v_t_mostSeen v_t_taped v_t_from v_t_to v_t_isWrong), ((a_t 1), .inl (cy 0, 155, .inl f_t_s))]) [0, 3] rfl) hK) rfl rfl hl.1 rfl (lv_room (Nat.le_of_ble_eq_true rfl)) dX8_meet_2 ⟨Nat.zero_le _, Nat.zero_le _⟩) (fun t3 et3 => ?_)
  obtain ⟨rfl, hz4⟩ := et3
  refine lv_if_eq (tgt := 35) hx hb dX8_meet_5 (by decide) (fun c5 => ?_) (fun c5 => ?_)
  · replace h := bb_ifp c5 h
    refine lv_aload_n hx hb dX8_meet_35 rfl (lv_at hl 0 rfl) ?_
    refine lv_iconst (v := (0 : Int32)) hx hb dX8_meet_36 (by decide) ?_
    obtain ⟨r6, w7, hc8, h⟩ := bb_b2_o h
    refine bb_cwi (wr := [((a_t 3), .inl (cy 0, 155, .inl f_t_aside)), ((a_t 1), .inl (cy 0, 155, .inl f_t_s))]) (w1 := [((a_t 0), oX8 a_t v_t_isKept v_t_bestPost v_t_mostSeen v_t_taped v_t_from v_t_to v_t_isWrong), ((a_t 5), .inl (cy 0, 7, .inl w7))]) (va_runV (As := [.int (0 : Int32)]) (rest := []) ⟨hx, hb, hml, hown, hts⟩ (kX8_finds l dC dI cy s.heap.size a_t (0 : Int32) v_t_isKept v_t_bestPost v_t_mostSeen v_t_taped v_t_from v_t_to v_t_isWrong f_t_found r6 w7 hc8) (cwV 1 hts gX8_meet_X8_finds rfl rfl rfl kdX8_finds ⟨Nat.le_of_ble_eq_true rfl, Nat.le_of_ble_eq_true rfl⟩) (bb_preVw (va_recv hK hP (ci := 7) (q0 := 0) rfl rfl) (hP.sub (ws' := [((a_t 0), oX8 a_t v_t_isKept v_t_bestPost v_t_mostSeen v_t_taped v_t_from v_t_to v_t_isWrong), ((a_t 5), .inl (cy 0, 7, .inl f_t_found))]) [0, 2] rfl) hK (hD.sub (ws' := [((a_t 0), oX8 a_t v_t_isKept v_t_bestPost v_t_mostSeen v_t_taped v_t_from v_t_to v_t_isWrong), ((a_t 5), .inl (cy 0, 7, .inl f_t_found))]) [0, 2] (by decide) rfl)) rfl rfl hl.1 rfl (lv_room (Nat.le_of_ble_eq_true rfl)) dX8_meet_37 ⟨Nat.zero_le _, Nat.zero_le _⟩) hP hD hS hA [0, 2] [1, 3] rfl rfl (by decide) (by decide) (fun H locs hP hD hS => ?_)
    have hP : va_P (dC, dI) vwCl [((a_t 3), .inl (cy 0, 155, .inl f_t_aside)), ((a_t 1), .inl (cy 0, 155, .inl f_t_s)), ((a_t 0), oX8 a_t v_t_isKept v_t_bestPost v_t_mostSeen v_t_taped v_t_from v_t_to v_t_isWrong), ((a_t 5), .inl (cy 0, 7, .inl w7))] H := hP
    have hD : va_D A [((a_t 3), .inl (cy 0, 155, .inl f_t_aside)), ((a_t 1), .inl (cy 0, 155, .inl f_t_s)), ((a_t 0), oX8 a_t v_t_isKept v_t_bestPost v_t_mostSeen v_t_taped v_t_from v_t_to v_t_isWrong), ((a_t 5), .inl (cy 0, 7, .inl w7))] := hD
    obtain ⟨rfl, rfl, rfl, rfl⟩ := bb_some4 h
    have hP9 := hP.sub (ws' := [((a_t 0), oX8 a_t v_t_isKept v_t_bestPost v_t_mostSeen v_t_taped v_t_from v_t_to v_t_isWrong), ((a_t 3), .inl (cy 0, 155, .inl f_t_aside)), ((a_t 5), .inl (cy 0, 7, .inl w7)), ((a_t 1), .inl (cy 0, 155, .inl f_t_s))]) [2, 0, 3, 1] rfl
    have hD9 := hD.sub (ws' := [((a_t 0), oX8 a_t v_t_isKept v_t_bestPost v_t_mostSeen v_t_taped v_t_from v_t_to v_t_isWrong), ((a_t 3), .inl (cy 0, 155, .inl f_t_aside)), ((a_t 5), .inl (cy 0, 7, .inl w7)), ((a_t 1), .inl (cy 0, 155, .inl f_t_s))]) [2, 0, 3, 1] (by decide) rfl
    exact W.iret hx hb hr (fun t ht hW => ⟨⟨_, (), rfl, rfl, by rw [ht]; exact hP9, va_K.moved hW.alike hK, hD9⟩, hS.F ht⟩) hS.2.2 dX8_meet_40
  · replace h := bb_ifn c5 h
    refine lv_aload_n hx hb dX8_meet_8 rfl (lv_at hl 0 rfl) ?_
    refine lv_iload_n hx hb dX8_meet_9 rfl (lv_at hl 2 rfl) ?_
    obtain ⟨r9, hc10, h⟩ := bb_b1_o h
    refine vp_callSi (W.runV (As := [.int p2]) (rest := []) ⟨hx, hb, hml, hown, hts⟩ (kX8_isBather l dC dI cy a_t p2 v_t_isKept v_t_bestPost v_t_mostSeen v_t_taped v_t_from v_t_to v_t_isWrong f_t_s r9 hc10) (cwV 1 hts gX8_meet_X8_isBather rfl rfl rfl kdX8_isBather ⟨Nat.le_of_ble_eq_true rfl, Nat.le_of_ble_eq_true rfl⟩) (bb_preV (va_recv hK hP (ci := 7) (q0 := 0) rfl rfl) (hP.sub (ws' := [((a_t 0), oX8 a_t v_t_isKept v_t_bestPost v_t_mostSeen v_t_taped v_t_from v_t_to v_t_isWrong), ((a_t 1), .inl (cy 0, 155, .inl f_t_s))]) [0, 3] rfl) hK) rfl rfl hl.1 rfl (lv_room (Nat.le_of_ble_eq_true rfl)) dX8_meet_10 ⟨Nat.zero_le _, Nat.zero_le _⟩) (fun t11 et11 => ?_)
    obtain ⟨rfl, hz12⟩ := et11
    refine lv_if_eq (tgt := 35) hx hb dX8_meet_13 (by decide) (fun c13 => ?_) (fun c13 => ?_)
    · replace h := bb_ifp c13 h
      refine lv_aload_n hx hb dX8_meet_35 rfl (lv_at hl 0 rfl) ?_
      refine lv_iconst (v := (0 : Int32)) hx hb dX8_meet_36 (by decide) ?_
      obtain ⟨r14, w15, hc16, h⟩ := bb_b2_o h
      refine bb_cwi (wr := [((a_t 3), .inl (cy 0, 155, .inl f_t_aside)), ((a_t 1), .inl (cy 0, 155, .inl f_t_s))]) (w1 := [((a_t 0), oX8 a_t v_t_isKept v_t_bestPost v_t_mostSeen v_t_taped v_t_from v_t_to v_t_isWrong), ((a_t 5), .inl (cy 0, 7, .inl w15))]) (va_runV (As := [.int (0 : Int32)]) (rest := []) ⟨hx, hb, hml, hown, hts⟩ (kX8_finds l dC dI cy s.heap.size a_t (0 : Int32) v_t_isKept v_t_bestPost v_t_mostSeen v_t_taped v_t_from v_t_to v_t_isWrong f_t_found r14 w15 hc16) (cwV 1 hts gX8_meet_X8_finds rfl rfl rfl kdX8_finds ⟨Nat.le_of_ble_eq_true rfl, Nat.le_of_ble_eq_true rfl⟩) (bb_preVw (va_recv hK hP (ci := 7) (q0 := 0) rfl rfl) (hP.sub (ws' := [((a_t 0), oX8 a_t v_t_isKept v_t_bestPost v_t_mostSeen v_t_taped v_t_from v_t_to v_t_isWrong), ((a_t 5), .inl (cy 0, 7, .inl f_t_found))]) [0, 2] rfl) hK (hD.sub (ws' := [((a_t 0), oX8 a_t v_t_isKept v_t_bestPost v_t_mostSeen v_t_taped v_t_from v_t_to v_t_isWrong), ((a_t 5), .inl (cy 0, 7, .inl f_t_found))]) [0, 2] (by decide) rfl)) rfl rfl hl.1 rfl (lv_room (Nat.le_of_ble_eq_true rfl)) dX8_meet_37 ⟨Nat.zero_le _, Nat.zero_le _⟩) hP hD hS hA [0, 2] [1, 3] rfl rfl (by decide) (by decide) (fun H locs hP hD hS => ?_)
      have hP : va_P (dC, dI) vwCl [((a_t 3), .inl (cy 0, 155, .inl f_t_aside)), ((a_t 1), .inl (cy 0, 155, .inl f_t_s)), ((a_t 0), oX8 a_t v_t_isKept v_t_bestPost v_t_mostSeen v_t_taped v_t_from v_t_to v_t_isWrong), ((a_t 5), .inl (cy 0, 7, .inl w15))] H := hP
      have hD : va_D A [((a_t 3), .inl (cy 0, 155, .inl f_t_aside)), ((a_t 1), .inl (cy 0, 155, .inl f_t_s)), ((a_t 0), oX8 a_t v_t_isKept v_t_bestPost v_t_mostSeen v_t_taped v_t_from v_t_to v_t_isWrong), ((a_t 5), .inl (cy 0, 7, .inl w15))] := hD
      obtain ⟨rfl, rfl, rfl, rfl⟩ := bb_some4 h
      have hP9 := hP.sub (ws' := [((a_t 0), oX8 a_t v_t_isKept v_t_bestPost v_t_mostSeen v_t_taped v_t_from v_t_to v_t_isWrong), ((a_t 3), .inl (cy 0, 155, .inl f_t_aside)), ((a_t 5), .inl (cy 0, 7, .inl w15)), ((a_t 1), .inl (cy 0, 155, .inl f_t_s))]) [2, 0, 3, 1] rfl
      have hD9 := hD.sub (ws' := [((a_t 0), oX8 a_t v_t_isKept v_t_bestPost v_t_mostSeen v_t_taped v_t_from v_t_to v_t_isWrong), ((a_t 3), .inl (cy 0, 155, .inl f_t_aside)), ((a_t 5), .inl (cy 0, 7, .inl w15)), ((a_t 1), .inl (cy 0, 155, .inl f_t_s))]) [2, 0, 3, 1] (by decide) rfl
      exact W.iret hx hb hr (fun t ht hW => ⟨⟨_, (), rfl, rfl, by rw [ht]; exact hP9, va_K.moved hW.alike hK, hD9⟩, hS.F ht⟩) hS.2.2 dX8_meet_40
    · replace h := bb_ifn c13 h
      refine lv_iload_n hx hb dX8_meet_16 rfl (lv_at hl 1 rfl) ?_
      refine lv_iload_n hx hb dX8_meet_17 rfl (lv_at hl 2 rfl) ?_
      refine lv_icmp_eq (tgt := 35) hx hb dX8_meet_18 (by decide) (fun c17 => ?_) (fun c17 => ?_)
      · replace h := bb_ifp c17 h
        refine lv_aload_n hx hb dX8_meet_35 rfl (lv_at hl 0 rfl) ?_
        refine lv_iconst (v := (0 : Int32)) hx hb dX8_meet_36 (by decide) ?_
        obtain ⟨r18, w19, hc20, h⟩ := bb_b2_o h
        refine bb_cwi (wr := [((a_t 3), .inl (cy 0, 155, .inl f_t_aside)), ((a_t 1), .inl (cy 0, 155, .inl f_t_s))]) (w1 := [((a_t 0), oX8 a_t v_t_isKept v_t_bestPost v_t_mostSeen v_t_taped v_t_from v_t_to v_t_isWrong), ((a_t 5), .inl (cy 0, 7, .inl w19))]) (va_runV (As := [.int (0 : Int32)]) (rest := []) ⟨hx, hb, hml, hown, hts⟩ (kX8_finds l dC dI cy s.heap.size a_t (0 : Int32) v_t_isKept v_t_bestPost v_t_mostSeen v_t_taped v_t_from v_t_to v_t_isWrong f_t_found r18 w19 hc20) (cwV 1 hts gX8_meet_X8_finds rfl rfl rfl kdX8_finds ⟨Nat.le_of_ble_eq_true rfl, Nat.le_of_ble_eq_true rfl⟩) (bb_preVw (va_recv hK hP (ci := 7) (q0 := 0) rfl rfl) (hP.sub (ws' := [((a_t 0), oX8 a_t v_t_isKept v_t_bestPost v_t_mostSeen v_t_taped v_t_from v_t_to v_t_isWrong), ((a_t 5), .inl (cy 0, 7, .inl f_t_found))]) [0, 2] rfl) hK (hD.sub (ws' := [((a_t 0), oX8 a_t v_t_isKept v_t_bestPost v_t_mostSeen v_t_taped v_t_from v_t_to v_t_isWrong), ((a_t 5), .inl (cy 0, 7, .inl f_t_found))]) [0, 2] (by decide) rfl)) rfl rfl hl.1 rfl (lv_room (Nat.le_of_ble_eq_true rfl)) dX8_meet_37 ⟨Nat.zero_le _, Nat.zero_le _⟩) hP hD hS hA [0, 2] [1, 3] rfl rfl (by decide) (by decide) (fun H locs hP hD hS => ?_)
        have hP : va_P (dC, dI) vwCl [((a_t 3), .inl (cy 0, 155, .inl f_t_aside)), ((a_t 1), .inl (cy 0, 155, .inl f_t_s)), ((a_t 0), oX8 a_t v_t_isKept v_t_bestPost v_t_mostSeen v_t_taped v_t_from v_t_to v_t_isWrong), ((a_t 5), .inl (cy 0, 7, .inl w19))] H := hP
        have hD : va_D A [((a_t 3), .inl (cy 0, 155, .inl f_t_aside)), ((a_t 1), .inl (cy 0, 155, .inl f_t_s)), ((a_t 0), oX8 a_t v_t_isKept v_t_bestPost v_t_mostSeen v_t_taped v_t_from v_t_to v_t_isWrong), ((a_t 5), .inl (cy 0, 7, .inl w19))] := hD
        obtain ⟨rfl, rfl, rfl, rfl⟩ := bb_some4 h
        have hP9 := hP.sub (ws' := [((a_t 0), oX8 a_t v_t_isKept v_t_bestPost v_t_mostSeen v_t_taped v_t_from v_t_to v_t_isWrong), ((a_t 3), .inl (cy 0, 155, .inl f_t_aside)), ((a_t 5), .inl (cy 0, 7, .inl w19)), ((a_t 1), .inl (cy 0, 155, .inl f_t_s))]) [2, 0, 3, 1] rfl
        have hD9 := hD.sub (ws' := [((a_t 0), oX8 a_t v_t_isKept v_t_bestPost v_t_mostSeen v_t_taped v_t_from v_t_to v_t_isWrong), ((a_t 3), .inl (cy 0, 155, .inl f_t_aside)), ((a_t 5), .inl (cy 0, 7, .inl w19)), ((a_t 1), .inl (cy 0, 155, .inl f_t_s))]) [2, 0, 3, 1] (by decide) rfl
        exact W.iret hx hb hr (fun t ht hW => ⟨⟨_, (), rfl, rfl, by rw [ht]; exact hP9, va_K.moved hW.alike hK, hD9⟩, hS.F ht⟩) hS.2.2 dX8_meet_40
      · replace h := bb_ifn c17 h
        refine lv_aload_n hx hb dX8_meet_21 rfl (lv_at hl 0 rfl) ?_
        refine lv_aload_n hx hb dX8_meet_22 rfl (lv_at hl 0 rfl) ?_
        refine lv_iload_n hx hb dX8_meet_23 rfl (lv_at hl 1 rfl) ?_
        refine lv_iconst (v := (2 : Int32)) hx hb dX8_meet_24 (by decide) ?_
        refine lv_iload_n hx hb dX8_meet_25 rfl (lv_at hl 2 rfl) ?_
        obtain ⟨r21, w22, w23, hc24, h⟩ := bb_b3_o h
        refine bb_cwi (wr := [((a_t 5), .inl (cy 0, 7, .inl f_t_found))]) (w1 := [((a_t 0), oX8 a_t v_t_isKept v_t_bestPost v_t_mostSeen v_t_taped v_t_from v_t_to v_t_isWrong), ((a_t 3), .inl (cy 0, 155, .inl w22)), ((a_t 1), .inl (cy 0, 155, .inl w23))]) (va_runV (As := [.int p1, .int (2 : Int32), .int p2]) (rest := [.ref (a_t 0)]) ⟨hx, hb, hml, hown, hts⟩ (kX8_until l dC dI cy s.heap.size a_t p1 (2 : Int32) p2 v_t_isKept v_t_bestPost v_t_mostSeen v_t_taped v_t_from v_t_to v_t_isWrong f_t_aside f_t_s nn r21 w22 w23 hc24) (cwV 3 hts gX8_meet_X8_until rfl rfl rfl kdX8_until ⟨Nat.le_of_ble_eq_true rfl, Nat.le_of_ble_eq_true rfl⟩) (bb_preVw (va_recv hK hP (ci := 7) (q0 := 0) rfl rfl) (hP.sub (ws' := [((a_t 0), oX8 a_t v_t_isKept v_t_bestPost v_t_mostSeen v_t_taped v_t_from v_t_to v_t_isWrong), ((a_t 3), .inl (cy 0, 155, .inl f_t_aside)), ((a_t 1), .inl (cy 0, 155, .inl f_t_s))]) [0, 1, 3] rfl) hK (hD.sub (ws' := [((a_t 0), oX8 a_t v_t_isKept v_t_bestPost v_t_mostSeen v_t_taped v_t_from v_t_to v_t_isWrong), ((a_t 3), .inl (cy 0, 155, .inl f_t_aside)), ((a_t 1), .inl (cy 0, 155, .inl f_t_s))]) [0, 1, 3] (by decide) rfl)) rfl rfl hl.1 rfl (lv_room (Nat.le_of_ble_eq_true rfl)) dX8_meet_26 ⟨Nat.zero_le _, Nat.zero_le _⟩) hP hD hS hA [0, 1, 3] [2] rfl rfl (by decide) (by decide) (fun H locs hP hD hS => ?_)
        have hP : va_P (dC, dI) vwCl [((a_t 5), .inl (cy 0, 7, .inl f_t_found)), ((a_t 0), oX8 a_t v_t_isKept v_t_bestPost v_t_mostSeen v_t_taped v_t_from v_t_to v_t_isWrong), ((a_t 3), .inl (cy 0, 155, .inl w22)), ((a_t 1), .inl (cy 0, 155, .inl w23))] H := hP
        have hD : va_D A [((a_t 5), .inl (cy 0, 7, .inl f_t_found)), ((a_t 0), oX8 a_t v_t_isKept v_t_bestPost v_t_mostSeen v_t_taped v_t_from v_t_to v_t_isWrong), ((a_t 3), .inl (cy 0, 155, .inl w22)), ((a_t 1), .inl (cy 0, 155, .inl w23))] := hD
        obtain ⟨r25, w26, hc27, h⟩ := bb_b2_o h
        refine bb_cwi (wr := [((a_t 3), .inl (cy 0, 155, .inl w22)), ((a_t 1), .inl (cy 0, 155, .inl w23))]) (w1 := [((a_t 0), oX8 a_t v_t_isKept v_t_bestPost v_t_mostSeen v_t_taped v_t_from v_t_to v_t_isWrong), ((a_t 5), .inl (cy 0, 7, .inl w26))]) (va_runV (As := [.int r21]) (rest := []) ⟨hx, hb, hml, hown, hts⟩ (kX8_orNone l dC dI cy H.size a_t r21 v_t_isKept v_t_bestPost v_t_mostSeen v_t_taped v_t_from v_t_to v_t_isWrong f_t_found r25 w26 hc27) (cwV 1 hts gX8_meet_X8_orNone rfl rfl rfl kdX8_orNone ⟨Nat.le_of_ble_eq_true rfl, Nat.le_of_ble_eq_true rfl⟩) (bb_preVw (va_recv hK hP (ci := 7) (q0 := 1) rfl rfl) (hP.sub (ws' := [((a_t 0), oX8 a_t v_t_isKept v_t_bestPost v_t_mostSeen v_t_taped v_t_from v_t_to v_t_isWrong), ((a_t 5), .inl (cy 0, 7, .inl f_t_found))]) [1, 0] rfl) hK (hD.sub (ws' := [((a_t 0), oX8 a_t v_t_isKept v_t_bestPost v_t_mostSeen v_t_taped v_t_from v_t_to v_t_isWrong), ((a_t 5), .inl (cy 0, 7, .inl f_t_found))]) [1, 0] (by decide) rfl)) rfl rfl hl.1 rfl (lv_room (Nat.le_of_ble_eq_true rfl)) dX8_meet_29 ⟨Nat.zero_le _, Nat.zero_le _⟩) hP hD hS hA [1, 0] [2, 3] rfl rfl (by decide) (by decide) (fun H locs hP hD hS => ?_)
        have hP : va_P (dC, dI) vwCl [((a_t 3), .inl (cy 0, 155, .inl w22)), ((a_t 1), .inl (cy 0, 155, .inl w23)), ((a_t 0), oX8 a_t v_t_isKept v_t_bestPost v_t_mostSeen v_t_taped v_t_from v_t_to v_t_isWrong), ((a_t 5), .inl (cy 0, 7, .inl w26))] H := hP
        have hD : va_D A [((a_t 3), .inl (cy 0, 155, .inl w22)), ((a_t 1), .inl (cy 0, 155, .inl w23)), ((a_t 0), oX8 a_t v_t_isKept v_t_bestPost v_t_mostSeen v_t_taped v_t_from v_t_to v_t_isWrong), ((a_t 5), .inl (cy 0, 7, .inl w26))] := hD
        refine lv_goto (tgt := 40) hx hb dX8_meet_32 (by decide) ?_
        obtain ⟨rfl, rfl, rfl, rfl⟩ := bb_some4 h
        have hP9 := hP.sub (ws' := [((a_t 0), oX8 a_t v_t_isKept v_t_bestPost v_t_mostSeen v_t_taped v_t_from v_t_to v_t_isWrong), ((a_t 3), .inl (cy 0, 155, .inl w22)), ((a_t 5), .inl (cy 0, 7, .inl w26)), ((a_t 1), .inl (cy 0, 155, .inl w23))]) [2, 0, 3, 1] rfl
        have hD9 := hD.sub (ws' := [((a_t 0), oX8 a_t v_t_isKept v_t_bestPost v_t_mostSeen v_t_taped v_t_from v_t_to v_t_isWrong), ((a_t 3), .inl (cy 0, 155, .inl w22)), ((a_t 5), .inl (cy 0, 7, .inl w26)), ((a_t 1), .inl (cy 0, 155, .inl w23))]) [2, 0, 3, 1] (by decide) rfl
        exact W.iret hx hb hr (fun t ht hW => ⟨⟨_, (), rfl, rfl, by rw [ht]; exact hP9, va_K.moved hW.alike hK, hD9⟩, hS.F ht⟩) hS.2.2 dX8_meet_40
/-! X8_kindFor -/
def uX8_kindFor_s30 (nn : Nat) (x1_24 : Int32) (k_83 : Int32 → (Nat → Int32) → (Nat → Int32) → Option (Int32 × (Nat → Int32) × (Nat → Int32) × (Nat → Int32))) (rec27 : Int32 → Int32 → Int32 → (Nat → Int32) → (Nat → Int32) → Option (Int32 × (Nat → Int32) × (Nat → Int32) × (Nat → Int32))) (x3_19 : Int32) (x4_20 : Int32) (x5_21 : Int32) (f_t_aside_22 : Nat → Int32) (f_t_s_23 : Nat → Int32) : Option (Int32 × (Nat → Int32) × (Nat → Int32) × (Nat → Int32)) :=
  (if (6 : Int32) < x5_21 then k_83 x3_19 f_t_aside_22 f_t_s_23 else bb_b1 (uX8_sets x1_24 (0 : Int32) x5_21 f_t_s_23) (fun (w31 : Nat → Int32) => bb_b3 (uX8_until nn x1_24 (0 : Int32) (0 : Int32) f_t_aside_22 w31) (fun (r33 : Int32) (w34 : Nat → Int32) (w35 : Nat → Int32) => bb_cut (fun (z37 : Int32) => rec27 z37 (if r33 < x4_20 then r33 else x4_20) (x5_21 + (1 : Int32)) w34 w35) (fun k38 => (if x4_20 ≤ r33 then k38 x3_19 else k38 x5_21)))))
def uX8_kindFor (nn : Nat) (p1 : Int32) (f_t_aside : Nat → Int32) (f_t_found : Nat → Int32) (f_t_s : Nat → Int32) : Option (Int32 × (Nat → Int32) × (Nat → Int32) × (Nat → Int32)) :=
  bb_b1 (uX8_isBather p1 f_t_s) (fun (r1 : Int32) => (if r1 = 0 then bb_b2 (uX8_finds (0 : Int32) f_t_found) (fun (r40 : Int32) (w41 : Nat → Int32) => some (r40, f_t_aside, w41, f_t_s)) else bb_b1 (uX8_its p1 (0 : Int32) f_t_s) (fun (r6 : Int32) => bb_cut (fun (x3_9 : Int32) (f_t_aside_10 : Nat → Int32) (f_t_s_11 : Nat → Int32) => bb_b1 (uX8_sets p1 (0 : Int32) r6 f_t_s_11) (fun (w13 : Nat → Int32) => (if 0 ≤ x3_9 then some (x3_9, f_t_aside_10, f_t_found, w13) else bb_b2 (uX8_finds (3 : Int32) f_t_found) (fun (r16 : Int32) (w17 : Nat → Int32) => some (r16, f_t_aside_10, w17, w13))))) (fun k12 => bb_loop5 (uX8_kindFor_s30 nn p1 k12) nn (-1 : Int32) (101 : Int32) (0 : Int32) f_t_aside f_t_s))))
theorem kdX8_kindFor : yX8_kindFor.cls = RX8 ∧ yX8_kindFor.cls ≠ "java/lang/invoke/MethodHandle" ∧ yX8_kindFor.cls ≠ "java/lang/invoke/VarHandle" ∧ (parseMethodDescriptor yX8_kindFor.desc).map (fun d => d.parameters.length) = some 1 := by decide +kernel
set_option maxHeartbeats 4000000 in
set_option maxRecDepth 100000 in
theorem kX8_kindFor (l : Launch) (dC : Nat → ClassId) (dI : Nat → Nat → Nat) (cy : Nat → ClassId) (sz : Nat) (a_t : Nat → Nat) (p1 : Int32) (v_t_isKept : Int32) (v_t_bestPost : Int32) (v_t_mostSeen : Int32) (v_t_taped : Int32) (v_t_from : Int32) (v_t_to : Int32) (v_t_isWrong : Int32) (f_t_aside : Nat → Int32) (f_t_found : Nat → Int32) (f_t_s : Nat → Int32) (nn : Nat) (r : Int32) (f_t_aside_o : Nat → Int32) (f_t_found_o : Nat → Int32) (f_t_s_o : Nat → Int32) (h : uX8_kindFor nn p1 f_t_aside f_t_found f_t_s = some (r, f_t_aside_o, f_t_found_o, f_t_s_o)) : Met l yX8_kindFor wsX8_kindFor ({ frames := 11, cells := 0, slots := 0, locals := 245 }) (va_Pc [.ref (a_t 0), .int p1] (fun U => U.heap.size = sz ∧ va_P (dC, dI) vwCl [((a_t 0), oX8 a_t v_t_isKept v_t_bestPost v_t_mostSeen v_t_taped v_t_from v_t_to v_t_isWrong), ((a_t 3), .inl (cy 0, 155, .inl f_t_aside)), ((a_t 5), .inl (cy 0, 7, .inl f_t_found)), ((a_t 1), .inl (cy 0, 155, .inl f_t_s))] U.heap ∧ va_K (dC, dI) vwCl (tyX cy) U ∧ va_D (fun _ => True) [((a_t 0), oX8 a_t v_t_isKept v_t_bestPost v_t_mostSeen v_t_taped v_t_from v_t_to v_t_isWrong), ((a_t 3), .inl (cy 0, 155, .inl f_t_aside)), ((a_t 5), .inl (cy 0, 7, .inl f_t_found)), ((a_t 1), .inl (cy 0, 155, .inl f_t_s))])) (va_Qi (fun (r2 : Int32) (_ : Unit) => r = r2) (fun _ t => va_P (dC, dI) vwCl [((a_t 0), oX8 a_t v_t_isKept v_t_bestPost v_t_mostSeen v_t_taped v_t_from v_t_to v_t_isWrong), ((a_t 3), .inl (cy 0, 155, .inl f_t_aside_o)), ((a_t 5), .inl (cy 0, 7, .inl f_t_found_o)), ((a_t 1), .inl (cy 0, 155, .inl f_t_s_o))] t.heap ∧ va_K (dC, dI) vwCl (tyX cy) t ∧ va_D (va_A [((a_t 0), oX8 a_t v_t_isKept v_t_bestPost v_t_mostSeen v_t_taped v_t_from v_t_to v_t_isWrong), ((a_t 3), .inl (cy 0, 155, .inl f_t_aside)), ((a_t 5), .inl (cy 0, 7, .inl f_t_found)), ((a_t 1), .inl (cy 0, 155, .inl f_t_s))] sz) [((a_t 0), oX8 a_t v_t_isKept v_t_bestPost v_t_mostSeen v_t_taped v_t_from v_t_to v_t_isWrong), ((a_t 3), .inl (cy 0, 155, .inl f_t_aside_o)), ((a_t 5), .inl (cy 0, 7, .inl f_t_found_o)), ((a_t 1), .inl (cy 0, 155, .inl f_t_s_o))]) (va_A [((a_t 0), oX8 a_t v_t_isKept v_t_bestPost v_t_mostSeen v_t_taped v_t_from v_t_to v_t_isWrong), ((a_t 3), .inl (cy 0, 155, .inl f_t_aside)), ((a_t 5), .inl (cy 0, 7, .inl f_t_found)), ((a_t 1), .inl (cy 0, 155, .inl f_t_s))] sz)) 0 0 (va_A [((a_t 0), oX8 a_t v_t_isKept v_t_bestPost v_t_mostSeen v_t_taped v_t_from v_t_to v_t_isWrong), ((a_t 3), .inl (cy 0, 155, .inl f_t_aside)), ((a_t 5), .inl (cy 0, 7, .inl f_t_found)), ((a_t 1), .inl (cy 0, 155, .inl f_t_s))] sz) := by
  refine Met.ofW (cc := cX8_kindFor) (maxL := 7) (ret := (some .int)) (by decide) rfl ?_
  intro p e s m args below meth c s₁ B hml hv
  obtain ⟨rfl, hsz, hP, hK, hD0⟩ := hv
  have hx := B.exec
  have hb := B.bytes
  have hr := B.returns
  have hts := atoms_spec (ws := wsX8_kindFor) B.pre
  have hown : s.vm.findClass RX8 = some m.cls := findClass_of_methodNamed B.named
  have hlocks := B.notSynchronized
  have lk1 := hts (Cond.methodLink RX8 171 Lib.Math.min.name) (List.mem_of_getElem? (i := 1) rfl)
  have lk2 := hts (Cond.static Lib.Math.min.name) (List.mem_of_getElem? (i := 2) rfl)
  have lk3 := hts (Cond.initialized "java/lang/Math") (List.mem_of_getElem? (i := 3) rfl)
  have lk4 := hts (Cond.code Lib.Math.min.name Lib.Math.min.code 2 (some .int)) (List.mem_of_getElem? (i := 4) rfl)
  subst hsz
  have hD := hD0.self (sz := s.heap.size)
  generalize hAe : va_A [((a_t 0), oX8 a_t v_t_isKept v_t_bestPost v_t_mostSeen v_t_taped v_t_from v_t_to v_t_isWrong), ((a_t 3), .inl (cy 0, 155, .inl f_t_aside)), ((a_t 5), .inl (cy 0, 7, .inl f_t_found)), ((a_t 1), .inl (cy 0, 155, .inl f_t_s))] s.heap.size = A at hD ⊢
  have hA : ∀ q : Nat, s.heap.size ≤ q → A q := fun q h => by rw [← hAe]; exact Or.inr h
  have hS : va_S A s.heap s.heap [] := va_S.rf
  have hP : va_P (dC, dI) vwCl [((a_t 0), oX8 a_t v_t_isKept v_t_bestPost v_t_mostSeen v_t_taped v_t_from v_t_to v_t_isWrong), ((a_t 3), .inl (cy 0, 155, .inl f_t_aside)), ((a_t 5), .inl (cy 0, 7, .inl f_t_found)), ((a_t 1), .inl (cy 0, 155, .inl f_t_s))] s.heap := hP
  have hl := lv_entry ([.ref (a_t 0), .int p1]) (n := 7) (Nat.le_of_ble_eq_true rfl)
  rw [lg_entry_eq]
  generalize (lg_sl ([.ref (a_t 0), .int p1]) ++ List.replicate (7 - (lg_sl ([.ref (a_t 0), .int p1])).length) Slot.unset).toArray = ls at hl ⊢
  have hl : lv_has ls 7 [(0, .ref (a_t 0)), (1, .int p1)] := hl
  unfold uX8_kindFor at h
  refine bb_cap (fun WW toW ofW => ?_)
  refine lv_aload_n hx hb dX8_kindFor_0 rfl (lv_at hl 0 rfl) ?_
  refine lv_iload_n hx hb dX8_kindFor_1 rfl (lv_at hl 1 rfl) ?_
  obtain ⟨r1, hc2, h⟩ := bb_b1_o h
  refine vp_callSi (W.runV (As := [.int p1]) (rest := []) ⟨hx, hb, hml, hown, hts⟩ (kX8_isBather l dC dI cy a_t p1 v_t_isKept v_t_bestPost v_t_mostSeen v_t_taped v_t_from v_t_to v_t_isWrong f_t_s r1 hc2) (cwV 1 hts gX8_kindFor_X8_isBather rfl rfl rfl kdX8_isBather ⟨Nat.le_of_ble_eq_true rfl, Nat.le_of_ble_eq_true rfl⟩) (bb_preV (va_recv hK hP (ci := 7) (q0 := 0) rfl rfl) (hP.sub (ws' := [((a_t 0), oX8 a_t v_t_isKept v_t_bestPost v_t_mostSeen v_t_taped v_t_from v_t_to v_t_isWrong), ((a_t 1), .inl (cy 0, 155, .inl f_t_s))]) [0, 3] rfl) hK) rfl rfl hl.1 rfl (lv_room (Nat.le_of_ble_eq_true rfl)) dX8_kindFor_2 ⟨Nat.zero_le _, Nat.zero_le _⟩) (fun t3 et3 => ?_)
  obtain ⟨rfl, hz4⟩ := et3
  refine lv_if_ne (tgt := 14) hx hb dX8_kindFor_5 (by decide) (fun c5 => ?_) (fun c5 => ?_)
  · replace h := bb_ifn c5 h
    refine lv_aload_n hx hb dX8_kindFor_14 rfl (lv_at hl 0 rfl) ?_
    refine lv_iload_n hx hb dX8_kindFor_15 rfl (lv_at hl 1 rfl) ?_
    refine lv_iconst (v := (0 : Int32)) hx hb dX8_kindFor_16 (by decide) ?_
    obtain ⟨r6, hc7, h⟩ := bb_b1_o h
    refine vp_callSi (W.runV (As := [.int p1, .int (0 : Int32)]) (rest := []) ⟨hx, hb, hml, hown, hts⟩ (kX8_its l dC dI cy a_t p1 (0 : Int32) v_t_isKept v_t_bestPost v_t_mostSeen v_t_taped v_t_from v_t_to v_t_isWrong f_t_s r6 hc7) (cwV 2 hts gX8_kindFor_X8_its rfl rfl rfl kdX8_its ⟨Nat.le_of_ble_eq_true rfl, Nat.le_of_ble_eq_true rfl⟩) (bb_preV (va_recv hK hP (ci := 7) (q0 := 0) rfl rfl) (hP.sub (ws' := [((a_t 0), oX8 a_t v_t_isKept v_t_bestPost v_t_mostSeen v_t_taped v_t_from v_t_to v_t_isWrong), ((a_t 1), .inl (cy 0, 155, .inl f_t_s))]) [0, 3] rfl) hK) rfl rfl hl.1 rfl (lv_room (Nat.le_of_ble_eq_true rfl)) dX8_kindFor_17 ⟨Nat.zero_le _, Nat.zero_le _⟩) (fun t8 et8 => ?_)
    obtain rfl := et8
    refine lv_istore_n (lv' := [(2, .int r6), (0, .ref (a_t 0)), (1, .int p1)]) hx hb dX8_kindFor_20 rfl hl (by decide) rfl (fun ls hl => ?_)
    refine lv_iconst (v := (-1 : Int32)) hx hb dX8_kindFor_21 (by decide) ?_
    refine lv_istore_n (lv' := [(3, .int (-1 : Int32)), (2, .int r6), (0, .ref (a_t 0)), (1, .int p1)]) hx hb dX8_kindFor_22 rfl hl (by decide) rfl (fun ls hl => ?_)
    refine lv_bipush (v := (101 : Int32)) hx hb dX8_kindFor_23 (by decide) ?_
    refine lv_istore (lv' := [(4, .int (101 : Int32)), (3, .int (-1 : Int32)), (2, .int r6), (0, .ref (a_t 0)), (1, .int p1)]) hx hb dX8_kindFor_25 hl (by decide) rfl (fun ls hl => ?_)
    refine lv_iconst (v := (0 : Int32)) hx hb dX8_kindFor_27 (by decide) ?_
    refine lv_istore (lv' := [(5, .int (0 : Int32)), (4, .int (101 : Int32)), (3, .int (-1 : Int32)), (2, .int r6), (0, .ref (a_t 0)), (1, .int p1)]) hx hb dX8_kindFor_28 hl (by decide) rfl (fun ls hl => ?_)
    obtain ⟨k12, ek12, h⟩ := bb_cut_o h
    have Jk12 : ∀ (x3_9 : Int32) (f_t_aside_10 : Nat → Int32) (f_t_s_11 : Nat → Int32) (H : Heap) (locs : List Loc) (ls : Array Slot), k12 x3_9 f_t_aside_10 f_t_s_11 = some (r, f_t_aside_o, f_t_found_o, f_t_s_o) → va_P (dC, dI) vwCl [((a_t 0), oX8 a_t v_t_isKept v_t_bestPost v_t_mostSeen v_t_taped v_t_from v_t_to v_t_isWrong), ((a_t 3), .inl (cy 0, 155, .inl f_t_aside_10)), ((a_t 5), .inl (cy 0, 7, .inl f_t_found)), ((a_t 1), .inl (cy 0, 155, .inl f_t_s_11))] H → va_D A [((a_t 0), oX8 a_t v_t_isKept v_t_bestPost v_t_mostSeen v_t_taped v_t_from v_t_to v_t_isWrong), ((a_t 3), .inl (cy 0, 155, .inl f_t_aside_10)), ((a_t 5), .inl (cy 0, 7, .inl f_t_found)), ((a_t 1), .inl (cy 0, 155, .inl f_t_s_11))] → va_S A s.heap H locs → lv_has ls 7 [(0, .ref (a_t 0)), (1, .int p1), (2, .int r6), (3, .int x3_9)] → WW H locs (F0 m 83 ls []) := by
      intro x3_9 f_t_aside_10 f_t_s_11 H locs ls h hP hD hS hl
      refine ofW _ _ _ ?_
      subst ek12
      refine lv_aload_n hx hb dX8_kindFor_83 rfl (lv_at hl 0 rfl) ?_
      refine lv_iload_n hx hb dX8_kindFor_84 rfl (lv_at hl 1 rfl) ?_
      refine lv_iconst (v := (0 : Int32)) hx hb dX8_kindFor_85 (by decide) ?_
      refine lv_iload_n hx hb dX8_kindFor_86 rfl (lv_at hl 2 rfl) ?_
      obtain ⟨w13, hc14, h⟩ := bb_b1_o h
      refine bb_cwv (wr := [((a_t 3), .inl (cy 0, 155, .inl f_t_aside_10)), ((a_t 5), .inl (cy 0, 7, .inl f_t_found))]) (w1 := [((a_t 0), oX8 a_t v_t_isKept v_t_bestPost v_t_mostSeen v_t_taped v_t_from v_t_to v_t_isWrong), ((a_t 1), .inl (cy 0, 155, .inl w13))]) (va_runV (As := [.int p1, .int (0 : Int32), .int r6]) (rest := []) ⟨hx, hb, hml, hown, hts⟩ (kX8_sets l dC dI cy H.size a_t p1 (0 : Int32) r6 v_t_isKept v_t_bestPost v_t_mostSeen v_t_taped v_t_from v_t_to v_t_isWrong f_t_s_11 w13 hc14) (cwV 3 hts gX8_kindFor_X8_sets rfl rfl rfl kdX8_sets ⟨Nat.le_of_ble_eq_true rfl, Nat.le_of_ble_eq_true rfl⟩) (bb_preVw (va_recv hK hP (ci := 7) (q0 := 0) rfl rfl) (hP.sub (ws' := [((a_t 0), oX8 a_t v_t_isKept v_t_bestPost v_t_mostSeen v_t_taped v_t_from v_t_to v_t_isWrong), ((a_t 1), .inl (cy 0, 155, .inl f_t_s_11))]) [0, 3] rfl) hK (hD.sub (ws' := [((a_t 0), oX8 a_t v_t_isKept v_t_bestPost v_t_mostSeen v_t_taped v_t_from v_t_to v_t_isWrong), ((a_t 1), .inl (cy 0, 155, .inl f_t_s_11))]) [0, 3] (by decide) rfl)) rfl rfl hl.1 rfl (lv_room (Nat.le_of_ble_eq_true rfl)) dX8_kindFor_87 ⟨Nat.zero_le _, Nat.zero_le _⟩) hP hD hS hA [0, 3] [1, 2] rfl rfl (by decide) (by decide) (fun H locs hP hD hS => ?_)
      have hP : va_P (dC, dI) vwCl [((a_t 3), .inl (cy 0, 155, .inl f_t_aside_10)), ((a_t 5), .inl (cy 0, 7, .inl f_t_found)), ((a_t 0), oX8 a_t v_t_isKept v_t_bestPost v_t_mostSeen v_t_taped v_t_from v_t_to v_t_isWrong), ((a_t 1), .inl (cy 0, 155, .inl w13))] H := hP
      have hD : va_D A [((a_t 3), .inl (cy 0, 155, .inl f_t_aside_10)), ((a_t 5), .inl (cy 0, 7, .inl f_t_found)), ((a_t 0), oX8 a_t v_t_isKept v_t_bestPost v_t_mostSeen v_t_taped v_t_from v_t_to v_t_isWrong), ((a_t 1), .inl (cy 0, 155, .inl w13))] := hD
      refine lv_iload_n hx hb dX8_kindFor_90 rfl (lv_at hl 3 rfl) ?_
      refine lv_if_ge (tgt := 102) hx hb dX8_kindFor_91 (by decide) (fun c15 => ?_) (fun c15 => ?_)
      · replace h := bb_ifp c15 h
        refine lv_iload_n hx hb dX8_kindFor_102 rfl (lv_at hl 3 rfl) ?_
        obtain ⟨rfl, rfl, rfl, rfl⟩ := bb_some4 h
        have hP9 := hP.sub (ws' := [((a_t 0), oX8 a_t v_t_isKept v_t_bestPost v_t_mostSeen v_t_taped v_t_from v_t_to v_t_isWrong), ((a_t 3), .inl (cy 0, 155, .inl f_t_aside_10)), ((a_t 5), .inl (cy 0, 7, .inl f_t_found)), ((a_t 1), .inl (cy 0, 155, .inl w13))]) [2, 0, 1, 3] rfl
        have hD9 := hD.sub (ws' := [((a_t 0), oX8 a_t v_t_isKept v_t_bestPost v_t_mostSeen v_t_taped v_t_from v_t_to v_t_isWrong), ((a_t 3), .inl (cy 0, 155, .inl f_t_aside_10)), ((a_t 5), .inl (cy 0, 7, .inl f_t_found)), ((a_t 1), .inl (cy 0, 155, .inl w13))]) [2, 0, 1, 3] (by decide) rfl
        exact W.iret hx hb hr (fun t ht hW => ⟨⟨_, (), rfl, rfl, by rw [ht]; exact hP9, va_K.moved hW.alike hK, hD9⟩, hS.F ht⟩) hS.2.2 dX8_kindFor_103
      · replace h := bb_ifn c15 h
        refine lv_aload_n hx hb dX8_kindFor_94 rfl (lv_at hl 0 rfl) ?_
        refine lv_iconst (v := (3 : Int32)) hx hb dX8_kindFor_95 (by decide) ?_
        obtain ⟨r16, w17, hc18, h⟩ := bb_b2_o h
        refine bb_cwi (wr := [((a_t 3), .inl (cy 0, 155, .inl f_t_aside_10)), ((a_t 1), .inl (cy 0, 155, .inl w13))]) (w1 := [((a_t 0), oX8 a_t v_t_isKept v_t_bestPost v_t_mostSeen v_t_taped v_t_from v_t_to v_t_isWrong), ((a_t 5), .inl (cy 0, 7, .inl w17))]) (va_runV (As := [.int (3 : Int32)]) (rest := []) ⟨hx, hb, hml, hown, hts⟩ (kX8_finds l dC dI cy H.size a_t (3 : Int32) v_t_isKept v_t_bestPost v_t_mostSeen v_t_taped v_t_from v_t_to v_t_isWrong f_t_found r16 w17 hc18) (cwV 1 hts gX8_kindFor_X8_finds rfl rfl rfl kdX8_finds ⟨Nat.le_of_ble_eq_true rfl, Nat.le_of_ble_eq_true rfl⟩) (bb_preVw (va_recv hK hP (ci := 7) (q0 := 2) rfl rfl) (hP.sub (ws' := [((a_t 0), oX8 a_t v_t_isKept v_t_bestPost v_t_mostSeen v_t_taped v_t_from v_t_to v_t_isWrong), ((a_t 5), .inl (cy 0, 7, .inl f_t_found))]) [2, 1] rfl) hK (hD.sub (ws' := [((a_t 0), oX8 a_t v_t_isKept v_t_bestPost v_t_mostSeen v_t_taped v_t_from v_t_to v_t_isWrong), ((a_t 5), .inl (cy 0, 7, .inl f_t_found))]) [2, 1] (by decide) rfl)) rfl rfl hl.1 rfl (lv_room (Nat.le_of_ble_eq_true rfl)) dX8_kindFor_96 ⟨Nat.zero_le _, Nat.zero_le _⟩) hP hD hS hA [2, 1] [0, 3] rfl rfl (by decide) (by decide) (fun H locs hP hD hS => ?_)
        have hP : va_P (dC, dI) vwCl [((a_t 3), .inl (cy 0, 155, .inl f_t_aside_10)), ((a_t 1), .inl (cy 0, 155, .inl w13)), ((a_t 0), oX8 a_t v_t_isKept v_t_bestPost v_t_mostSeen v_t_taped v_t_from v_t_to v_t_isWrong), ((a_t 5), .inl (cy 0, 7, .inl w17))] H := hP
        have hD : va_D A [((a_t 3), .inl (cy 0, 155, .inl f_t_aside_10)), ((a_t 1), .inl (cy 0, 155, .inl w13)), ((a_t 0), oX8 a_t v_t_isKept v_t_bestPost v_t_mostSeen v_t_taped v_t_from v_t_to v_t_isWrong), ((a_t 5), .inl (cy 0, 7, .inl w17))] := hD
        refine lv_goto (tgt := 103) hx hb dX8_kindFor_99 (by decide) ?_
        obtain ⟨rfl, rfl, rfl, rfl⟩ := bb_some4 h
        have hP9 := hP.sub (ws' := [((a_t 0), oX8 a_t v_t_isKept v_t_bestPost v_t_mostSeen v_t_taped v_t_from v_t_to v_t_isWrong), ((a_t 3), .inl (cy 0, 155, .inl f_t_aside_10)), ((a_t 5), .inl (cy 0, 7, .inl w17)), ((a_t 1), .inl (cy 0, 155, .inl w13))]) [2, 0, 3, 1] rfl
        have hD9 := hD.sub (ws' := [((a_t 0), oX8 a_t v_t_isKept v_t_bestPost v_t_mostSeen v_t_taped v_t_from v_t_to v_t_isWrong), ((a_t 3), .inl (cy 0, 155, .inl f_t_aside_10)), ((a_t 5), .inl (cy 0, 7, .inl w17)), ((a_t 1), .inl (cy 0, 155, .inl w13))]) [2, 0, 3, 1] (by decide) rfl
        exact W.iret hx hb hr (fun t ht hW => ⟨⟨_, (), rfl, rfl, by rw [ht]; exact hP9, va_K.moved hW.alike hK, hD9⟩, hS.F ht⟩) hS.2.2 dX8_kindFor_103
    have L28 : ∀ (n : Nat) (x3_19 : Int32) (x4_20 : Int32) (x5_21 : Int32) (f_t_aside_22 : Nat → Int32) (f_t_s_23 : Nat → Int32) (H : Heap) (locs : List Loc) (ls : Array Slot), bb_loop5 (uX8_kindFor_s30 nn p1 k12) n x3_19 x4_20 x5_21 f_t_aside_22 f_t_s_23 = some (r, f_t_aside_o, f_t_found_o, f_t_s_o) → va_P (dC, dI) vwCl [((a_t 0), oX8 a_t v_t_isKept v_t_bestPost v_t_mostSeen v_t_taped v_t_from v_t_to v_t_isWrong), ((a_t 3), .inl (cy 0, 155, .inl f_t_aside_22)), ((a_t 5), .inl (cy 0, 7, .inl f_t_found)), ((a_t 1), .inl (cy 0, 155, .inl f_t_s_23))] H → va_D A [((a_t 0), oX8 a_t v_t_isKept v_t_bestPost v_t_mostSeen v_t_taped v_t_from v_t_to v_t_isWrong), ((a_t 3), .inl (cy 0, 155, .inl f_t_aside_22)), ((a_t 5), .inl (cy 0, 7, .inl f_t_found)), ((a_t 1), .inl (cy 0, 155, .inl f_t_s_23))] → va_S A s.heap H locs → lv_has ls 7 [(0, .ref (a_t 0)), (1, .int p1), (2, .int r6), (3, .int x3_19), (4, .int x4_20), (5, .int x5_21)] → WW H locs (F0 m 30 ls []) := by
      intro n
      induction n with
      | zero => intro x3_19 x4_20 x5_21 f_t_aside_22 f_t_s_23 H locs ls h; exact (bb_no h).elim
      | succ n ih29 =>
        intro x3_19 x4_20 x5_21 f_t_aside_22 f_t_s_23 H locs ls h hP hD hS hl
        refine ofW _ _ _ ?_
        obtain ⟨rec27, erec27, h⟩ := bb_loop5_o h
        unfold uX8_kindFor_s30 at h
        refine lv_iload hx hb dX8_kindFor_30 (lv_at hl 5 rfl) ?_
        refine lv_bipush (v := (6 : Int32)) hx hb dX8_kindFor_32 (by decide) ?_
        refine lv_icmp_gt (tgt := 83) hx hb dX8_kindFor_34 (by decide) (fun c30 => ?_) (fun c30 => ?_)
        · replace h := bb_ifp c30 h
          exact toW _ _ _ (Jk12 x3_19 f_t_aside_22 f_t_s_23 _ _ _ h hP hD hS (lv_sub hl [0, 1, 2, 3] rfl))
        · replace h := bb_ifn c30 h
          refine lv_aload_n hx hb dX8_kindFor_37 rfl (lv_at hl 0 rfl) ?_
          refine lv_iload_n hx hb dX8_kindFor_38 rfl (lv_at hl 1 rfl) ?_
          refine lv_iconst (v := (0 : Int32)) hx hb dX8_kindFor_39 (by decide) ?_
          refine lv_iload hx hb dX8_kindFor_40 (lv_at hl 5 rfl) ?_
          obtain ⟨w31, hc32, h⟩ := bb_b1_o h
          refine bb_cwv (wr := [((a_t 3), .inl (cy 0, 155, .inl f_t_aside_22)), ((a_t 5), .inl (cy 0, 7, .inl f_t_found))]) (w1 := [((a_t 0), oX8 a_t v_t_isKept v_t_bestPost v_t_mostSeen v_t_taped v_t_from v_t_to v_t_isWrong), ((a_t 1), .inl (cy 0, 155, .inl w31))]) (va_runV (As := [.int p1, .int (0 : Int32), .int x5_21]) (rest := []) ⟨hx, hb, hml, hown, hts⟩ (kX8_sets l dC dI cy H.size a_t p1 (0 : Int32) x5_21 v_t_isKept v_t_bestPost v_t_mostSeen v_t_taped v_t_from v_t_to v_t_isWrong f_t_s_23 w31 hc32) (cwV 3 hts gX8_kindFor_X8_sets rfl rfl rfl kdX8_sets ⟨Nat.le_of_ble_eq_true rfl, Nat.le_of_ble_eq_true rfl⟩) (bb_preVw (va_recv hK hP (ci := 7) (q0 := 0) rfl rfl) (hP.sub (ws' := [((a_t 0), oX8 a_t v_t_isKept v_t_bestPost v_t_mostSeen v_t_taped v_t_from v_t_to v_t_isWrong), ((a_t 1), .inl (cy 0, 155, .inl f_t_s_23))]) [0, 3] rfl) hK (hD.sub (ws' := [((a_t 0), oX8 a_t v_t_isKept v_t_bestPost v_t_mostSeen v_t_taped v_t_from v_t_to v_t_isWrong), ((a_t 1), .inl (cy 0, 155, .inl f_t_s_23))]) [0, 3] (by decide) rfl)) rfl rfl hl.1 rfl (lv_room (Nat.le_of_ble_eq_true rfl)) dX8_kindFor_42 ⟨Nat.zero_le _, Nat.zero_le _⟩) hP hD hS hA [0, 3] [1, 2] rfl rfl (by decide) (by decide) (fun H locs hP hD hS => ?_)
          have hP : va_P (dC, dI) vwCl [((a_t 3), .inl (cy 0, 155, .inl f_t_aside_22)), ((a_t 5), .inl (cy 0, 7, .inl f_t_found)), ((a_t 0), oX8 a_t v_t_isKept v_t_bestPost v_t_mostSeen v_t_taped v_t_from v_t_to v_t_isWrong), ((a_t 1), .inl (cy 0, 155, .inl w31))] H := hP
          have hD : va_D A [((a_t 3), .inl (cy 0, 155, .inl f_t_aside_22)), ((a_t 5), .inl (cy 0, 7, .inl f_t_found)), ((a_t 0), oX8 a_t v_t_isKept v_t_bestPost v_t_mostSeen v_t_taped v_t_from v_t_to v_t_isWrong), ((a_t 1), .inl (cy 0, 155, .inl w31))] := hD
          refine lv_aload_n hx hb dX8_kindFor_45 rfl (lv_at hl 0 rfl) ?_
          refine lv_iload_n hx hb dX8_kindFor_46 rfl (lv_at hl 1 rfl) ?_
          refine lv_iconst (v := (0 : Int32)) hx hb dX8_kindFor_47 (by decide) ?_
          refine lv_iconst (v := (0 : Int32)) hx hb dX8_kindFor_48 (by decide) ?_
          obtain ⟨r33, w34, w35, hc36, h⟩ := bb_b3_o h
          refine bb_cwi (wr := [((a_t 5), .inl (cy 0, 7, .inl f_t_found))]) (w1 := [((a_t 0), oX8 a_t v_t_isKept v_t_bestPost v_t_mostSeen v_t_taped v_t_from v_t_to v_t_isWrong), ((a_t 3), .inl (cy 0, 155, .inl w34)), ((a_t 1), .inl (cy 0, 155, .inl w35))]) (va_runV (As := [.int p1, .int (0 : Int32), .int (0 : Int32)]) (rest := []) ⟨hx, hb, hml, hown, hts⟩ (kX8_until l dC dI cy H.size a_t p1 (0 : Int32) (0 : Int32) v_t_isKept v_t_bestPost v_t_mostSeen v_t_taped v_t_from v_t_to v_t_isWrong f_t_aside_22 w31 nn r33 w34 w35 hc36) (cwV 3 hts gX8_kindFor_X8_until rfl rfl rfl kdX8_until ⟨Nat.le_of_ble_eq_true rfl, Nat.le_of_ble_eq_true rfl⟩) (bb_preVw (va_recv hK hP (ci := 7) (q0 := 2) rfl rfl) (hP.sub (ws' := [((a_t 0), oX8 a_t v_t_isKept v_t_bestPost v_t_mostSeen v_t_taped v_t_from v_t_to v_t_isWrong), ((a_t 3), .inl (cy 0, 155, .inl f_t_aside_22)), ((a_t 1), .inl (cy 0, 155, .inl w31))]) [2, 0, 3] rfl) hK (hD.sub (ws' := [((a_t 0), oX8 a_t v_t_isKept v_t_bestPost v_t_mostSeen v_t_taped v_t_from v_t_to v_t_isWrong), ((a_t 3), .inl (cy 0, 155, .inl f_t_aside_22)), ((a_t 1), .inl (cy 0, 155, .inl w31))]) [2, 0, 3] (by decide) rfl)) rfl rfl hl.1 rfl (lv_room (Nat.le_of_ble_eq_true rfl)) dX8_kindFor_49 ⟨Nat.zero_le _, Nat.zero_le _⟩) hP hD hS hA [2, 0, 3] [1] rfl rfl (by decide) (by decide) (fun H locs hP hD hS => ?_)
          have hP : va_P (dC, dI) vwCl [((a_t 5), .inl (cy 0, 7, .inl f_t_found)), ((a_t 0), oX8 a_t v_t_isKept v_t_bestPost v_t_mostSeen v_t_taped v_t_from v_t_to v_t_isWrong), ((a_t 3), .inl (cy 0, 155, .inl w34)), ((a_t 1), .inl (cy 0, 155, .inl w35))] H := hP
          have hD : va_D A [((a_t 5), .inl (cy 0, 7, .inl f_t_found)), ((a_t 0), oX8 a_t v_t_isKept v_t_bestPost v_t_mostSeen v_t_taped v_t_from v_t_to v_t_isWrong), ((a_t 3), .inl (cy 0, 155, .inl w34)), ((a_t 1), .inl (cy 0, 155, .inl w35))] := hD
          refine lv_istore (lv' := [(6, .int r33), (0, .ref (a_t 0)), (1, .int p1), (2, .int r6), (3, .int x3_19), (4, .int x4_20), (5, .int x5_21)]) hx hb dX8_kindFor_52 hl (by decide) rfl (fun ls hl => ?_)
          refine lv_iload hx hb dX8_kindFor_54 (lv_at hl 0 rfl) ?_
          refine lv_iload hx hb dX8_kindFor_56 (lv_at hl 5 rfl) ?_
          obtain ⟨k38, ek38, h⟩ := bb_cut_o h
          have Jk38 : ∀ (z37 : Int32) (H : Heap) (locs : List Loc) (ls : Array Slot), k38 z37 = some (r, f_t_aside_o, f_t_found_o, f_t_s_o) → va_P (dC, dI) vwCl [((a_t 0), oX8 a_t v_t_isKept v_t_bestPost v_t_mostSeen v_t_taped v_t_from v_t_to v_t_isWrong), ((a_t 3), .inl (cy 0, 155, .inl w34)), ((a_t 5), .inl (cy 0, 7, .inl f_t_found)), ((a_t 1), .inl (cy 0, 155, .inl w35))] H → va_D A [((a_t 0), oX8 a_t v_t_isKept v_t_bestPost v_t_mostSeen v_t_taped v_t_from v_t_to v_t_isWrong), ((a_t 3), .inl (cy 0, 155, .inl w34)), ((a_t 5), .inl (cy 0, 7, .inl f_t_found)), ((a_t 1), .inl (cy 0, 155, .inl w35))] → va_S A s.heap H locs → lv_has ls 7 [(0, .ref (a_t 0)), (1, .int p1), (2, .int r6), (4, .int x4_20), (5, .int x5_21), (6, .int r33)] → WW H locs (F0 m 67 ls [.int z37]) := by
            intro z37 H locs ls h hP hD hS hl
            refine ofW _ _ _ ?_
            subst ek38
            refine lv_istore_n (lv' := [(3, .int z37), (0, .ref (a_t 0)), (1, .int p1), (2, .int r6), (4, .int x4_20), (5, .int x5_21), (6, .int r33)]) hx hb dX8_kindFor_67 rfl hl (by decide) rfl (fun ls hl => ?_)
            refine lv_iload hx hb dX8_kindFor_68 (lv_at hl 4 rfl) ?_
            refine lv_iload hx hb dX8_kindFor_70 (lv_at hl 6 rfl) ?_
            refine va_mmin hx hb (hml.trans hl.1.symm) hown lk1 lk2 lk3 lk4 (Nat.le_of_ble_eq_true rfl) (Nat.le_of_ble_eq_true rfl) (Nat.zero_le _) (Nat.zero_le _) dX8_kindFor_72 ?_
            refine lv_istore (lv' := [(4, .int (if r33 < x4_20 then r33 else x4_20)), (3, .int z37), (0, .ref (a_t 0)), (1, .int p1), (2, .int r6), (5, .int x5_21), (6, .int r33)]) hx hb dX8_kindFor_75 hl (by decide) rfl (fun ls hl => ?_)
            refine lv_iinc (v := x5_21 + (1 : Int32)) (lv' := [(5, .int (x5_21 + (1 : Int32))), (4, .int (if r33 < x4_20 then r33 else x4_20)), (3, .int z37), (0, .ref (a_t 0)), (1, .int p1), (2, .int r6), (6, .int r33)]) hx hb dX8_kindFor_77 hl (k := 5) rfl rfl (by decide) rfl (fun ls hl => ?_)
            refine lv_goto (tgt := 30) hx hb dX8_kindFor_80 (by decide) ?_
            rw [erec27] at h
            exact toW _ _ _ (ih29 z37 (if r33 < x4_20 then r33 else x4_20) (x5_21 + (1 : Int32)) w34 w35 _ _ _ h hP hD hS (lv_sub hl [3, 4, 5, 2, 1, 0] rfl))
          refine lv_icmp_ge (tgt := 66) hx hb dX8_kindFor_58 (by decide) (fun c39 => ?_) (fun c39 => ?_)
          · replace h := bb_ifp c39 h
            refine lv_iload_n hx hb dX8_kindFor_66 rfl (lv_at hl 4 rfl) ?_
            exact toW _ _ _ (Jk38 x3_19 _ _ _ h (hP.sub [1, 2, 0, 3] rfl) (hD.sub [1, 2, 0, 3] (by decide) rfl) hS (lv_sub hl [1, 2, 3, 5, 6, 0] rfl))
          · replace h := bb_ifn c39 h
            refine lv_iload hx hb dX8_kindFor_61 (lv_at hl 6 rfl) ?_
            refine lv_goto (tgt := 67) hx hb dX8_kindFor_63 (by decide) ?_
            exact toW _ _ _ (Jk38 x5_21 _ _ _ h (hP.sub [1, 2, 0, 3] rfl) (hD.sub [1, 2, 0, 3] (by decide) rfl) hS (lv_sub hl [1, 2, 3, 5, 6, 0] rfl))
    exact toW _ _ _ (L28 nn (-1 : Int32) (101 : Int32) (0 : Int32) f_t_aside f_t_s _ _ _ h hP hD hS (lv_sub hl [4, 5, 3, 2, 1, 0] rfl))
  · replace h := bb_ifp c5 h
    refine lv_aload_n hx hb dX8_kindFor_8 rfl (lv_at hl 0 rfl) ?_
    refine lv_iconst (v := (0 : Int32)) hx hb dX8_kindFor_9 (by decide) ?_
    obtain ⟨r40, w41, hc42, h⟩ := bb_b2_o h
    refine bb_cwi (wr := [((a_t 3), .inl (cy 0, 155, .inl f_t_aside)), ((a_t 1), .inl (cy 0, 155, .inl f_t_s))]) (w1 := [((a_t 0), oX8 a_t v_t_isKept v_t_bestPost v_t_mostSeen v_t_taped v_t_from v_t_to v_t_isWrong), ((a_t 5), .inl (cy 0, 7, .inl w41))]) (va_runV (As := [.int (0 : Int32)]) (rest := []) ⟨hx, hb, hml, hown, hts⟩ (kX8_finds l dC dI cy s.heap.size a_t (0 : Int32) v_t_isKept v_t_bestPost v_t_mostSeen v_t_taped v_t_from v_t_to v_t_isWrong f_t_found r40 w41 hc42) (cwV 1 hts gX8_kindFor_X8_finds rfl rfl rfl kdX8_finds ⟨Nat.le_of_ble_eq_true rfl, Nat.le_of_ble_eq_true rfl⟩) (bb_preVw (va_recv hK hP (ci := 7) (q0 := 0) rfl rfl) (hP.sub (ws' := [((a_t 0), oX8 a_t v_t_isKept v_t_bestPost v_t_mostSeen v_t_taped v_t_from v_t_to v_t_isWrong), ((a_t 5), .inl (cy 0, 7, .inl f_t_found))]) [0, 2] rfl) hK (hD.sub (ws' := [((a_t 0), oX8 a_t v_t_isKept v_t_bestPost v_t_mostSeen v_t_taped v_t_from v_t_to v_t_isWrong), ((a_t 5), .inl (cy 0, 7, .inl f_t_found))]) [0, 2] (by decide) rfl)) rfl rfl hl.1 rfl (lv_room (Nat.le_of_ble_eq_true rfl)) dX8_kindFor_10 ⟨Nat.zero_le _, Nat.zero_le _⟩) hP hD hS hA [0, 2] [1, 3] rfl rfl (by decide) (by decide) (fun H locs hP hD hS => ?_)
    have hP : va_P (dC, dI) vwCl [((a_t 3), .inl (cy 0, 155, .inl f_t_aside)), ((a_t 1), .inl (cy 0, 155, .inl f_t_s)), ((a_t 0), oX8 a_t v_t_isKept v_t_bestPost v_t_mostSeen v_t_taped v_t_from v_t_to v_t_isWrong), ((a_t 5), .inl (cy 0, 7, .inl w41))] H := hP
    have hD : va_D A [((a_t 3), .inl (cy 0, 155, .inl f_t_aside)), ((a_t 1), .inl (cy 0, 155, .inl f_t_s)), ((a_t 0), oX8 a_t v_t_isKept v_t_bestPost v_t_mostSeen v_t_taped v_t_from v_t_to v_t_isWrong), ((a_t 5), .inl (cy 0, 7, .inl w41))] := hD
    obtain ⟨rfl, rfl, rfl, rfl⟩ := bb_some4 h
    have hP9 := hP.sub (ws' := [((a_t 0), oX8 a_t v_t_isKept v_t_bestPost v_t_mostSeen v_t_taped v_t_from v_t_to v_t_isWrong), ((a_t 3), .inl (cy 0, 155, .inl f_t_aside)), ((a_t 5), .inl (cy 0, 7, .inl w41)), ((a_t 1), .inl (cy 0, 155, .inl f_t_s))]) [2, 0, 3, 1] rfl
    have hD9 := hD.sub (ws' := [((a_t 0), oX8 a_t v_t_isKept v_t_bestPost v_t_mostSeen v_t_taped v_t_from v_t_to v_t_isWrong), ((a_t 3), .inl (cy 0, 155, .inl f_t_aside)), ((a_t 5), .inl (cy 0, 7, .inl w41)), ((a_t 1), .inl (cy 0, 155, .inl f_t_s))]) [2, 0, 3, 1] (by decide) rfl
    exact W.iret hx hb hr (fun t ht hW => ⟨⟨_, (), rfl, rfl, by rw [ht]; exact hP9, va_K.moved hW.alike hK, hD9⟩, hS.F ht⟩) hS.2.2 dX8_kindFor_13
/-! X8_sightFor -/
def uX8_sightFor_s26 (nn : Nat) (x1_18 : Int32) (k_66 : Int32 → (Nat → Int32) → (Nat → Int32) → Option (Int32 × (Nat → Int32) × (Nat → Int32) × (Nat → Int32))) (rec21 : Int32 → Int32 → (Nat → Int32) → (Nat → Int32) → Option (Int32 × (Nat → Int32) × (Nat → Int32) × (Nat → Int32))) (x3_14 : Int32) (x4_15 : Int32) (f_t_aside_16 : Nat → Int32) (f_t_s_17 : Nat → Int32) : Option (Int32 × (Nat → Int32) × (Nat → Int32) × (Nat → Int32)) :=
  (if (12 : Int32) < x4_15 then k_66 x3_14 f_t_aside_16 f_t_s_17 else bb_b3 (uX8_until nn x1_18 (1 : Int32) (0 : Int32) f_t_aside_16 (upd f_t_s_17 (2 : Int32).toNatClampNeg x4_15)) (fun (r25 : Int32) (w26 : Nat → Int32) (w27 : Nat → Int32) => bb_cut (fun (z29 : Int32) => rec21 z29 (x4_15 + (1 : Int32)) w26 w27) (fun k30 => (if r25 ≤ (100 : Int32) then k30 x3_14 else k30 x4_15))))
def uX8_sightFor (nn : Nat) (p1 : Int32) (f_t_aside : Nat → Int32) (f_t_found : Nat → Int32) (f_t_s : Nat → Int32) : Option (Int32 × (Nat → Int32) × (Nat → Int32) × (Nat → Int32)) :=
  bb_b1 (uX8_isBather p1 f_t_s) (fun (r1 : Int32) => (if r1 = 0 then bb_b2 (uX8_finds (0 : Int32) f_t_found) (fun (r32 : Int32) (w33 : Nat → Int32) => some (r32, f_t_aside, w33, f_t_s)) else bb_cut (fun (x3_6 : Int32) (f_t_aside_7 : Nat → Int32) (f_t_s_8 : Nat → Int32) => (if 0 ≤ x3_6 then some (x3_6, f_t_aside_7, f_t_found, upd f_t_s_8 (2 : Int32).toNatClampNeg (f_t_s (2 : Int32).toNatClampNeg)) else bb_b2 (uX8_finds (3 : Int32) f_t_found) (fun (r11 : Int32) (w12 : Nat → Int32) => some (r11, f_t_aside_7, w12, upd f_t_s_8 (2 : Int32).toNatClampNeg (f_t_s (2 : Int32).toNatClampNeg))))) (fun k9 => bb_loop4 (uX8_sightFor_s26 nn p1 k9) nn (-1 : Int32) (0 : Int32) f_t_aside f_t_s)))
theorem kdX8_sightFor : yX8_sightFor.cls = RX8 ∧ yX8_sightFor.cls ≠ "java/lang/invoke/MethodHandle" ∧ yX8_sightFor.cls ≠ "java/lang/invoke/VarHandle" ∧ (parseMethodDescriptor yX8_sightFor.desc).map (fun d => d.parameters.length) = some 1 := by decide +kernel
set_option maxHeartbeats 4000000 in
set_option maxRecDepth 100000 in
theorem kX8_sightFor (l : Launch) (dC : Nat → ClassId) (dI : Nat → Nat → Nat) (cy : Nat → ClassId) (sz : Nat) (a_t : Nat → Nat) (p1 : Int32) (v_t_isKept : Int32) (v_t_bestPost : Int32) (v_t_mostSeen : Int32) (v_t_taped : Int32) (v_t_from : Int32) (v_t_to : Int32) (v_t_isWrong : Int32) (f_t_aside : Nat → Int32) (f_t_found : Nat → Int32) (f_t_s : Nat → Int32) (nn : Nat) (r : Int32) (f_t_aside_o : Nat → Int32) (f_t_found_o : Nat → Int32) (f_t_s_o : Nat → Int32) (h : uX8_sightFor nn p1 f_t_aside f_t_found f_t_s = some (r, f_t_aside_o, f_t_found_o, f_t_s_o)) : Met l yX8_sightFor wsX8_sightFor ({ frames := 11, cells := 0, slots := 0, locals := 245 }) (va_Pc [.ref (a_t 0), .int p1] (fun U => U.heap.size = sz ∧ va_P (dC, dI) vwCl [((a_t 0), oX8 a_t v_t_isKept v_t_bestPost v_t_mostSeen v_t_taped v_t_from v_t_to v_t_isWrong), ((a_t 3), .inl (cy 0, 155, .inl f_t_aside)), ((a_t 5), .inl (cy 0, 7, .inl f_t_found)), ((a_t 1), .inl (cy 0, 155, .inl f_t_s))] U.heap ∧ va_K (dC, dI) vwCl (tyX cy) U ∧ va_D (fun _ => True) [((a_t 0), oX8 a_t v_t_isKept v_t_bestPost v_t_mostSeen v_t_taped v_t_from v_t_to v_t_isWrong), ((a_t 3), .inl (cy 0, 155, .inl f_t_aside)), ((a_t 5), .inl (cy 0, 7, .inl f_t_found)), ((a_t 1), .inl (cy 0, 155, .inl f_t_s))])) (va_Qi (fun (r2 : Int32) (_ : Unit) => r = r2) (fun _ t => va_P (dC, dI) vwCl [((a_t 0), oX8 a_t v_t_isKept v_t_bestPost v_t_mostSeen v_t_taped v_t_from v_t_to v_t_isWrong), ((a_t 3), .inl (cy 0, 155, .inl f_t_aside_o)), ((a_t 5), .inl (cy 0, 7, .inl f_t_found_o)), ((a_t 1), .inl (cy 0, 155, .inl f_t_s_o))] t.heap ∧ va_K (dC, dI) vwCl (tyX cy) t ∧ va_D (va_A [((a_t 0), oX8 a_t v_t_isKept v_t_bestPost v_t_mostSeen v_t_taped v_t_from v_t_to v_t_isWrong), ((a_t 3), .inl (cy 0, 155, .inl f_t_aside)), ((a_t 5), .inl (cy 0, 7, .inl f_t_found)), ((a_t 1), .inl (cy 0, 155, .inl f_t_s))] sz) [((a_t 0), oX8 a_t v_t_isKept v_t_bestPost v_t_mostSeen v_t_taped v_t_from v_t_to v_t_isWrong), ((a_t 3), .inl (cy 0, 155, .inl f_t_aside_o)), ((a_t 5), .inl (cy 0, 7, .inl f_t_found_o)), ((a_t 1), .inl (cy 0, 155, .inl f_t_s_o))]) (va_A [((a_t 0), oX8 a_t v_t_isKept v_t_bestPost v_t_mostSeen v_t_taped v_t_from v_t_to v_t_isWrong), ((a_t 3), .inl (cy 0, 155, .inl f_t_aside)), ((a_t 5), .inl (cy 0, 7, .inl f_t_found)), ((a_t 1), .inl (cy 0, 155, .inl f_t_s))] sz)) 0 0 (va_A [((a_t 0), oX8 a_t v_t_isKept v_t_bestPost v_t_mostSeen v_t_taped v_t_from v_t_to v_t_isWrong), ((a_t 3), .inl (cy 0, 155, .inl f_t_aside)), ((a_t 5), .inl (cy 0, 7, .inl f_t_found)), ((a_t 1), .inl (cy 0, 155, .inl f_t_s))] sz) := by
  refine Met.ofW (cc := cX8_sightFor) (maxL := 5) (ret := (some .int)) (by decide) rfl ?_
  intro p e s m args below meth c s₁ B hml hv
  obtain ⟨rfl, hsz, hP, hK, hD0⟩ := hv
  have hx := B.exec
  have hb := B.bytes
  have hr := B.returns
  have hts := atoms_spec (ws := wsX8_sightFor) B.pre
  have hown : s.vm.findClass RX8 = some m.cls := findClass_of_methodNamed B.named
  have hlocks := B.notSynchronized
  have iwX8 : ∀ w ∈ wsX80, w ∈ wsX8_sightFor := fun w h9 => List.mem_cons_of_mem _ (List.mem_append_right _ (h9))
  have lk1 := hts (Cond.fieldLink RX8 9 "BathBorderModel" "s" "[I") (List.mem_of_getElem? (i := 1) rfl)
  subst hsz
  have hD := hD0.self (sz := s.heap.size)
  generalize hAe : va_A [((a_t 0), oX8 a_t v_t_isKept v_t_bestPost v_t_mostSeen v_t_taped v_t_from v_t_to v_t_isWrong), ((a_t 3), .inl (cy 0, 155, .inl f_t_aside)), ((a_t 5), .inl (cy 0, 7, .inl f_t_found)), ((a_t 1), .inl (cy 0, 155, .inl f_t_s))] s.heap.size = A at hD ⊢
  have hA : ∀ q : Nat, s.heap.size ≤ q → A q := fun q h => by rw [← hAe]; exact Or.inr h
  have hS : va_S A s.heap s.heap [] := va_S.rf
  have hP : va_P (dC, dI) vwCl [((a_t 0), oX8 a_t v_t_isKept v_t_bestPost v_t_mostSeen v_t_taped v_t_from v_t_to v_t_isWrong), ((a_t 3), .inl (cy 0, 155, .inl f_t_aside)), ((a_t 5), .inl (cy 0, 7, .inl f_t_found)), ((a_t 1), .inl (cy 0, 155, .inl f_t_s))] s.heap := hP
  have hl := lv_entry ([.ref (a_t 0), .int p1]) (n := 5) (Nat.le_of_ble_eq_true rfl)
  rw [lg_entry_eq]
  generalize (lg_sl ([.ref (a_t 0), .int p1]) ++ List.replicate (5 - (lg_sl ([.ref (a_t 0), .int p1])).length) Slot.unset).toArray = ls at hl ⊢
  have hl : lv_has ls 5 [(0, .ref (a_t 0)), (1, .int p1)] := hl
  unfold uX8_sightFor at h
  refine bb_cap (fun WW toW ofW => ?_)
  refine lv_aload_n hx hb dX8_sightFor_0 rfl (lv_at hl 0 rfl) ?_
  refine lv_iload_n hx hb dX8_sightFor_1 rfl (lv_at hl 1 rfl) ?_
  obtain ⟨r1, hc2, h⟩ := bb_b1_o h
  refine vp_callSi (W.runV (As := [.int p1]) (rest := []) ⟨hx, hb, hml, hown, hts⟩ (kX8_isBather l dC dI cy a_t p1 v_t_isKept v_t_bestPost v_t_mostSeen v_t_taped v_t_from v_t_to v_t_isWrong f_t_s r1 hc2) (cwV 1 hts gX8_sightFor_X8_isBather rfl rfl rfl kdX8_isBather ⟨Nat.le_of_ble_eq_true rfl, Nat.le_of_ble_eq_true rfl⟩) (bb_preV (va_recv hK hP (ci := 7) (q0 := 0) rfl rfl) (hP.sub (ws' := [((a_t 0), oX8 a_t v_t_isKept v_t_bestPost v_t_mostSeen v_t_taped v_t_from v_t_to v_t_isWrong), ((a_t 1), .inl (cy 0, 155, .inl f_t_s))]) [0, 3] rfl) hK) rfl rfl hl.1 rfl (lv_room (Nat.le_of_ble_eq_true rfl)) dX8_sightFor_2 ⟨Nat.zero_le _, Nat.zero_le _⟩) (fun t3 et3 => ?_)
  obtain ⟨rfl, hz4⟩ := et3
  refine lv_if_ne (tgt := 14) hx hb dX8_sightFor_5 (by decide) (fun c5 => ?_) (fun c5 => ?_)
  · replace h := bb_ifn c5 h
    refine lv_aload_n hx hb dX8_sightFor_14 rfl (lv_at hl 0 rfl) ?_
    refine va_get (D := (dC, dI)) (ci := 7) (v := .ref (a_t 1)) (C := RX8) (T := TX8) (N := 20) hx hb hts iwX8 hown hK hP 0 rfl rfl 0 (by decide) lk1 (fun _ h9 => h9) rfl dX8_sightFor_15 ?_
    refine lv_iconst (v := (2 : Int32)) hx hb dX8_sightFor_18 (by decide) ?_
    refine va_iald hx hb hK hP 3 0 rfl rfl (bb_in (by decide)) dX8_sightFor_19 ?_
    refine lv_istore_n (lv' := [(2, .int (f_t_s (2 : Int32).toNatClampNeg)), (0, .ref (a_t 0)), (1, .int p1)]) hx hb dX8_sightFor_20 rfl hl (by decide) rfl (fun ls hl => ?_)
    refine lv_iconst (v := (-1 : Int32)) hx hb dX8_sightFor_21 (by decide) ?_
    refine lv_istore_n (lv' := [(3, .int (-1 : Int32)), (2, .int (f_t_s (2 : Int32).toNatClampNeg)), (0, .ref (a_t 0)), (1, .int p1)]) hx hb dX8_sightFor_22 rfl hl (by decide) rfl (fun ls hl => ?_)
    refine lv_iconst (v := (0 : Int32)) hx hb dX8_sightFor_23 (by decide) ?_
    refine lv_istore (lv' := [(4, .int (0 : Int32)), (3, .int (-1 : Int32)), (2, .int (f_t_s (2 : Int32).toNatClampNeg)), (0, .ref (a_t 0)), (1, .int p1)]) hx hb dX8_sightFor_24 hl (by decide) rfl (fun ls hl => ?_)
    obtain ⟨k9, ek9, h⟩ := bb_cut_o h
    have Jk9 : ∀ (x3_6 : Int32) (f_t_aside_7 : Nat → Int32) (f_t_s_8 : Nat → Int32) (H : Heap) (locs : List Loc) (ls : Array Slot), k9 x3_6 f_t_aside_7 f_t_s_8 = some (r, f_t_aside_o, f_t_found_o, f_t_s_o) → va_P (dC, dI) vwCl [((a_t 0), oX8 a_t v_t_isKept v_t_bestPost v_t_mostSeen v_t_taped v_t_from v_t_to v_t_isWrong), ((a_t 3), .inl (cy 0, 155, .inl f_t_aside_7)), ((a_t 5), .inl (cy 0, 7, .inl f_t_found)), ((a_t 1), .inl (cy 0, 155, .inl f_t_s_8))] H → va_D A [((a_t 0), oX8 a_t v_t_isKept v_t_bestPost v_t_mostSeen v_t_taped v_t_from v_t_to v_t_isWrong), ((a_t 3), .inl (cy 0, 155, .inl f_t_aside_7)), ((a_t 5), .inl (cy 0, 7, .inl f_t_found)), ((a_t 1), .inl (cy 0, 155, .inl f_t_s_8))] → va_S A s.heap H locs → lv_has ls 5 [(0, .ref (a_t 0)), (2, .int (f_t_s (2 : Int32).toNatClampNeg)), (3, .int x3_6)] → WW H locs (F0 m 66 ls []) := by
      intro x3_6 f_t_aside_7 f_t_s_8 H locs ls h hP hD hS hl
      refine ofW _ _ _ ?_
      subst ek9
      refine lv_aload_n hx hb dX8_sightFor_66 rfl (lv_at hl 0 rfl) ?_
      refine va_get (D := (dC, dI)) (ci := 7) (v := .ref (a_t 1)) (C := RX8) (T := TX8) (N := 20) hx hb hts iwX8 hown hK hP 0 rfl rfl 0 (by decide) lk1 (fun _ h9 => h9) rfl dX8_sightFor_67 ?_
      refine lv_iconst (v := (2 : Int32)) hx hb dX8_sightFor_70 (by decide) ?_
      refine lv_iload_n hx hb dX8_sightFor_71 rfl (lv_at hl 1 rfl) ?_
      refine va_iast hx hb hK hP hD hS 3 0 rfl rfl (bb_in (by decide)) dX8_sightFor_72 (fun H locs hP hD hS => ?_)
      have hP : va_P (dC, dI) vwCl [((a_t 0), oX8 a_t v_t_isKept v_t_bestPost v_t_mostSeen v_t_taped v_t_from v_t_to v_t_isWrong), ((a_t 3), .inl (cy 0, 155, .inl f_t_aside_7)), ((a_t 5), .inl (cy 0, 7, .inl f_t_found)), ((a_t 1), .inl (cy 0, 155, .inl (upd f_t_s_8 (2 : Int32).toNatClampNeg (f_t_s (2 : Int32).toNatClampNeg))))] H := hP
      have hD : va_D A [((a_t 0), oX8 a_t v_t_isKept v_t_bestPost v_t_mostSeen v_t_taped v_t_from v_t_to v_t_isWrong), ((a_t 3), .inl (cy 0, 155, .inl f_t_aside_7)), ((a_t 5), .inl (cy 0, 7, .inl f_t_found)), ((a_t 1), .inl (cy 0, 155, .inl (upd f_t_s_8 (2 : Int32).toNatClampNeg (f_t_s (2 : Int32).toNatClampNeg))))] := hD
      refine lv_iload_n hx hb dX8_sightFor_73 rfl (lv_at hl 2 rfl) ?_
      refine lv_if_ge (tgt := 85) hx hb dX8_sightFor_74 (by decide) (fun c10 => ?_) (fun c10 => ?_)
      · replace h := bb_ifp c10 h
        refine lv_iload_n hx hb dX8_sightFor_85 rfl (lv_at hl 2 rfl) ?_
        obtain ⟨rfl, rfl, rfl, rfl⟩ := bb_some4 h
        have hP9 := hP.sub (ws' := [((a_t 0), oX8 a_t v_t_isKept v_t_bestPost v_t_mostSeen v_t_taped v_t_from v_t_to v_t_isWrong), ((a_t 3), .inl (cy 0, 155, .inl f_t_aside_7)), ((a_t 5), .inl (cy 0, 7, .inl f_t_found)), ((a_t 1), .inl (cy 0, 155, .inl (upd f_t_s_8 (2 : Int32).toNatClampNeg (f_t_s (2 : Int32).toNatClampNeg))))]) [0, 1, 2, 3] rfl
        have hD9 := hD.sub (ws' := [((a_t 0), oX8 a_t v_t_isKept v_t_bestPost v_t_mostSeen v_t_taped v_t_from v_t_to v_t_isWrong), ((a_t 3), .inl (cy 0, 155, .inl f_t_aside_7)), ((a_t 5), .inl (cy 0, 7, .inl f_t_found)), ((a_t 1), .inl (cy 0, 155, .inl (upd f_t_s_8 (2 : Int32).toNatClampNeg (f_t_s (2 : Int32).toNatClampNeg))))]) [0, 1, 2, 3] (by decide) rfl
        exact W.iret hx hb hr (fun t ht hW => ⟨⟨_, (), rfl, rfl, by rw [ht]; exact hP9, va_K.moved hW.alike hK, hD9⟩, hS.F ht⟩) hS.2.2 dX8_sightFor_86
      · replace h := bb_ifn c10 h
        refine lv_aload_n hx hb dX8_sightFor_77 rfl (lv_at hl 0 rfl) ?_
        refine lv_iconst (v := (3 : Int32)) hx hb dX8_sightFor_78 (by decide) ?_
        obtain ⟨r11, w12, hc13, h⟩ := bb_b2_o h
        refine bb_cwi (wr := [((a_t 3), .inl (cy 0, 155, .inl f_t_aside_7)), ((a_t 1), .inl (cy 0, 155, .inl (upd f_t_s_8 (2 : Int32).toNatClampNeg (f_t_s (2 : Int32).toNatClampNeg))))]) (w1 := [((a_t 0), oX8 a_t v_t_isKept v_t_bestPost v_t_mostSeen v_t_taped v_t_from v_t_to v_t_isWrong), ((a_t 5), .inl (cy 0, 7, .inl w12))]) (va_runV (As := [.int (3 : Int32)]) (rest := []) ⟨hx, hb, hml, hown, hts⟩ (kX8_finds l dC dI cy H.size a_t (3 : Int32) v_t_isKept v_t_bestPost v_t_mostSeen v_t_taped v_t_from v_t_to v_t_isWrong f_t_found r11 w12 hc13) (cwV 1 hts gX8_sightFor_X8_finds rfl rfl rfl kdX8_finds ⟨Nat.le_of_ble_eq_true rfl, Nat.le_of_ble_eq_true rfl⟩) (bb_preVw (va_recv hK hP (ci := 7) (q0 := 0) rfl rfl) (hP.sub (ws' := [((a_t 0), oX8 a_t v_t_isKept v_t_bestPost v_t_mostSeen v_t_taped v_t_from v_t_to v_t_isWrong), ((a_t 5), .inl (cy 0, 7, .inl f_t_found))]) [0, 2] rfl) hK (hD.sub (ws' := [((a_t 0), oX8 a_t v_t_isKept v_t_bestPost v_t_mostSeen v_t_taped v_t_from v_t_to v_t_isWrong), ((a_t 5), .inl (cy 0, 7, .inl f_t_found))]) [0, 2] (by decide) rfl)) rfl rfl hl.1 rfl (lv_room (Nat.le_of_ble_eq_true rfl)) dX8_sightFor_79 ⟨Nat.zero_le _, Nat.zero_le _⟩) hP hD hS hA [0, 2] [1, 3] rfl rfl (by decide) (by decide) (fun H locs hP hD hS => ?_)
        have hP : va_P (dC, dI) vwCl [((a_t 3), .inl (cy 0, 155, .inl f_t_aside_7)), ((a_t 1), .inl (cy 0, 155, .inl (upd f_t_s_8 (2 : Int32).toNatClampNeg (f_t_s (2 : Int32).toNatClampNeg)))), ((a_t 0), oX8 a_t v_t_isKept v_t_bestPost v_t_mostSeen v_t_taped v_t_from v_t_to v_t_isWrong), ((a_t 5), .inl (cy 0, 7, .inl w12))] H := hP
        have hD : va_D A [((a_t 3), .inl (cy 0, 155, .inl f_t_aside_7)), ((a_t 1), .inl (cy 0, 155, .inl (upd f_t_s_8 (2 : Int32).toNatClampNeg (f_t_s (2 : Int32).toNatClampNeg)))), ((a_t 0), oX8 a_t v_t_isKept v_t_bestPost v_t_mostSeen v_t_taped v_t_from v_t_to v_t_isWrong), ((a_t 5), .inl (cy 0, 7, .inl w12))] := hD
        refine lv_goto (tgt := 86) hx hb dX8_sightFor_82 (by decide) ?_
        obtain ⟨rfl, rfl, rfl, rfl⟩ := bb_some4 h
        have hP9 := hP.sub (ws' := [((a_t 0), oX8 a_t v_t_isKept v_t_bestPost v_t_mostSeen v_t_taped v_t_from v_t_to v_t_isWrong), ((a_t 3), .inl (cy 0, 155, .inl f_t_aside_7)), ((a_t 5), .inl (cy 0, 7, .inl w12)), ((a_t 1), .inl (cy 0, 155, .inl (upd f_t_s_8 (2 : Int32).toNatClampNeg (f_t_s (2 : Int32).toNatClampNeg))))]) [2, 0, 3, 1] rfl
        have hD9 := hD.sub (ws' := [((a_t 0), oX8 a_t v_t_isKept v_t_bestPost v_t_mostSeen v_t_taped v_t_from v_t_to v_t_isWrong), ((a_t 3), .inl (cy 0, 155, .inl f_t_aside_7)), ((a_t 5), .inl (cy 0, 7, .inl w12)), ((a_t 1), .inl (cy 0, 155, .inl (upd f_t_s_8 (2 : Int32).toNatClampNeg (f_t_s (2 : Int32).toNatClampNeg))))]) [2, 0, 3, 1] (by decide) rfl
        exact W.iret hx hb hr (fun t ht hW => ⟨⟨_, (), rfl, rfl, by rw [ht]; exact hP9, va_K.moved hW.alike hK, hD9⟩, hS.F ht⟩) hS.2.2 dX8_sightFor_86
    have L22 : ∀ (n : Nat) (x3_14 : Int32) (x4_15 : Int32) (f_t_aside_16 : Nat → Int32) (f_t_s_17 : Nat → Int32) (H : Heap) (locs : List Loc) (ls : Array Slot), bb_loop4 (uX8_sightFor_s26 nn p1 k9) n x3_14 x4_15 f_t_aside_16 f_t_s_17 = some (r, f_t_aside_o, f_t_found_o, f_t_s_o) → va_P (dC, dI) vwCl [((a_t 0), oX8 a_t v_t_isKept v_t_bestPost v_t_mostSeen v_t_taped v_t_from v_t_to v_t_isWrong), ((a_t 3), .inl (cy 0, 155, .inl f_t_aside_16)), ((a_t 5), .inl (cy 0, 7, .inl f_t_found)), ((a_t 1), .inl (cy 0, 155, .inl f_t_s_17))] H → va_D A [((a_t 0), oX8 a_t v_t_isKept v_t_bestPost v_t_mostSeen v_t_taped v_t_from v_t_to v_t_isWrong), ((a_t 3), .inl (cy 0, 155, .inl f_t_aside_16)), ((a_t 5), .inl (cy 0, 7, .inl f_t_found)), ((a_t 1), .inl (cy 0, 155, .inl f_t_s_17))] → va_S A s.heap H locs → lv_has ls 5 [(0, .ref (a_t 0)), (1, .int p1), (2, .int (f_t_s (2 : Int32).toNatClampNeg)), (3, .int x3_14), (4, .int x4_15)] → WW H locs (F0 m 26 ls []) := by
      intro n
      induction n with
      | zero => intro x3_14 x4_15 f_t_aside_16 f_t_s_17 H locs ls h; exact (bb_no h).elim
      | succ n ih23 =>
        intro x3_14 x4_15 f_t_aside_16 f_t_s_17 H locs ls h hP hD hS hl
        refine ofW _ _ _ ?_
        obtain ⟨rec21, erec21, h⟩ := bb_loop4_o h
        unfold uX8_sightFor_s26 at h
        refine lv_iload hx hb dX8_sightFor_26 (lv_at hl 4 rfl) ?_
        refine lv_bipush (v := (12 : Int32)) hx hb dX8_sightFor_28 (by decide) ?_
        refine lv_icmp_gt (tgt := 66) hx hb dX8_sightFor_30 (by decide) (fun c24 => ?_) (fun c24 => ?_)
        · replace h := bb_ifp c24 h
          exact toW _ _ _ (Jk9 x3_14 f_t_aside_16 f_t_s_17 _ _ _ h hP hD hS (lv_sub hl [0, 2, 3] rfl))
        · replace h := bb_ifn c24 h
          refine lv_aload_n hx hb dX8_sightFor_33 rfl (lv_at hl 0 rfl) ?_
          refine va_get (D := (dC, dI)) (ci := 7) (v := .ref (a_t 1)) (C := RX8) (T := TX8) (N := 20) hx hb hts iwX8 hown hK hP 0 rfl rfl 0 (by decide) lk1 (fun _ h9 => h9) rfl dX8_sightFor_34 ?_
          refine lv_iconst (v := (2 : Int32)) hx hb dX8_sightFor_37 (by decide) ?_
          refine lv_iload hx hb dX8_sightFor_38 (lv_at hl 4 rfl) ?_
          refine va_iast hx hb hK hP hD hS 3 0 rfl rfl (bb_in (by decide)) dX8_sightFor_40 (fun H locs hP hD hS => ?_)
          have hP : va_P (dC, dI) vwCl [((a_t 0), oX8 a_t v_t_isKept v_t_bestPost v_t_mostSeen v_t_taped v_t_from v_t_to v_t_isWrong), ((a_t 3), .inl (cy 0, 155, .inl f_t_aside_16)), ((a_t 5), .inl (cy 0, 7, .inl f_t_found)), ((a_t 1), .inl (cy 0, 155, .inl (upd f_t_s_17 (2 : Int32).toNatClampNeg x4_15)))] H := hP
          have hD : va_D A [((a_t 0), oX8 a_t v_t_isKept v_t_bestPost v_t_mostSeen v_t_taped v_t_from v_t_to v_t_isWrong), ((a_t 3), .inl (cy 0, 155, .inl f_t_aside_16)), ((a_t 5), .inl (cy 0, 7, .inl f_t_found)), ((a_t 1), .inl (cy 0, 155, .inl (upd f_t_s_17 (2 : Int32).toNatClampNeg x4_15)))] := hD
          refine lv_aload_n hx hb dX8_sightFor_41 rfl (lv_at hl 0 rfl) ?_
          refine lv_iload_n hx hb dX8_sightFor_42 rfl (lv_at hl 1 rfl) ?_
          refine lv_iconst (v := (1 : Int32)) hx hb dX8_sightFor_43 (by decide) ?_
          refine lv_iconst (v := (0 : Int32)) hx hb dX8_sightFor_44 (by decide) ?_
          obtain ⟨r25, w26, w27, hc28, h⟩ := bb_b3_o h
          refine bb_cwi (wr := [((a_t 5), .inl (cy 0, 7, .inl f_t_found))]) (w1 := [((a_t 0), oX8 a_t v_t_isKept v_t_bestPost v_t_mostSeen v_t_taped v_t_from v_t_to v_t_isWrong), ((a_t 3), .inl (cy 0, 155, .inl w26)), ((a_t 1), .inl (cy 0, 155, .inl w27))]) (va_runV (As := [.int p1, .int (1 : Int32), .int (0 : Int32)]) (rest := []) ⟨hx, hb, hml, hown, hts⟩ (kX8_until l dC dI cy H.size a_t p1 (1 : Int32) (0 : Int32) v_t_isKept v_t_bestPost v_t_mostSeen v_t_taped v_t_from v_t_to v_t_isWrong f_t_aside_16 (upd f_t_s_17 (2 : Int32).toNatClampNeg x4_15) nn r25 w26 w27 hc28) (cwV 3 hts gX8_sightFor_X8_until rfl rfl rfl kdX8_until ⟨Nat.le_of_ble_eq_true rfl, Nat.le_of_ble_eq_true rfl⟩) (bb_preVw (va_recv hK hP (ci := 7) (q0 := 0) rfl rfl) (hP.sub (ws' := [((a_t 0), oX8 a_t v_t_isKept v_t_bestPost v_t_mostSeen v_t_taped v_t_from v_t_to v_t_isWrong), ((a_t 3), .inl (cy 0, 155, .inl f_t_aside_16)), ((a_t 1), .inl (cy 0, 155, .inl (upd f_t_s_17 (2 : Int32).toNatClampNeg x4_15)))]) [0, 1, 3] rfl) hK (hD.sub (ws' := [((a_t 0), oX8 a_t v_t_isKept v_t_bestPost v_t_mostSeen v_t_taped v_t_from v_t_to v_t_isWrong), ((a_t 3), .inl (cy 0, 155, .inl f_t_aside_16)), ((a_t 1), .inl (cy 0, 155, .inl (upd f_t_s_17 (2 : Int32).toNatClampNeg x4_15)))]) [0, 1, 3] (by decide) rfl)) rfl rfl hl.1 rfl (lv_room (Nat.le_of_ble_eq_true rfl)) dX8_sightFor_45 ⟨Nat.zero_le _, Nat.zero_le _⟩) hP hD hS hA [0, 1, 3] [2] rfl rfl (by decide) (by decide) (fun H locs hP hD hS => ?_)
          have hP : va_P (dC, dI) vwCl [((a_t 5), .inl (cy 0, 7, .inl f_t_found)), ((a_t 0), oX8 a_t v_t_isKept v_t_bestPost v_t_mostSeen v_t_taped v_t_from v_t_to v_t_isWrong), ((a_t 3), .inl (cy 0, 155, .inl w26)), ((a_t 1), .inl (cy 0, 155, .inl w27))] H := hP
          have hD : va_D A [((a_t 5), .inl (cy 0, 7, .inl f_t_found)), ((a_t 0), oX8 a_t v_t_isKept v_t_bestPost v_t_mostSeen v_t_taped v_t_from v_t_to v_t_isWrong), ((a_t 3), .inl (cy 0, 155, .inl w26)), ((a_t 1), .inl (cy 0, 155, .inl w27))] := hD
          refine lv_bipush (v := (100 : Int32)) hx hb dX8_sightFor_48 (by decide) ?_
          obtain ⟨k30, ek30, h⟩ := bb_cut_o h
          have Jk30 : ∀ (z29 : Int32) (H : Heap) (locs : List Loc) (ls : Array Slot), k30 z29 = some (r, f_t_aside_o, f_t_found_o, f_t_s_o) → va_P (dC, dI) vwCl [((a_t 0), oX8 a_t v_t_isKept v_t_bestPost v_t_mostSeen v_t_taped v_t_from v_t_to v_t_isWrong), ((a_t 3), .inl (cy 0, 155, .inl w26)), ((a_t 5), .inl (cy 0, 7, .inl f_t_found)), ((a_t 1), .inl (cy 0, 155, .inl w27))] H → va_D A [((a_t 0), oX8 a_t v_t_isKept v_t_bestPost v_t_mostSeen v_t_taped v_t_from v_t_to v_t_isWrong), ((a_t 3), .inl (cy 0, 155, .inl w26)), ((a_t 5), .inl (cy 0, 7, .inl f_t_found)), ((a_t 1), .inl (cy 0, 155, .inl w27))] → va_S A s.heap H locs → lv_has ls 5 [(0, .ref (a_t 0)), (1, .int p1), (2, .int (f_t_s (2 : Int32).toNatClampNeg)), (4, .int x4_15)] → WW H locs (F0 m 59 ls [.int z29]) := by
            intro z29 H locs ls h hP hD hS hl
            refine ofW _ _ _ ?_
            subst ek30
            refine lv_istore_n (lv' := [(3, .int z29), (0, .ref (a_t 0)), (1, .int p1), (2, .int (f_t_s (2 : Int32).toNatClampNeg)), (4, .int x4_15)]) hx hb dX8_sightFor_59 rfl hl (by decide) rfl (fun ls hl => ?_)
            refine lv_iinc (v := x4_15 + (1 : Int32)) (lv' := [(4, .int (x4_15 + (1 : Int32))), (3, .int z29), (0, .ref (a_t 0)), (1, .int p1), (2, .int (f_t_s (2 : Int32).toNatClampNeg))]) hx hb dX8_sightFor_60 hl (k := 4) rfl rfl (by decide) rfl (fun ls hl => ?_)
            refine lv_goto (tgt := 26) hx hb dX8_sightFor_63 (by decide) ?_
            rw [erec21] at h
            exact toW _ _ _ (ih23 z29 (x4_15 + (1 : Int32)) w26 w27 _ _ _ h hP hD hS (lv_sub hl [2, 3, 4, 1, 0] rfl))
          refine lv_icmp_le (tgt := 58) hx hb dX8_sightFor_50 (by decide) (fun c31 => ?_) (fun c31 => ?_)
          · replace h := bb_ifp c31 h
            refine lv_iload_n hx hb dX8_sightFor_58 rfl (lv_at hl 3 rfl) ?_
            exact toW _ _ _ (Jk30 x3_14 _ _ _ h (hP.sub [1, 2, 0, 3] rfl) (hD.sub [1, 2, 0, 3] (by decide) rfl) hS (lv_sub hl [0, 1, 2, 4] rfl))
          · replace h := bb_ifn c31 h
            refine lv_iload hx hb dX8_sightFor_53 (lv_at hl 4 rfl) ?_
            refine lv_goto (tgt := 59) hx hb dX8_sightFor_55 (by decide) ?_
            exact toW _ _ _ (Jk30 x4_15 _ _ _ h (hP.sub [1, 2, 0, 3] rfl) (hD.sub [1, 2, 0, 3] (by decide) rfl) hS (lv_sub hl [0, 1, 2, 4] rfl))
    exact toW _ _ _ (L22 nn (-1 : Int32) (0 : Int32) f_t_aside f_t_s _ _ _ h hP hD hS (lv_sub hl [3, 4, 2, 1, 0] rfl))
  · replace h := bb_ifp c5 h
    refine lv_aload_n hx hb dX8_sightFor_8 rfl (lv_at hl 0 rfl) ?_
    refine lv_iconst (v := (0 : Int32)) hx hb dX8_sightFor_9 (by decide) ?_
    obtain ⟨r32, w33, hc34, h⟩ := bb_b2_o h
    refine bb_cwi (wr := [((a_t 3), .inl (cy 0, 155, .inl f_t_aside)), ((a_t 1), .inl (cy 0, 155, .inl f_t_s))]) (w1 := [((a_t 0), oX8 a_t v_t_isKept v_t_bestPost v_t_mostSeen v_t_taped v_t_from v_t_to v_t_isWrong), ((a_t 5), .inl (cy 0, 7, .inl w33))]) (va_runV (As := [.int (0 : Int32)]) (rest := []) ⟨hx, hb, hml, hown, hts⟩ (kX8_finds l dC dI cy s.heap.size a_t (0 : Int32) v_t_isKept v_t_bestPost v_t_mostSeen v_t_taped v_t_from v_t_to v_t_isWrong f_t_found r32 w33 hc34) (cwV 1 hts gX8_sightFor_X8_finds rfl rfl rfl kdX8_finds ⟨Nat.le_of_ble_eq_true rfl, Nat.le_of_ble_eq_true rfl⟩) (bb_preVw (va_recv hK hP (ci := 7) (q0 := 0) rfl rfl) (hP.sub (ws' := [((a_t 0), oX8 a_t v_t_isKept v_t_bestPost v_t_mostSeen v_t_taped v_t_from v_t_to v_t_isWrong), ((a_t 5), .inl (cy 0, 7, .inl f_t_found))]) [0, 2] rfl) hK (hD.sub (ws' := [((a_t 0), oX8 a_t v_t_isKept v_t_bestPost v_t_mostSeen v_t_taped v_t_from v_t_to v_t_isWrong), ((a_t 5), .inl (cy 0, 7, .inl f_t_found))]) [0, 2] (by decide) rfl)) rfl rfl hl.1 rfl (lv_room (Nat.le_of_ble_eq_true rfl)) dX8_sightFor_10 ⟨Nat.zero_le _, Nat.zero_le _⟩) hP hD hS hA [0, 2] [1, 3] rfl rfl (by decide) (by decide) (fun H locs hP hD hS => ?_)
    have hP : va_P (dC, dI) vwCl [((a_t 3), .inl (cy 0, 155, .inl f_t_aside)), ((a_t 1), .inl (cy 0, 155, .inl f_t_s)), ((a_t 0), oX8 a_t v_t_isKept v_t_bestPost v_t_mostSeen v_t_taped v_t_from v_t_to v_t_isWrong), ((a_t 5), .inl (cy 0, 7, .inl w33))] H := hP
    have hD : va_D A [((a_t 3), .inl (cy 0, 155, .inl f_t_aside)), ((a_t 1), .inl (cy 0, 155, .inl f_t_s)), ((a_t 0), oX8 a_t v_t_isKept v_t_bestPost v_t_mostSeen v_t_taped v_t_from v_t_to v_t_isWrong), ((a_t 5), .inl (cy 0, 7, .inl w33))] := hD
    obtain ⟨rfl, rfl, rfl, rfl⟩ := bb_some4 h
    have hP9 := hP.sub (ws' := [((a_t 0), oX8 a_t v_t_isKept v_t_bestPost v_t_mostSeen v_t_taped v_t_from v_t_to v_t_isWrong), ((a_t 3), .inl (cy 0, 155, .inl f_t_aside)), ((a_t 5), .inl (cy 0, 7, .inl w33)), ((a_t 1), .inl (cy 0, 155, .inl f_t_s))]) [2, 0, 3, 1] rfl
    have hD9 := hD.sub (ws' := [((a_t 0), oX8 a_t v_t_isKept v_t_bestPost v_t_mostSeen v_t_taped v_t_from v_t_to v_t_isWrong), ((a_t 3), .inl (cy 0, 155, .inl f_t_aside)), ((a_t 5), .inl (cy 0, 7, .inl w33)), ((a_t 1), .inl (cy 0, 155, .inl f_t_s))]) [2, 0, 3, 1] (by decide) rfl
    exact W.iret hx hb hr (fun t ht hW => ⟨⟨_, (), rfl, rfl, by rw [ht]; exact hP9, va_K.moved hW.alike hK, hD9⟩, hS.F ht⟩) hS.2.2 dX8_sightFor_13
/-! X8_steamOn -/
def uX8_steamOn_s4 (x1_7 : Int32) (f_t_s_8 : Nat → Int32) (k_64 : Int32 → Option (Int32)) (rec9 : Int32 → Int32 → Option (Int32)) (x2_5 : Int32) (x3_6 : Int32) : Option (Int32) :=
  (if (4 : Int32) ≤ x3_6 then k_64 x2_5 else bb_ix ((5 : Int32) + x3_6) 155 (bb_cut (fun (z14 : Int32) => rec9 z14 (x3_6 + (1 : Int32))) (fun k15 => (if 0 ≤ (f_t_s_8 ((5 : Int32) + x3_6).toNatClampNeg) then bb_b1 (uX8_apart (f_t_s_8 ((5 : Int32) + x3_6).toNatClampNeg) x1_7) (fun (r17 : Int32) => bb_ix ((9 : Int32) + x1_7) 155 (k15 (if x2_5 < ((((f_t_s_8 (2 : Int32).toNatClampNeg) - r17) - (f_t_s_8 ((9 : Int32) + x1_7).toNatClampNeg)) + (1 : Int32)) then ((((f_t_s_8 (2 : Int32).toNatClampNeg) - r17) - (f_t_s_8 ((9 : Int32) + x1_7).toNatClampNeg)) + (1 : Int32)) else x2_5))) else k15 x2_5))))
def uX8_steamOn (nn : Nat) (p1 : Int32) (f_t_s : Nat → Int32) : Option (Int32) :=
  bb_cut (fun (x2_1 : Int32) => bb_ix ((9 : Int32) + p1) 155 ((if ((f_t_s ((9 : Int32) + p1).toNatClampNeg) + x2_1) ≤ (9 : Int32) then some x2_1 else some (1000000 : Int32)))) (fun k2 => bb_loop2 (uX8_steamOn_s4 p1 f_t_s k2) nn (0 : Int32) (0 : Int32))
theorem kdX8_steamOn : yX8_steamOn.cls = RX8 ∧ yX8_steamOn.cls ≠ "java/lang/invoke/MethodHandle" ∧ yX8_steamOn.cls ≠ "java/lang/invoke/VarHandle" ∧ (parseMethodDescriptor yX8_steamOn.desc).map (fun d => d.parameters.length) = some 1 := by decide +kernel
set_option maxHeartbeats 4000000 in
set_option maxRecDepth 100000 in
theorem kX8_steamOn (l : Launch) (dC : Nat → ClassId) (dI : Nat → Nat → Nat) (cy : Nat → ClassId) (a_t : Nat → Nat) (p1 : Int32) (v_t_isKept : Int32) (v_t_bestPost : Int32) (v_t_mostSeen : Int32) (v_t_taped : Int32) (v_t_from : Int32) (v_t_to : Int32) (v_t_isWrong : Int32) (f_t_s : Nat → Int32) (nn : Nat) (r : Int32) (h : uX8_steamOn nn p1 f_t_s = some r) : Met l yX8_steamOn wsX8_steamOn ({ frames := 2, cells := 0, slots := 0, locals := 42 }) (va_Pc [.ref (a_t 0), .int p1] (fun U => va_P (dC, dI) vwCl [((a_t 0), oX8 a_t v_t_isKept v_t_bestPost v_t_mostSeen v_t_taped v_t_from v_t_to v_t_isWrong), ((a_t 1), .inl (cy 0, 155, .inl f_t_s))] U.heap ∧ va_K (dC, dI) vwCl (tyX cy) U)) (vp_Si (fun r2 => r = r2)) 0 0 (fun _ => False) := by
  refine Met.ofW (cc := cX8_steamOn) (maxL := 5) (ret := (some .int)) (by decide) rfl ?_
  intro p e s m args below meth c s₁ B hml hv
  obtain ⟨rfl, hP, hK⟩ := hv
  have hx := B.exec
  have hb := B.bytes
  have hr := B.returns
  have hts := atoms_spec (ws := wsX8_steamOn) B.pre
  have hown : s.vm.findClass RX8 = some m.cls := findClass_of_methodNamed B.named
  have hlocks := B.notSynchronized
  have iwX8 : ∀ w ∈ wsX80, w ∈ wsX8_steamOn := fun w h9 => List.mem_cons_of_mem _ (List.mem_append_right _ (h9))
  have lk1 := hts (Cond.fieldLink RX8 9 "BathBorderModel" "s" "[I") (List.mem_of_getElem? (i := 1) rfl)
  have lk2 := hts (Cond.methodLink RX8 220 Lib.Math.max.name) (List.mem_of_getElem? (i := 2) rfl)
  have lk3 := hts (Cond.static Lib.Math.max.name) (List.mem_of_getElem? (i := 3) rfl)
  have lk4 := hts (Cond.initialized "java/lang/Math") (List.mem_of_getElem? (i := 4) rfl)
  have lk5 := hts (Cond.code Lib.Math.max.name Lib.Math.max.code 2 (some .int)) (List.mem_of_getElem? (i := 5) rfl)
  have lk6 := hts (Cond.constant RX8 219 (1000000)) (List.mem_of_getElem? (i := 6) rfl)
  have hl := lv_entry ([.ref (a_t 0), .int p1]) (n := 5) (Nat.le_of_ble_eq_true rfl)
  rw [lg_entry_eq]
  generalize (lg_sl ([.ref (a_t 0), .int p1]) ++ List.replicate (5 - (lg_sl ([.ref (a_t 0), .int p1])).length) Slot.unset).toArray = ls at hl ⊢
  have hl : lv_has ls 5 [(0, .ref (a_t 0)), (1, .int p1)] := hl
  unfold uX8_steamOn at h
  refine bb_cap (fun WW toW ofW => ?_)
  refine lv_iconst (v := (0 : Int32)) hx hb dX8_steamOn_0 (by decide) ?_
  refine lv_istore_n (lv' := [(2, .int (0 : Int32)), (0, .ref (a_t 0)), (1, .int p1)]) hx hb dX8_steamOn_1 rfl hl (by decide) rfl (fun ls hl => ?_)
  refine lv_iconst (v := (0 : Int32)) hx hb dX8_steamOn_2 (by decide) ?_
  refine lv_istore_n (lv' := [(3, .int (0 : Int32)), (2, .int (0 : Int32)), (0, .ref (a_t 0)), (1, .int p1)]) hx hb dX8_steamOn_3 rfl hl (by decide) rfl (fun ls hl => ?_)
  obtain ⟨k2, ek2, h⟩ := bb_cut_o h
  have Jk2 : ∀ (x2_1 : Int32) (ls : Array Slot), k2 x2_1 = some r → lv_has ls 5 [(0, .ref (a_t 0)), (1, .int p1), (2, .int x2_1)] → WW s.heap [] (F0 m 64 ls []) := by
    intro x2_1 ls h hl
    refine ofW _ _ _ ?_
    subst ek2
    refine lv_aload_n hx hb dX8_steamOn_64 rfl (lv_at hl 0 rfl) ?_
    refine va_get (D := (dC, dI)) (ci := 7) (v := .ref (a_t 1)) (C := RX8) (T := TX8) (N := 20) hx hb hts iwX8 hown hK hP 0 rfl rfl 0 (by decide) lk1 (fun _ h9 => h9) rfl dX8_steamOn_65 ?_
    refine lv_bipush (v := (9 : Int32)) hx hb dX8_steamOn_68 (by decide) ?_
    refine lv_iload_n hx hb dX8_steamOn_70 rfl (lv_at hl 1 rfl) ?_
    refine lv_iadd hx hb dX8_steamOn_71 ?_
    obtain ⟨hi3, h⟩ := bb_ix_o h
    refine va_iald hx hb hK hP 1 0 rfl rfl hi3 dX8_steamOn_72 ?_
    refine lv_iload_n hx hb dX8_steamOn_73 rfl (lv_at hl 2 rfl) ?_
    refine lv_iadd hx hb dX8_steamOn_74 ?_
    refine lv_bipush (v := (9 : Int32)) hx hb dX8_steamOn_75 (by decide) ?_
    refine lv_icmp_le (tgt := 85) hx hb dX8_steamOn_77 (by decide) (fun c4 => ?_) (fun c4 => ?_)
    · replace h := bb_ifp c4 h
      refine lv_iload_n hx hb dX8_steamOn_85 rfl (lv_at hl 2 rfl) ?_
      obtain rfl := bb_some1 h
      exact W.iret hx hb hr (fun t ht hW => ⟨_, rfl, rfl, ht⟩) (fun q hq => by cases hq) dX8_steamOn_86
    · replace h := bb_ifn c4 h
      refine lv_ldc (v := (1000000 : Int32)) hx hb hown lk6 dX8_steamOn_80 ?_
      refine lv_goto (tgt := 86) hx hb dX8_steamOn_82 (by decide) ?_
      obtain rfl := bb_some1 h
      exact W.iret hx hb hr (fun t ht hW => ⟨_, rfl, rfl, ht⟩) (fun q hq => by cases hq) dX8_steamOn_86
  have L10 : ∀ (n : Nat) (x2_5 : Int32) (x3_6 : Int32) (ls : Array Slot), bb_loop2 (uX8_steamOn_s4 p1 f_t_s k2) n x2_5 x3_6 = some r → lv_has ls 5 [(0, .ref (a_t 0)), (1, .int p1), (2, .int x2_5), (3, .int x3_6)] → WW s.heap [] (F0 m 4 ls []) := by
    intro n
    induction n with
    | zero => intro x2_5 x3_6 ls h; exact (bb_no h).elim
    | succ n ih11 =>
      intro x2_5 x3_6 ls h hl
      refine ofW _ _ _ ?_
      obtain ⟨rec9, erec9, h⟩ := bb_loop2_o h
      unfold uX8_steamOn_s4 at h
      refine lv_iload_n hx hb dX8_steamOn_4 rfl (lv_at hl 3 rfl) ?_
      refine lv_iconst (v := (4 : Int32)) hx hb dX8_steamOn_5 (by decide) ?_
      refine lv_icmp_ge (tgt := 64) hx hb dX8_steamOn_6 (by decide) (fun c12 => ?_) (fun c12 => ?_)
      · replace h := bb_ifp c12 h
        exact toW _ _ _ (Jk2 x2_5 _ h (lv_sub hl [0, 1, 2] rfl))
      · replace h := bb_ifn c12 h
        refine lv_aload_n hx hb dX8_steamOn_9 rfl (lv_at hl 0 rfl) ?_
        refine va_get (D := (dC, dI)) (ci := 7) (v := .ref (a_t 1)) (C := RX8) (T := TX8) (N := 20) hx hb hts iwX8 hown hK hP 0 rfl rfl 0 (by decide) lk1 (fun _ h9 => h9) rfl dX8_steamOn_10 ?_
        refine lv_iconst (v := (5 : Int32)) hx hb dX8_steamOn_13 (by decide) ?_
        refine lv_iload_n hx hb dX8_steamOn_14 rfl (lv_at hl 3 rfl) ?_
        refine lv_iadd hx hb dX8_steamOn_15 ?_
        obtain ⟨hi13, h⟩ := bb_ix_o h
        refine va_iald hx hb hK hP 1 0 rfl rfl hi13 dX8_steamOn_16 ?_
        refine lv_istore (lv' := [(4, .int (f_t_s ((5 : Int32) + x3_6).toNatClampNeg)), (0, .ref (a_t 0)), (1, .int p1), (2, .int x2_5), (3, .int x3_6)]) hx hb dX8_steamOn_17 hl (by decide) rfl (fun ls hl => ?_)
        refine lv_iload hx hb dX8_steamOn_19 (lv_at hl 0 rfl) ?_
        obtain ⟨k15, ek15, h⟩ := bb_cut_o h
        have Jk15 : ∀ (z14 : Int32) (ls : Array Slot), k15 z14 = some r → lv_has ls 5 [(0, .ref (a_t 0)), (1, .int p1), (3, .int x3_6)] → WW s.heap [] (F0 m 57 ls [.int z14]) := by
          intro z14 ls h hl
          refine ofW _ _ _ ?_
          subst ek15
          refine lv_istore_n (lv' := [(2, .int z14), (0, .ref (a_t 0)), (1, .int p1), (3, .int x3_6)]) hx hb dX8_steamOn_57 rfl hl (by decide) rfl (fun ls hl => ?_)
          refine lv_iinc (v := x3_6 + (1 : Int32)) (lv' := [(3, .int (x3_6 + (1 : Int32))), (2, .int z14), (0, .ref (a_t 0)), (1, .int p1)]) hx hb dX8_steamOn_58 hl (k := 3) rfl rfl (by decide) rfl (fun ls hl => ?_)
          refine lv_goto (tgt := 4) hx hb dX8_steamOn_61 (by decide) ?_
          rw [erec9] at h
          exact toW _ _ _ (ih11 z14 (x3_6 + (1 : Int32)) _ h (lv_sub hl [2, 3, 1, 0] rfl))
        refine lv_if_ge (tgt := 28) hx hb dX8_steamOn_21 (by decide) (fun c16 => ?_) (fun c16 => ?_)
        · replace h := bb_ifp c16 h
          refine lv_iload_n hx hb dX8_steamOn_28 rfl (lv_at hl 3 rfl) ?_
          refine lv_aload_n hx hb dX8_steamOn_29 rfl (lv_at hl 1 rfl) ?_
          refine va_get (D := (dC, dI)) (ci := 7) (v := .ref (a_t 1)) (C := RX8) (T := TX8) (N := 20) hx hb hts iwX8 hown hK hP 0 rfl rfl 0 (by decide) lk1 (fun _ h9 => h9) rfl dX8_steamOn_30 ?_
          refine lv_iconst (v := (2 : Int32)) hx hb dX8_steamOn_33 (by decide) ?_
          refine va_iald hx hb hK hP 1 0 rfl rfl (bb_in (by decide)) dX8_steamOn_34 ?_
          refine lv_iload hx hb dX8_steamOn_35 (lv_at hl 0 rfl) ?_
          refine lv_iload_n hx hb dX8_steamOn_37 rfl (lv_at hl 2 rfl) ?_
          obtain ⟨r17, hc18, h⟩ := bb_b1_o h
          refine vp_callSi (W.runS (As := [.int (f_t_s ((5 : Int32) + x3_6).toNatClampNeg), .int p1]) (rest := [.int (f_t_s (2 : Int32).toNatClampNeg), .int x2_5]) ⟨hx, hb, hml, hown, hts⟩ (kX8_apart l dC dI cy (f_t_s ((5 : Int32) + x3_6).toNatClampNeg) p1 r17 hc18) (va_cwS 2 hts gX8_steamOn_X8_apart rfl rfl rfl kdX8_apart ⟨Nat.le_of_ble_eq_true rfl, Nat.le_of_ble_eq_true rfl⟩) (bb_preS (hP.sub (ws' := []) [] rfl) hK) rfl rfl hl.1 rfl (lv_room (Nat.le_of_ble_eq_true rfl)) dX8_steamOn_38 ⟨Nat.zero_le _, Nat.zero_le _⟩) (fun t19 et19 => ?_)
          obtain rfl := et19
          refine lv_isub hx hb dX8_steamOn_41 ?_
          refine lv_aload_n hx hb dX8_steamOn_42 rfl (lv_at hl 1 rfl) ?_
          refine va_get (D := (dC, dI)) (ci := 7) (v := .ref (a_t 1)) (C := RX8) (T := TX8) (N := 20) hx hb hts iwX8 hown hK hP 0 rfl rfl 0 (by decide) lk1 (fun _ h9 => h9) rfl dX8_steamOn_43 ?_
          refine lv_bipush (v := (9 : Int32)) hx hb dX8_steamOn_46 (by decide) ?_
          refine lv_iload_n hx hb dX8_steamOn_48 rfl (lv_at hl 2 rfl) ?_
          refine lv_iadd hx hb dX8_steamOn_49 ?_
          obtain ⟨hi20, h⟩ := bb_ix_o h
          refine va_iald hx hb hK hP 1 0 rfl rfl hi20 dX8_steamOn_50 ?_
          refine lv_isub hx hb dX8_steamOn_51 ?_
          refine lv_iconst (v := (1 : Int32)) hx hb dX8_steamOn_52 (by decide) ?_
          refine lv_iadd hx hb dX8_steamOn_53 ?_
          refine va_mmax hx hb (hml.trans hl.1.symm) hown lk2 lk3 lk4 lk5 (Nat.le_of_ble_eq_true rfl) (Nat.le_of_ble_eq_true rfl) (Nat.zero_le _) (Nat.zero_le _) dX8_steamOn_54 ?_
          exact toW _ _ _ (Jk15 (if x2_5 < ((((f_t_s (2 : Int32).toNatClampNeg) - r17) - (f_t_s ((9 : Int32) + p1).toNatClampNeg)) + (1 : Int32)) then ((((f_t_s (2 : Int32).toNatClampNeg) - r17) - (f_t_s ((9 : Int32) + p1).toNatClampNeg)) + (1 : Int32)) else x2_5) _ h (lv_sub hl [1, 2, 4] rfl))
        · replace h := bb_ifn c16 h
          refine lv_iload_n hx hb dX8_steamOn_24 rfl (lv_at hl 3 rfl) ?_
          refine lv_goto (tgt := 57) hx hb dX8_steamOn_25 (by decide) ?_
          exact toW _ _ _ (Jk15 x2_5 _ h (lv_sub hl [1, 2, 4] rfl))
  exact toW _ _ _ (L10 nn (0 : Int32) (0 : Int32) _ h (lv_sub hl [2, 3, 1, 0] rfl))
/-! X8_findPrices -/
def uX8_findPrices_s2 (nn : Nat) (x1_3 : Int32) (f_t_s_4 : Nat → Int32) (rec5 : Int32 → (Nat → Int32) → Option ((Nat → Int32))) (x2_1 : Int32) (f_t_price_2 : Nat → Int32) : Option ((Nat → Int32)) :=
  (if (48 : Int32) ≤ x2_1 then some f_t_price_2 else bb_cut (fun (z9 : Int32) => bb_ix x2_1 48 (rec5 (x2_1 + (1 : Int32)) (upd f_t_price_2 x2_1.toNatClampNeg z9))) (fun k10 => (if x1_3 = 0 then bb_b1 (uX8_isSeen nn x2_1 f_t_s_4) (fun (r13 : Int32) => (if r13 = 0 then k10 (1 : Int32) else k10 (1000000 : Int32))) else bb_b1 (uX8_steamOn nn x2_1 f_t_s_4) (fun (r18 : Int32) => k10 r18))))
def uX8_findPrices (nn : Nat) (p1 : Int32) (f_t_price : Nat → Int32) (f_t_s : Nat → Int32) : Option ((Nat → Int32)) :=
  bb_loop2 (uX8_findPrices_s2 nn p1 f_t_s) nn (0 : Int32) f_t_price
theorem kdX8_findPrices : yX8_findPrices.cls = RX8 ∧ yX8_findPrices.cls ≠ "java/lang/invoke/MethodHandle" ∧ yX8_findPrices.cls ≠ "java/lang/invoke/VarHandle" ∧ (parseMethodDescriptor yX8_findPrices.desc).map (fun d => d.parameters.length) = some 1 := by decide +kernel
set_option maxHeartbeats 4000000 in
set_option maxRecDepth 100000 in
theorem kX8_findPrices (l : Launch) (dC : Nat → ClassId) (dI : Nat → Nat → Nat) (cy : Nat → ClassId) (sz : Nat) (a_t : Nat → Nat) (p1 : Int32) (v_t_isKept : Int32) (v_t_bestPost : Int32) (v_t_mostSeen : Int32) (v_t_taped : Int32) (v_t_from : Int32) (v_t_to : Int32) (v_t_isWrong : Int32) (f_t_price : Nat → Int32) (f_t_s : Nat → Int32) (nn : Nat) (f_t_price_o : Nat → Int32) (h : uX8_findPrices nn p1 f_t_price f_t_s = some f_t_price_o) : Met l yX8_findPrices wsX8_findPrices ({ frames := 5, cells := 0, slots := 0, locals := 108 }) (va_Pc [.ref (a_t 0), .int p1] (fun U => U.heap.size = sz ∧ va_P (dC, dI) vwCl [((a_t 0), oX8 a_t v_t_isKept v_t_bestPost v_t_mostSeen v_t_taped v_t_from v_t_to v_t_isWrong), ((a_t 7), .inl (cy 0, 48, .inl f_t_price)), ((a_t 1), .inl (cy 0, 155, .inl f_t_s))] U.heap ∧ va_K (dC, dI) vwCl (tyX cy) U ∧ va_D (fun _ => True) [((a_t 0), oX8 a_t v_t_isKept v_t_bestPost v_t_mostSeen v_t_taped v_t_from v_t_to v_t_isWrong), ((a_t 7), .inl (cy 0, 48, .inl f_t_price)), ((a_t 1), .inl (cy 0, 155, .inl f_t_s))])) (va_Qv (fun (_ : Unit) => True) (fun _ t => va_P (dC, dI) vwCl [((a_t 0), oX8 a_t v_t_isKept v_t_bestPost v_t_mostSeen v_t_taped v_t_from v_t_to v_t_isWrong), ((a_t 7), .inl (cy 0, 48, .inl f_t_price_o)), ((a_t 1), .inl (cy 0, 155, .inl f_t_s))] t.heap ∧ va_K (dC, dI) vwCl (tyX cy) t ∧ va_D (va_A [((a_t 0), oX8 a_t v_t_isKept v_t_bestPost v_t_mostSeen v_t_taped v_t_from v_t_to v_t_isWrong), ((a_t 7), .inl (cy 0, 48, .inl f_t_price)), ((a_t 1), .inl (cy 0, 155, .inl f_t_s))] sz) [((a_t 0), oX8 a_t v_t_isKept v_t_bestPost v_t_mostSeen v_t_taped v_t_from v_t_to v_t_isWrong), ((a_t 7), .inl (cy 0, 48, .inl f_t_price_o)), ((a_t 1), .inl (cy 0, 155, .inl f_t_s))]) (va_A [((a_t 0), oX8 a_t v_t_isKept v_t_bestPost v_t_mostSeen v_t_taped v_t_from v_t_to v_t_isWrong), ((a_t 7), .inl (cy 0, 48, .inl f_t_price)), ((a_t 1), .inl (cy 0, 155, .inl f_t_s))] sz)) 0 0 (va_A [((a_t 0), oX8 a_t v_t_isKept v_t_bestPost v_t_mostSeen v_t_taped v_t_from v_t_to v_t_isWrong), ((a_t 7), .inl (cy 0, 48, .inl f_t_price)), ((a_t 1), .inl (cy 0, 155, .inl f_t_s))] sz) := by
  refine Met.ofW (cc := cX8_findPrices) (maxL := 3) (ret := none) (by decide) rfl ?_
  intro p e s m args below meth c s₁ B hml hv
  obtain ⟨rfl, hsz, hP, hK, hD0⟩ := hv
  have hx := B.exec
  have hb := B.bytes
  have hr := B.returns
  have hts := atoms_spec (ws := wsX8_findPrices) B.pre
  have hown : s.vm.findClass RX8 = some m.cls := findClass_of_methodNamed B.named
  have hlocks := B.notSynchronized
  have iwX8 : ∀ w ∈ wsX80, w ∈ wsX8_findPrices := fun w h9 => List.mem_cons_of_mem _ (List.mem_append_right _ (h9))
  have lk1 := hts (Cond.fieldLink RX8 25 "BathBorderModel" "price" "[I") (List.mem_of_getElem? (i := 1) rfl)
  have lk2 := hts (Cond.constant RX8 219 (1000000)) (List.mem_of_getElem? (i := 2) rfl)
  subst hsz
  have hD := hD0.self (sz := s.heap.size)
  generalize hAe : va_A [((a_t 0), oX8 a_t v_t_isKept v_t_bestPost v_t_mostSeen v_t_taped v_t_from v_t_to v_t_isWrong), ((a_t 7), .inl (cy 0, 48, .inl f_t_price)), ((a_t 1), .inl (cy 0, 155, .inl f_t_s))] s.heap.size = A at hD ⊢
  have hA : ∀ q : Nat, s.heap.size ≤ q → A q := fun q h => by rw [← hAe]; exact Or.inr h
  have hS : va_S A s.heap s.heap [] := va_S.rf
  have hP : va_P (dC, dI) vwCl [((a_t 0), oX8 a_t v_t_isKept v_t_bestPost v_t_mostSeen v_t_taped v_t_from v_t_to v_t_isWrong), ((a_t 7), .inl (cy 0, 48, .inl f_t_price)), ((a_t 1), .inl (cy 0, 155, .inl f_t_s))] s.heap := hP
  have hl := lv_entry ([.ref (a_t 0), .int p1]) (n := 3) (Nat.le_of_ble_eq_true rfl)
  rw [lg_entry_eq]
  generalize (lg_sl ([.ref (a_t 0), .int p1]) ++ List.replicate (3 - (lg_sl ([.ref (a_t 0), .int p1])).length) Slot.unset).toArray = ls at hl ⊢
  have hl : lv_has ls 3 [(0, .ref (a_t 0)), (1, .int p1)] := hl
  unfold uX8_findPrices at h
  refine bb_cap (fun WW toW ofW => ?_)
  refine lv_iconst (v := (0 : Int32)) hx hb dX8_findPrices_0 (by decide) ?_
  refine lv_istore_n (lv' := [(2, .int (0 : Int32)), (0, .ref (a_t 0)), (1, .int p1)]) hx hb dX8_findPrices_1 rfl hl (by decide) rfl (fun ls hl => ?_)
  have L6 : ∀ (n : Nat) (x2_1 : Int32) (f_t_price_2 : Nat → Int32) (H : Heap) (locs : List Loc) (ls : Array Slot), bb_loop2 (uX8_findPrices_s2 nn p1 f_t_s) n x2_1 f_t_price_2 = some f_t_price_o → va_P (dC, dI) vwCl [((a_t 0), oX8 a_t v_t_isKept v_t_bestPost v_t_mostSeen v_t_taped v_t_from v_t_to v_t_isWrong), ((a_t 7), .inl (cy 0, 48, .inl f_t_price_2)), ((a_t 1), .inl (cy 0, 155, .inl f_t_s))] H → va_D A [((a_t 0), oX8 a_t v_t_isKept v_t_bestPost v_t_mostSeen v_t_taped v_t_from v_t_to v_t_isWrong), ((a_t 7), .inl (cy 0, 48, .inl f_t_price_2)), ((a_t 1), .inl (cy 0, 155, .inl f_t_s))] → va_S A s.heap H locs → lv_has ls 3 [(0, .ref (a_t 0)), (1, .int p1), (2, .int x2_1)] → WW H locs (F0 m 2 ls []) := by
    intro n
    induction n with
    | zero => intro x2_1 f_t_price_2 H locs ls h; exact (bb_no h).elim
    | succ n ih7 =>
      intro x2_1 f_t_price_2 H locs ls h hP hD hS hl
      refine ofW _ _ _ ?_
      obtain ⟨rec5, erec5, h⟩ := bb_loop2_o h
      unfold uX8_findPrices_s2 at h
      refine lv_iload_n hx hb dX8_findPrices_2 rfl (lv_at hl 2 rfl) ?_
      refine lv_bipush (v := (48 : Int32)) hx hb dX8_findPrices_3 (by decide) ?_
      refine lv_icmp_ge (tgt := 46) hx hb dX8_findPrices_5 (by decide) (fun c8 => ?_) (fun c8 => ?_)
      · replace h := bb_ifp c8 h
        obtain rfl := bb_some1 h
        have hP9 := hP.sub (ws' := [((a_t 0), oX8 a_t v_t_isKept v_t_bestPost v_t_mostSeen v_t_taped v_t_from v_t_to v_t_isWrong), ((a_t 7), .inl (cy 0, 48, .inl f_t_price_2)), ((a_t 1), .inl (cy 0, 155, .inl f_t_s))]) [0, 1, 2] rfl
        have hD9 := hD.sub (ws' := [((a_t 0), oX8 a_t v_t_isKept v_t_bestPost v_t_mostSeen v_t_taped v_t_from v_t_to v_t_isWrong), ((a_t 7), .inl (cy 0, 48, .inl f_t_price_2)), ((a_t 1), .inl (cy 0, 155, .inl f_t_s))]) [0, 1, 2] (by decide) rfl
        exact W.vret hx hb hr (fun t ht hW => ⟨⟨(), rfl, trivial, by rw [ht]; exact hP9, va_K.moved hW.alike hK, hD9⟩, hS.F ht⟩) hS.2.2 dX8_findPrices_46
      · replace h := bb_ifn c8 h
        refine lv_aload_n hx hb dX8_findPrices_8 rfl (lv_at hl 0 rfl) ?_
        refine va_get (D := (dC, dI)) (ci := 7) (v := .ref (a_t 7)) (C := RX8) (T := TX8) (N := 20) hx hb hts iwX8 hown hK hP 0 rfl rfl 6 (by decide) lk1 (fun _ h9 => h9) rfl dX8_findPrices_9 ?_
        refine lv_iload_n hx hb dX8_findPrices_12 rfl (lv_at hl 2 rfl) ?_
        refine lv_iload_n hx hb dX8_findPrices_13 rfl (lv_at hl 1 rfl) ?_
        obtain ⟨k10, ek10, h⟩ := bb_cut_o h
        have Jk10 : ∀ (z9 : Int32) (H : Heap) (locs : List Loc) (ls : Array Slot), k10 z9 = some f_t_price_o → va_P (dC, dI) vwCl [((a_t 0), oX8 a_t v_t_isKept v_t_bestPost v_t_mostSeen v_t_taped v_t_from v_t_to v_t_isWrong), ((a_t 7), .inl (cy 0, 48, .inl f_t_price_2)), ((a_t 1), .inl (cy 0, 155, .inl f_t_s))] H → va_D A [((a_t 0), oX8 a_t v_t_isKept v_t_bestPost v_t_mostSeen v_t_taped v_t_from v_t_to v_t_isWrong), ((a_t 7), .inl (cy 0, 48, .inl f_t_price_2)), ((a_t 1), .inl (cy 0, 155, .inl f_t_s))] → va_S A s.heap H locs → lv_has ls 3 [(0, .ref (a_t 0)), (1, .int p1), (2, .int x2_1)] → WW H locs (F0 m 39 ls [.int z9, .int x2_1, .ref (a_t 7)]) := by
          intro z9 H locs ls h hP hD hS hl
          refine ofW _ _ _ ?_
          subst ek10
          obtain ⟨hi11, h⟩ := bb_ix_o h
          refine va_iast hx hb hK hP hD hS 1 0 rfl rfl hi11 dX8_findPrices_39 (fun H locs hP hD hS => ?_)
          have hP : va_P (dC, dI) vwCl [((a_t 0), oX8 a_t v_t_isKept v_t_bestPost v_t_mostSeen v_t_taped v_t_from v_t_to v_t_isWrong), ((a_t 7), .inl (cy 0, 48, .inl (upd f_t_price_2 x2_1.toNatClampNeg z9))), ((a_t 1), .inl (cy 0, 155, .inl f_t_s))] H := hP
          have hD : va_D A [((a_t 0), oX8 a_t v_t_isKept v_t_bestPost v_t_mostSeen v_t_taped v_t_from v_t_to v_t_isWrong), ((a_t 7), .inl (cy 0, 48, .inl (upd f_t_price_2 x2_1.toNatClampNeg z9))), ((a_t 1), .inl (cy 0, 155, .inl f_t_s))] := hD
          refine lv_iinc (v := x2_1 + (1 : Int32)) (lv' := [(2, .int (x2_1 + (1 : Int32))), (0, .ref (a_t 0)), (1, .int p1)]) hx hb dX8_findPrices_40 hl (k := 2) rfl rfl (by decide) rfl (fun ls hl => ?_)
          refine lv_goto (tgt := 2) hx hb dX8_findPrices_43 (by decide) ?_
          rw [erec5] at h
          exact toW _ _ _ (ih7 (x2_1 + (1 : Int32)) (upd f_t_price_2 x2_1.toNatClampNeg z9) _ _ _ h hP hD hS (lv_sub hl [1, 2, 0] rfl))
        refine lv_if_eq (tgt := 25) hx hb dX8_findPrices_14 (by decide) (fun c12 => ?_) (fun c12 => ?_)
        · replace h := bb_ifp c12 h
          refine lv_aload_n hx hb dX8_findPrices_25 rfl (lv_at hl 0 rfl) ?_
          refine lv_iload_n hx hb dX8_findPrices_26 rfl (lv_at hl 2 rfl) ?_
          obtain ⟨r13, hc14, h⟩ := bb_b1_o h
          refine vp_callSi (W.runV (As := [.int x2_1]) (rest := [.int x2_1, .ref (a_t 7)]) ⟨hx, hb, hml, hown, hts⟩ (kX8_isSeen l dC dI cy a_t x2_1 v_t_isKept v_t_bestPost v_t_mostSeen v_t_taped v_t_from v_t_to v_t_isWrong f_t_s nn r13 hc14) (cwV 1 hts gX8_findPrices_X8_isSeen rfl rfl rfl kdX8_isSeen ⟨Nat.le_of_ble_eq_true rfl, Nat.le_of_ble_eq_true rfl⟩) (bb_preV (va_recv hK hP (ci := 7) (q0 := 0) rfl rfl) (hP.sub (ws' := [((a_t 0), oX8 a_t v_t_isKept v_t_bestPost v_t_mostSeen v_t_taped v_t_from v_t_to v_t_isWrong), ((a_t 1), .inl (cy 0, 155, .inl f_t_s))]) [0, 2] rfl) hK) rfl rfl hl.1 rfl (lv_room (Nat.le_of_ble_eq_true rfl)) dX8_findPrices_27 ⟨Nat.zero_le _, Nat.zero_le _⟩) (fun t15 et15 => ?_)
          obtain ⟨rfl, hz16⟩ := et15
          refine lv_if_eq (tgt := 38) hx hb dX8_findPrices_30 (by decide) (fun c17 => ?_) (fun c17 => ?_)
          · replace h := bb_ifp c17 h
            refine lv_iconst (v := (1 : Int32)) hx hb dX8_findPrices_38 (by decide) ?_
            exact toW _ _ _ (Jk10 (1 : Int32) _ _ _ h hP hD hS (lv_sub hl [0, 1, 2] rfl))
          · replace h := bb_ifn c17 h
            refine lv_ldc (v := (1000000 : Int32)) hx hb hown lk2 dX8_findPrices_33 ?_
            refine lv_goto (tgt := 39) hx hb dX8_findPrices_35 (by decide) ?_
            exact toW _ _ _ (Jk10 (1000000 : Int32) _ _ _ h hP hD hS (lv_sub hl [0, 1, 2] rfl))
        · replace h := bb_ifn c12 h
          refine lv_aload_n hx hb dX8_findPrices_17 rfl (lv_at hl 0 rfl) ?_
          refine lv_iload_n hx hb dX8_findPrices_18 rfl (lv_at hl 2 rfl) ?_
          obtain ⟨r18, hc19, h⟩ := bb_b1_o h
          refine vp_callSi (W.runV (As := [.int x2_1]) (rest := [.int x2_1, .ref (a_t 7)]) ⟨hx, hb, hml, hown, hts⟩ (kX8_steamOn l dC dI cy a_t x2_1 v_t_isKept v_t_bestPost v_t_mostSeen v_t_taped v_t_from v_t_to v_t_isWrong f_t_s nn r18 hc19) (cwV 1 hts gX8_findPrices_X8_steamOn rfl rfl rfl kdX8_steamOn ⟨Nat.le_of_ble_eq_true rfl, Nat.le_of_ble_eq_true rfl⟩) (bb_preV (va_recv hK hP (ci := 7) (q0 := 0) rfl rfl) (hP.sub (ws' := [((a_t 0), oX8 a_t v_t_isKept v_t_bestPost v_t_mostSeen v_t_taped v_t_from v_t_to v_t_isWrong), ((a_t 1), .inl (cy 0, 155, .inl f_t_s))]) [0, 2] rfl) hK) rfl rfl hl.1 rfl (lv_room (Nat.le_of_ble_eq_true rfl)) dX8_findPrices_19 ⟨Nat.zero_le _, Nat.zero_le _⟩) (fun t20 et20 => ?_)
          obtain rfl := et20
          refine lv_goto (tgt := 39) hx hb dX8_findPrices_22 (by decide) ?_
          exact toW _ _ _ (Jk10 r18 _ _ _ h hP hD hS (lv_sub hl [0, 1, 2] rfl))
  exact toW _ _ _ (L6 nn (0 : Int32) f_t_price _ _ _ h hP hD hS (lv_sub hl [1, 2, 0] rfl))
/-! X8_nearest -/
def uX8_nearest_s4 (f_t_far_3 : Nat → Int32) (f_t_isDone_4 : Nat → Int32) (rec5 : Int32 → Int32 → Option (Int32)) (x1_1 : Int32) (x2_2 : Int32) : Option (Int32) :=
  (if (48 : Int32) ≤ x2_2 then some x1_1 else bb_ix x2_2 48 (bb_cut (fun (z10 : Int32) => rec5 z10 (x2_2 + (1 : Int32))) (fun k11 => bb_cut (fun (u12 : Unit) => k11 x1_1) (fun k13 => (if (f_t_isDone_4 x2_2.toNatClampNeg) = 0 then bb_ix x2_2 48 ((if (1000000 : Int32) ≤ (f_t_far_3 x2_2.toNatClampNeg) then k13 () else bb_cut (fun (u17 : Unit) => k11 x2_2) (fun k18 => (if x1_1 < 0 then k18 () else bb_ix x2_2 48 (bb_ix x1_1 48 ((if (f_t_far_3 x1_1.toNatClampNeg) ≤ (f_t_far_3 x2_2.toNatClampNeg) then k13 () else k18 ()))))))) else k13 ())))))
def uX8_nearest (nn : Nat) (f_t_far : Nat → Int32) (f_t_isDone : Nat → Int32) : Option (Int32) :=
  bb_loop2 (uX8_nearest_s4 f_t_far f_t_isDone) nn (-1 : Int32) (0 : Int32)
theorem kdX8_nearest : yX8_nearest.cls = RX8 ∧ yX8_nearest.cls ≠ "java/lang/invoke/MethodHandle" ∧ yX8_nearest.cls ≠ "java/lang/invoke/VarHandle" ∧ (parseMethodDescriptor yX8_nearest.desc).map (fun d => d.parameters.length) = some 0 := by decide +kernel
set_option maxHeartbeats 4000000 in
set_option maxRecDepth 100000 in
theorem kX8_nearest (l : Launch) (dC : Nat → ClassId) (dI : Nat → Nat → Nat) (cy : Nat → ClassId) (a_t : Nat → Nat) (v_t_isKept : Int32) (v_t_bestPost : Int32) (v_t_mostSeen : Int32) (v_t_taped : Int32) (v_t_from : Int32) (v_t_to : Int32) (v_t_isWrong : Int32) (f_t_far : Nat → Int32) (f_t_isDone : Nat → Int32) (nn : Nat) (r : Int32) (h : uX8_nearest nn f_t_far f_t_isDone = some r) : Met l yX8_nearest wsX8_nearest ({ frames := 0, cells := 0, slots := 0, locals := 0 }) (va_Pc [.ref (a_t 0)] (fun U => va_P (dC, dI) vwCl [((a_t 0), oX8 a_t v_t_isKept v_t_bestPost v_t_mostSeen v_t_taped v_t_from v_t_to v_t_isWrong), ((a_t 6), .inl (cy 0, 48, .inl f_t_far)), ((a_t 8), .inl (cy 2, 48, .inl f_t_isDone))] U.heap ∧ va_K (dC, dI) vwCl (tyX cy) U)) (vp_Si (fun r2 => r = r2)) 0 0 (fun _ => False) := by
  refine Met.ofW (cc := cX8_nearest) (maxL := 3) (ret := (some .int)) (by decide) rfl ?_
  intro p e s m args below meth c s₁ B hml hv
  obtain ⟨rfl, hP, hK⟩ := hv
  have hx := B.exec
  have hb := B.bytes
  have hr := B.returns
  have hts := atoms_spec (ws := wsX8_nearest) B.pre
  have hown : s.vm.findClass RX8 = some m.cls := findClass_of_methodNamed B.named
  have hlocks := B.notSynchronized
  have iwX8 : ∀ w ∈ wsX80, w ∈ wsX8_nearest := fun w h9 => List.mem_cons_of_mem _ (List.mem_append_right _ (h9))
  have lk1 := hts (Cond.fieldLink RX8 28 "BathBorderModel" "isDone" "[Z") (List.mem_of_getElem? (i := 1) rfl)
  have lk2 := hts (Cond.fieldLink RX8 22 "BathBorderModel" "far" "[I") (List.mem_of_getElem? (i := 2) rfl)
  have lk3 := hts (Cond.constant RX8 219 (1000000)) (List.mem_of_getElem? (i := 3) rfl)
  have hl := lv_entry ([.ref (a_t 0)]) (n := 3) (Nat.le_of_ble_eq_true rfl)
  rw [lg_entry_eq]
  generalize (lg_sl ([.ref (a_t 0)]) ++ List.replicate (3 - (lg_sl ([.ref (a_t 0)])).length) Slot.unset).toArray = ls at hl ⊢
  have hl : lv_has ls 3 [(0, .ref (a_t 0))] := hl
  unfold uX8_nearest at h
  refine bb_cap (fun WW toW ofW => ?_)
  refine lv_iconst (v := (-1 : Int32)) hx hb dX8_nearest_0 (by decide) ?_
  refine lv_istore_n (lv' := [(1, .int (-1 : Int32)), (0, .ref (a_t 0))]) hx hb dX8_nearest_1 rfl hl (by decide) rfl (fun ls hl => ?_)
  refine lv_iconst (v := (0 : Int32)) hx hb dX8_nearest_2 (by decide) ?_
  refine lv_istore_n (lv' := [(2, .int (0 : Int32)), (1, .int (-1 : Int32)), (0, .ref (a_t 0))]) hx hb dX8_nearest_3 rfl hl (by decide) rfl (fun ls hl => ?_)
  have L6 : ∀ (n : Nat) (x1_1 : Int32) (x2_2 : Int32) (ls : Array Slot), bb_loop2 (uX8_nearest_s4 f_t_far f_t_isDone) n x1_1 x2_2 = some r → lv_has ls 3 [(0, .ref (a_t 0)), (1, .int x1_1), (2, .int x2_2)] → WW s.heap [] (F0 m 4 ls []) := by
    intro n
    induction n with
    | zero => intro x1_1 x2_2 ls h; exact (bb_no h).elim
    | succ n ih7 =>
      intro x1_1 x2_2 ls h hl
      refine ofW _ _ _ ?_
      obtain ⟨rec5, erec5, h⟩ := bb_loop2_o h
      unfold uX8_nearest_s4 at h
      refine lv_iload_n hx hb dX8_nearest_4 rfl (lv_at hl 2 rfl) ?_
      refine lv_bipush (v := (48 : Int32)) hx hb dX8_nearest_5 (by decide) ?_
      refine lv_icmp_ge (tgt := 61) hx hb dX8_nearest_7 (by decide) (fun c8 => ?_) (fun c8 => ?_)
      · replace h := bb_ifp c8 h
        refine lv_iload_n hx hb dX8_nearest_61 rfl (lv_at hl 1 rfl) ?_
        obtain rfl := bb_some1 h
        exact W.iret hx hb hr (fun t ht hW => ⟨_, rfl, rfl, ht⟩) (fun q hq => by cases hq) dX8_nearest_62
      · replace h := bb_ifn c8 h
        refine lv_aload_n hx hb dX8_nearest_10 rfl (lv_at hl 0 rfl) ?_
        refine va_get (D := (dC, dI)) (ci := 7) (v := .ref (a_t 8)) (C := RX8) (T := TX8) (N := 20) hx hb hts iwX8 hown hK hP 0 rfl rfl 7 (by decide) lk1 (fun _ h9 => h9) rfl dX8_nearest_11 ?_
        refine lv_iload_n hx hb dX8_nearest_14 rfl (lv_at hl 2 rfl) ?_
        obtain ⟨hi9, h⟩ := bb_ix_o h
        refine va_zald hx hb hK hP 2 2 rfl rfl hi9 dX8_nearest_15 ?_
        obtain ⟨k11, ek11, h⟩ := bb_cut_o h
        have Jk11 : ∀ (z10 : Int32) (ls : Array Slot), k11 z10 = some r → lv_has ls 3 [(0, .ref (a_t 0)), (2, .int x2_2)] → WW s.heap [] (F0 m 54 ls [.int z10]) := by
          intro z10 ls h hl
          refine ofW _ _ _ ?_
          subst ek11
          refine lv_istore_n (lv' := [(1, .int z10), (0, .ref (a_t 0)), (2, .int x2_2)]) hx hb dX8_nearest_54 rfl hl (by decide) rfl (fun ls hl => ?_)
          refine lv_iinc (v := x2_2 + (1 : Int32)) (lv' := [(2, .int (x2_2 + (1 : Int32))), (1, .int z10), (0, .ref (a_t 0))]) hx hb dX8_nearest_55 hl (k := 2) rfl rfl (by decide) rfl (fun ls hl => ?_)
          refine lv_goto (tgt := 4) hx hb dX8_nearest_58 (by decide) ?_
          rw [erec5] at h
          exact toW _ _ _ (ih7 z10 (x2_2 + (1 : Int32)) _ h (lv_sub hl [2, 1, 0] rfl))
        obtain ⟨k13, ek13, h⟩ := bb_cut_o h
        have Jk13 : ∀ (u12 : Unit) (ls : Array Slot), k13 u12 = some r → lv_has ls 3 [(0, .ref (a_t 0)), (1, .int x1_1), (2, .int x2_2)] → WW s.heap [] (F0 m 53 ls []) := by
          intro u12 ls h hl
          refine ofW _ _ _ ?_
          subst ek13
          refine lv_iload_n hx hb dX8_nearest_53 rfl (lv_at hl 1 rfl) ?_
          exact toW _ _ _ (Jk11 x1_1 _ h (lv_sub hl [0, 2] rfl))
        refine lv_if_ne (tgt := 53) hx hb dX8_nearest_16 (by decide) (fun c14 => ?_) (fun c14 => ?_)
        · replace h := bb_ifn c14 h
          exact toW _ _ _ (Jk13 () _ h (lv_sub hl [0, 1, 2] rfl))
        · replace h := bb_ifp c14 h
          refine lv_aload_n hx hb dX8_nearest_19 rfl (lv_at hl 0 rfl) ?_
          refine va_get (D := (dC, dI)) (ci := 7) (v := .ref (a_t 6)) (C := RX8) (T := TX8) (N := 20) hx hb hts iwX8 hown hK hP 0 rfl rfl 5 (by decide) lk2 (fun _ h9 => h9) rfl dX8_nearest_20 ?_
          refine lv_iload_n hx hb dX8_nearest_23 rfl (lv_at hl 2 rfl) ?_
          obtain ⟨hi15, h⟩ := bb_ix_o h
          refine va_iald hx hb hK hP 1 0 rfl rfl hi15 dX8_nearest_24 ?_
          refine lv_ldc (v := (1000000 : Int32)) hx hb hown lk3 dX8_nearest_25 ?_
          refine lv_icmp_ge (tgt := 53) hx hb dX8_nearest_27 (by decide) (fun c16 => ?_) (fun c16 => ?_)
          · replace h := bb_ifp c16 h
            exact toW _ _ _ (Jk13 () _ h (lv_sub hl [0, 1, 2] rfl))
          · replace h := bb_ifn c16 h
            refine lv_iload_n hx hb dX8_nearest_30 rfl (lv_at hl 1 rfl) ?_
            obtain ⟨k18, ek18, h⟩ := bb_cut_o h
            have Jk18 : ∀ (u17 : Unit) (ls : Array Slot), k18 u17 = some r → lv_has ls 3 [(0, .ref (a_t 0)), (2, .int x2_2)] → WW s.heap [] (F0 m 49 ls []) := by
              intro u17 ls h hl
              refine ofW _ _ _ ?_
              subst ek18
              refine lv_iload_n hx hb dX8_nearest_49 rfl (lv_at hl 1 rfl) ?_
              refine lv_goto (tgt := 54) hx hb dX8_nearest_50 (by decide) ?_
              exact toW _ _ _ (Jk11 x2_2 _ h (lv_sub hl [0, 1] rfl))
            refine lv_if_lt (tgt := 49) hx hb dX8_nearest_31 (by decide) (fun c19 => ?_) (fun c19 => ?_)
            · replace h := bb_ifp c19 h
              exact toW _ _ _ (Jk18 () _ h (lv_sub hl [0, 2] rfl))
            · replace h := bb_ifn c19 h
              refine lv_aload_n hx hb dX8_nearest_34 rfl (lv_at hl 0 rfl) ?_
              refine va_get (D := (dC, dI)) (ci := 7) (v := .ref (a_t 6)) (C := RX8) (T := TX8) (N := 20) hx hb hts iwX8 hown hK hP 0 rfl rfl 5 (by decide) lk2 (fun _ h9 => h9) rfl dX8_nearest_35 ?_
              refine lv_iload_n hx hb dX8_nearest_38 rfl (lv_at hl 2 rfl) ?_
              obtain ⟨hi20, h⟩ := bb_ix_o h
              refine va_iald hx hb hK hP 1 0 rfl rfl hi20 dX8_nearest_39 ?_
              refine lv_aload_n hx hb dX8_nearest_40 rfl (lv_at hl 0 rfl) ?_
              refine va_get (D := (dC, dI)) (ci := 7) (v := .ref (a_t 6)) (C := RX8) (T := TX8) (N := 20) hx hb hts iwX8 hown hK hP 0 rfl rfl 5 (by decide) lk2 (fun _ h9 => h9) rfl dX8_nearest_41 ?_
              refine lv_iload_n hx hb dX8_nearest_44 rfl (lv_at hl 1 rfl) ?_
              obtain ⟨hi21, h⟩ := bb_ix_o h
              refine va_iald hx hb hK hP 1 0 rfl rfl hi21 dX8_nearest_45 ?_
              refine lv_icmp_ge (tgt := 53) hx hb dX8_nearest_46 (by decide) (fun c22 => ?_) (fun c22 => ?_)
              · replace h := bb_ifp c22 h
                exact toW _ _ _ (Jk13 () _ h (lv_sub hl [0, 1, 2] rfl))
              · replace h := bb_ifn c22 h
                exact toW _ _ _ (Jk18 () _ h (lv_sub hl [0, 2] rfl))
  exact toW _ _ _ (L6 nn (-1 : Int32) (0 : Int32) _ h (lv_sub hl [2, 1, 0] rfl))
/-! X8_findFar -/
def uX8_findFar_s73 (x2_23 : Int32) (f_t_price_25 : Nat → Int32) (k_139 : (Nat → Int32) → Option ((Nat → Int32) × (Nat → Int32))) (rec26 : Int32 → (Nat → Int32) → Option ((Nat → Int32) × (Nat → Int32))) (x3_21 : Int32) (f_t_far_22 : Nat → Int32) : Option ((Nat → Int32) × (Nat → Int32)) :=
  (if (4 : Int32) < x3_21 then k_139 f_t_far_22 else bb_b1 (uX8_beside x2_23 x3_21) (fun (r30 : Int32) => bb_cut (fun (f_t_far_33 : Nat → Int32) => rec26 (x3_21 + (1 : Int32)) f_t_far_33) (fun k34 => (if r30 < 0 then k34 f_t_far_22 else bb_ix r30 48 ((if (1000000 : Int32) ≤ (f_t_price_25 r30.toNatClampNeg) then k34 f_t_far_22 else bb_ix r30 48 (bb_ix x2_23 48 (bb_ix r30 48 (bb_ix r30 48 (k34 (upd f_t_far_22 r30.toNatClampNeg (if ((f_t_far_22 x2_23.toNatClampNeg) + (f_t_price_25 r30.toNatClampNeg)) < (f_t_far_22 r30.toNatClampNeg) then ((f_t_far_22 x2_23.toNatClampNeg) + (f_t_price_25 r30.toNatClampNeg)) else (f_t_far_22 r30.toNatClampNeg)))))))))))))
def uX8_findFar_s60 (nn : Nat) (f_t_price_10 : Nat → Int32) (rec11 : Int32 → (Nat → Int32) → (Nat → Int32) → Option ((Nat → Int32) × (Nat → Int32))) (x2_7 : Int32) (f_t_far_8 : Nat → Int32) (f_t_isDone_9 : Nat → Int32) : Option ((Nat → Int32) × (Nat → Int32)) :=
  (if x2_7 < 0 then some (f_t_far_8, f_t_isDone_9) else bb_ix x2_7 48 (bb_cut (fun (f_t_far_16 : Nat → Int32) => bb_b1 (uX8_nearest nn f_t_far_16 (upd f_t_isDone_9 x2_7.toNatClampNeg (vp_nar .boolean (1 : Int32)))) (fun (r18 : Int32) => rec11 r18 f_t_far_16 (upd f_t_isDone_9 x2_7.toNatClampNeg (vp_nar .boolean (1 : Int32))))) (fun k17 => bb_loop2 (uX8_findFar_s73 x2_7 f_t_price_10 k17) nn (1 : Int32) f_t_far_8)))
def uX8_findFar_s2 (x1_45 : Int32) (f_t_price_46 : Nat → Int32) (k_55 : (Nat → Int32) → (Nat → Int32) → Option ((Nat → Int32) × (Nat → Int32))) (rec47 : Int32 → (Nat → Int32) → (Nat → Int32) → Option ((Nat → Int32) × (Nat → Int32))) (x2_42 : Int32) (f_t_far_43 : Nat → Int32) (f_t_isDone_44 : Nat → Int32) : Option ((Nat → Int32) × (Nat → Int32)) :=
  (if (48 : Int32) ≤ x2_42 then k_55 f_t_far_43 f_t_isDone_44 else bb_cut (fun (z51 : Int32) => bb_cut (fun (z53 : Int32) => bb_ix x2_42 48 (bb_ix x2_42 48 (rec47 (x2_42 + (1 : Int32)) (upd f_t_far_43 x2_42.toNatClampNeg z53) (upd f_t_isDone_44 x2_42.toNatClampNeg (vp_nar .boolean (0 : Int32)))))) (fun k54 => (if (x2_42 - x2_42 / (8 : Int32) * (8 : Int32)) = z51 then bb_ix x2_42 48 (k54 (f_t_price_46 x2_42.toNatClampNeg)) else k54 (1000000 : Int32)))) (fun k52 => (if x1_45 = 0 then k52 (0 : Int32) else k52 (7 : Int32))))
def uX8_findFar (nn : Nat) (p1 : Int32) (f_t_far : Nat → Int32) (f_t_isDone : Nat → Int32) (f_t_price : Nat → Int32) : Option ((Nat → Int32) × (Nat → Int32)) :=
  bb_cut (fun (f_t_far_1 : Nat → Int32) (f_t_isDone_2 : Nat → Int32) => bb_b1 (uX8_nearest nn f_t_far_1 f_t_isDone_2) (fun (r4 : Int32) => bb_loop3 (uX8_findFar_s60 nn f_t_price) nn r4 f_t_far_1 f_t_isDone_2)) (fun k3 => bb_loop3 (uX8_findFar_s2 p1 f_t_price k3) nn (0 : Int32) f_t_far f_t_isDone)
theorem kdX8_findFar : yX8_findFar.cls = RX8 ∧ yX8_findFar.cls ≠ "java/lang/invoke/MethodHandle" ∧ yX8_findFar.cls ≠ "java/lang/invoke/VarHandle" ∧ (parseMethodDescriptor yX8_findFar.desc).map (fun d => d.parameters.length) = some 1 := by decide +kernel
set_option maxHeartbeats 4000000 in
set_option maxRecDepth 100000 in
theorem kX8_findFar (l : Launch) (dC : Nat → ClassId) (dI : Nat → Nat → Nat) (cy : Nat → ClassId) (sz : Nat) (a_t : Nat → Nat) (p1 : Int32) (v_t_isKept : Int32) (v_t_bestPost : Int32) (v_t_mostSeen : Int32) (v_t_taped : Int32) (v_t_from : Int32) (v_t_to : Int32) (v_t_isWrong : Int32) (f_t_far : Nat → Int32) (f_t_isDone : Nat → Int32) (f_t_price : Nat → Int32) (nn : Nat) (f_t_far_o : Nat → Int32) (f_t_isDone_o : Nat → Int32) (h : uX8_findFar nn p1 f_t_far f_t_isDone f_t_price = some (f_t_far_o, f_t_isDone_o)) : Met l yX8_findFar wsX8_findFar ({ frames := 2, cells := 0, slots := 0, locals := 48 }) (va_Pc [.ref (a_t 0), .int p1] (fun U => U.heap.size = sz ∧ va_P (dC, dI) vwCl [((a_t 0), oX8 a_t v_t_isKept v_t_bestPost v_t_mostSeen v_t_taped v_t_from v_t_to v_t_isWrong), ((a_t 6), .inl (cy 0, 48, .inl f_t_far)), ((a_t 8), .inl (cy 2, 48, .inl f_t_isDone)), ((a_t 7), .inl (cy 0, 48, .inl f_t_price))] U.heap ∧ va_K (dC, dI) vwCl (tyX cy) U ∧ va_D (fun _ => True) [((a_t 0), oX8 a_t v_t_isKept v_t_bestPost v_t_mostSeen v_t_taped v_t_from v_t_to v_t_isWrong), ((a_t 6), .inl (cy 0, 48, .inl f_t_far)), ((a_t 8), .inl (cy 2, 48, .inl f_t_isDone)), ((a_t 7), .inl (cy 0, 48, .inl f_t_price))])) (va_Qv (fun (_ : Unit) => True) (fun _ t => va_P (dC, dI) vwCl [((a_t 0), oX8 a_t v_t_isKept v_t_bestPost v_t_mostSeen v_t_taped v_t_from v_t_to v_t_isWrong), ((a_t 6), .inl (cy 0, 48, .inl f_t_far_o)), ((a_t 8), .inl (cy 2, 48, .inl f_t_isDone_o)), ((a_t 7), .inl (cy 0, 48, .inl f_t_price))] t.heap ∧ va_K (dC, dI) vwCl (tyX cy) t ∧ va_D (va_A [((a_t 0), oX8 a_t v_t_isKept v_t_bestPost v_t_mostSeen v_t_taped v_t_from v_t_to v_t_isWrong), ((a_t 6), .inl (cy 0, 48, .inl f_t_far)), ((a_t 8), .inl (cy 2, 48, .inl f_t_isDone)), ((a_t 7), .inl (cy 0, 48, .inl f_t_price))] sz) [((a_t 0), oX8 a_t v_t_isKept v_t_bestPost v_t_mostSeen v_t_taped v_t_from v_t_to v_t_isWrong), ((a_t 6), .inl (cy 0, 48, .inl f_t_far_o)), ((a_t 8), .inl (cy 2, 48, .inl f_t_isDone_o)), ((a_t 7), .inl (cy 0, 48, .inl f_t_price))]) (va_A [((a_t 0), oX8 a_t v_t_isKept v_t_bestPost v_t_mostSeen v_t_taped v_t_from v_t_to v_t_isWrong), ((a_t 6), .inl (cy 0, 48, .inl f_t_far)), ((a_t 8), .inl (cy 2, 48, .inl f_t_isDone)), ((a_t 7), .inl (cy 0, 48, .inl f_t_price))] sz)) 0 0 (va_A [((a_t 0), oX8 a_t v_t_isKept v_t_bestPost v_t_mostSeen v_t_taped v_t_from v_t_to v_t_isWrong), ((a_t 6), .inl (cy 0, 48, .inl f_t_far)), ((a_t 8), .inl (cy 2, 48, .inl f_t_isDone)), ((a_t 7), .inl (cy 0, 48, .inl f_t_price))] sz) := by
  refine Met.ofW (cc := cX8_findFar) (maxL := 5) (ret := none) (by decide) rfl ?_
  intro p e s m args below meth c s₁ B hml hv
  obtain ⟨rfl, hsz, hP, hK, hD0⟩ := hv
  have hx := B.exec
  have hb := B.bytes
  have hr := B.returns
  have hts := atoms_spec (ws := wsX8_findFar) B.pre
  have hown : s.vm.findClass RX8 = some m.cls := findClass_of_methodNamed B.named
  have hlocks := B.notSynchronized
  have iwX8 : ∀ w ∈ wsX80, w ∈ wsX8_findFar := fun w h9 => List.mem_cons_of_mem _ (List.mem_append_right _ (h9))
  have lk1 := hts (Cond.fieldLink RX8 22 "BathBorderModel" "far" "[I") (List.mem_of_getElem? (i := 1) rfl)
  have lk2 := hts (Cond.fieldLink RX8 25 "BathBorderModel" "price" "[I") (List.mem_of_getElem? (i := 2) rfl)
  have lk3 := hts (Cond.constant RX8 219 (1000000)) (List.mem_of_getElem? (i := 3) rfl)
  have lk4 := hts (Cond.fieldLink RX8 28 "BathBorderModel" "isDone" "[Z") (List.mem_of_getElem? (i := 4) rfl)
  have lk5 := hts (Cond.methodLink RX8 171 Lib.Math.min.name) (List.mem_of_getElem? (i := 5) rfl)
  have lk6 := hts (Cond.static Lib.Math.min.name) (List.mem_of_getElem? (i := 6) rfl)
  have lk7 := hts (Cond.initialized "java/lang/Math") (List.mem_of_getElem? (i := 7) rfl)
  have lk8 := hts (Cond.code Lib.Math.min.name Lib.Math.min.code 2 (some .int)) (List.mem_of_getElem? (i := 8) rfl)
  subst hsz
  have hD := hD0.self (sz := s.heap.size)
  generalize hAe : va_A [((a_t 0), oX8 a_t v_t_isKept v_t_bestPost v_t_mostSeen v_t_taped v_t_from v_t_to v_t_isWrong), ((a_t 6), .inl (cy 0, 48, .inl f_t_far)), ((a_t 8), .inl (cy 2, 48, .inl f_t_isDone)), ((a_t 7), .inl (cy 0, 48, .inl f_t_price))] s.heap.size = A at hD ⊢
  have hA : ∀ q : Nat, s.heap.size ≤ q → A q := fun q h => by rw [← hAe]; exact Or.inr h
  have hS : va_S A s.heap s.heap [] := va_S.rf
  have hP : va_P (dC, dI) vwCl [((a_t 0), oX8 a_t v_t_isKept v_t_bestPost v_t_mostSeen v_t_taped v_t_from v_t_to v_t_isWrong), ((a_t 6), .inl (cy 0, 48, .inl f_t_far)), ((a_t 8), .inl (cy 2, 48, .inl f_t_isDone)), ((a_t 7), .inl (cy 0, 48, .inl f_t_price))] s.heap := hP
  have hl := lv_entry ([.ref (a_t 0), .int p1]) (n := 5) (Nat.le_of_ble_eq_true rfl)
  rw [lg_entry_eq]
  generalize (lg_sl ([.ref (a_t 0), .int p1]) ++ List.replicate (5 - (lg_sl ([.ref (a_t 0), .int p1])).length) Slot.unset).toArray = ls at hl ⊢
  have hl : lv_has ls 5 [(0, .ref (a_t 0)), (1, .int p1)] := hl
  unfold uX8_findFar at h
  refine bb_cap (fun WW toW ofW => ?_)
  refine lv_iconst (v := (0 : Int32)) hx hb dX8_findFar_0 (by decide) ?_
  refine lv_istore_n (lv' := [(2, .int (0 : Int32)), (0, .ref (a_t 0)), (1, .int p1)]) hx hb dX8_findFar_1 rfl hl (by decide) rfl (fun ls hl => ?_)
  obtain ⟨k3, ek3, h⟩ := bb_cut_o h
  have Jk3 : ∀ (f_t_far_1 : Nat → Int32) (f_t_isDone_2 : Nat → Int32) (H : Heap) (locs : List Loc) (ls : Array Slot), k3 f_t_far_1 f_t_isDone_2 = some (f_t_far_o, f_t_isDone_o) → va_P (dC, dI) vwCl [((a_t 0), oX8 a_t v_t_isKept v_t_bestPost v_t_mostSeen v_t_taped v_t_from v_t_to v_t_isWrong), ((a_t 6), .inl (cy 0, 48, .inl f_t_far_1)), ((a_t 8), .inl (cy 2, 48, .inl f_t_isDone_2)), ((a_t 7), .inl (cy 0, 48, .inl f_t_price))] H → va_D A [((a_t 0), oX8 a_t v_t_isKept v_t_bestPost v_t_mostSeen v_t_taped v_t_from v_t_to v_t_isWrong), ((a_t 6), .inl (cy 0, 48, .inl f_t_far_1)), ((a_t 8), .inl (cy 2, 48, .inl f_t_isDone_2)), ((a_t 7), .inl (cy 0, 48, .inl f_t_price))] → va_S A s.heap H locs → lv_has ls 5 [(0, .ref (a_t 0))] → WW H locs (F0 m 55 ls []) := by
    intro f_t_far_1 f_t_isDone_2 H locs ls h hP hD hS hl
    refine ofW _ _ _ ?_
    subst ek3
    refine lv_aload_n hx hb dX8_findFar_55 rfl (lv_at hl 0 rfl) ?_
    obtain ⟨r4, hc5, h⟩ := bb_b1_o h
    refine vp_callSi (W.runV (As := []) (rest := []) ⟨hx, hb, hml, hown, hts⟩ (kX8_nearest l dC dI cy a_t v_t_isKept v_t_bestPost v_t_mostSeen v_t_taped v_t_from v_t_to v_t_isWrong f_t_far_1 f_t_isDone_2 nn r4 hc5) (cwV 0 hts gX8_findFar_X8_nearest rfl rfl rfl kdX8_nearest ⟨Nat.le_of_ble_eq_true rfl, Nat.le_of_ble_eq_true rfl⟩) (bb_preV (va_recv hK hP (ci := 7) (q0 := 0) rfl rfl) (hP.sub (ws' := [((a_t 0), oX8 a_t v_t_isKept v_t_bestPost v_t_mostSeen v_t_taped v_t_from v_t_to v_t_isWrong), ((a_t 6), .inl (cy 0, 48, .inl f_t_far_1)), ((a_t 8), .inl (cy 2, 48, .inl f_t_isDone_2))]) [0, 1, 2] rfl) hK) rfl rfl hl.1 rfl (lv_room (Nat.le_of_ble_eq_true rfl)) dX8_findFar_56 ⟨Nat.zero_le _, Nat.zero_le _⟩) (fun t6 et6 => ?_)
    obtain rfl := et6
    refine lv_istore_n (lv' := [(2, .int r4), (0, .ref (a_t 0))]) hx hb dX8_findFar_59 rfl hl (by decide) rfl (fun ls hl => ?_)
    have L12 : ∀ (n : Nat) (x2_7 : Int32) (f_t_far_8 : Nat → Int32) (f_t_isDone_9 : Nat → Int32) (H : Heap) (locs : List Loc) (ls : Array Slot), bb_loop3 (uX8_findFar_s60 nn f_t_price) n x2_7 f_t_far_8 f_t_isDone_9 = some (f_t_far_o, f_t_isDone_o) → va_P (dC, dI) vwCl [((a_t 0), oX8 a_t v_t_isKept v_t_bestPost v_t_mostSeen v_t_taped v_t_from v_t_to v_t_isWrong), ((a_t 6), .inl (cy 0, 48, .inl f_t_far_8)), ((a_t 8), .inl (cy 2, 48, .inl f_t_isDone_9)), ((a_t 7), .inl (cy 0, 48, .inl f_t_price))] H → va_D A [((a_t 0), oX8 a_t v_t_isKept v_t_bestPost v_t_mostSeen v_t_taped v_t_from v_t_to v_t_isWrong), ((a_t 6), .inl (cy 0, 48, .inl f_t_far_8)), ((a_t 8), .inl (cy 2, 48, .inl f_t_isDone_9)), ((a_t 7), .inl (cy 0, 48, .inl f_t_price))] → va_S A s.heap H locs → lv_has ls 5 [(0, .ref (a_t 0)), (2, .int x2_7)] → WW H locs (F0 m 60 ls []) := by
      intro n
      induction n with
      | zero => intro x2_7 f_t_far_8 f_t_isDone_9 H locs ls h; exact (bb_no h).elim
      | succ n ih13 =>
        intro x2_7 f_t_far_8 f_t_isDone_9 H locs ls h hP hD hS hl
        refine ofW _ _ _ ?_
        obtain ⟨rec11, erec11, h⟩ := bb_loop3_o h
        unfold uX8_findFar_s60 at h
        refine lv_iload_n hx hb dX8_findFar_60 rfl (lv_at hl 1 rfl) ?_
        refine lv_if_lt (tgt := 147) hx hb dX8_findFar_61 (by decide) (fun c14 => ?_) (fun c14 => ?_)
        · replace h := bb_ifp c14 h
          obtain ⟨rfl, rfl⟩ := bb_some2 h
          have hP9 := hP.sub (ws' := [((a_t 0), oX8 a_t v_t_isKept v_t_bestPost v_t_mostSeen v_t_taped v_t_from v_t_to v_t_isWrong), ((a_t 6), .inl (cy 0, 48, .inl f_t_far_8)), ((a_t 8), .inl (cy 2, 48, .inl f_t_isDone_9)), ((a_t 7), .inl (cy 0, 48, .inl f_t_price))]) [0, 1, 2, 3] rfl
          have hD9 := hD.sub (ws' := [((a_t 0), oX8 a_t v_t_isKept v_t_bestPost v_t_mostSeen v_t_taped v_t_from v_t_to v_t_isWrong), ((a_t 6), .inl (cy 0, 48, .inl f_t_far_8)), ((a_t 8), .inl (cy 2, 48, .inl f_t_isDone_9)), ((a_t 7), .inl (cy 0, 48, .inl f_t_price))]) [0, 1, 2, 3] (by decide) rfl
          exact W.vret hx hb hr (fun t ht hW => ⟨⟨(), rfl, trivial, by rw [ht]; exact hP9, va_K.moved hW.alike hK, hD9⟩, hS.F ht⟩) hS.2.2 dX8_findFar_147
        · replace h := bb_ifn c14 h
          refine lv_aload_n hx hb dX8_findFar_64 rfl (lv_at hl 0 rfl) ?_
          refine va_get (D := (dC, dI)) (ci := 7) (v := .ref (a_t 8)) (C := RX8) (T := TX8) (N := 20) hx hb hts iwX8 hown hK hP 0 rfl rfl 7 (by decide) lk4 (fun _ h9 => h9) rfl dX8_findFar_65 ?_
          refine lv_iload_n hx hb dX8_findFar_68 rfl (lv_at hl 1 rfl) ?_
          refine lv_iconst (v := (1 : Int32)) hx hb dX8_findFar_69 (by decide) ?_
          obtain ⟨hi15, h⟩ := bb_ix_o h
          refine va_zast hx hb hK hP hD hS 2 2 rfl rfl hi15 dX8_findFar_70 (fun H locs hP hD hS => ?_)
          have hP : va_P (dC, dI) vwCl [((a_t 0), oX8 a_t v_t_isKept v_t_bestPost v_t_mostSeen v_t_taped v_t_from v_t_to v_t_isWrong), ((a_t 6), .inl (cy 0, 48, .inl f_t_far_8)), ((a_t 8), .inl (cy 2, 48, .inl (upd f_t_isDone_9 x2_7.toNatClampNeg (vp_nar .boolean (1 : Int32))))), ((a_t 7), .inl (cy 0, 48, .inl f_t_price))] H := hP
          have hD : va_D A [((a_t 0), oX8 a_t v_t_isKept v_t_bestPost v_t_mostSeen v_t_taped v_t_from v_t_to v_t_isWrong), ((a_t 6), .inl (cy 0, 48, .inl f_t_far_8)), ((a_t 8), .inl (cy 2, 48, .inl (upd f_t_isDone_9 x2_7.toNatClampNeg (vp_nar .boolean (1 : Int32))))), ((a_t 7), .inl (cy 0, 48, .inl f_t_price))] := hD
          refine lv_iconst (v := (1 : Int32)) hx hb dX8_findFar_71 (by decide) ?_
          refine lv_istore_n (lv' := [(3, .int (1 : Int32)), (0, .ref (a_t 0)), (2, .int x2_7)]) hx hb dX8_findFar_72 rfl hl (by decide) rfl (fun ls hl => ?_)
          obtain ⟨k17, ek17, h⟩ := bb_cut_o h
          have Jk17 : ∀ (f_t_far_16 : Nat → Int32) (H : Heap) (locs : List Loc) (ls : Array Slot), k17 f_t_far_16 = some (f_t_far_o, f_t_isDone_o) → va_P (dC, dI) vwCl [((a_t 0), oX8 a_t v_t_isKept v_t_bestPost v_t_mostSeen v_t_taped v_t_from v_t_to v_t_isWrong), ((a_t 6), .inl (cy 0, 48, .inl f_t_far_16)), ((a_t 8), .inl (cy 2, 48, .inl (upd f_t_isDone_9 x2_7.toNatClampNeg (vp_nar .boolean (1 : Int32))))), ((a_t 7), .inl (cy 0, 48, .inl f_t_price))] H → va_D A [((a_t 0), oX8 a_t v_t_isKept v_t_bestPost v_t_mostSeen v_t_taped v_t_from v_t_to v_t_isWrong), ((a_t 6), .inl (cy 0, 48, .inl f_t_far_16)), ((a_t 8), .inl (cy 2, 48, .inl (upd f_t_isDone_9 x2_7.toNatClampNeg (vp_nar .boolean (1 : Int32))))), ((a_t 7), .inl (cy 0, 48, .inl f_t_price))] → va_S A s.heap H locs → lv_has ls 5 [(0, .ref (a_t 0))] → WW H locs (F0 m 139 ls []) := by
            intro f_t_far_16 H locs ls h hP hD hS hl
            refine ofW _ _ _ ?_
            subst ek17
            refine lv_aload_n hx hb dX8_findFar_139 rfl (lv_at hl 0 rfl) ?_
            obtain ⟨r18, hc19, h⟩ := bb_b1_o h
            refine vp_callSi (W.runV (As := []) (rest := []) ⟨hx, hb, hml, hown, hts⟩ (kX8_nearest l dC dI cy a_t v_t_isKept v_t_bestPost v_t_mostSeen v_t_taped v_t_from v_t_to v_t_isWrong f_t_far_16 (upd f_t_isDone_9 x2_7.toNatClampNeg (vp_nar .boolean (1 : Int32))) nn r18 hc19) (cwV 0 hts gX8_findFar_X8_nearest rfl rfl rfl kdX8_nearest ⟨Nat.le_of_ble_eq_true rfl, Nat.le_of_ble_eq_true rfl⟩) (bb_preV (va_recv hK hP (ci := 7) (q0 := 0) rfl rfl) (hP.sub (ws' := [((a_t 0), oX8 a_t v_t_isKept v_t_bestPost v_t_mostSeen v_t_taped v_t_from v_t_to v_t_isWrong), ((a_t 6), .inl (cy 0, 48, .inl f_t_far_16)), ((a_t 8), .inl (cy 2, 48, .inl (upd f_t_isDone_9 x2_7.toNatClampNeg (vp_nar .boolean (1 : Int32)))))]) [0, 1, 2] rfl) hK) rfl rfl hl.1 rfl (lv_room (Nat.le_of_ble_eq_true rfl)) dX8_findFar_140 ⟨Nat.zero_le _, Nat.zero_le _⟩) (fun t20 et20 => ?_)
            obtain rfl := et20
            refine lv_istore_n (lv' := [(2, .int r18), (0, .ref (a_t 0))]) hx hb dX8_findFar_143 rfl hl (by decide) rfl (fun ls hl => ?_)
            refine lv_goto (tgt := 60) hx hb dX8_findFar_144 (by decide) ?_
            rw [erec11] at h
            exact toW _ _ _ (ih13 r18 f_t_far_16 (upd f_t_isDone_9 x2_7.toNatClampNeg (vp_nar .boolean (1 : Int32))) _ _ _ h hP hD hS (lv_sub hl [1, 0] rfl))
          have L27 : ∀ (n : Nat) (x3_21 : Int32) (f_t_far_22 : Nat → Int32) (H : Heap) (locs : List Loc) (ls : Array Slot), bb_loop2 (uX8_findFar_s73 x2_7 f_t_price k17) n x3_21 f_t_far_22 = some (f_t_far_o, f_t_isDone_o) → va_P (dC, dI) vwCl [((a_t 0), oX8 a_t v_t_isKept v_t_bestPost v_t_mostSeen v_t_taped v_t_from v_t_to v_t_isWrong), ((a_t 6), .inl (cy 0, 48, .inl f_t_far_22)), ((a_t 8), .inl (cy 2, 48, .inl (upd f_t_isDone_9 x2_7.toNatClampNeg (vp_nar .boolean (1 : Int32))))), ((a_t 7), .inl (cy 0, 48, .inl f_t_price))] H → va_D A [((a_t 0), oX8 a_t v_t_isKept v_t_bestPost v_t_mostSeen v_t_taped v_t_from v_t_to v_t_isWrong), ((a_t 6), .inl (cy 0, 48, .inl f_t_far_22)), ((a_t 8), .inl (cy 2, 48, .inl (upd f_t_isDone_9 x2_7.toNatClampNeg (vp_nar .boolean (1 : Int32))))), ((a_t 7), .inl (cy 0, 48, .inl f_t_price))] → va_S A s.heap H locs → lv_has ls 5 [(0, .ref (a_t 0)), (2, .int x2_7), (3, .int x3_21)] → WW H locs (F0 m 73 ls []) := by
            intro n
            induction n with
            | zero => intro x3_21 f_t_far_22 H locs ls h; exact (bb_no h).elim
            | succ n ih28 =>
              intro x3_21 f_t_far_22 H locs ls h hP hD hS hl
              refine ofW _ _ _ ?_
              obtain ⟨rec26, erec26, h⟩ := bb_loop2_o h
              unfold uX8_findFar_s73 at h
              refine lv_iload_n hx hb dX8_findFar_73 rfl (lv_at hl 2 rfl) ?_
              refine lv_iconst (v := (4 : Int32)) hx hb dX8_findFar_74 (by decide) ?_
              refine lv_icmp_gt (tgt := 139) hx hb dX8_findFar_75 (by decide) (fun c29 => ?_) (fun c29 => ?_)
              · replace h := bb_ifp c29 h
                exact toW _ _ _ (Jk17 f_t_far_22 _ _ _ h hP hD hS (lv_sub hl [0] rfl))
              · replace h := bb_ifn c29 h
                refine lv_iload_n hx hb dX8_findFar_78 rfl (lv_at hl 1 rfl) ?_
                refine lv_iload_n hx hb dX8_findFar_79 rfl (lv_at hl 2 rfl) ?_
                obtain ⟨r30, hc31, h⟩ := bb_b1_o h
                refine vp_callSi (W.runS (As := [.int x2_7, .int x3_21]) (rest := []) ⟨hx, hb, hml, hown, hts⟩ (kX8_beside l dC dI cy x2_7 x3_21 r30 hc31) (va_cwS 2 hts gX8_findFar_X8_beside rfl rfl rfl kdX8_beside ⟨Nat.le_of_ble_eq_true rfl, Nat.le_of_ble_eq_true rfl⟩) (bb_preS (hP.sub (ws' := []) [] rfl) hK) rfl rfl hl.1 rfl (lv_room (Nat.le_of_ble_eq_true rfl)) dX8_findFar_80 ⟨Nat.zero_le _, Nat.zero_le _⟩) (fun t32 et32 => ?_)
                obtain rfl := et32
                refine lv_istore (lv' := [(4, .int r30), (0, .ref (a_t 0)), (2, .int x2_7), (3, .int x3_21)]) hx hb dX8_findFar_83 hl (by decide) rfl (fun ls hl => ?_)
                refine lv_iload hx hb dX8_findFar_85 (lv_at hl 0 rfl) ?_
                obtain ⟨k34, ek34, h⟩ := bb_cut_o h
                have Jk34 : ∀ (f_t_far_33 : Nat → Int32) (H : Heap) (locs : List Loc) (ls : Array Slot), k34 f_t_far_33 = some (f_t_far_o, f_t_isDone_o) → va_P (dC, dI) vwCl [((a_t 0), oX8 a_t v_t_isKept v_t_bestPost v_t_mostSeen v_t_taped v_t_from v_t_to v_t_isWrong), ((a_t 6), .inl (cy 0, 48, .inl f_t_far_33)), ((a_t 8), .inl (cy 2, 48, .inl (upd f_t_isDone_9 x2_7.toNatClampNeg (vp_nar .boolean (1 : Int32))))), ((a_t 7), .inl (cy 0, 48, .inl f_t_price))] H → va_D A [((a_t 0), oX8 a_t v_t_isKept v_t_bestPost v_t_mostSeen v_t_taped v_t_from v_t_to v_t_isWrong), ((a_t 6), .inl (cy 0, 48, .inl f_t_far_33)), ((a_t 8), .inl (cy 2, 48, .inl (upd f_t_isDone_9 x2_7.toNatClampNeg (vp_nar .boolean (1 : Int32))))), ((a_t 7), .inl (cy 0, 48, .inl f_t_price))] → va_S A s.heap H locs → lv_has ls 5 [(0, .ref (a_t 0)), (2, .int x2_7), (3, .int x3_21)] → WW H locs (F0 m 133 ls []) := by
                  intro f_t_far_33 H locs ls h hP hD hS hl
                  refine ofW _ _ _ ?_
                  subst ek34
                  refine lv_iinc (v := x3_21 + (1 : Int32)) (lv' := [(3, .int (x3_21 + (1 : Int32))), (0, .ref (a_t 0)), (2, .int x2_7)]) hx hb dX8_findFar_133 hl (k := 2) rfl rfl (by decide) rfl (fun ls hl => ?_)
                  refine lv_goto (tgt := 73) hx hb dX8_findFar_136 (by decide) ?_
                  rw [erec26] at h
                  exact toW _ _ _ (ih28 (x3_21 + (1 : Int32)) f_t_far_33 _ _ _ h hP hD hS (lv_sub hl [1, 2, 0] rfl))
                refine lv_if_lt (tgt := 133) hx hb dX8_findFar_87 (by decide) (fun c35 => ?_) (fun c35 => ?_)
                · replace h := bb_ifp c35 h
                  exact toW _ _ _ (Jk34 f_t_far_22 _ _ _ h hP hD hS (lv_sub hl [1, 2, 3] rfl))
                · replace h := bb_ifn c35 h
                  refine lv_aload_n hx hb dX8_findFar_90 rfl (lv_at hl 1 rfl) ?_
                  refine va_get (D := (dC, dI)) (ci := 7) (v := .ref (a_t 7)) (C := RX8) (T := TX8) (N := 20) hx hb hts iwX8 hown hK hP 0 rfl rfl 6 (by decide) lk2 (fun _ h9 => h9) rfl dX8_findFar_91 ?_
                  refine lv_iload hx hb dX8_findFar_94 (lv_at hl 0 rfl) ?_
                  obtain ⟨hi36, h⟩ := bb_ix_o h
                  refine va_iald hx hb hK hP 3 0 rfl rfl hi36 dX8_findFar_96 ?_
                  refine lv_ldc (v := (1000000 : Int32)) hx hb hown lk3 dX8_findFar_97 ?_
                  refine lv_icmp_ge (tgt := 133) hx hb dX8_findFar_99 (by decide) (fun c37 => ?_) (fun c37 => ?_)
                  · replace h := bb_ifp c37 h
                    exact toW _ _ _ (Jk34 f_t_far_22 _ _ _ h hP hD hS (lv_sub hl [1, 2, 3] rfl))
                  · replace h := bb_ifn c37 h
                    refine lv_aload_n hx hb dX8_findFar_102 rfl (lv_at hl 1 rfl) ?_
                    refine va_get (D := (dC, dI)) (ci := 7) (v := .ref (a_t 6)) (C := RX8) (T := TX8) (N := 20) hx hb hts iwX8 hown hK hP 0 rfl rfl 5 (by decide) lk1 (fun _ h9 => h9) rfl dX8_findFar_103 ?_
                    refine lv_iload hx hb dX8_findFar_106 (lv_at hl 0 rfl) ?_
                    refine lv_aload_n hx hb dX8_findFar_108 rfl (lv_at hl 1 rfl) ?_
                    refine va_get (D := (dC, dI)) (ci := 7) (v := .ref (a_t 6)) (C := RX8) (T := TX8) (N := 20) hx hb hts iwX8 hown hK hP 0 rfl rfl 5 (by decide) lk1 (fun _ h9 => h9) rfl dX8_findFar_109 ?_
                    refine lv_iload hx hb dX8_findFar_112 (lv_at hl 0 rfl) ?_
                    obtain ⟨hi38, h⟩ := bb_ix_o h
                    refine va_iald hx hb hK hP 1 0 rfl rfl hi38 dX8_findFar_114 ?_
                    refine lv_aload_n hx hb dX8_findFar_115 rfl (lv_at hl 1 rfl) ?_
                    refine va_get (D := (dC, dI)) (ci := 7) (v := .ref (a_t 6)) (C := RX8) (T := TX8) (N := 20) hx hb hts iwX8 hown hK hP 0 rfl rfl 5 (by decide) lk1 (fun _ h9 => h9) rfl dX8_findFar_116 ?_
                    refine lv_iload_n hx hb dX8_findFar_119 rfl (lv_at hl 2 rfl) ?_
                    obtain ⟨hi39, h⟩ := bb_ix_o h
                    refine va_iald hx hb hK hP 1 0 rfl rfl hi39 dX8_findFar_120 ?_
                    refine lv_aload_n hx hb dX8_findFar_121 rfl (lv_at hl 1 rfl) ?_
                    refine va_get (D := (dC, dI)) (ci := 7) (v := .ref (a_t 7)) (C := RX8) (T := TX8) (N := 20) hx hb hts iwX8 hown hK hP 0 rfl rfl 6 (by decide) lk2 (fun _ h9 => h9) rfl dX8_findFar_122 ?_
                    refine lv_iload hx hb dX8_findFar_125 (lv_at hl 0 rfl) ?_
                    obtain ⟨hi40, h⟩ := bb_ix_o h
                    refine va_iald hx hb hK hP 3 0 rfl rfl hi40 dX8_findFar_127 ?_
                    refine lv_iadd hx hb dX8_findFar_128 ?_
                    refine va_mmin hx hb (hml.trans hl.1.symm) hown lk5 lk6 lk7 lk8 (Nat.le_of_ble_eq_true rfl) (Nat.le_of_ble_eq_true rfl) (Nat.zero_le _) (Nat.zero_le _) dX8_findFar_129 ?_
                    obtain ⟨hi41, h⟩ := bb_ix_o h
                    refine va_iast hx hb hK hP hD hS 1 0 rfl rfl hi41 dX8_findFar_132 (fun H locs hP hD hS => ?_)
                    have hP : va_P (dC, dI) vwCl [((a_t 0), oX8 a_t v_t_isKept v_t_bestPost v_t_mostSeen v_t_taped v_t_from v_t_to v_t_isWrong), ((a_t 6), .inl (cy 0, 48, .inl (upd f_t_far_22 r30.toNatClampNeg (if ((f_t_far_22 x2_7.toNatClampNeg) + (f_t_price r30.toNatClampNeg)) < (f_t_far_22 r30.toNatClampNeg) then ((f_t_far_22 x2_7.toNatClampNeg) + (f_t_price r30.toNatClampNeg)) else (f_t_far_22 r30.toNatClampNeg))))), ((a_t 8), .inl (cy 2, 48, .inl (upd f_t_isDone_9 x2_7.toNatClampNeg (vp_nar .boolean (1 : Int32))))), ((a_t 7), .inl (cy 0, 48, .inl f_t_price))] H := hP
                    have hD : va_D A [((a_t 0), oX8 a_t v_t_isKept v_t_bestPost v_t_mostSeen v_t_taped v_t_from v_t_to v_t_isWrong), ((a_t 6), .inl (cy 0, 48, .inl (upd f_t_far_22 r30.toNatClampNeg (if ((f_t_far_22 x2_7.toNatClampNeg) + (f_t_price r30.toNatClampNeg)) < (f_t_far_22 r30.toNatClampNeg) then ((f_t_far_22 x2_7.toNatClampNeg) + (f_t_price r30.toNatClampNeg)) else (f_t_far_22 r30.toNatClampNeg))))), ((a_t 8), .inl (cy 2, 48, .inl (upd f_t_isDone_9 x2_7.toNatClampNeg (vp_nar .boolean (1 : Int32))))), ((a_t 7), .inl (cy 0, 48, .inl f_t_price))] := hD
                    exact toW _ _ _ (Jk34 (upd f_t_far_22 r30.toNatClampNeg (if ((f_t_far_22 x2_7.toNatClampNeg) + (f_t_price r30.toNatClampNeg)) < (f_t_far_22 r30.toNatClampNeg) then ((f_t_far_22 x2_7.toNatClampNeg) + (f_t_price r30.toNatClampNeg)) else (f_t_far_22 r30.toNatClampNeg))) _ _ _ h hP hD hS (lv_sub hl [1, 2, 3] rfl))
          exact toW _ _ _ (L27 nn (1 : Int32) f_t_far_8 _ _ _ h hP hD hS (lv_sub hl [1, 2, 0] rfl))
    exact toW _ _ _ (L12 nn r4 f_t_far_1 f_t_isDone_2 _ _ _ h hP hD hS (lv_sub hl [1, 0] rfl))
  have L48 : ∀ (n : Nat) (x2_42 : Int32) (f_t_far_43 : Nat → Int32) (f_t_isDone_44 : Nat → Int32) (H : Heap) (locs : List Loc) (ls : Array Slot), bb_loop3 (uX8_findFar_s2 p1 f_t_price k3) n x2_42 f_t_far_43 f_t_isDone_44 = some (f_t_far_o, f_t_isDone_o) → va_P (dC, dI) vwCl [((a_t 0), oX8 a_t v_t_isKept v_t_bestPost v_t_mostSeen v_t_taped v_t_from v_t_to v_t_isWrong), ((a_t 6), .inl (cy 0, 48, .inl f_t_far_43)), ((a_t 8), .inl (cy 2, 48, .inl f_t_isDone_44)), ((a_t 7), .inl (cy 0, 48, .inl f_t_price))] H → va_D A [((a_t 0), oX8 a_t v_t_isKept v_t_bestPost v_t_mostSeen v_t_taped v_t_from v_t_to v_t_isWrong), ((a_t 6), .inl (cy 0, 48, .inl f_t_far_43)), ((a_t 8), .inl (cy 2, 48, .inl f_t_isDone_44)), ((a_t 7), .inl (cy 0, 48, .inl f_t_price))] → va_S A s.heap H locs → lv_has ls 5 [(0, .ref (a_t 0)), (1, .int p1), (2, .int x2_42)] → WW H locs (F0 m 2 ls []) := by
    intro n
    induction n with
    | zero => intro x2_42 f_t_far_43 f_t_isDone_44 H locs ls h; exact (bb_no h).elim
    | succ n ih49 =>
      intro x2_42 f_t_far_43 f_t_isDone_44 H locs ls h hP hD hS hl
      refine ofW _ _ _ ?_
      obtain ⟨rec47, erec47, h⟩ := bb_loop3_o h
      unfold uX8_findFar_s2 at h
      refine lv_iload_n hx hb dX8_findFar_2 rfl (lv_at hl 2 rfl) ?_
      refine lv_bipush (v := (48 : Int32)) hx hb dX8_findFar_3 (by decide) ?_
      refine lv_icmp_ge (tgt := 55) hx hb dX8_findFar_5 (by decide) (fun c50 => ?_) (fun c50 => ?_)
      · replace h := bb_ifp c50 h
        exact toW _ _ _ (Jk3 f_t_far_43 f_t_isDone_44 _ _ _ h hP hD hS (lv_sub hl [0] rfl))
      · replace h := bb_ifn c50 h
        refine lv_aload_n hx hb dX8_findFar_8 rfl (lv_at hl 0 rfl) ?_
        refine va_get (D := (dC, dI)) (ci := 7) (v := .ref (a_t 6)) (C := RX8) (T := TX8) (N := 20) hx hb hts iwX8 hown hK hP 0 rfl rfl 5 (by decide) lk1 (fun _ h9 => h9) rfl dX8_findFar_9 ?_
        refine lv_iload_n hx hb dX8_findFar_12 rfl (lv_at hl 2 rfl) ?_
        refine lv_iload_n hx hb dX8_findFar_13 rfl (lv_at hl 2 rfl) ?_
        refine lv_bipush (v := (8 : Int32)) hx hb dX8_findFar_14 (by decide) ?_
        refine lv_irem hx hb dX8_findFar_16 (by decide) ?_
        refine lv_iload_n hx hb dX8_findFar_17 rfl (lv_at hl 1 rfl) ?_
        obtain ⟨k52, ek52, h⟩ := bb_cut_o h
        have Jk52 : ∀ (z51 : Int32) (H : Heap) (locs : List Loc) (ls : Array Slot), k52 z51 = some (f_t_far_o, f_t_isDone_o) → va_P (dC, dI) vwCl [((a_t 0), oX8 a_t v_t_isKept v_t_bestPost v_t_mostSeen v_t_taped v_t_from v_t_to v_t_isWrong), ((a_t 6), .inl (cy 0, 48, .inl f_t_far_43)), ((a_t 8), .inl (cy 2, 48, .inl f_t_isDone_44)), ((a_t 7), .inl (cy 0, 48, .inl f_t_price))] H → va_D A [((a_t 0), oX8 a_t v_t_isKept v_t_bestPost v_t_mostSeen v_t_taped v_t_from v_t_to v_t_isWrong), ((a_t 6), .inl (cy 0, 48, .inl f_t_far_43)), ((a_t 8), .inl (cy 2, 48, .inl f_t_isDone_44)), ((a_t 7), .inl (cy 0, 48, .inl f_t_price))] → va_S A s.heap H locs → lv_has ls 5 [(0, .ref (a_t 0)), (1, .int p1), (2, .int x2_42)] → WW H locs (F0 m 27 ls [.int z51, .int (x2_42 - x2_42 / (8 : Int32) * (8 : Int32)), .int x2_42, .ref (a_t 6)]) := by
          intro z51 H locs ls h hP hD hS hl
          refine ofW _ _ _ ?_
          subst ek52
          obtain ⟨k54, ek54, h⟩ := bb_cut_o h
          have Jk54 : ∀ (z53 : Int32) (H : Heap) (locs : List Loc) (ls : Array Slot), k54 z53 = some (f_t_far_o, f_t_isDone_o) → va_P (dC, dI) vwCl [((a_t 0), oX8 a_t v_t_isKept v_t_bestPost v_t_mostSeen v_t_taped v_t_from v_t_to v_t_isWrong), ((a_t 6), .inl (cy 0, 48, .inl f_t_far_43)), ((a_t 8), .inl (cy 2, 48, .inl f_t_isDone_44)), ((a_t 7), .inl (cy 0, 48, .inl f_t_price))] H → va_D A [((a_t 0), oX8 a_t v_t_isKept v_t_bestPost v_t_mostSeen v_t_taped v_t_from v_t_to v_t_isWrong), ((a_t 6), .inl (cy 0, 48, .inl f_t_far_43)), ((a_t 8), .inl (cy 2, 48, .inl f_t_isDone_44)), ((a_t 7), .inl (cy 0, 48, .inl f_t_price))] → va_S A s.heap H locs → lv_has ls 5 [(0, .ref (a_t 0)), (1, .int p1), (2, .int x2_42)] → WW H locs (F0 m 41 ls [.int z53, .int x2_42, .ref (a_t 6)]) := by
            intro z53 H locs ls h hP hD hS hl
            refine ofW _ _ _ ?_
            subst ek54
            obtain ⟨hi55, h⟩ := bb_ix_o h
            refine va_iast hx hb hK hP hD hS 1 0 rfl rfl hi55 dX8_findFar_41 (fun H locs hP hD hS => ?_)
            have hP : va_P (dC, dI) vwCl [((a_t 0), oX8 a_t v_t_isKept v_t_bestPost v_t_mostSeen v_t_taped v_t_from v_t_to v_t_isWrong), ((a_t 6), .inl (cy 0, 48, .inl (upd f_t_far_43 x2_42.toNatClampNeg z53))), ((a_t 8), .inl (cy 2, 48, .inl f_t_isDone_44)), ((a_t 7), .inl (cy 0, 48, .inl f_t_price))] H := hP
            have hD : va_D A [((a_t 0), oX8 a_t v_t_isKept v_t_bestPost v_t_mostSeen v_t_taped v_t_from v_t_to v_t_isWrong), ((a_t 6), .inl (cy 0, 48, .inl (upd f_t_far_43 x2_42.toNatClampNeg z53))), ((a_t 8), .inl (cy 2, 48, .inl f_t_isDone_44)), ((a_t 7), .inl (cy 0, 48, .inl f_t_price))] := hD
            refine lv_aload_n hx hb dX8_findFar_42 rfl (lv_at hl 0 rfl) ?_
            refine va_get (D := (dC, dI)) (ci := 7) (v := .ref (a_t 8)) (C := RX8) (T := TX8) (N := 20) hx hb hts iwX8 hown hK hP 0 rfl rfl 7 (by decide) lk4 (fun _ h9 => h9) rfl dX8_findFar_43 ?_
            refine lv_iload_n hx hb dX8_findFar_46 rfl (lv_at hl 2 rfl) ?_
            refine lv_iconst (v := (0 : Int32)) hx hb dX8_findFar_47 (by decide) ?_
            obtain ⟨hi56, h⟩ := bb_ix_o h
            refine va_zast hx hb hK hP hD hS 2 2 rfl rfl hi56 dX8_findFar_48 (fun H locs hP hD hS => ?_)
            have hP : va_P (dC, dI) vwCl [((a_t 0), oX8 a_t v_t_isKept v_t_bestPost v_t_mostSeen v_t_taped v_t_from v_t_to v_t_isWrong), ((a_t 6), .inl (cy 0, 48, .inl (upd f_t_far_43 x2_42.toNatClampNeg z53))), ((a_t 8), .inl (cy 2, 48, .inl (upd f_t_isDone_44 x2_42.toNatClampNeg (vp_nar .boolean (0 : Int32))))), ((a_t 7), .inl (cy 0, 48, .inl f_t_price))] H := hP
            have hD : va_D A [((a_t 0), oX8 a_t v_t_isKept v_t_bestPost v_t_mostSeen v_t_taped v_t_from v_t_to v_t_isWrong), ((a_t 6), .inl (cy 0, 48, .inl (upd f_t_far_43 x2_42.toNatClampNeg z53))), ((a_t 8), .inl (cy 2, 48, .inl (upd f_t_isDone_44 x2_42.toNatClampNeg (vp_nar .boolean (0 : Int32))))), ((a_t 7), .inl (cy 0, 48, .inl f_t_price))] := hD
            refine lv_iinc (v := x2_42 + (1 : Int32)) (lv' := [(2, .int (x2_42 + (1 : Int32))), (0, .ref (a_t 0)), (1, .int p1)]) hx hb dX8_findFar_49 hl (k := 2) rfl rfl (by decide) rfl (fun ls hl => ?_)
            refine lv_goto (tgt := 2) hx hb dX8_findFar_52 (by decide) ?_
            rw [erec47] at h
            exact toW _ _ _ (ih49 (x2_42 + (1 : Int32)) (upd f_t_far_43 x2_42.toNatClampNeg z53) (upd f_t_isDone_44 x2_42.toNatClampNeg (vp_nar .boolean (0 : Int32))) _ _ _ h hP hD hS (lv_sub hl [1, 2, 0] rfl))
          refine lv_icmp_ne (tgt := 39) hx hb dX8_findFar_27 (by decide) (fun c57 => ?_) (fun c57 => ?_)
          · replace h := bb_ifn c57 h
            refine lv_ldc (v := (1000000 : Int32)) hx hb hown lk3 dX8_findFar_39 ?_
            exact toW _ _ _ (Jk54 (1000000 : Int32) _ _ _ h hP hD hS (lv_sub hl [0, 1, 2] rfl))
          · replace h := bb_ifp c57 h
            refine lv_aload_n hx hb dX8_findFar_30 rfl (lv_at hl 0 rfl) ?_
            refine va_get (D := (dC, dI)) (ci := 7) (v := .ref (a_t 7)) (C := RX8) (T := TX8) (N := 20) hx hb hts iwX8 hown hK hP 0 rfl rfl 6 (by decide) lk2 (fun _ h9 => h9) rfl dX8_findFar_31 ?_
            refine lv_iload_n hx hb dX8_findFar_34 rfl (lv_at hl 2 rfl) ?_
            obtain ⟨hi58, h⟩ := bb_ix_o h
            refine va_iald hx hb hK hP 3 0 rfl rfl hi58 dX8_findFar_35 ?_
            refine lv_goto (tgt := 41) hx hb dX8_findFar_36 (by decide) ?_
            exact toW _ _ _ (Jk54 (f_t_price x2_42.toNatClampNeg) _ _ _ h hP hD hS (lv_sub hl [0, 1, 2] rfl))
        refine lv_if_ne (tgt := 25) hx hb dX8_findFar_18 (by decide) (fun c59 => ?_) (fun c59 => ?_)
        · replace h := bb_ifn c59 h
          refine lv_bipush (v := (7 : Int32)) hx hb dX8_findFar_25 (by decide) ?_
          exact toW _ _ _ (Jk52 (7 : Int32) _ _ _ h hP hD hS (lv_sub hl [0, 1, 2] rfl))
        · replace h := bb_ifp c59 h
          refine lv_iconst (v := (0 : Int32)) hx hb dX8_findFar_21 (by decide) ?_
          refine lv_goto (tgt := 27) hx hb dX8_findFar_22 (by decide) ?_
          exact toW _ _ _ (Jk52 (0 : Int32) _ _ _ h hP hD hS (lv_sub hl [0, 1, 2] rfl))
  exact toW _ _ _ (L48 nn (0 : Int32) f_t_far f_t_isDone _ _ _ h hP hD hS (lv_sub hl [1, 2, 0] rfl))
/-! X8_way -/
def uX8_way (nn : Nat) (p1 : Int32) (p2 : Int32) (f_t_far : Nat → Int32) (f_t_found : Nat → Int32) (f_t_isDone : Nat → Int32) (f_t_price : Nat → Int32) (f_t_s : Nat → Int32) : Option (Int32 × (Nat → Int32) × (Nat → Int32) × (Nat → Int32) × (Nat → Int32)) :=
  bb_b1 (uX8_isCell p1) (fun (r1 : Int32) => (if r1 = 0 then bb_b2 (uX8_finds (0 : Int32) f_t_found) (fun (r6 : Int32) (w7 : Nat → Int32) => some (r6, f_t_far, w7, f_t_isDone, f_t_price)) else bb_b1 (uX8_isSide p2) (fun (r9 : Int32) => (if r9 = 0 then bb_b2 (uX8_finds (0 : Int32) f_t_found) (fun (r25 : Int32) (w26 : Nat → Int32) => some (r25, f_t_far, w26, f_t_isDone, f_t_price)) else bb_b1 (uX8_findPrices nn (0 : Int32) f_t_price f_t_s) (fun (w14 : Nat → Int32) => bb_b2 (uX8_findFar nn p2 f_t_far f_t_isDone w14) (fun (w16 : Nat → Int32) (w17 : Nat → Int32) => bb_ix p1 48 ((if (1000000 : Int32) ≤ (w16 p1.toNatClampNeg) then bb_b2 (uX8_finds (3 : Int32) f_t_found) (fun (r21 : Int32) (w22 : Nat → Int32) => some (r21, w16, w22, w17, w14)) else bb_ix p1 48 (some ((w16 p1.toNatClampNeg) - (1 : Int32), w16, f_t_found, w17, w14))))))))))
theorem kdX8_way : yX8_way.cls = RX8 ∧ yX8_way.cls ≠ "java/lang/invoke/MethodHandle" ∧ yX8_way.cls ≠ "java/lang/invoke/VarHandle" ∧ (parseMethodDescriptor yX8_way.desc).map (fun d => d.parameters.length) = some 2 := by decide +kernel
set_option maxHeartbeats 4000000 in
set_option maxRecDepth 100000 in
theorem kX8_way (l : Launch) (dC : Nat → ClassId) (dI : Nat → Nat → Nat) (cy : Nat → ClassId) (sz : Nat) (a_t : Nat → Nat) (p1 : Int32) (p2 : Int32) (v_t_isKept : Int32) (v_t_bestPost : Int32) (v_t_mostSeen : Int32) (v_t_taped : Int32) (v_t_from : Int32) (v_t_to : Int32) (v_t_isWrong : Int32) (f_t_far : Nat → Int32) (f_t_found : Nat → Int32) (f_t_isDone : Nat → Int32) (f_t_price : Nat → Int32) (f_t_s : Nat → Int32) (nn : Nat) (r : Int32) (f_t_far_o : Nat → Int32) (f_t_found_o : Nat → Int32) (f_t_isDone_o : Nat → Int32) (f_t_price_o : Nat → Int32) (h : uX8_way nn p1 p2 f_t_far f_t_found f_t_isDone f_t_price f_t_s = some (r, f_t_far_o, f_t_found_o, f_t_isDone_o, f_t_price_o)) : Met l yX8_way wsX8_way ({ frames := 6, cells := 0, slots := 0, locals := 130 }) (va_Pc [.ref (a_t 0), .int p1, .int p2] (fun U => U.heap.size = sz ∧ va_P (dC, dI) vwCl [((a_t 0), oX8 a_t v_t_isKept v_t_bestPost v_t_mostSeen v_t_taped v_t_from v_t_to v_t_isWrong), ((a_t 6), .inl (cy 0, 48, .inl f_t_far)), ((a_t 5), .inl (cy 0, 7, .inl f_t_found)), ((a_t 8), .inl (cy 2, 48, .inl f_t_isDone)), ((a_t 7), .inl (cy 0, 48, .inl f_t_price)), ((a_t 1), .inl (cy 0, 155, .inl f_t_s))] U.heap ∧ va_K (dC, dI) vwCl (tyX cy) U ∧ va_D (fun _ => True) [((a_t 0), oX8 a_t v_t_isKept v_t_bestPost v_t_mostSeen v_t_taped v_t_from v_t_to v_t_isWrong), ((a_t 6), .inl (cy 0, 48, .inl f_t_far)), ((a_t 5), .inl (cy 0, 7, .inl f_t_found)), ((a_t 8), .inl (cy 2, 48, .inl f_t_isDone)), ((a_t 7), .inl (cy 0, 48, .inl f_t_price)), ((a_t 1), .inl (cy 0, 155, .inl f_t_s))])) (va_Qi (fun (r2 : Int32) (_ : Unit) => r = r2) (fun _ t => va_P (dC, dI) vwCl [((a_t 0), oX8 a_t v_t_isKept v_t_bestPost v_t_mostSeen v_t_taped v_t_from v_t_to v_t_isWrong), ((a_t 6), .inl (cy 0, 48, .inl f_t_far_o)), ((a_t 5), .inl (cy 0, 7, .inl f_t_found_o)), ((a_t 8), .inl (cy 2, 48, .inl f_t_isDone_o)), ((a_t 7), .inl (cy 0, 48, .inl f_t_price_o)), ((a_t 1), .inl (cy 0, 155, .inl f_t_s))] t.heap ∧ va_K (dC, dI) vwCl (tyX cy) t ∧ va_D (va_A [((a_t 0), oX8 a_t v_t_isKept v_t_bestPost v_t_mostSeen v_t_taped v_t_from v_t_to v_t_isWrong), ((a_t 6), .inl (cy 0, 48, .inl f_t_far)), ((a_t 5), .inl (cy 0, 7, .inl f_t_found)), ((a_t 8), .inl (cy 2, 48, .inl f_t_isDone)), ((a_t 7), .inl (cy 0, 48, .inl f_t_price)), ((a_t 1), .inl (cy 0, 155, .inl f_t_s))] sz) [((a_t 0), oX8 a_t v_t_isKept v_t_bestPost v_t_mostSeen v_t_taped v_t_from v_t_to v_t_isWrong), ((a_t 6), .inl (cy 0, 48, .inl f_t_far_o)), ((a_t 5), .inl (cy 0, 7, .inl f_t_found_o)), ((a_t 8), .inl (cy 2, 48, .inl f_t_isDone_o)), ((a_t 7), .inl (cy 0, 48, .inl f_t_price_o)), ((a_t 1), .inl (cy 0, 155, .inl f_t_s))]) (va_A [((a_t 0), oX8 a_t v_t_isKept v_t_bestPost v_t_mostSeen v_t_taped v_t_from v_t_to v_t_isWrong), ((a_t 6), .inl (cy 0, 48, .inl f_t_far)), ((a_t 5), .inl (cy 0, 7, .inl f_t_found)), ((a_t 8), .inl (cy 2, 48, .inl f_t_isDone)), ((a_t 7), .inl (cy 0, 48, .inl f_t_price)), ((a_t 1), .inl (cy 0, 155, .inl f_t_s))] sz)) 0 0 (va_A [((a_t 0), oX8 a_t v_t_isKept v_t_bestPost v_t_mostSeen v_t_taped v_t_from v_t_to v_t_isWrong), ((a_t 6), .inl (cy 0, 48, .inl f_t_far)), ((a_t 5), .inl (cy 0, 7, .inl f_t_found)), ((a_t 8), .inl (cy 2, 48, .inl f_t_isDone)), ((a_t 7), .inl (cy 0, 48, .inl f_t_price)), ((a_t 1), .inl (cy 0, 155, .inl f_t_s))] sz) := by
  refine Met.ofW (cc := cX8_way) (maxL := 3) (ret := (some .int)) (by decide) rfl ?_
  intro p e s m args below meth c s₁ B hml hv
  obtain ⟨rfl, hsz, hP, hK, hD0⟩ := hv
  have hx := B.exec
  have hb := B.bytes
  have hr := B.returns
  have hts := atoms_spec (ws := wsX8_way) B.pre
  have hown : s.vm.findClass RX8 = some m.cls := findClass_of_methodNamed B.named
  have hlocks := B.notSynchronized
  have iwX8 : ∀ w ∈ wsX80, w ∈ wsX8_way := fun w h9 => List.mem_cons_of_mem _ (List.mem_append_right _ (h9))
  have lk1 := hts (Cond.fieldLink RX8 22 "BathBorderModel" "far" "[I") (List.mem_of_getElem? (i := 1) rfl)
  have lk2 := hts (Cond.constant RX8 219 (1000000)) (List.mem_of_getElem? (i := 2) rfl)
  subst hsz
  have hD := hD0.self (sz := s.heap.size)
  generalize hAe : va_A [((a_t 0), oX8 a_t v_t_isKept v_t_bestPost v_t_mostSeen v_t_taped v_t_from v_t_to v_t_isWrong), ((a_t 6), .inl (cy 0, 48, .inl f_t_far)), ((a_t 5), .inl (cy 0, 7, .inl f_t_found)), ((a_t 8), .inl (cy 2, 48, .inl f_t_isDone)), ((a_t 7), .inl (cy 0, 48, .inl f_t_price)), ((a_t 1), .inl (cy 0, 155, .inl f_t_s))] s.heap.size = A at hD ⊢
  have hA : ∀ q : Nat, s.heap.size ≤ q → A q := fun q h => by rw [← hAe]; exact Or.inr h
  have hS : va_S A s.heap s.heap [] := va_S.rf
  have hP : va_P (dC, dI) vwCl [((a_t 0), oX8 a_t v_t_isKept v_t_bestPost v_t_mostSeen v_t_taped v_t_from v_t_to v_t_isWrong), ((a_t 6), .inl (cy 0, 48, .inl f_t_far)), ((a_t 5), .inl (cy 0, 7, .inl f_t_found)), ((a_t 8), .inl (cy 2, 48, .inl f_t_isDone)), ((a_t 7), .inl (cy 0, 48, .inl f_t_price)), ((a_t 1), .inl (cy 0, 155, .inl f_t_s))] s.heap := hP
  have hl := lv_entry ([.ref (a_t 0), .int p1, .int p2]) (n := 3) (Nat.le_of_ble_eq_true rfl)
  rw [lg_entry_eq]
  generalize (lg_sl ([.ref (a_t 0), .int p1, .int p2]) ++ List.replicate (3 - (lg_sl ([.ref (a_t 0), .int p1, .int p2])).length) Slot.unset).toArray = ls at hl ⊢
  have hl : lv_has ls 3 [(0, .ref (a_t 0)), (1, .int p1), (2, .int p2)] := hl
  unfold uX8_way at h
  refine bb_cap (fun WW toW ofW => ?_)
  refine lv_iload_n hx hb dX8_way_0 rfl (lv_at hl 1 rfl) ?_
  obtain ⟨r1, hc2, h⟩ := bb_b1_o h
  refine vp_callSi (W.runS (As := [.int p1]) (rest := []) ⟨hx, hb, hml, hown, hts⟩ (kX8_isCell l dC dI cy p1 r1 hc2) (va_cwS 1 hts gX8_way_X8_isCell rfl rfl rfl kdX8_isCell ⟨Nat.le_of_ble_eq_true rfl, Nat.le_of_ble_eq_true rfl⟩) (bb_preS (hP.sub (ws' := []) [] rfl) hK) rfl rfl hl.1 rfl (lv_room (Nat.le_of_ble_eq_true rfl)) dX8_way_1 ⟨Nat.zero_le _, Nat.zero_le _⟩) (fun t3 et3 => ?_)
  obtain ⟨rfl, hz4⟩ := et3
  refine lv_if_eq (tgt := 14) hx hb dX8_way_4 (by decide) (fun c5 => ?_) (fun c5 => ?_)
  · replace h := bb_ifp c5 h
    refine lv_aload_n hx hb dX8_way_14 rfl (lv_at hl 0 rfl) ?_
    refine lv_iconst (v := (0 : Int32)) hx hb dX8_way_15 (by decide) ?_
    obtain ⟨r6, w7, hc8, h⟩ := bb_b2_o h
    refine bb_cwi (wr := [((a_t 6), .inl (cy 0, 48, .inl f_t_far)), ((a_t 8), .inl (cy 2, 48, .inl f_t_isDone)), ((a_t 7), .inl (cy 0, 48, .inl f_t_price)), ((a_t 1), .inl (cy 0, 155, .inl f_t_s))]) (w1 := [((a_t 0), oX8 a_t v_t_isKept v_t_bestPost v_t_mostSeen v_t_taped v_t_from v_t_to v_t_isWrong), ((a_t 5), .inl (cy 0, 7, .inl w7))]) (va_runV (As := [.int (0 : Int32)]) (rest := []) ⟨hx, hb, hml, hown, hts⟩ (kX8_finds l dC dI cy s.heap.size a_t (0 : Int32) v_t_isKept v_t_bestPost v_t_mostSeen v_t_taped v_t_from v_t_to v_t_isWrong f_t_found r6 w7 hc8) (cwV 1 hts gX8_way_X8_finds rfl rfl rfl kdX8_finds ⟨Nat.le_of_ble_eq_true rfl, Nat.le_of_ble_eq_true rfl⟩) (bb_preVw (va_recv hK hP (ci := 7) (q0 := 0) rfl rfl) (hP.sub (ws' := [((a_t 0), oX8 a_t v_t_isKept v_t_bestPost v_t_mostSeen v_t_taped v_t_from v_t_to v_t_isWrong), ((a_t 5), .inl (cy 0, 7, .inl f_t_found))]) [0, 2] rfl) hK (hD.sub (ws' := [((a_t 0), oX8 a_t v_t_isKept v_t_bestPost v_t_mostSeen v_t_taped v_t_from v_t_to v_t_isWrong), ((a_t 5), .inl (cy 0, 7, .inl f_t_found))]) [0, 2] (by decide) rfl)) rfl rfl hl.1 rfl (lv_room (Nat.le_of_ble_eq_true rfl)) dX8_way_16 ⟨Nat.zero_le _, Nat.zero_le _⟩) hP hD hS hA [0, 2] [1, 3, 4, 5] rfl rfl (by decide) (by decide) (fun H locs hP hD hS => ?_)
    have hP : va_P (dC, dI) vwCl [((a_t 6), .inl (cy 0, 48, .inl f_t_far)), ((a_t 8), .inl (cy 2, 48, .inl f_t_isDone)), ((a_t 7), .inl (cy 0, 48, .inl f_t_price)), ((a_t 1), .inl (cy 0, 155, .inl f_t_s)), ((a_t 0), oX8 a_t v_t_isKept v_t_bestPost v_t_mostSeen v_t_taped v_t_from v_t_to v_t_isWrong), ((a_t 5), .inl (cy 0, 7, .inl w7))] H := hP
    have hD : va_D A [((a_t 6), .inl (cy 0, 48, .inl f_t_far)), ((a_t 8), .inl (cy 2, 48, .inl f_t_isDone)), ((a_t 7), .inl (cy 0, 48, .inl f_t_price)), ((a_t 1), .inl (cy 0, 155, .inl f_t_s)), ((a_t 0), oX8 a_t v_t_isKept v_t_bestPost v_t_mostSeen v_t_taped v_t_from v_t_to v_t_isWrong), ((a_t 5), .inl (cy 0, 7, .inl w7))] := hD
    obtain ⟨rfl, rfl, rfl, rfl, rfl⟩ := bb_some5 h
    have hP9 := hP.sub (ws' := [((a_t 0), oX8 a_t v_t_isKept v_t_bestPost v_t_mostSeen v_t_taped v_t_from v_t_to v_t_isWrong), ((a_t 6), .inl (cy 0, 48, .inl f_t_far)), ((a_t 5), .inl (cy 0, 7, .inl w7)), ((a_t 8), .inl (cy 2, 48, .inl f_t_isDone)), ((a_t 7), .inl (cy 0, 48, .inl f_t_price)), ((a_t 1), .inl (cy 0, 155, .inl f_t_s))]) [4, 0, 5, 1, 2, 3] rfl
    have hD9 := hD.sub (ws' := [((a_t 0), oX8 a_t v_t_isKept v_t_bestPost v_t_mostSeen v_t_taped v_t_from v_t_to v_t_isWrong), ((a_t 6), .inl (cy 0, 48, .inl f_t_far)), ((a_t 5), .inl (cy 0, 7, .inl w7)), ((a_t 8), .inl (cy 2, 48, .inl f_t_isDone)), ((a_t 7), .inl (cy 0, 48, .inl f_t_price)), ((a_t 1), .inl (cy 0, 155, .inl f_t_s))]) [4, 0, 5, 1, 2, 3] (by decide) rfl
    exact W.iret hx hb hr (fun t ht hW => ⟨⟨_, (), rfl, rfl, by rw [ht]; exact hP9, va_K.moved hW.alike hK, hD9⟩, hS.F ht⟩) hS.2.2 dX8_way_19
  · replace h := bb_ifn c5 h
    refine lv_iload_n hx hb dX8_way_7 rfl (lv_at hl 2 rfl) ?_
    obtain ⟨r9, hc10, h⟩ := bb_b1_o h
    refine vp_callSi (W.runS (As := [.int p2]) (rest := []) ⟨hx, hb, hml, hown, hts⟩ (kX8_isSide l dC dI cy p2 r9 hc10) (va_cwS 1 hts gX8_way_X8_isSide rfl rfl rfl kdX8_isSide ⟨Nat.le_of_ble_eq_true rfl, Nat.le_of_ble_eq_true rfl⟩) (bb_preS (hP.sub (ws' := []) [] rfl) hK) rfl rfl hl.1 rfl (lv_room (Nat.le_of_ble_eq_true rfl)) dX8_way_8 ⟨Nat.zero_le _, Nat.zero_le _⟩) (fun t11 et11 => ?_)
    obtain ⟨rfl, hz12⟩ := et11
    refine lv_if_ne (tgt := 20) hx hb dX8_way_11 (by decide) (fun c13 => ?_) (fun c13 => ?_)
    · replace h := bb_ifn c13 h
      refine lv_aload_n hx hb dX8_way_20 rfl (lv_at hl 0 rfl) ?_
      refine lv_iconst (v := (0 : Int32)) hx hb dX8_way_21 (by decide) ?_
      obtain ⟨w14, hc15, h⟩ := bb_b1_o h
      refine bb_cwv (wr := [((a_t 6), .inl (cy 0, 48, .inl f_t_far)), ((a_t 5), .inl (cy 0, 7, .inl f_t_found)), ((a_t 8), .inl (cy 2, 48, .inl f_t_isDone))]) (w1 := [((a_t 0), oX8 a_t v_t_isKept v_t_bestPost v_t_mostSeen v_t_taped v_t_from v_t_to v_t_isWrong), ((a_t 7), .inl (cy 0, 48, .inl w14)), ((a_t 1), .inl (cy 0, 155, .inl f_t_s))]) (va_runV (As := [.int (0 : Int32)]) (rest := []) ⟨hx, hb, hml, hown, hts⟩ (kX8_findPrices l dC dI cy s.heap.size a_t (0 : Int32) v_t_isKept v_t_bestPost v_t_mostSeen v_t_taped v_t_from v_t_to v_t_isWrong f_t_price f_t_s nn w14 hc15) (cwV 1 hts gX8_way_X8_findPrices rfl rfl rfl kdX8_findPrices ⟨Nat.le_of_ble_eq_true rfl, Nat.le_of_ble_eq_true rfl⟩) (bb_preVw (va_recv hK hP (ci := 7) (q0 := 0) rfl rfl) (hP.sub (ws' := [((a_t 0), oX8 a_t v_t_isKept v_t_bestPost v_t_mostSeen v_t_taped v_t_from v_t_to v_t_isWrong), ((a_t 7), .inl (cy 0, 48, .inl f_t_price)), ((a_t 1), .inl (cy 0, 155, .inl f_t_s))]) [0, 4, 5] rfl) hK (hD.sub (ws' := [((a_t 0), oX8 a_t v_t_isKept v_t_bestPost v_t_mostSeen v_t_taped v_t_from v_t_to v_t_isWrong), ((a_t 7), .inl (cy 0, 48, .inl f_t_price)), ((a_t 1), .inl (cy 0, 155, .inl f_t_s))]) [0, 4, 5] (by decide) rfl)) rfl rfl hl.1 rfl (lv_room (Nat.le_of_ble_eq_true rfl)) dX8_way_22 ⟨Nat.zero_le _, Nat.zero_le _⟩) hP hD hS hA [0, 4, 5] [1, 2, 3] rfl rfl (by decide) (by decide) (fun H locs hP hD hS => ?_)
      have hP : va_P (dC, dI) vwCl [((a_t 6), .inl (cy 0, 48, .inl f_t_far)), ((a_t 5), .inl (cy 0, 7, .inl f_t_found)), ((a_t 8), .inl (cy 2, 48, .inl f_t_isDone)), ((a_t 0), oX8 a_t v_t_isKept v_t_bestPost v_t_mostSeen v_t_taped v_t_from v_t_to v_t_isWrong), ((a_t 7), .inl (cy 0, 48, .inl w14)), ((a_t 1), .inl (cy 0, 155, .inl f_t_s))] H := hP
      have hD : va_D A [((a_t 6), .inl (cy 0, 48, .inl f_t_far)), ((a_t 5), .inl (cy 0, 7, .inl f_t_found)), ((a_t 8), .inl (cy 2, 48, .inl f_t_isDone)), ((a_t 0), oX8 a_t v_t_isKept v_t_bestPost v_t_mostSeen v_t_taped v_t_from v_t_to v_t_isWrong), ((a_t 7), .inl (cy 0, 48, .inl w14)), ((a_t 1), .inl (cy 0, 155, .inl f_t_s))] := hD
      refine lv_aload_n hx hb dX8_way_25 rfl (lv_at hl 0 rfl) ?_
      refine lv_iload_n hx hb dX8_way_26 rfl (lv_at hl 2 rfl) ?_
      obtain ⟨w16, w17, hc18, h⟩ := bb_b2_o h
      refine bb_cwv (wr := [((a_t 5), .inl (cy 0, 7, .inl f_t_found)), ((a_t 1), .inl (cy 0, 155, .inl f_t_s))]) (w1 := [((a_t 0), oX8 a_t v_t_isKept v_t_bestPost v_t_mostSeen v_t_taped v_t_from v_t_to v_t_isWrong), ((a_t 6), .inl (cy 0, 48, .inl w16)), ((a_t 8), .inl (cy 2, 48, .inl w17)), ((a_t 7), .inl (cy 0, 48, .inl w14))]) (va_runV (As := [.int p2]) (rest := []) ⟨hx, hb, hml, hown, hts⟩ (kX8_findFar l dC dI cy H.size a_t p2 v_t_isKept v_t_bestPost v_t_mostSeen v_t_taped v_t_from v_t_to v_t_isWrong f_t_far f_t_isDone w14 nn w16 w17 hc18) (cwV 1 hts gX8_way_X8_findFar rfl rfl rfl kdX8_findFar ⟨Nat.le_of_ble_eq_true rfl, Nat.le_of_ble_eq_true rfl⟩) (bb_preVw (va_recv hK hP (ci := 7) (q0 := 3) rfl rfl) (hP.sub (ws' := [((a_t 0), oX8 a_t v_t_isKept v_t_bestPost v_t_mostSeen v_t_taped v_t_from v_t_to v_t_isWrong), ((a_t 6), .inl (cy 0, 48, .inl f_t_far)), ((a_t 8), .inl (cy 2, 48, .inl f_t_isDone)), ((a_t 7), .inl (cy 0, 48, .inl w14))]) [3, 0, 2, 4] rfl) hK (hD.sub (ws' := [((a_t 0), oX8 a_t v_t_isKept v_t_bestPost v_t_mostSeen v_t_taped v_t_from v_t_to v_t_isWrong), ((a_t 6), .inl (cy 0, 48, .inl f_t_far)), ((a_t 8), .inl (cy 2, 48, .inl f_t_isDone)), ((a_t 7), .inl (cy 0, 48, .inl w14))]) [3, 0, 2, 4] (by decide) rfl)) rfl rfl hl.1 rfl (lv_room (Nat.le_of_ble_eq_true rfl)) dX8_way_27 ⟨Nat.zero_le _, Nat.zero_le _⟩) hP hD hS hA [3, 0, 2, 4] [1, 5] rfl rfl (by decide) (by decide) (fun H locs hP hD hS => ?_)
      have hP : va_P (dC, dI) vwCl [((a_t 5), .inl (cy 0, 7, .inl f_t_found)), ((a_t 1), .inl (cy 0, 155, .inl f_t_s)), ((a_t 0), oX8 a_t v_t_isKept v_t_bestPost v_t_mostSeen v_t_taped v_t_from v_t_to v_t_isWrong), ((a_t 6), .inl (cy 0, 48, .inl w16)), ((a_t 8), .inl (cy 2, 48, .inl w17)), ((a_t 7), .inl (cy 0, 48, .inl w14))] H := hP
      have hD : va_D A [((a_t 5), .inl (cy 0, 7, .inl f_t_found)), ((a_t 1), .inl (cy 0, 155, .inl f_t_s)), ((a_t 0), oX8 a_t v_t_isKept v_t_bestPost v_t_mostSeen v_t_taped v_t_from v_t_to v_t_isWrong), ((a_t 6), .inl (cy 0, 48, .inl w16)), ((a_t 8), .inl (cy 2, 48, .inl w17)), ((a_t 7), .inl (cy 0, 48, .inl w14))] := hD
      refine lv_aload_n hx hb dX8_way_30 rfl (lv_at hl 0 rfl) ?_
      refine va_get (D := (dC, dI)) (ci := 7) (v := .ref (a_t 6)) (C := RX8) (T := TX8) (N := 20) hx hb hts iwX8 hown hK hP 2 rfl rfl 5 (by decide) lk1 (fun _ h9 => h9) rfl dX8_way_31 ?_
      refine lv_iload_n hx hb dX8_way_34 rfl (lv_at hl 1 rfl) ?_
      obtain ⟨hi19, h⟩ := bb_ix_o h
      refine va_iald hx hb hK hP 3 0 rfl rfl hi19 dX8_way_35 ?_
      refine lv_ldc (v := (1000000 : Int32)) hx hb hown lk2 dX8_way_36 ?_
      refine lv_icmp_ge (tgt := 52) hx hb dX8_way_38 (by decide) (fun c20 => ?_) (fun c20 => ?_)
      · replace h := bb_ifp c20 h
        refine lv_aload_n hx hb dX8_way_52 rfl (lv_at hl 0 rfl) ?_
        refine lv_iconst (v := (3 : Int32)) hx hb dX8_way_53 (by decide) ?_
        obtain ⟨r21, w22, hc23, h⟩ := bb_b2_o h
        refine bb_cwi (wr := [((a_t 1), .inl (cy 0, 155, .inl f_t_s)), ((a_t 6), .inl (cy 0, 48, .inl w16)), ((a_t 8), .inl (cy 2, 48, .inl w17)), ((a_t 7), .inl (cy 0, 48, .inl w14))]) (w1 := [((a_t 0), oX8 a_t v_t_isKept v_t_bestPost v_t_mostSeen v_t_taped v_t_from v_t_to v_t_isWrong), ((a_t 5), .inl (cy 0, 7, .inl w22))]) (va_runV (As := [.int (3 : Int32)]) (rest := []) ⟨hx, hb, hml, hown, hts⟩ (kX8_finds l dC dI cy H.size a_t (3 : Int32) v_t_isKept v_t_bestPost v_t_mostSeen v_t_taped v_t_from v_t_to v_t_isWrong f_t_found r21 w22 hc23) (cwV 1 hts gX8_way_X8_finds rfl rfl rfl kdX8_finds ⟨Nat.le_of_ble_eq_true rfl, Nat.le_of_ble_eq_true rfl⟩) (bb_preVw (va_recv hK hP (ci := 7) (q0 := 2) rfl rfl) (hP.sub (ws' := [((a_t 0), oX8 a_t v_t_isKept v_t_bestPost v_t_mostSeen v_t_taped v_t_from v_t_to v_t_isWrong), ((a_t 5), .inl (cy 0, 7, .inl f_t_found))]) [2, 0] rfl) hK (hD.sub (ws' := [((a_t 0), oX8 a_t v_t_isKept v_t_bestPost v_t_mostSeen v_t_taped v_t_from v_t_to v_t_isWrong), ((a_t 5), .inl (cy 0, 7, .inl f_t_found))]) [2, 0] (by decide) rfl)) rfl rfl hl.1 rfl (lv_room (Nat.le_of_ble_eq_true rfl)) dX8_way_54 ⟨Nat.zero_le _, Nat.zero_le _⟩) hP hD hS hA [2, 0] [1, 3, 4, 5] rfl rfl (by decide) (by decide) (fun H locs hP hD hS => ?_)
        have hP : va_P (dC, dI) vwCl [((a_t 1), .inl (cy 0, 155, .inl f_t_s)), ((a_t 6), .inl (cy 0, 48, .inl w16)), ((a_t 8), .inl (cy 2, 48, .inl w17)), ((a_t 7), .inl (cy 0, 48, .inl w14)), ((a_t 0), oX8 a_t v_t_isKept v_t_bestPost v_t_mostSeen v_t_taped v_t_from v_t_to v_t_isWrong), ((a_t 5), .inl (cy 0, 7, .inl w22))] H := hP
        have hD : va_D A [((a_t 1), .inl (cy 0, 155, .inl f_t_s)), ((a_t 6), .inl (cy 0, 48, .inl w16)), ((a_t 8), .inl (cy 2, 48, .inl w17)), ((a_t 7), .inl (cy 0, 48, .inl w14)), ((a_t 0), oX8 a_t v_t_isKept v_t_bestPost v_t_mostSeen v_t_taped v_t_from v_t_to v_t_isWrong), ((a_t 5), .inl (cy 0, 7, .inl w22))] := hD
        obtain ⟨rfl, rfl, rfl, rfl, rfl⟩ := bb_some5 h
        have hP9 := hP.sub (ws' := [((a_t 0), oX8 a_t v_t_isKept v_t_bestPost v_t_mostSeen v_t_taped v_t_from v_t_to v_t_isWrong), ((a_t 6), .inl (cy 0, 48, .inl w16)), ((a_t 5), .inl (cy 0, 7, .inl w22)), ((a_t 8), .inl (cy 2, 48, .inl w17)), ((a_t 7), .inl (cy 0, 48, .inl w14)), ((a_t 1), .inl (cy 0, 155, .inl f_t_s))]) [4, 1, 5, 2, 3, 0] rfl
        have hD9 := hD.sub (ws' := [((a_t 0), oX8 a_t v_t_isKept v_t_bestPost v_t_mostSeen v_t_taped v_t_from v_t_to v_t_isWrong), ((a_t 6), .inl (cy 0, 48, .inl w16)), ((a_t 5), .inl (cy 0, 7, .inl w22)), ((a_t 8), .inl (cy 2, 48, .inl w17)), ((a_t 7), .inl (cy 0, 48, .inl w14)), ((a_t 1), .inl (cy 0, 155, .inl f_t_s))]) [4, 1, 5, 2, 3, 0] (by decide) rfl
        exact W.iret hx hb hr (fun t ht hW => ⟨⟨_, (), rfl, rfl, by rw [ht]; exact hP9, va_K.moved hW.alike hK, hD9⟩, hS.F ht⟩) hS.2.2 dX8_way_57
      · replace h := bb_ifn c20 h
        refine lv_aload_n hx hb dX8_way_41 rfl (lv_at hl 0 rfl) ?_
        refine va_get (D := (dC, dI)) (ci := 7) (v := .ref (a_t 6)) (C := RX8) (T := TX8) (N := 20) hx hb hts iwX8 hown hK hP 2 rfl rfl 5 (by decide) lk1 (fun _ h9 => h9) rfl dX8_way_42 ?_
        refine lv_iload_n hx hb dX8_way_45 rfl (lv_at hl 1 rfl) ?_
        obtain ⟨hi24, h⟩ := bb_ix_o h
        refine va_iald hx hb hK hP 3 0 rfl rfl hi24 dX8_way_46 ?_
        refine lv_iconst (v := (1 : Int32)) hx hb dX8_way_47 (by decide) ?_
        refine lv_isub hx hb dX8_way_48 ?_
        refine lv_goto (tgt := 57) hx hb dX8_way_49 (by decide) ?_
        obtain ⟨rfl, rfl, rfl, rfl, rfl⟩ := bb_some5 h
        have hP9 := hP.sub (ws' := [((a_t 0), oX8 a_t v_t_isKept v_t_bestPost v_t_mostSeen v_t_taped v_t_from v_t_to v_t_isWrong), ((a_t 6), .inl (cy 0, 48, .inl w16)), ((a_t 5), .inl (cy 0, 7, .inl f_t_found)), ((a_t 8), .inl (cy 2, 48, .inl w17)), ((a_t 7), .inl (cy 0, 48, .inl w14)), ((a_t 1), .inl (cy 0, 155, .inl f_t_s))]) [2, 3, 0, 4, 5, 1] rfl
        have hD9 := hD.sub (ws' := [((a_t 0), oX8 a_t v_t_isKept v_t_bestPost v_t_mostSeen v_t_taped v_t_from v_t_to v_t_isWrong), ((a_t 6), .inl (cy 0, 48, .inl w16)), ((a_t 5), .inl (cy 0, 7, .inl f_t_found)), ((a_t 8), .inl (cy 2, 48, .inl w17)), ((a_t 7), .inl (cy 0, 48, .inl w14)), ((a_t 1), .inl (cy 0, 155, .inl f_t_s))]) [2, 3, 0, 4, 5, 1] (by decide) rfl
        exact W.iret hx hb hr (fun t ht hW => ⟨⟨_, (), rfl, rfl, by rw [ht]; exact hP9, va_K.moved hW.alike hK, hD9⟩, hS.F ht⟩) hS.2.2 dX8_way_57
    · replace h := bb_ifp c13 h
      refine lv_aload_n hx hb dX8_way_14 rfl (lv_at hl 0 rfl) ?_
      refine lv_iconst (v := (0 : Int32)) hx hb dX8_way_15 (by decide) ?_
      obtain ⟨r25, w26, hc27, h⟩ := bb_b2_o h
      refine bb_cwi (wr := [((a_t 6), .inl (cy 0, 48, .inl f_t_far)), ((a_t 8), .inl (cy 2, 48, .inl f_t_isDone)), ((a_t 7), .inl (cy 0, 48, .inl f_t_price)), ((a_t 1), .inl (cy 0, 155, .inl f_t_s))]) (w1 := [((a_t 0), oX8 a_t v_t_isKept v_t_bestPost v_t_mostSeen v_t_taped v_t_from v_t_to v_t_isWrong), ((a_t 5), .inl (cy 0, 7, .inl w26))]) (va_runV (As := [.int (0 : Int32)]) (rest := []) ⟨hx, hb, hml, hown, hts⟩ (kX8_finds l dC dI cy s.heap.size a_t (0 : Int32) v_t_isKept v_t_bestPost v_t_mostSeen v_t_taped v_t_from v_t_to v_t_isWrong f_t_found r25 w26 hc27) (cwV 1 hts gX8_way_X8_finds rfl rfl rfl kdX8_finds ⟨Nat.le_of_ble_eq_true rfl, Nat.le_of_ble_eq_true rfl⟩) (bb_preVw (va_recv hK hP (ci := 7) (q0 := 0) rfl rfl) (hP.sub (ws' := [((a_t 0), oX8 a_t v_t_isKept v_t_bestPost v_t_mostSeen v_t_taped v_t_from v_t_to v_t_isWrong), ((a_t 5), .inl (cy 0, 7, .inl f_t_found))]) [0, 2] rfl) hK (hD.sub (ws' := [((a_t 0), oX8 a_t v_t_isKept v_t_bestPost v_t_mostSeen v_t_taped v_t_from v_t_to v_t_isWrong), ((a_t 5), .inl (cy 0, 7, .inl f_t_found))]) [0, 2] (by decide) rfl)) rfl rfl hl.1 rfl (lv_room (Nat.le_of_ble_eq_true rfl)) dX8_way_16 ⟨Nat.zero_le _, Nat.zero_le _⟩) hP hD hS hA [0, 2] [1, 3, 4, 5] rfl rfl (by decide) (by decide) (fun H locs hP hD hS => ?_)
      have hP : va_P (dC, dI) vwCl [((a_t 6), .inl (cy 0, 48, .inl f_t_far)), ((a_t 8), .inl (cy 2, 48, .inl f_t_isDone)), ((a_t 7), .inl (cy 0, 48, .inl f_t_price)), ((a_t 1), .inl (cy 0, 155, .inl f_t_s)), ((a_t 0), oX8 a_t v_t_isKept v_t_bestPost v_t_mostSeen v_t_taped v_t_from v_t_to v_t_isWrong), ((a_t 5), .inl (cy 0, 7, .inl w26))] H := hP
      have hD : va_D A [((a_t 6), .inl (cy 0, 48, .inl f_t_far)), ((a_t 8), .inl (cy 2, 48, .inl f_t_isDone)), ((a_t 7), .inl (cy 0, 48, .inl f_t_price)), ((a_t 1), .inl (cy 0, 155, .inl f_t_s)), ((a_t 0), oX8 a_t v_t_isKept v_t_bestPost v_t_mostSeen v_t_taped v_t_from v_t_to v_t_isWrong), ((a_t 5), .inl (cy 0, 7, .inl w26))] := hD
      obtain ⟨rfl, rfl, rfl, rfl, rfl⟩ := bb_some5 h
      have hP9 := hP.sub (ws' := [((a_t 0), oX8 a_t v_t_isKept v_t_bestPost v_t_mostSeen v_t_taped v_t_from v_t_to v_t_isWrong), ((a_t 6), .inl (cy 0, 48, .inl f_t_far)), ((a_t 5), .inl (cy 0, 7, .inl w26)), ((a_t 8), .inl (cy 2, 48, .inl f_t_isDone)), ((a_t 7), .inl (cy 0, 48, .inl f_t_price)), ((a_t 1), .inl (cy 0, 155, .inl f_t_s))]) [4, 0, 5, 1, 2, 3] rfl
      have hD9 := hD.sub (ws' := [((a_t 0), oX8 a_t v_t_isKept v_t_bestPost v_t_mostSeen v_t_taped v_t_from v_t_to v_t_isWrong), ((a_t 6), .inl (cy 0, 48, .inl f_t_far)), ((a_t 5), .inl (cy 0, 7, .inl w26)), ((a_t 8), .inl (cy 2, 48, .inl f_t_isDone)), ((a_t 7), .inl (cy 0, 48, .inl f_t_price)), ((a_t 1), .inl (cy 0, 155, .inl f_t_s))]) [4, 0, 5, 1, 2, 3] (by decide) rfl
      exact W.iret hx hb hr (fun t ht hW => ⟨⟨_, (), rfl, rfl, by rw [ht]; exact hP9, va_K.moved hW.alike hK, hD9⟩, hS.F ht⟩) hS.2.2 dX8_way_19
/-! X8_next -/
def uX8_next_s67 (x1_26 : Int32) (f_t_far_27 : Nat → Int32) (f_t_found_28 : Nat → Int32) (f_t_isDone_29 : Nat → Int32) (f_t_price_30 : Nat → Int32) (rec32 : Int32 → Int32 → Option (Int32 × (Nat → Int32) × (Nat → Int32) × (Nat → Int32) × (Nat → Int32))) (x3_24 : Int32) (x4_25 : Int32) : Option (Int32 × (Nat → Int32) × (Nat → Int32) × (Nat → Int32) × (Nat → Int32)) :=
  (if (4 : Int32) < x4_25 then some (x3_24, f_t_far_27, f_t_found_28, f_t_isDone_29, f_t_price_30) else bb_b1 (uX8_beside x1_26 x4_25) (fun (r36 : Int32) => bb_cut (fun (z39 : Int32) => rec32 z39 (x4_25 + (1 : Int32))) (fun k40 => bb_cut (fun (u41 : Unit) => k40 x3_24) (fun k42 => (if r36 < 0 then k42 () else bb_ix r36 48 (bb_ix x1_26 48 ((if (f_t_far_27 r36.toNatClampNeg) = ((f_t_far_27 x1_26.toNatClampNeg) - (1 : Int32)) then k40 (if r36 < x3_24 then r36 else x3_24) else k42 ()))))))))
def uX8_next (nn : Nat) (p1 : Int32) (p2 : Int32) (f_t_far : Nat → Int32) (f_t_found : Nat → Int32) (f_t_isDone : Nat → Int32) (f_t_price : Nat → Int32) (f_t_s : Nat → Int32) : Option (Int32 × (Nat → Int32) × (Nat → Int32) × (Nat → Int32) × (Nat → Int32)) :=
  bb_b1 (uX8_isCell p1) (fun (r1 : Int32) => (if r1 = 0 then bb_b2 (uX8_finds (0 : Int32) f_t_found) (fun (r6 : Int32) (w7 : Nat → Int32) => some (r6, f_t_far, w7, f_t_isDone, f_t_price)) else bb_b1 (uX8_isSide p2) (fun (r9 : Int32) => (if r9 = 0 then bb_b2 (uX8_finds (0 : Int32) f_t_found) (fun (r51 : Int32) (w52 : Nat → Int32) => some (r51, f_t_far, w52, f_t_isDone, f_t_price)) else bb_b1 (uX8_findPrices nn (0 : Int32) f_t_price f_t_s) (fun (w14 : Nat → Int32) => bb_b2 (uX8_findFar nn p2 f_t_far f_t_isDone w14) (fun (w16 : Nat → Int32) (w17 : Nat → Int32) => bb_ix p1 48 ((if (w16 p1.toNatClampNeg) < (1000000 : Int32) then bb_ix p1 48 (bb_cut (fun (z22 : Int32) => bb_loop2 (uX8_next_s67 p1 w16 f_t_found w17 w14) nn z22 (1 : Int32)) (fun k23 => (if (w16 p1.toNatClampNeg) = (1 : Int32) then k23 p1 else k23 (48 : Int32)))) else bb_b2 (uX8_finds (3 : Int32) f_t_found) (fun (r48 : Int32) (w49 : Nat → Int32) => some (r48, w16, w49, w17, w14))))))))))
theorem kdX8_next : yX8_next.cls = RX8 ∧ yX8_next.cls ≠ "java/lang/invoke/MethodHandle" ∧ yX8_next.cls ≠ "java/lang/invoke/VarHandle" ∧ (parseMethodDescriptor yX8_next.desc).map (fun d => d.parameters.length) = some 2 := by decide +kernel
set_option maxHeartbeats 4000000 in
set_option maxRecDepth 100000 in
theorem kX8_next (l : Launch) (dC : Nat → ClassId) (dI : Nat → Nat → Nat) (cy : Nat → ClassId) (sz : Nat) (a_t : Nat → Nat) (p1 : Int32) (p2 : Int32) (v_t_isKept : Int32) (v_t_bestPost : Int32) (v_t_mostSeen : Int32) (v_t_taped : Int32) (v_t_from : Int32) (v_t_to : Int32) (v_t_isWrong : Int32) (f_t_far : Nat → Int32) (f_t_found : Nat → Int32) (f_t_isDone : Nat → Int32) (f_t_price : Nat → Int32) (f_t_s : Nat → Int32) (nn : Nat) (r : Int32) (f_t_far_o : Nat → Int32) (f_t_found_o : Nat → Int32) (f_t_isDone_o : Nat → Int32) (f_t_price_o : Nat → Int32) (h : uX8_next nn p1 p2 f_t_far f_t_found f_t_isDone f_t_price f_t_s = some (r, f_t_far_o, f_t_found_o, f_t_isDone_o, f_t_price_o)) : Met l yX8_next wsX8_next ({ frames := 6, cells := 0, slots := 0, locals := 130 }) (va_Pc [.ref (a_t 0), .int p1, .int p2] (fun U => U.heap.size = sz ∧ va_P (dC, dI) vwCl [((a_t 0), oX8 a_t v_t_isKept v_t_bestPost v_t_mostSeen v_t_taped v_t_from v_t_to v_t_isWrong), ((a_t 6), .inl (cy 0, 48, .inl f_t_far)), ((a_t 5), .inl (cy 0, 7, .inl f_t_found)), ((a_t 8), .inl (cy 2, 48, .inl f_t_isDone)), ((a_t 7), .inl (cy 0, 48, .inl f_t_price)), ((a_t 1), .inl (cy 0, 155, .inl f_t_s))] U.heap ∧ va_K (dC, dI) vwCl (tyX cy) U ∧ va_D (fun _ => True) [((a_t 0), oX8 a_t v_t_isKept v_t_bestPost v_t_mostSeen v_t_taped v_t_from v_t_to v_t_isWrong), ((a_t 6), .inl (cy 0, 48, .inl f_t_far)), ((a_t 5), .inl (cy 0, 7, .inl f_t_found)), ((a_t 8), .inl (cy 2, 48, .inl f_t_isDone)), ((a_t 7), .inl (cy 0, 48, .inl f_t_price)), ((a_t 1), .inl (cy 0, 155, .inl f_t_s))])) (va_Qi (fun (r2 : Int32) (_ : Unit) => r = r2) (fun _ t => va_P (dC, dI) vwCl [((a_t 0), oX8 a_t v_t_isKept v_t_bestPost v_t_mostSeen v_t_taped v_t_from v_t_to v_t_isWrong), ((a_t 6), .inl (cy 0, 48, .inl f_t_far_o)), ((a_t 5), .inl (cy 0, 7, .inl f_t_found_o)), ((a_t 8), .inl (cy 2, 48, .inl f_t_isDone_o)), ((a_t 7), .inl (cy 0, 48, .inl f_t_price_o)), ((a_t 1), .inl (cy 0, 155, .inl f_t_s))] t.heap ∧ va_K (dC, dI) vwCl (tyX cy) t ∧ va_D (va_A [((a_t 0), oX8 a_t v_t_isKept v_t_bestPost v_t_mostSeen v_t_taped v_t_from v_t_to v_t_isWrong), ((a_t 6), .inl (cy 0, 48, .inl f_t_far)), ((a_t 5), .inl (cy 0, 7, .inl f_t_found)), ((a_t 8), .inl (cy 2, 48, .inl f_t_isDone)), ((a_t 7), .inl (cy 0, 48, .inl f_t_price)), ((a_t 1), .inl (cy 0, 155, .inl f_t_s))] sz) [((a_t 0), oX8 a_t v_t_isKept v_t_bestPost v_t_mostSeen v_t_taped v_t_from v_t_to v_t_isWrong), ((a_t 6), .inl (cy 0, 48, .inl f_t_far_o)), ((a_t 5), .inl (cy 0, 7, .inl f_t_found_o)), ((a_t 8), .inl (cy 2, 48, .inl f_t_isDone_o)), ((a_t 7), .inl (cy 0, 48, .inl f_t_price_o)), ((a_t 1), .inl (cy 0, 155, .inl f_t_s))]) (va_A [((a_t 0), oX8 a_t v_t_isKept v_t_bestPost v_t_mostSeen v_t_taped v_t_from v_t_to v_t_isWrong), ((a_t 6), .inl (cy 0, 48, .inl f_t_far)), ((a_t 5), .inl (cy 0, 7, .inl f_t_found)), ((a_t 8), .inl (cy 2, 48, .inl f_t_isDone)), ((a_t 7), .inl (cy 0, 48, .inl f_t_price)), ((a_t 1), .inl (cy 0, 155, .inl f_t_s))] sz)) 0 0 (va_A [((a_t 0), oX8 a_t v_t_isKept v_t_bestPost v_t_mostSeen v_t_taped v_t_from v_t_to v_t_isWrong), ((a_t 6), .inl (cy 0, 48, .inl f_t_far)), ((a_t 5), .inl (cy 0, 7, .inl f_t_found)), ((a_t 8), .inl (cy 2, 48, .inl f_t_isDone)), ((a_t 7), .inl (cy 0, 48, .inl f_t_price)), ((a_t 1), .inl (cy 0, 155, .inl f_t_s))] sz) := by
  refine Met.ofW (cc := cX8_next) (maxL := 6) (ret := (some .int)) (by decide) rfl ?_
  intro p e s m args below meth c s₁ B hml hv
  obtain ⟨rfl, hsz, hP, hK, hD0⟩ := hv
  have hx := B.exec
  have hb := B.bytes
  have hr := B.returns
  have hts := atoms_spec (ws := wsX8_next) B.pre
  have hown : s.vm.findClass RX8 = some m.cls := findClass_of_methodNamed B.named
  have hlocks := B.notSynchronized
  have iwX8 : ∀ w ∈ wsX80, w ∈ wsX8_next := fun w h9 => List.mem_cons_of_mem _ (List.mem_append_right _ (h9))
  have lk1 := hts (Cond.fieldLink RX8 22 "BathBorderModel" "far" "[I") (List.mem_of_getElem? (i := 1) rfl)
  have lk2 := hts (Cond.constant RX8 219 (1000000)) (List.mem_of_getElem? (i := 2) rfl)
  have lk3 := hts (Cond.methodLink RX8 171 Lib.Math.min.name) (List.mem_of_getElem? (i := 3) rfl)
  have lk4 := hts (Cond.static Lib.Math.min.name) (List.mem_of_getElem? (i := 4) rfl)
  have lk5 := hts (Cond.initialized "java/lang/Math") (List.mem_of_getElem? (i := 5) rfl)
  have lk6 := hts (Cond.code Lib.Math.min.name Lib.Math.min.code 2 (some .int)) (List.mem_of_getElem? (i := 6) rfl)
  subst hsz
  have hD := hD0.self (sz := s.heap.size)
  generalize hAe : va_A [((a_t 0), oX8 a_t v_t_isKept v_t_bestPost v_t_mostSeen v_t_taped v_t_from v_t_to v_t_isWrong), ((a_t 6), .inl (cy 0, 48, .inl f_t_far)), ((a_t 5), .inl (cy 0, 7, .inl f_t_found)), ((a_t 8), .inl (cy 2, 48, .inl f_t_isDone)), ((a_t 7), .inl (cy 0, 48, .inl f_t_price)), ((a_t 1), .inl (cy 0, 155, .inl f_t_s))] s.heap.size = A at hD ⊢
  have hA : ∀ q : Nat, s.heap.size ≤ q → A q := fun q h => by rw [← hAe]; exact Or.inr h
  have hS : va_S A s.heap s.heap [] := va_S.rf
  have hP : va_P (dC, dI) vwCl [((a_t 0), oX8 a_t v_t_isKept v_t_bestPost v_t_mostSeen v_t_taped v_t_from v_t_to v_t_isWrong), ((a_t 6), .inl (cy 0, 48, .inl f_t_far)), ((a_t 5), .inl (cy 0, 7, .inl f_t_found)), ((a_t 8), .inl (cy 2, 48, .inl f_t_isDone)), ((a_t 7), .inl (cy 0, 48, .inl f_t_price)), ((a_t 1), .inl (cy 0, 155, .inl f_t_s))] s.heap := hP
  have hl := lv_entry ([.ref (a_t 0), .int p1, .int p2]) (n := 6) (Nat.le_of_ble_eq_true rfl)
  rw [lg_entry_eq]
  generalize (lg_sl ([.ref (a_t 0), .int p1, .int p2]) ++ List.replicate (6 - (lg_sl ([.ref (a_t 0), .int p1, .int p2])).length) Slot.unset).toArray = ls at hl ⊢
  have hl : lv_has ls 6 [(0, .ref (a_t 0)), (1, .int p1), (2, .int p2)] := hl
  unfold uX8_next at h
  refine bb_cap (fun WW toW ofW => ?_)
  refine lv_iload_n hx hb dX8_next_0 rfl (lv_at hl 1 rfl) ?_
  obtain ⟨r1, hc2, h⟩ := bb_b1_o h
  refine vp_callSi (W.runS (As := [.int p1]) (rest := []) ⟨hx, hb, hml, hown, hts⟩ (kX8_isCell l dC dI cy p1 r1 hc2) (va_cwS 1 hts gX8_next_X8_isCell rfl rfl rfl kdX8_isCell ⟨Nat.le_of_ble_eq_true rfl, Nat.le_of_ble_eq_true rfl⟩) (bb_preS (hP.sub (ws' := []) [] rfl) hK) rfl rfl hl.1 rfl (lv_room (Nat.le_of_ble_eq_true rfl)) dX8_next_1 ⟨Nat.zero_le _, Nat.zero_le _⟩) (fun t3 et3 => ?_)
  obtain ⟨rfl, hz4⟩ := et3
  refine lv_if_eq (tgt := 14) hx hb dX8_next_4 (by decide) (fun c5 => ?_) (fun c5 => ?_)
  · replace h := bb_ifp c5 h
    refine lv_aload_n hx hb dX8_next_14 rfl (lv_at hl 0 rfl) ?_
    refine lv_iconst (v := (0 : Int32)) hx hb dX8_next_15 (by decide) ?_
    obtain ⟨r6, w7, hc8, h⟩ := bb_b2_o h
    refine bb_cwi (wr := [((a_t 6), .inl (cy 0, 48, .inl f_t_far)), ((a_t 8), .inl (cy 2, 48, .inl f_t_isDone)), ((a_t 7), .inl (cy 0, 48, .inl f_t_price)), ((a_t 1), .inl (cy 0, 155, .inl f_t_s))]) (w1 := [((a_t 0), oX8 a_t v_t_isKept v_t_bestPost v_t_mostSeen v_t_taped v_t_from v_t_to v_t_isWrong), ((a_t 5), .inl (cy 0, 7, .inl w7))]) (va_runV (As := [.int (0 : Int32)]) (rest := []) ⟨hx, hb, hml, hown, hts⟩ (kX8_finds l dC dI cy s.heap.size a_t (0 : Int32) v_t_isKept v_t_bestPost v_t_mostSeen v_t_taped v_t_from v_t_to v_t_isWrong f_t_found r6 w7 hc8) (cwV 1 hts gX8_next_X8_finds rfl rfl rfl kdX8_finds ⟨Nat.le_of_ble_eq_true rfl, Nat.le_of_ble_eq_true rfl⟩) (bb_preVw (va_recv hK hP (ci := 7) (q0 := 0) rfl rfl) (hP.sub (ws' := [((a_t 0), oX8 a_t v_t_isKept v_t_bestPost v_t_mostSeen v_t_taped v_t_from v_t_to v_t_isWrong), ((a_t 5), .inl (cy 0, 7, .inl f_t_found))]) [0, 2] rfl) hK (hD.sub (ws' := [((a_t 0), oX8 a_t v_t_isKept v_t_bestPost v_t_mostSeen v_t_taped v_t_from v_t_to v_t_isWrong), ((a_t 5), .inl (cy 0, 7, .inl f_t_found))]) [0, 2] (by decide) rfl)) rfl rfl hl.1 rfl (lv_room (Nat.le_of_ble_eq_true rfl)) dX8_next_16 ⟨Nat.zero_le _, Nat.zero_le _⟩) hP hD hS hA [0, 2] [1, 3, 4, 5] rfl rfl (by decide) (by decide) (fun H locs hP hD hS => ?_)
    have hP : va_P (dC, dI) vwCl [((a_t 6), .inl (cy 0, 48, .inl f_t_far)), ((a_t 8), .inl (cy 2, 48, .inl f_t_isDone)), ((a_t 7), .inl (cy 0, 48, .inl f_t_price)), ((a_t 1), .inl (cy 0, 155, .inl f_t_s)), ((a_t 0), oX8 a_t v_t_isKept v_t_bestPost v_t_mostSeen v_t_taped v_t_from v_t_to v_t_isWrong), ((a_t 5), .inl (cy 0, 7, .inl w7))] H := hP
    have hD : va_D A [((a_t 6), .inl (cy 0, 48, .inl f_t_far)), ((a_t 8), .inl (cy 2, 48, .inl f_t_isDone)), ((a_t 7), .inl (cy 0, 48, .inl f_t_price)), ((a_t 1), .inl (cy 0, 155, .inl f_t_s)), ((a_t 0), oX8 a_t v_t_isKept v_t_bestPost v_t_mostSeen v_t_taped v_t_from v_t_to v_t_isWrong), ((a_t 5), .inl (cy 0, 7, .inl w7))] := hD
    obtain ⟨rfl, rfl, rfl, rfl, rfl⟩ := bb_some5 h
    have hP9 := hP.sub (ws' := [((a_t 0), oX8 a_t v_t_isKept v_t_bestPost v_t_mostSeen v_t_taped v_t_from v_t_to v_t_isWrong), ((a_t 6), .inl (cy 0, 48, .inl f_t_far)), ((a_t 5), .inl (cy 0, 7, .inl w7)), ((a_t 8), .inl (cy 2, 48, .inl f_t_isDone)), ((a_t 7), .inl (cy 0, 48, .inl f_t_price)), ((a_t 1), .inl (cy 0, 155, .inl f_t_s))]) [4, 0, 5, 1, 2, 3] rfl
    have hD9 := hD.sub (ws' := [((a_t 0), oX8 a_t v_t_isKept v_t_bestPost v_t_mostSeen v_t_taped v_t_from v_t_to v_t_isWrong), ((a_t 6), .inl (cy 0, 48, .inl f_t_far)), ((a_t 5), .inl (cy 0, 7, .inl w7)), ((a_t 8), .inl (cy 2, 48, .inl f_t_isDone)), ((a_t 7), .inl (cy 0, 48, .inl f_t_price)), ((a_t 1), .inl (cy 0, 155, .inl f_t_s))]) [4, 0, 5, 1, 2, 3] (by decide) rfl
    exact W.iret hx hb hr (fun t ht hW => ⟨⟨_, (), rfl, rfl, by rw [ht]; exact hP9, va_K.moved hW.alike hK, hD9⟩, hS.F ht⟩) hS.2.2 dX8_next_19
  · replace h := bb_ifn c5 h
    refine lv_iload_n hx hb dX8_next_7 rfl (lv_at hl 2 rfl) ?_
    obtain ⟨r9, hc10, h⟩ := bb_b1_o h
    refine vp_callSi (W.runS (As := [.int p2]) (rest := []) ⟨hx, hb, hml, hown, hts⟩ (kX8_isSide l dC dI cy p2 r9 hc10) (va_cwS 1 hts gX8_next_X8_isSide rfl rfl rfl kdX8_isSide ⟨Nat.le_of_ble_eq_true rfl, Nat.le_of_ble_eq_true rfl⟩) (bb_preS (hP.sub (ws' := []) [] rfl) hK) rfl rfl hl.1 rfl (lv_room (Nat.le_of_ble_eq_true rfl)) dX8_next_8 ⟨Nat.zero_le _, Nat.zero_le _⟩) (fun t11 et11 => ?_)
    obtain ⟨rfl, hz12⟩ := et11
    refine lv_if_ne (tgt := 20) hx hb dX8_next_11 (by decide) (fun c13 => ?_) (fun c13 => ?_)
    · replace h := bb_ifn c13 h
      refine lv_aload_n hx hb dX8_next_20 rfl (lv_at hl 0 rfl) ?_
      refine lv_iconst (v := (0 : Int32)) hx hb dX8_next_21 (by decide) ?_
      obtain ⟨w14, hc15, h⟩ := bb_b1_o h
      refine bb_cwv (wr := [((a_t 6), .inl (cy 0, 48, .inl f_t_far)), ((a_t 5), .inl (cy 0, 7, .inl f_t_found)), ((a_t 8), .inl (cy 2, 48, .inl f_t_isDone))]) (w1 := [((a_t 0), oX8 a_t v_t_isKept v_t_bestPost v_t_mostSeen v_t_taped v_t_from v_t_to v_t_isWrong), ((a_t 7), .inl (cy 0, 48, .inl w14)), ((a_t 1), .inl (cy 0, 155, .inl f_t_s))]) (va_runV (As := [.int (0 : Int32)]) (rest := []) ⟨hx, hb, hml, hown, hts⟩ (kX8_findPrices l dC dI cy s.heap.size a_t (0 : Int32) v_t_isKept v_t_bestPost v_t_mostSeen v_t_taped v_t_from v_t_to v_t_isWrong f_t_price f_t_s nn w14 hc15) (cwV 1 hts gX8_next_X8_findPrices rfl rfl rfl kdX8_findPrices ⟨Nat.le_of_ble_eq_true rfl, Nat.le_of_ble_eq_true rfl⟩) (bb_preVw (va_recv hK hP (ci := 7) (q0 := 0) rfl rfl) (hP.sub (ws' := [((a_t 0), oX8 a_t v_t_isKept v_t_bestPost v_t_mostSeen v_t_taped v_t_from v_t_to v_t_isWrong), ((a_t 7), .inl (cy 0, 48, .inl f_t_price)), ((a_t 1), .inl (cy 0, 155, .inl f_t_s))]) [0, 4, 5] rfl) hK (hD.sub (ws' := [((a_t 0), oX8 a_t v_t_isKept v_t_bestPost v_t_mostSeen v_t_taped v_t_from v_t_to v_t_isWrong), ((a_t 7), .inl (cy 0, 48, .inl f_t_price)), ((a_t 1), .inl (cy 0, 155, .inl f_t_s))]) [0, 4, 5] (by decide) rfl)) rfl rfl hl.1 rfl (lv_room (Nat.le_of_ble_eq_true rfl)) dX8_next_22 ⟨Nat.zero_le _, Nat.zero_le _⟩) hP hD hS hA [0, 4, 5] [1, 2, 3] rfl rfl (by decide) (by decide) (fun H locs hP hD hS => ?_)
      have hP : va_P (dC, dI) vwCl [((a_t 6), .inl (cy 0, 48, .inl f_t_far)), ((a_t 5), .inl (cy 0, 7, .inl f_t_found)), ((a_t 8), .inl (cy 2, 48, .inl f_t_isDone)), ((a_t 0), oX8 a_t v_t_isKept v_t_bestPost v_t_mostSeen v_t_taped v_t_from v_t_to v_t_isWrong), ((a_t 7), .inl (cy 0, 48, .inl w14)), ((a_t 1), .inl (cy 0, 155, .inl f_t_s))] H := hP
      have hD : va_D A [((a_t 6), .inl (cy 0, 48, .inl f_t_far)), ((a_t 5), .inl (cy 0, 7, .inl f_t_found)), ((a_t 8), .inl (cy 2, 48, .inl f_t_isDone)), ((a_t 0), oX8 a_t v_t_isKept v_t_bestPost v_t_mostSeen v_t_taped v_t_from v_t_to v_t_isWrong), ((a_t 7), .inl (cy 0, 48, .inl w14)), ((a_t 1), .inl (cy 0, 155, .inl f_t_s))] := hD
      refine lv_aload_n hx hb dX8_next_25 rfl (lv_at hl 0 rfl) ?_
      refine lv_iload_n hx hb dX8_next_26 rfl (lv_at hl 2 rfl) ?_
      obtain ⟨w16, w17, hc18, h⟩ := bb_b2_o h
      refine bb_cwv (wr := [((a_t 5), .inl (cy 0, 7, .inl f_t_found)), ((a_t 1), .inl (cy 0, 155, .inl f_t_s))]) (w1 := [((a_t 0), oX8 a_t v_t_isKept v_t_bestPost v_t_mostSeen v_t_taped v_t_from v_t_to v_t_isWrong), ((a_t 6), .inl (cy 0, 48, .inl w16)), ((a_t 8), .inl (cy 2, 48, .inl w17)), ((a_t 7), .inl (cy 0, 48, .inl w14))]) (va_runV (As := [.int p2]) (rest := []) ⟨hx, hb, hml, hown, hts⟩ (kX8_findFar l dC dI cy H.size a_t p2 v_t_isKept v_t_bestPost v_t_mostSeen v_t_taped v_t_from v_t_to v_t_isWrong f_t_far f_t_isDone w14 nn w16 w17 hc18) (cwV 1 hts gX8_next_X8_findFar rfl rfl rfl kdX8_findFar ⟨Nat.le_of_ble_eq_true rfl, Nat.le_of_ble_eq_true rfl⟩) (bb_preVw (va_recv hK hP (ci := 7) (q0 := 3) rfl rfl) (hP.sub (ws' := [((a_t 0), oX8 a_t v_t_isKept v_t_bestPost v_t_mostSeen v_t_taped v_t_from v_t_to v_t_isWrong), ((a_t 6), .inl (cy 0, 48, .inl f_t_far)), ((a_t 8), .inl (cy 2, 48, .inl f_t_isDone)), ((a_t 7), .inl (cy 0, 48, .inl w14))]) [3, 0, 2, 4] rfl) hK (hD.sub (ws' := [((a_t 0), oX8 a_t v_t_isKept v_t_bestPost v_t_mostSeen v_t_taped v_t_from v_t_to v_t_isWrong), ((a_t 6), .inl (cy 0, 48, .inl f_t_far)), ((a_t 8), .inl (cy 2, 48, .inl f_t_isDone)), ((a_t 7), .inl (cy 0, 48, .inl w14))]) [3, 0, 2, 4] (by decide) rfl)) rfl rfl hl.1 rfl (lv_room (Nat.le_of_ble_eq_true rfl)) dX8_next_27 ⟨Nat.zero_le _, Nat.zero_le _⟩) hP hD hS hA [3, 0, 2, 4] [1, 5] rfl rfl (by decide) (by decide) (fun H locs hP hD hS => ?_)
      have hP : va_P (dC, dI) vwCl [((a_t 5), .inl (cy 0, 7, .inl f_t_found)), ((a_t 1), .inl (cy 0, 155, .inl f_t_s)), ((a_t 0), oX8 a_t v_t_isKept v_t_bestPost v_t_mostSeen v_t_taped v_t_from v_t_to v_t_isWrong), ((a_t 6), .inl (cy 0, 48, .inl w16)), ((a_t 8), .inl (cy 2, 48, .inl w17)), ((a_t 7), .inl (cy 0, 48, .inl w14))] H := hP
      have hD : va_D A [((a_t 5), .inl (cy 0, 7, .inl f_t_found)), ((a_t 1), .inl (cy 0, 155, .inl f_t_s)), ((a_t 0), oX8 a_t v_t_isKept v_t_bestPost v_t_mostSeen v_t_taped v_t_from v_t_to v_t_isWrong), ((a_t 6), .inl (cy 0, 48, .inl w16)), ((a_t 8), .inl (cy 2, 48, .inl w17)), ((a_t 7), .inl (cy 0, 48, .inl w14))] := hD
      refine lv_aload_n hx hb dX8_next_30 rfl (lv_at hl 0 rfl) ?_
      refine va_get (D := (dC, dI)) (ci := 7) (v := .ref (a_t 6)) (C := RX8) (T := TX8) (N := 20) hx hb hts iwX8 hown hK hP 2 rfl rfl 5 (by decide) lk1 (fun _ h9 => h9) rfl dX8_next_31 ?_
      refine lv_iload_n hx hb dX8_next_34 rfl (lv_at hl 1 rfl) ?_
      obtain ⟨hi19, h⟩ := bb_ix_o h
      refine va_iald hx hb hK hP 3 0 rfl rfl hi19 dX8_next_35 ?_
      refine lv_ldc (v := (1000000 : Int32)) hx hb hown lk2 dX8_next_36 ?_
      refine lv_icmp_lt (tgt := 47) hx hb dX8_next_38 (by decide) (fun c20 => ?_) (fun c20 => ?_)
      · replace h := bb_ifp c20 h
        refine lv_aload_n hx hb dX8_next_47 rfl (lv_at hl 0 rfl) ?_
        refine va_get (D := (dC, dI)) (ci := 7) (v := .ref (a_t 6)) (C := RX8) (T := TX8) (N := 20) hx hb hts iwX8 hown hK hP 2 rfl rfl 5 (by decide) lk1 (fun _ h9 => h9) rfl dX8_next_48 ?_
        refine lv_iload_n hx hb dX8_next_51 rfl (lv_at hl 1 rfl) ?_
        obtain ⟨hi21, h⟩ := bb_ix_o h
        refine va_iald hx hb hK hP 3 0 rfl rfl hi21 dX8_next_52 ?_
        refine lv_iconst (v := (1 : Int32)) hx hb dX8_next_53 (by decide) ?_
        obtain ⟨k23, ek23, h⟩ := bb_cut_o h
        have Jk23 : ∀ (z22 : Int32) (H : Heap) (locs : List Loc) (ls : Array Slot), k23 z22 = some (r, f_t_far_o, f_t_found_o, f_t_isDone_o, f_t_price_o) → va_P (dC, dI) vwCl [((a_t 0), oX8 a_t v_t_isKept v_t_bestPost v_t_mostSeen v_t_taped v_t_from v_t_to v_t_isWrong), ((a_t 6), .inl (cy 0, 48, .inl w16)), ((a_t 5), .inl (cy 0, 7, .inl f_t_found)), ((a_t 8), .inl (cy 2, 48, .inl w17)), ((a_t 7), .inl (cy 0, 48, .inl w14)), ((a_t 1), .inl (cy 0, 155, .inl f_t_s))] H → va_D A [((a_t 0), oX8 a_t v_t_isKept v_t_bestPost v_t_mostSeen v_t_taped v_t_from v_t_to v_t_isWrong), ((a_t 6), .inl (cy 0, 48, .inl w16)), ((a_t 5), .inl (cy 0, 7, .inl f_t_found)), ((a_t 8), .inl (cy 2, 48, .inl w17)), ((a_t 7), .inl (cy 0, 48, .inl w14)), ((a_t 1), .inl (cy 0, 155, .inl f_t_s))] → va_S A s.heap H locs → lv_has ls 6 [(0, .ref (a_t 0)), (1, .int p1)] → WW H locs (F0 m 63 ls [.int z22]) := by
          intro z22 H locs ls h hP hD hS hl
          refine ofW _ _ _ ?_
          subst ek23
          refine lv_istore_n (lv' := [(3, .int z22), (0, .ref (a_t 0)), (1, .int p1)]) hx hb dX8_next_63 rfl hl (by decide) rfl (fun ls hl => ?_)
          refine lv_iconst (v := (1 : Int32)) hx hb dX8_next_64 (by decide) ?_
          refine lv_istore (lv' := [(4, .int (1 : Int32)), (3, .int z22), (0, .ref (a_t 0)), (1, .int p1)]) hx hb dX8_next_65 hl (by decide) rfl (fun ls hl => ?_)
          have L33 : ∀ (n : Nat) (x3_24 : Int32) (x4_25 : Int32) (H : Heap) (locs : List Loc) (ls : Array Slot), bb_loop2 (uX8_next_s67 p1 w16 f_t_found w17 w14) n x3_24 x4_25 = some (r, f_t_far_o, f_t_found_o, f_t_isDone_o, f_t_price_o) → va_P (dC, dI) vwCl [((a_t 0), oX8 a_t v_t_isKept v_t_bestPost v_t_mostSeen v_t_taped v_t_from v_t_to v_t_isWrong), ((a_t 6), .inl (cy 0, 48, .inl w16)), ((a_t 5), .inl (cy 0, 7, .inl f_t_found)), ((a_t 8), .inl (cy 2, 48, .inl w17)), ((a_t 7), .inl (cy 0, 48, .inl w14)), ((a_t 1), .inl (cy 0, 155, .inl f_t_s))] H → va_D A [((a_t 0), oX8 a_t v_t_isKept v_t_bestPost v_t_mostSeen v_t_taped v_t_from v_t_to v_t_isWrong), ((a_t 6), .inl (cy 0, 48, .inl w16)), ((a_t 5), .inl (cy 0, 7, .inl f_t_found)), ((a_t 8), .inl (cy 2, 48, .inl w17)), ((a_t 7), .inl (cy 0, 48, .inl w14)), ((a_t 1), .inl (cy 0, 155, .inl f_t_s))] → va_S A s.heap H locs → lv_has ls 6 [(0, .ref (a_t 0)), (1, .int p1), (3, .int x3_24), (4, .int x4_25)] → WW H locs (F0 m 67 ls []) := by
            intro n
            induction n with
            | zero => intro x3_24 x4_25 H locs ls h; exact (bb_no h).elim
            | succ n ih34 =>
              intro x3_24 x4_25 H locs ls h hP hD hS hl
              refine ofW _ _ _ ?_
              obtain ⟨rec32, erec32, h⟩ := bb_loop2_o h
              unfold uX8_next_s67 at h
              refine lv_iload hx hb dX8_next_67 (lv_at hl 3 rfl) ?_
              refine lv_iconst (v := (4 : Int32)) hx hb dX8_next_69 (by decide) ?_
              refine lv_icmp_gt (tgt := 121) hx hb dX8_next_70 (by decide) (fun c35 => ?_) (fun c35 => ?_)
              · replace h := bb_ifp c35 h
                refine lv_iload_n hx hb dX8_next_121 rfl (lv_at hl 2 rfl) ?_
                obtain ⟨rfl, rfl, rfl, rfl, rfl⟩ := bb_some5 h
                have hP9 := hP.sub (ws' := [((a_t 0), oX8 a_t v_t_isKept v_t_bestPost v_t_mostSeen v_t_taped v_t_from v_t_to v_t_isWrong), ((a_t 6), .inl (cy 0, 48, .inl w16)), ((a_t 5), .inl (cy 0, 7, .inl f_t_found)), ((a_t 8), .inl (cy 2, 48, .inl w17)), ((a_t 7), .inl (cy 0, 48, .inl w14)), ((a_t 1), .inl (cy 0, 155, .inl f_t_s))]) [0, 1, 2, 3, 4, 5] rfl
                have hD9 := hD.sub (ws' := [((a_t 0), oX8 a_t v_t_isKept v_t_bestPost v_t_mostSeen v_t_taped v_t_from v_t_to v_t_isWrong), ((a_t 6), .inl (cy 0, 48, .inl w16)), ((a_t 5), .inl (cy 0, 7, .inl f_t_found)), ((a_t 8), .inl (cy 2, 48, .inl w17)), ((a_t 7), .inl (cy 0, 48, .inl w14)), ((a_t 1), .inl (cy 0, 155, .inl f_t_s))]) [0, 1, 2, 3, 4, 5] (by decide) rfl
                exact W.iret hx hb hr (fun t ht hW => ⟨⟨_, (), rfl, rfl, by rw [ht]; exact hP9, va_K.moved hW.alike hK, hD9⟩, hS.F ht⟩) hS.2.2 dX8_next_122
              · replace h := bb_ifn c35 h
                refine lv_iload_n hx hb dX8_next_73 rfl (lv_at hl 1 rfl) ?_
                refine lv_iload hx hb dX8_next_74 (lv_at hl 3 rfl) ?_
                obtain ⟨r36, hc37, h⟩ := bb_b1_o h
                refine vp_callSi (W.runS (As := [.int p1, .int x4_25]) (rest := []) ⟨hx, hb, hml, hown, hts⟩ (kX8_beside l dC dI cy p1 x4_25 r36 hc37) (va_cwS 2 hts gX8_next_X8_beside rfl rfl rfl kdX8_beside ⟨Nat.le_of_ble_eq_true rfl, Nat.le_of_ble_eq_true rfl⟩) (bb_preS (hP.sub (ws' := []) [] rfl) hK) rfl rfl hl.1 rfl (lv_room (Nat.le_of_ble_eq_true rfl)) dX8_next_76 ⟨Nat.zero_le _, Nat.zero_le _⟩) (fun t38 et38 => ?_)
                obtain rfl := et38
                refine lv_istore (lv' := [(5, .int r36), (0, .ref (a_t 0)), (1, .int p1), (3, .int x3_24), (4, .int x4_25)]) hx hb dX8_next_79 hl (by decide) rfl (fun ls hl => ?_)
                refine lv_iload hx hb dX8_next_81 (lv_at hl 0 rfl) ?_
                obtain ⟨k40, ek40, h⟩ := bb_cut_o h
                have Jk40 : ∀ (z39 : Int32) (H : Heap) (locs : List Loc) (ls : Array Slot), k40 z39 = some (r, f_t_far_o, f_t_found_o, f_t_isDone_o, f_t_price_o) → va_P (dC, dI) vwCl [((a_t 0), oX8 a_t v_t_isKept v_t_bestPost v_t_mostSeen v_t_taped v_t_from v_t_to v_t_isWrong), ((a_t 6), .inl (cy 0, 48, .inl w16)), ((a_t 5), .inl (cy 0, 7, .inl f_t_found)), ((a_t 8), .inl (cy 2, 48, .inl w17)), ((a_t 7), .inl (cy 0, 48, .inl w14)), ((a_t 1), .inl (cy 0, 155, .inl f_t_s))] H → va_D A [((a_t 0), oX8 a_t v_t_isKept v_t_bestPost v_t_mostSeen v_t_taped v_t_from v_t_to v_t_isWrong), ((a_t 6), .inl (cy 0, 48, .inl w16)), ((a_t 5), .inl (cy 0, 7, .inl f_t_found)), ((a_t 8), .inl (cy 2, 48, .inl w17)), ((a_t 7), .inl (cy 0, 48, .inl w14)), ((a_t 1), .inl (cy 0, 155, .inl f_t_s))] → va_S A s.heap H locs → lv_has ls 6 [(0, .ref (a_t 0)), (1, .int p1), (4, .int x4_25)] → WW H locs (F0 m 114 ls [.int z39]) := by
                  intro z39 H locs ls h hP hD hS hl
                  refine ofW _ _ _ ?_
                  subst ek40
                  refine lv_istore_n (lv' := [(3, .int z39), (0, .ref (a_t 0)), (1, .int p1), (4, .int x4_25)]) hx hb dX8_next_114 rfl hl (by decide) rfl (fun ls hl => ?_)
                  refine lv_iinc (v := x4_25 + (1 : Int32)) (lv' := [(4, .int (x4_25 + (1 : Int32))), (3, .int z39), (0, .ref (a_t 0)), (1, .int p1)]) hx hb dX8_next_115 hl (k := 3) rfl rfl (by decide) rfl (fun ls hl => ?_)
                  refine lv_goto (tgt := 67) hx hb dX8_next_118 (by decide) ?_
                  rw [erec32] at h
                  exact toW _ _ _ (ih34 z39 (x4_25 + (1 : Int32)) _ _ _ h hP hD hS (lv_sub hl [2, 3, 1, 0] rfl))
                obtain ⟨k42, ek42, h⟩ := bb_cut_o h
                have Jk42 : ∀ (u41 : Unit) (H : Heap) (locs : List Loc) (ls : Array Slot), k42 u41 = some (r, f_t_far_o, f_t_found_o, f_t_isDone_o, f_t_price_o) → va_P (dC, dI) vwCl [((a_t 0), oX8 a_t v_t_isKept v_t_bestPost v_t_mostSeen v_t_taped v_t_from v_t_to v_t_isWrong), ((a_t 6), .inl (cy 0, 48, .inl w16)), ((a_t 5), .inl (cy 0, 7, .inl f_t_found)), ((a_t 8), .inl (cy 2, 48, .inl w17)), ((a_t 7), .inl (cy 0, 48, .inl w14)), ((a_t 1), .inl (cy 0, 155, .inl f_t_s))] H → va_D A [((a_t 0), oX8 a_t v_t_isKept v_t_bestPost v_t_mostSeen v_t_taped v_t_from v_t_to v_t_isWrong), ((a_t 6), .inl (cy 0, 48, .inl w16)), ((a_t 5), .inl (cy 0, 7, .inl f_t_found)), ((a_t 8), .inl (cy 2, 48, .inl w17)), ((a_t 7), .inl (cy 0, 48, .inl w14)), ((a_t 1), .inl (cy 0, 155, .inl f_t_s))] → va_S A s.heap H locs → lv_has ls 6 [(0, .ref (a_t 0)), (1, .int p1), (3, .int x3_24), (4, .int x4_25)] → WW H locs (F0 m 113 ls []) := by
                  intro u41 H locs ls h hP hD hS hl
                  refine ofW _ _ _ ?_
                  subst ek42
                  refine lv_iload_n hx hb dX8_next_113 rfl (lv_at hl 2 rfl) ?_
                  exact toW _ _ _ (Jk40 x3_24 _ _ _ h hP hD hS (lv_sub hl [0, 1, 3] rfl))
                refine lv_if_lt (tgt := 113) hx hb dX8_next_83 (by decide) (fun c43 => ?_) (fun c43 => ?_)
                · replace h := bb_ifp c43 h
                  exact toW _ _ _ (Jk42 () _ _ _ h hP hD hS (lv_sub hl [1, 2, 3, 4] rfl))
                · replace h := bb_ifn c43 h
                  refine lv_aload_n hx hb dX8_next_86 rfl (lv_at hl 1 rfl) ?_
                  refine va_get (D := (dC, dI)) (ci := 7) (v := .ref (a_t 6)) (C := RX8) (T := TX8) (N := 20) hx hb hts iwX8 hown hK hP 0 rfl rfl 5 (by decide) lk1 (fun _ h9 => h9) rfl dX8_next_87 ?_
                  refine lv_iload hx hb dX8_next_90 (lv_at hl 0 rfl) ?_
                  obtain ⟨hi44, h⟩ := bb_ix_o h
                  refine va_iald hx hb hK hP 1 0 rfl rfl hi44 dX8_next_92 ?_
                  refine lv_aload_n hx hb dX8_next_93 rfl (lv_at hl 1 rfl) ?_
                  refine va_get (D := (dC, dI)) (ci := 7) (v := .ref (a_t 6)) (C := RX8) (T := TX8) (N := 20) hx hb hts iwX8 hown hK hP 0 rfl rfl 5 (by decide) lk1 (fun _ h9 => h9) rfl dX8_next_94 ?_
                  refine lv_iload_n hx hb dX8_next_97 rfl (lv_at hl 2 rfl) ?_
                  obtain ⟨hi45, h⟩ := bb_ix_o h
                  refine va_iald hx hb hK hP 1 0 rfl rfl hi45 dX8_next_98 ?_
                  refine lv_iconst (v := (1 : Int32)) hx hb dX8_next_99 (by decide) ?_
                  refine lv_isub hx hb dX8_next_100 ?_
                  refine lv_icmp_ne (tgt := 113) hx hb dX8_next_101 (by decide) (fun c46 => ?_) (fun c46 => ?_)
                  · replace h := bb_ifn c46 h
                    exact toW _ _ _ (Jk42 () _ _ _ h hP hD hS (lv_sub hl [1, 2, 3, 4] rfl))
                  · replace h := bb_ifp c46 h
                    refine lv_iload_n hx hb dX8_next_104 rfl (lv_at hl 3 rfl) ?_
                    refine lv_iload hx hb dX8_next_105 (lv_at hl 0 rfl) ?_
                    refine va_mmin hx hb (hml.trans hl.1.symm) hown lk3 lk4 lk5 lk6 (Nat.le_of_ble_eq_true rfl) (Nat.le_of_ble_eq_true rfl) (Nat.zero_le _) (Nat.zero_le _) dX8_next_107 ?_
                    refine lv_goto (tgt := 114) hx hb dX8_next_110 (by decide) ?_
                    exact toW _ _ _ (Jk40 (if r36 < x3_24 then r36 else x3_24) _ _ _ h hP hD hS (lv_sub hl [1, 2, 4] rfl))
          exact toW _ _ _ (L33 nn z22 (1 : Int32) _ _ _ h hP hD hS (lv_sub hl [2, 3, 1, 0] rfl))
        refine lv_icmp_ne (tgt := 61) hx hb dX8_next_54 (by decide) (fun c47 => ?_) (fun c47 => ?_)
        · replace h := bb_ifn c47 h
          refine lv_bipush (v := (48 : Int32)) hx hb dX8_next_61 (by decide) ?_
          exact toW _ _ _ (Jk23 (48 : Int32) _ _ _ h (hP.sub [2, 3, 0, 4, 5, 1] rfl) (hD.sub [2, 3, 0, 4, 5, 1] (by decide) rfl) hS (lv_sub hl [0, 1] rfl))
        · replace h := bb_ifp c47 h
          refine lv_iload_n hx hb dX8_next_57 rfl (lv_at hl 1 rfl) ?_
          refine lv_goto (tgt := 63) hx hb dX8_next_58 (by decide) ?_
          exact toW _ _ _ (Jk23 p1 _ _ _ h (hP.sub [2, 3, 0, 4, 5, 1] rfl) (hD.sub [2, 3, 0, 4, 5, 1] (by decide) rfl) hS (lv_sub hl [0, 1] rfl))
      · replace h := bb_ifn c20 h
        refine lv_aload_n hx hb dX8_next_41 rfl (lv_at hl 0 rfl) ?_
        refine lv_iconst (v := (3 : Int32)) hx hb dX8_next_42 (by decide) ?_
        obtain ⟨r48, w49, hc50, h⟩ := bb_b2_o h
        refine bb_cwi (wr := [((a_t 1), .inl (cy 0, 155, .inl f_t_s)), ((a_t 6), .inl (cy 0, 48, .inl w16)), ((a_t 8), .inl (cy 2, 48, .inl w17)), ((a_t 7), .inl (cy 0, 48, .inl w14))]) (w1 := [((a_t 0), oX8 a_t v_t_isKept v_t_bestPost v_t_mostSeen v_t_taped v_t_from v_t_to v_t_isWrong), ((a_t 5), .inl (cy 0, 7, .inl w49))]) (va_runV (As := [.int (3 : Int32)]) (rest := []) ⟨hx, hb, hml, hown, hts⟩ (kX8_finds l dC dI cy H.size a_t (3 : Int32) v_t_isKept v_t_bestPost v_t_mostSeen v_t_taped v_t_from v_t_to v_t_isWrong f_t_found r48 w49 hc50) (cwV 1 hts gX8_next_X8_finds rfl rfl rfl kdX8_finds ⟨Nat.le_of_ble_eq_true rfl, Nat.le_of_ble_eq_true rfl⟩) (bb_preVw (va_recv hK hP (ci := 7) (q0 := 2) rfl rfl) (hP.sub (ws' := [((a_t 0), oX8 a_t v_t_isKept v_t_bestPost v_t_mostSeen v_t_taped v_t_from v_t_to v_t_isWrong), ((a_t 5), .inl (cy 0, 7, .inl f_t_found))]) [2, 0] rfl) hK (hD.sub (ws' := [((a_t 0), oX8 a_t v_t_isKept v_t_bestPost v_t_mostSeen v_t_taped v_t_from v_t_to v_t_isWrong), ((a_t 5), .inl (cy 0, 7, .inl f_t_found))]) [2, 0] (by decide) rfl)) rfl rfl hl.1 rfl (lv_room (Nat.le_of_ble_eq_true rfl)) dX8_next_43 ⟨Nat.zero_le _, Nat.zero_le _⟩) hP hD hS hA [2, 0] [1, 3, 4, 5] rfl rfl (by decide) (by decide) (fun H locs hP hD hS => ?_)
        have hP : va_P (dC, dI) vwCl [((a_t 1), .inl (cy 0, 155, .inl f_t_s)), ((a_t 6), .inl (cy 0, 48, .inl w16)), ((a_t 8), .inl (cy 2, 48, .inl w17)), ((a_t 7), .inl (cy 0, 48, .inl w14)), ((a_t 0), oX8 a_t v_t_isKept v_t_bestPost v_t_mostSeen v_t_taped v_t_from v_t_to v_t_isWrong), ((a_t 5), .inl (cy 0, 7, .inl w49))] H := hP
        have hD : va_D A [((a_t 1), .inl (cy 0, 155, .inl f_t_s)), ((a_t 6), .inl (cy 0, 48, .inl w16)), ((a_t 8), .inl (cy 2, 48, .inl w17)), ((a_t 7), .inl (cy 0, 48, .inl w14)), ((a_t 0), oX8 a_t v_t_isKept v_t_bestPost v_t_mostSeen v_t_taped v_t_from v_t_to v_t_isWrong), ((a_t 5), .inl (cy 0, 7, .inl w49))] := hD
        obtain ⟨rfl, rfl, rfl, rfl, rfl⟩ := bb_some5 h
        have hP9 := hP.sub (ws' := [((a_t 0), oX8 a_t v_t_isKept v_t_bestPost v_t_mostSeen v_t_taped v_t_from v_t_to v_t_isWrong), ((a_t 6), .inl (cy 0, 48, .inl w16)), ((a_t 5), .inl (cy 0, 7, .inl w49)), ((a_t 8), .inl (cy 2, 48, .inl w17)), ((a_t 7), .inl (cy 0, 48, .inl w14)), ((a_t 1), .inl (cy 0, 155, .inl f_t_s))]) [4, 1, 5, 2, 3, 0] rfl
        have hD9 := hD.sub (ws' := [((a_t 0), oX8 a_t v_t_isKept v_t_bestPost v_t_mostSeen v_t_taped v_t_from v_t_to v_t_isWrong), ((a_t 6), .inl (cy 0, 48, .inl w16)), ((a_t 5), .inl (cy 0, 7, .inl w49)), ((a_t 8), .inl (cy 2, 48, .inl w17)), ((a_t 7), .inl (cy 0, 48, .inl w14)), ((a_t 1), .inl (cy 0, 155, .inl f_t_s))]) [4, 1, 5, 2, 3, 0] (by decide) rfl
        exact W.iret hx hb hr (fun t ht hW => ⟨⟨_, (), rfl, rfl, by rw [ht]; exact hP9, va_K.moved hW.alike hK, hD9⟩, hS.F ht⟩) hS.2.2 dX8_next_46
    · replace h := bb_ifp c13 h
      refine lv_aload_n hx hb dX8_next_14 rfl (lv_at hl 0 rfl) ?_
      refine lv_iconst (v := (0 : Int32)) hx hb dX8_next_15 (by decide) ?_
      obtain ⟨r51, w52, hc53, h⟩ := bb_b2_o h
      refine bb_cwi (wr := [((a_t 6), .inl (cy 0, 48, .inl f_t_far)), ((a_t 8), .inl (cy 2, 48, .inl f_t_isDone)), ((a_t 7), .inl (cy 0, 48, .inl f_t_price)), ((a_t 1), .inl (cy 0, 155, .inl f_t_s))]) (w1 := [((a_t 0), oX8 a_t v_t_isKept v_t_bestPost v_t_mostSeen v_t_taped v_t_from v_t_to v_t_isWrong), ((a_t 5), .inl (cy 0, 7, .inl w52))]) (va_runV (As := [.int (0 : Int32)]) (rest := []) ⟨hx, hb, hml, hown, hts⟩ (kX8_finds l dC dI cy s.heap.size a_t (0 : Int32) v_t_isKept v_t_bestPost v_t_mostSeen v_t_taped v_t_from v_t_to v_t_isWrong f_t_found r51 w52 hc53) (cwV 1 hts gX8_next_X8_finds rfl rfl rfl kdX8_finds ⟨Nat.le_of_ble_eq_true rfl, Nat.le_of_ble_eq_true rfl⟩) (bb_preVw (va_recv hK hP (ci := 7) (q0 := 0) rfl rfl) (hP.sub (ws' := [((a_t 0), oX8 a_t v_t_isKept v_t_bestPost v_t_mostSeen v_t_taped v_t_from v_t_to v_t_isWrong), ((a_t 5), .inl (cy 0, 7, .inl f_t_found))]) [0, 2] rfl) hK (hD.sub (ws' := [((a_t 0), oX8 a_t v_t_isKept v_t_bestPost v_t_mostSeen v_t_taped v_t_from v_t_to v_t_isWrong), ((a_t 5), .inl (cy 0, 7, .inl f_t_found))]) [0, 2] (by decide) rfl)) rfl rfl hl.1 rfl (lv_room (Nat.le_of_ble_eq_true rfl)) dX8_next_16 ⟨Nat.zero_le _, Nat.zero_le _⟩) hP hD hS hA [0, 2] [1, 3, 4, 5] rfl rfl (by decide) (by decide) (fun H locs hP hD hS => ?_)
      have hP : va_P (dC, dI) vwCl [((a_t 6), .inl (cy 0, 48, .inl f_t_far)), ((a_t 8), .inl (cy 2, 48, .inl f_t_isDone)), ((a_t 7), .inl (cy 0, 48, .inl f_t_price)), ((a_t 1), .inl (cy 0, 155, .inl f_t_s)), ((a_t 0), oX8 a_t v_t_isKept v_t_bestPost v_t_mostSeen v_t_taped v_t_from v_t_to v_t_isWrong), ((a_t 5), .inl (cy 0, 7, .inl w52))] H := hP
      have hD : va_D A [((a_t 6), .inl (cy 0, 48, .inl f_t_far)), ((a_t 8), .inl (cy 2, 48, .inl f_t_isDone)), ((a_t 7), .inl (cy 0, 48, .inl f_t_price)), ((a_t 1), .inl (cy 0, 155, .inl f_t_s)), ((a_t 0), oX8 a_t v_t_isKept v_t_bestPost v_t_mostSeen v_t_taped v_t_from v_t_to v_t_isWrong), ((a_t 5), .inl (cy 0, 7, .inl w52))] := hD
      obtain ⟨rfl, rfl, rfl, rfl, rfl⟩ := bb_some5 h
      have hP9 := hP.sub (ws' := [((a_t 0), oX8 a_t v_t_isKept v_t_bestPost v_t_mostSeen v_t_taped v_t_from v_t_to v_t_isWrong), ((a_t 6), .inl (cy 0, 48, .inl f_t_far)), ((a_t 5), .inl (cy 0, 7, .inl w52)), ((a_t 8), .inl (cy 2, 48, .inl f_t_isDone)), ((a_t 7), .inl (cy 0, 48, .inl f_t_price)), ((a_t 1), .inl (cy 0, 155, .inl f_t_s))]) [4, 0, 5, 1, 2, 3] rfl
      have hD9 := hD.sub (ws' := [((a_t 0), oX8 a_t v_t_isKept v_t_bestPost v_t_mostSeen v_t_taped v_t_from v_t_to v_t_isWrong), ((a_t 6), .inl (cy 0, 48, .inl f_t_far)), ((a_t 5), .inl (cy 0, 7, .inl w52)), ((a_t 8), .inl (cy 2, 48, .inl f_t_isDone)), ((a_t 7), .inl (cy 0, 48, .inl f_t_price)), ((a_t 1), .inl (cy 0, 155, .inl f_t_s))]) [4, 0, 5, 1, 2, 3] (by decide) rfl
      exact W.iret hx hb hr (fun t ht hW => ⟨⟨_, (), rfl, rfl, by rw [ht]; exact hP9, va_K.moved hW.alike hK, hD9⟩, hS.F ht⟩) hS.2.2 dX8_next_19
/-! X8_steamFor -/
def uX8_steamFor (nn : Nat) (p1 : Int32) (p2 : Int32) (f_t_far : Nat → Int32) (f_t_found : Nat → Int32) (f_t_isDone : Nat → Int32) (f_t_price : Nat → Int32) (f_t_s : Nat → Int32) : Option (Int32 × (Nat → Int32) × (Nat → Int32) × (Nat → Int32) × (Nat → Int32)) :=
  bb_b1 (uX8_isCell p1) (fun (r1 : Int32) => (if r1 = 0 then bb_b2 (uX8_finds (0 : Int32) f_t_found) (fun (r6 : Int32) (w7 : Nat → Int32) => some (r6, f_t_far, w7, f_t_isDone, f_t_price)) else bb_b1 (uX8_isSide p2) (fun (r9 : Int32) => (if r9 = 0 then bb_b2 (uX8_finds (0 : Int32) f_t_found) (fun (r25 : Int32) (w26 : Nat → Int32) => some (r25, f_t_far, w26, f_t_isDone, f_t_price)) else bb_b1 (uX8_findPrices nn (1 : Int32) f_t_price f_t_s) (fun (w14 : Nat → Int32) => bb_b2 (uX8_findFar nn p2 f_t_far f_t_isDone w14) (fun (w16 : Nat → Int32) (w17 : Nat → Int32) => bb_ix p1 48 ((if (1000000 : Int32) ≤ (w16 p1.toNatClampNeg) then bb_b2 (uX8_finds (3 : Int32) f_t_found) (fun (r21 : Int32) (w22 : Nat → Int32) => some (r21, w16, w22, w17, w14)) else bb_ix p1 48 (some (w16 p1.toNatClampNeg, w16, f_t_found, w17, w14))))))))))
theorem kdX8_steamFor : yX8_steamFor.cls = RX8 ∧ yX8_steamFor.cls ≠ "java/lang/invoke/MethodHandle" ∧ yX8_steamFor.cls ≠ "java/lang/invoke/VarHandle" ∧ (parseMethodDescriptor yX8_steamFor.desc).map (fun d => d.parameters.length) = some 2 := by decide +kernel
set_option maxHeartbeats 4000000 in
set_option maxRecDepth 100000 in
theorem kX8_steamFor (l : Launch) (dC : Nat → ClassId) (dI : Nat → Nat → Nat) (cy : Nat → ClassId) (sz : Nat) (a_t : Nat → Nat) (p1 : Int32) (p2 : Int32) (v_t_isKept : Int32) (v_t_bestPost : Int32) (v_t_mostSeen : Int32) (v_t_taped : Int32) (v_t_from : Int32) (v_t_to : Int32) (v_t_isWrong : Int32) (f_t_far : Nat → Int32) (f_t_found : Nat → Int32) (f_t_isDone : Nat → Int32) (f_t_price : Nat → Int32) (f_t_s : Nat → Int32) (nn : Nat) (r : Int32) (f_t_far_o : Nat → Int32) (f_t_found_o : Nat → Int32) (f_t_isDone_o : Nat → Int32) (f_t_price_o : Nat → Int32) (h : uX8_steamFor nn p1 p2 f_t_far f_t_found f_t_isDone f_t_price f_t_s = some (r, f_t_far_o, f_t_found_o, f_t_isDone_o, f_t_price_o)) : Met l yX8_steamFor wsX8_steamFor ({ frames := 6, cells := 0, slots := 0, locals := 130 }) (va_Pc [.ref (a_t 0), .int p1, .int p2] (fun U => U.heap.size = sz ∧ va_P (dC, dI) vwCl [((a_t 0), oX8 a_t v_t_isKept v_t_bestPost v_t_mostSeen v_t_taped v_t_from v_t_to v_t_isWrong), ((a_t 6), .inl (cy 0, 48, .inl f_t_far)), ((a_t 5), .inl (cy 0, 7, .inl f_t_found)), ((a_t 8), .inl (cy 2, 48, .inl f_t_isDone)), ((a_t 7), .inl (cy 0, 48, .inl f_t_price)), ((a_t 1), .inl (cy 0, 155, .inl f_t_s))] U.heap ∧ va_K (dC, dI) vwCl (tyX cy) U ∧ va_D (fun _ => True) [((a_t 0), oX8 a_t v_t_isKept v_t_bestPost v_t_mostSeen v_t_taped v_t_from v_t_to v_t_isWrong), ((a_t 6), .inl (cy 0, 48, .inl f_t_far)), ((a_t 5), .inl (cy 0, 7, .inl f_t_found)), ((a_t 8), .inl (cy 2, 48, .inl f_t_isDone)), ((a_t 7), .inl (cy 0, 48, .inl f_t_price)), ((a_t 1), .inl (cy 0, 155, .inl f_t_s))])) (va_Qi (fun (r2 : Int32) (_ : Unit) => r = r2) (fun _ t => va_P (dC, dI) vwCl [((a_t 0), oX8 a_t v_t_isKept v_t_bestPost v_t_mostSeen v_t_taped v_t_from v_t_to v_t_isWrong), ((a_t 6), .inl (cy 0, 48, .inl f_t_far_o)), ((a_t 5), .inl (cy 0, 7, .inl f_t_found_o)), ((a_t 8), .inl (cy 2, 48, .inl f_t_isDone_o)), ((a_t 7), .inl (cy 0, 48, .inl f_t_price_o)), ((a_t 1), .inl (cy 0, 155, .inl f_t_s))] t.heap ∧ va_K (dC, dI) vwCl (tyX cy) t ∧ va_D (va_A [((a_t 0), oX8 a_t v_t_isKept v_t_bestPost v_t_mostSeen v_t_taped v_t_from v_t_to v_t_isWrong), ((a_t 6), .inl (cy 0, 48, .inl f_t_far)), ((a_t 5), .inl (cy 0, 7, .inl f_t_found)), ((a_t 8), .inl (cy 2, 48, .inl f_t_isDone)), ((a_t 7), .inl (cy 0, 48, .inl f_t_price)), ((a_t 1), .inl (cy 0, 155, .inl f_t_s))] sz) [((a_t 0), oX8 a_t v_t_isKept v_t_bestPost v_t_mostSeen v_t_taped v_t_from v_t_to v_t_isWrong), ((a_t 6), .inl (cy 0, 48, .inl f_t_far_o)), ((a_t 5), .inl (cy 0, 7, .inl f_t_found_o)), ((a_t 8), .inl (cy 2, 48, .inl f_t_isDone_o)), ((a_t 7), .inl (cy 0, 48, .inl f_t_price_o)), ((a_t 1), .inl (cy 0, 155, .inl f_t_s))]) (va_A [((a_t 0), oX8 a_t v_t_isKept v_t_bestPost v_t_mostSeen v_t_taped v_t_from v_t_to v_t_isWrong), ((a_t 6), .inl (cy 0, 48, .inl f_t_far)), ((a_t 5), .inl (cy 0, 7, .inl f_t_found)), ((a_t 8), .inl (cy 2, 48, .inl f_t_isDone)), ((a_t 7), .inl (cy 0, 48, .inl f_t_price)), ((a_t 1), .inl (cy 0, 155, .inl f_t_s))] sz)) 0 0 (va_A [((a_t 0), oX8 a_t v_t_isKept v_t_bestPost v_t_mostSeen v_t_taped v_t_from v_t_to v_t_isWrong), ((a_t 6), .inl (cy 0, 48, .inl f_t_far)), ((a_t 5), .inl (cy 0, 7, .inl f_t_found)), ((a_t 8), .inl (cy 2, 48, .inl f_t_isDone)), ((a_t 7), .inl (cy 0, 48, .inl f_t_price)), ((a_t 1), .inl (cy 0, 155, .inl f_t_s))] sz) := by
  refine Met.ofW (cc := cX8_steamFor) (maxL := 3) (ret := (some .int)) (by decide) rfl ?_
  intro p e s m args below meth c s₁ B hml hv
  obtain ⟨rfl, hsz, hP, hK, hD0⟩ := hv
  have hx := B.exec
  have hb := B.bytes
  have hr := B.returns
  have hts := atoms_spec (ws := wsX8_steamFor) B.pre
  have hown : s.vm.findClass RX8 = some m.cls := findClass_of_methodNamed B.named
  have hlocks := B.notSynchronized
  have iwX8 : ∀ w ∈ wsX80, w ∈ wsX8_steamFor := fun w h9 => List.mem_cons_of_mem _ (List.mem_append_right _ (h9))
  have lk1 := hts (Cond.fieldLink RX8 22 "BathBorderModel" "far" "[I") (List.mem_of_getElem? (i := 1) rfl)
  have lk2 := hts (Cond.constant RX8 219 (1000000)) (List.mem_of_getElem? (i := 2) rfl)
  subst hsz
  have hD := hD0.self (sz := s.heap.size)
  generalize hAe : va_A [((a_t 0), oX8 a_t v_t_isKept v_t_bestPost v_t_mostSeen v_t_taped v_t_from v_t_to v_t_isWrong), ((a_t 6), .inl (cy 0, 48, .inl f_t_far)), ((a_t 5), .inl (cy 0, 7, .inl f_t_found)), ((a_t 8), .inl (cy 2, 48, .inl f_t_isDone)), ((a_t 7), .inl (cy 0, 48, .inl f_t_price)), ((a_t 1), .inl (cy 0, 155, .inl f_t_s))] s.heap.size = A at hD ⊢
  have hA : ∀ q : Nat, s.heap.size ≤ q → A q := fun q h => by rw [← hAe]; exact Or.inr h
  have hS : va_S A s.heap s.heap [] := va_S.rf
  have hP : va_P (dC, dI) vwCl [((a_t 0), oX8 a_t v_t_isKept v_t_bestPost v_t_mostSeen v_t_taped v_t_from v_t_to v_t_isWrong), ((a_t 6), .inl (cy 0, 48, .inl f_t_far)), ((a_t 5), .inl (cy 0, 7, .inl f_t_found)), ((a_t 8), .inl (cy 2, 48, .inl f_t_isDone)), ((a_t 7), .inl (cy 0, 48, .inl f_t_price)), ((a_t 1), .inl (cy 0, 155, .inl f_t_s))] s.heap := hP
  have hl := lv_entry ([.ref (a_t 0), .int p1, .int p2]) (n := 3) (Nat.le_of_ble_eq_true rfl)
  rw [lg_entry_eq]
  generalize (lg_sl ([.ref (a_t 0), .int p1, .int p2]) ++ List.replicate (3 - (lg_sl ([.ref (a_t 0), .int p1, .int p2])).length) Slot.unset).toArray = ls at hl ⊢
  have hl : lv_has ls 3 [(0, .ref (a_t 0)), (1, .int p1), (2, .int p2)] := hl
  unfold uX8_steamFor at h
  refine bb_cap (fun WW toW ofW => ?_)
  refine lv_iload_n hx hb dX8_steamFor_0 rfl (lv_at hl 1 rfl) ?_
  obtain ⟨r1, hc2, h⟩ := bb_b1_o h
  refine vp_callSi (W.runS (As := [.int p1]) (rest := []) ⟨hx, hb, hml, hown, hts⟩ (kX8_isCell l dC dI cy p1 r1 hc2) (va_cwS 1 hts gX8_steamFor_X8_isCell rfl rfl rfl kdX8_isCell ⟨Nat.le_of_ble_eq_true rfl, Nat.le_of_ble_eq_true rfl⟩) (bb_preS (hP.sub (ws' := []) [] rfl) hK) rfl rfl hl.1 rfl (lv_room (Nat.le_of_ble_eq_true rfl)) dX8_steamFor_1 ⟨Nat.zero_le _, Nat.zero_le _⟩) (fun t3 et3 => ?_)
  obtain ⟨rfl, hz4⟩ := et3
  refine lv_if_eq (tgt := 14) hx hb dX8_steamFor_4 (by decide) (fun c5 => ?_) (fun c5 => ?_)
  · replace h := bb_ifp c5 h
    refine lv_aload_n hx hb dX8_steamFor_14 rfl (lv_at hl 0 rfl) ?_
    refine lv_iconst (v := (0 : Int32)) hx hb dX8_steamFor_15 (by decide) ?_
    obtain ⟨r6, w7, hc8, h⟩ := bb_b2_o h
    refine bb_cwi (wr := [((a_t 6), .inl (cy 0, 48, .inl f_t_far)), ((a_t 8), .inl (cy 2, 48, .inl f_t_isDone)), ((a_t 7), .inl (cy 0, 48, .inl f_t_price)), ((a_t 1), .inl (cy 0, 155, .inl f_t_s))]) (w1 := [((a_t 0), oX8 a_t v_t_isKept v_t_bestPost v_t_mostSeen v_t_taped v_t_from v_t_to v_t_isWrong), ((a_t 5), .inl (cy 0, 7, .inl w7))]) (va_runV (As := [.int (0 : Int32)]) (rest := []) ⟨hx, hb, hml, hown, hts⟩ (kX8_finds l dC dI cy s.heap.size a_t (0 : Int32) v_t_isKept v_t_bestPost v_t_mostSeen v_t_taped v_t_from v_t_to v_t_isWrong f_t_found r6 w7 hc8) (cwV 1 hts gX8_steamFor_X8_finds rfl rfl rfl kdX8_finds ⟨Nat.le_of_ble_eq_true rfl, Nat.le_of_ble_eq_true rfl⟩) (bb_preVw (va_recv hK hP (ci := 7) (q0 := 0) rfl rfl) (hP.sub (ws' := [((a_t 0), oX8 a_t v_t_isKept v_t_bestPost v_t_mostSeen v_t_taped v_t_from v_t_to v_t_isWrong), ((a_t 5), .inl (cy 0, 7, .inl f_t_found))]) [0, 2] rfl) hK (hD.sub (ws' := [((a_t 0), oX8 a_t v_t_isKept v_t_bestPost v_t_mostSeen v_t_taped v_t_from v_t_to v_t_isWrong), ((a_t 5), .inl (cy 0, 7, .inl f_t_found))]) [0, 2] (by decide) rfl)) rfl rfl hl.1 rfl (lv_room (Nat.le_of_ble_eq_true rfl)) dX8_steamFor_16 ⟨Nat.zero_le _, Nat.zero_le _⟩) hP hD hS hA [0, 2] [1, 3, 4, 5] rfl rfl (by decide) (by decide) (fun H locs hP hD hS => ?_)
    have hP : va_P (dC, dI) vwCl [((a_t 6), .inl (cy 0, 48, .inl f_t_far)), ((a_t 8), .inl (cy 2, 48, .inl f_t_isDone)), ((a_t 7), .inl (cy 0, 48, .inl f_t_price)), ((a_t 1), .inl (cy 0, 155, .inl f_t_s)), ((a_t 0), oX8 a_t v_t_isKept v_t_bestPost v_t_mostSeen v_t_taped v_t_from v_t_to v_t_isWrong), ((a_t 5), .inl (cy 0, 7, .inl w7))] H := hP
    have hD : va_D A [((a_t 6), .inl (cy 0, 48, .inl f_t_far)), ((a_t 8), .inl (cy 2, 48, .inl f_t_isDone)), ((a_t 7), .inl (cy 0, 48, .inl f_t_price)), ((a_t 1), .inl (cy 0, 155, .inl f_t_s)), ((a_t 0), oX8 a_t v_t_isKept v_t_bestPost v_t_mostSeen v_t_taped v_t_from v_t_to v_t_isWrong), ((a_t 5), .inl (cy 0, 7, .inl w7))] := hD
    obtain ⟨rfl, rfl, rfl, rfl, rfl⟩ := bb_some5 h
    have hP9 := hP.sub (ws' := [((a_t 0), oX8 a_t v_t_isKept v_t_bestPost v_t_mostSeen v_t_taped v_t_from v_t_to v_t_isWrong), ((a_t 6), .inl (cy 0, 48, .inl f_t_far)), ((a_t 5), .inl (cy 0, 7, .inl w7)), ((a_t 8), .inl (cy 2, 48, .inl f_t_isDone)), ((a_t 7), .inl (cy 0, 48, .inl f_t_price)), ((a_t 1), .inl (cy 0, 155, .inl f_t_s))]) [4, 0, 5, 1, 2, 3] rfl
    have hD9 := hD.sub (ws' := [((a_t 0), oX8 a_t v_t_isKept v_t_bestPost v_t_mostSeen v_t_taped v_t_from v_t_to v_t_isWrong), ((a_t 6), .inl (cy 0, 48, .inl f_t_far)), ((a_t 5), .inl (cy 0, 7, .inl w7)), ((a_t 8), .inl (cy 2, 48, .inl f_t_isDone)), ((a_t 7), .inl (cy 0, 48, .inl f_t_price)), ((a_t 1), .inl (cy 0, 155, .inl f_t_s))]) [4, 0, 5, 1, 2, 3] (by decide) rfl
    exact W.iret hx hb hr (fun t ht hW => ⟨⟨_, (), rfl, rfl, by rw [ht]; exact hP9, va_K.moved hW.alike hK, hD9⟩, hS.F ht⟩) hS.2.2 dX8_steamFor_19
  · replace h := bb_ifn c5 h
    refine lv_iload_n hx hb dX8_steamFor_7 rfl (lv_at hl 2 rfl) ?_
    obtain ⟨r9, hc10, h⟩ := bb_b1_o h
    refine vp_callSi (W.runS (As := [.int p2]) (rest := []) ⟨hx, hb, hml, hown, hts⟩ (kX8_isSide l dC dI cy p2 r9 hc10) (va_cwS 1 hts gX8_steamFor_X8_isSide rfl rfl rfl kdX8_isSide ⟨Nat.le_of_ble_eq_true rfl, Nat.le_of_ble_eq_true rfl⟩) (bb_preS (hP.sub (ws' := []) [] rfl) hK) rfl rfl hl.1 rfl (lv_room (Nat.le_of_ble_eq_true rfl)) dX8_steamFor_8 ⟨Nat.zero_le _, Nat.zero_le _⟩) (fun t11 et11 => ?_)
    obtain ⟨rfl, hz12⟩ := et11
    refine lv_if_ne (tgt := 20) hx hb dX8_steamFor_11 (by decide) (fun c13 => ?_) (fun c13 => ?_)
    · replace h := bb_ifn c13 h
      refine lv_aload_n hx hb dX8_steamFor_20 rfl (lv_at hl 0 rfl) ?_
      refine lv_iconst (v := (1 : Int32)) hx hb dX8_steamFor_21 (by decide) ?_
      obtain ⟨w14, hc15, h⟩ := bb_b1_o h
      refine bb_cwv (wr := [((a_t 6), .inl (cy 0, 48, .inl f_t_far)), ((a_t 5), .inl (cy 0, 7, .inl f_t_found)), ((a_t 8), .inl (cy 2, 48, .inl f_t_isDone))]) (w1 := [((a_t 0), oX8 a_t v_t_isKept v_t_bestPost v_t_mostSeen v_t_taped v_t_from v_t_to v_t_isWrong), ((a_t 7), .inl (cy 0, 48, .inl w14)), ((a_t 1), .inl (cy 0, 155, .inl f_t_s))]) (va_runV (As := [.int (1 : Int32)]) (rest := []) ⟨hx, hb, hml, hown, hts⟩ (kX8_findPrices l dC dI cy s.heap.size a_t (1 : Int32) v_t_isKept v_t_bestPost v_t_mostSeen v_t_taped v_t_from v_t_to v_t_isWrong f_t_price f_t_s nn w14 hc15) (cwV 1 hts gX8_steamFor_X8_findPrices rfl rfl rfl kdX8_findPrices ⟨Nat.le_of_ble_eq_true rfl, Nat.le_of_ble_eq_true rfl⟩) (bb_preVw (va_recv hK hP (ci := 7) (q0 := 0) rfl rfl) (hP.sub (ws' := [((a_t 0), oX8 a_t v_t_isKept v_t_bestPost v_t_mostSeen v_t_taped v_t_from v_t_to v_t_isWrong), ((a_t 7), .inl (cy 0, 48, .inl f_t_price)), ((a_t 1), .inl (cy 0, 155, .inl f_t_s))]) [0, 4, 5] rfl) hK (hD.sub (ws' := [((a_t 0), oX8 a_t v_t_isKept v_t_bestPost v_t_mostSeen v_t_taped v_t_from v_t_to v_t_isWrong), ((a_t 7), .inl (cy 0, 48, .inl f_t_price)), ((a_t 1), .inl (cy 0, 155, .inl f_t_s))]) [0, 4, 5] (by decide) rfl)) rfl rfl hl.1 rfl (lv_room (Nat.le_of_ble_eq_true rfl)) dX8_steamFor_22 ⟨Nat.zero_le _, Nat.zero_le _⟩) hP hD hS hA [0, 4, 5] [1, 2, 3] rfl rfl (by decide) (by decide) (fun H locs hP hD hS => ?_)
      have hP : va_P (dC, dI) vwCl [((a_t 6), .inl (cy 0, 48, .inl f_t_far)), ((a_t 5), .inl (cy 0, 7, .inl f_t_found)), ((a_t 8), .inl (cy 2, 48, .inl f_t_isDone)), ((a_t 0), oX8 a_t v_t_isKept v_t_bestPost v_t_mostSeen v_t_taped v_t_from v_t_to v_t_isWrong), ((a_t 7), .inl (cy 0, 48, .inl w14)), ((a_t 1), .inl (cy 0, 155, .inl f_t_s))] H := hP
      have hD : va_D A [((a_t 6), .inl (cy 0, 48, .inl f_t_far)), ((a_t 5), .inl (cy 0, 7, .inl f_t_found)), ((a_t 8), .inl (cy 2, 48, .inl f_t_isDone)), ((a_t 0), oX8 a_t v_t_isKept v_t_bestPost v_t_mostSeen v_t_taped v_t_from v_t_to v_t_isWrong), ((a_t 7), .inl (cy 0, 48, .inl w14)), ((a_t 1), .inl (cy 0, 155, .inl f_t_s))] := hD
      refine lv_aload_n hx hb dX8_steamFor_25 rfl (lv_at hl 0 rfl) ?_
      refine lv_iload_n hx hb dX8_steamFor_26 rfl (lv_at hl 2 rfl) ?_
      obtain ⟨w16, w17, hc18, h⟩ := bb_b2_o h
      refine bb_cwv (wr := [((a_t 5), .inl (cy 0, 7, .inl f_t_found)), ((a_t 1), .inl (cy 0, 155, .inl f_t_s))]) (w1 := [((a_t 0), oX8 a_t v_t_isKept v_t_bestPost v_t_mostSeen v_t_taped v_t_from v_t_to v_t_isWrong), ((a_t 6), .inl (cy 0, 48, .inl w16)), ((a_t 8), .inl (cy 2, 48, .inl w17)), ((a_t 7), .inl (cy 0, 48, .inl w14))]) (va_runV (As := [.int p2]) (rest := []) ⟨hx, hb, hml, hown, hts⟩ (kX8_findFar l dC dI cy H.size a_t p2 v_t_isKept v_t_bestPost v_t_mostSeen v_t_taped v_t_from v_t_to v_t_isWrong f_t_far f_t_isDone w14 nn w16 w17 hc18) (cwV 1 hts gX8_steamFor_X8_findFar rfl rfl rfl kdX8_findFar ⟨Nat.le_of_ble_eq_true rfl, Nat.le_of_ble_eq_true rfl⟩) (bb_preVw (va_recv hK hP (ci := 7) (q0 := 3) rfl rfl) (hP.sub (ws' := [((a_t 0), oX8 a_t v_t_isKept v_t_bestPost v_t_mostSeen v_t_taped v_t_from v_t_to v_t_isWrong), ((a_t 6), .inl (cy 0, 48, .inl f_t_far)), ((a_t 8), .inl (cy 2, 48, .inl f_t_isDone)), ((a_t 7), .inl (cy 0, 48, .inl w14))]) [3, 0, 2, 4] rfl) hK (hD.sub (ws' := [((a_t 0), oX8 a_t v_t_isKept v_t_bestPost v_t_mostSeen v_t_taped v_t_from v_t_to v_t_isWrong), ((a_t 6), .inl (cy 0, 48, .inl f_t_far)), ((a_t 8), .inl (cy 2, 48, .inl f_t_isDone)), ((a_t 7), .inl (cy 0, 48, .inl w14))]) [3, 0, 2, 4] (by decide) rfl)) rfl rfl hl.1 rfl (lv_room (Nat.le_of_ble_eq_true rfl)) dX8_steamFor_27 ⟨Nat.zero_le _, Nat.zero_le _⟩) hP hD hS hA [3, 0, 2, 4] [1, 5] rfl rfl (by decide) (by decide) (fun H locs hP hD hS => ?_)
      have hP : va_P (dC, dI) vwCl [((a_t 5), .inl (cy 0, 7, .inl f_t_found)), ((a_t 1), .inl (cy 0, 155, .inl f_t_s)), ((a_t 0), oX8 a_t v_t_isKept v_t_bestPost v_t_mostSeen v_t_taped v_t_from v_t_to v_t_isWrong), ((a_t 6), .inl (cy 0, 48, .inl w16)), ((a_t 8), .inl (cy 2, 48, .inl w17)), ((a_t 7), .inl (cy 0, 48, .inl w14))] H := hP
      have hD : va_D A [((a_t 5), .inl (cy 0, 7, .inl f_t_found)), ((a_t 1), .inl (cy 0, 155, .inl f_t_s)), ((a_t 0), oX8 a_t v_t_isKept v_t_bestPost v_t_mostSeen v_t_taped v_t_from v_t_to v_t_isWrong), ((a_t 6), .inl (cy 0, 48, .inl w16)), ((a_t 8), .inl (cy 2, 48, .inl w17)), ((a_t 7), .inl (cy 0, 48, .inl w14))] := hD
      refine lv_aload_n hx hb dX8_steamFor_30 rfl (lv_at hl 0 rfl) ?_
      refine va_get (D := (dC, dI)) (ci := 7) (v := .ref (a_t 6)) (C := RX8) (T := TX8) (N := 20) hx hb hts iwX8 hown hK hP 2 rfl rfl 5 (by decide) lk1 (fun _ h9 => h9) rfl dX8_steamFor_31 ?_
      refine lv_iload_n hx hb dX8_steamFor_34 rfl (lv_at hl 1 rfl) ?_
      obtain ⟨hi19, h⟩ := bb_ix_o h
      refine va_iald hx hb hK hP 3 0 rfl rfl hi19 dX8_steamFor_35 ?_
      refine lv_ldc (v := (1000000 : Int32)) hx hb hown lk2 dX8_steamFor_36 ?_
      refine lv_icmp_ge (tgt := 50) hx hb dX8_steamFor_38 (by decide) (fun c20 => ?_) (fun c20 => ?_)
      · replace h := bb_ifp c20 h
        refine lv_aload_n hx hb dX8_steamFor_50 rfl (lv_at hl 0 rfl) ?_
        refine lv_iconst (v := (3 : Int32)) hx hb dX8_steamFor_51 (by decide) ?_
        obtain ⟨r21, w22, hc23, h⟩ := bb_b2_o h
        refine bb_cwi (wr := [((a_t 1), .inl (cy 0, 155, .inl f_t_s)), ((a_t 6), .inl (cy 0, 48, .inl w16)), ((a_t 8), .inl (cy 2, 48, .inl w17)), ((a_t 7), .inl (cy 0, 48, .inl w14))]) (w1 := [((a_t 0), oX8 a_t v_t_isKept v_t_bestPost v_t_mostSeen v_t_taped v_t_from v_t_to v_t_isWrong), ((a_t 5), .inl (cy 0, 7, .inl w22))]) (va_runV (As := [.int (3 : Int32)]) (rest := []) ⟨hx, hb, hml, hown, hts⟩ (kX8_finds l dC dI cy H.size a_t (3 : Int32) v_t_isKept v_t_bestPost v_t_mostSeen v_t_taped v_t_from v_t_to v_t_isWrong f_t_found r21 w22 hc23) (cwV 1 hts gX8_steamFor_X8_finds rfl rfl rfl kdX8_finds ⟨Nat.le_of_ble_eq_true rfl, Nat.le_of_ble_eq_true rfl⟩) (bb_preVw (va_recv hK hP (ci := 7) (q0 := 2) rfl rfl) (hP.sub (ws' := [((a_t 0), oX8 a_t v_t_isKept v_t_bestPost v_t_mostSeen v_t_taped v_t_from v_t_to v_t_isWrong), ((a_t 5), .inl (cy 0, 7, .inl f_t_found))]) [2, 0] rfl) hK (hD.sub (ws' := [((a_t 0), oX8 a_t v_t_isKept v_t_bestPost v_t_mostSeen v_t_taped v_t_from v_t_to v_t_isWrong), ((a_t 5), .inl (cy 0, 7, .inl f_t_found))]) [2, 0] (by decide) rfl)) rfl rfl hl.1 rfl (lv_room (Nat.le_of_ble_eq_true rfl)) dX8_steamFor_52 ⟨Nat.zero_le _, Nat.zero_le _⟩) hP hD hS hA [2, 0] [1, 3, 4, 5] rfl rfl (by decide) (by decide) (fun H locs hP hD hS => ?_)
        have hP : va_P (dC, dI) vwCl [((a_t 1), .inl (cy 0, 155, .inl f_t_s)), ((a_t 6), .inl (cy 0, 48, .inl w16)), ((a_t 8), .inl (cy 2, 48, .inl w17)), ((a_t 7), .inl (cy 0, 48, .inl w14)), ((a_t 0), oX8 a_t v_t_isKept v_t_bestPost v_t_mostSeen v_t_taped v_t_from v_t_to v_t_isWrong), ((a_t 5), .inl (cy 0, 7, .inl w22))] H := hP
        have hD : va_D A [((a_t 1), .inl (cy 0, 155, .inl f_t_s)), ((a_t 6), .inl (cy 0, 48, .inl w16)), ((a_t 8), .inl (cy 2, 48, .inl w17)), ((a_t 7), .inl (cy 0, 48, .inl w14)), ((a_t 0), oX8 a_t v_t_isKept v_t_bestPost v_t_mostSeen v_t_taped v_t_from v_t_to v_t_isWrong), ((a_t 5), .inl (cy 0, 7, .inl w22))] := hD
        obtain ⟨rfl, rfl, rfl, rfl, rfl⟩ := bb_some5 h
        have hP9 := hP.sub (ws' := [((a_t 0), oX8 a_t v_t_isKept v_t_bestPost v_t_mostSeen v_t_taped v_t_from v_t_to v_t_isWrong), ((a_t 6), .inl (cy 0, 48, .inl w16)), ((a_t 5), .inl (cy 0, 7, .inl w22)), ((a_t 8), .inl (cy 2, 48, .inl w17)), ((a_t 7), .inl (cy 0, 48, .inl w14)), ((a_t 1), .inl (cy 0, 155, .inl f_t_s))]) [4, 1, 5, 2, 3, 0] rfl
        have hD9 := hD.sub (ws' := [((a_t 0), oX8 a_t v_t_isKept v_t_bestPost v_t_mostSeen v_t_taped v_t_from v_t_to v_t_isWrong), ((a_t 6), .inl (cy 0, 48, .inl w16)), ((a_t 5), .inl (cy 0, 7, .inl w22)), ((a_t 8), .inl (cy 2, 48, .inl w17)), ((a_t 7), .inl (cy 0, 48, .inl w14)), ((a_t 1), .inl (cy 0, 155, .inl f_t_s))]) [4, 1, 5, 2, 3, 0] (by decide) rfl
        exact W.iret hx hb hr (fun t ht hW => ⟨⟨_, (), rfl, rfl, by rw [ht]; exact hP9, va_K.moved hW.alike hK, hD9⟩, hS.F ht⟩) hS.2.2 dX8_steamFor_55
      · replace h := bb_ifn c20 h
        refine lv_aload_n hx hb dX8_steamFor_41 rfl (lv_at hl 0 rfl) ?_
        refine va_get (D := (dC, dI)) (ci := 7) (v := .ref (a_t 6)) (C := RX8) (T := TX8) (N := 20) hx hb hts iwX8 hown hK hP 2 rfl rfl 5 (by decide) lk1 (fun _ h9 => h9) rfl dX8_steamFor_42 ?_
        refine lv_iload_n hx hb dX8_steamFor_45 rfl (lv_at hl 1 rfl) ?_
        obtain ⟨hi24, h⟩ := bb_ix_o h
        refine va_iald hx hb hK hP 3 0 rfl rfl hi24 dX8_steamFor_46 ?_
        refine lv_goto (tgt := 55) hx hb dX8_steamFor_47 (by decide) ?_
        obtain ⟨rfl, rfl, rfl, rfl, rfl⟩ := bb_some5 h
        have hP9 := hP.sub (ws' := [((a_t 0), oX8 a_t v_t_isKept v_t_bestPost v_t_mostSeen v_t_taped v_t_from v_t_to v_t_isWrong), ((a_t 6), .inl (cy 0, 48, .inl w16)), ((a_t 5), .inl (cy 0, 7, .inl f_t_found)), ((a_t 8), .inl (cy 2, 48, .inl w17)), ((a_t 7), .inl (cy 0, 48, .inl w14)), ((a_t 1), .inl (cy 0, 155, .inl f_t_s))]) [2, 3, 0, 4, 5, 1] rfl
        have hD9 := hD.sub (ws' := [((a_t 0), oX8 a_t v_t_isKept v_t_bestPost v_t_mostSeen v_t_taped v_t_from v_t_to v_t_isWrong), ((a_t 6), .inl (cy 0, 48, .inl w16)), ((a_t 5), .inl (cy 0, 7, .inl f_t_found)), ((a_t 8), .inl (cy 2, 48, .inl w17)), ((a_t 7), .inl (cy 0, 48, .inl w14)), ((a_t 1), .inl (cy 0, 155, .inl f_t_s))]) [2, 3, 0, 4, 5, 1] (by decide) rfl
        exact W.iret hx hb hr (fun t ht hW => ⟨⟨_, (), rfl, rfl, by rw [ht]; exact hP9, va_K.moved hW.alike hK, hD9⟩, hS.F ht⟩) hS.2.2 dX8_steamFor_55
    · replace h := bb_ifp c13 h
      refine lv_aload_n hx hb dX8_steamFor_14 rfl (lv_at hl 0 rfl) ?_
      refine lv_iconst (v := (0 : Int32)) hx hb dX8_steamFor_15 (by decide) ?_
      obtain ⟨r25, w26, hc27, h⟩ := bb_b2_o h
      refine bb_cwi (wr := [((a_t 6), .inl (cy 0, 48, .inl f_t_far)), ((a_t 8), .inl (cy 2, 48, .inl f_t_isDone)), ((a_t 7), .inl (cy 0, 48, .inl f_t_price)), ((a_t 1), .inl (cy 0, 155, .inl f_t_s))]) (w1 := [((a_t 0), oX8 a_t v_t_isKept v_t_bestPost v_t_mostSeen v_t_taped v_t_from v_t_to v_t_isWrong), ((a_t 5), .inl (cy 0, 7, .inl w26))]) (va_runV (As := [.int (0 : Int32)]) (rest := []) ⟨hx, hb, hml, hown, hts⟩ (kX8_finds l dC dI cy s.heap.size a_t (0 : Int32) v_t_isKept v_t_bestPost v_t_mostSeen v_t_taped v_t_from v_t_to v_t_isWrong f_t_found r25 w26 hc27) (cwV 1 hts gX8_steamFor_X8_finds rfl rfl rfl kdX8_finds ⟨Nat.le_of_ble_eq_true rfl, Nat.le_of_ble_eq_true rfl⟩) (bb_preVw (va_recv hK hP (ci := 7) (q0 := 0) rfl rfl) (hP.sub (ws' := [((a_t 0), oX8 a_t v_t_isKept v_t_bestPost v_t_mostSeen v_t_taped v_t_from v_t_to v_t_isWrong), ((a_t 5), .inl (cy 0, 7, .inl f_t_found))]) [0, 2] rfl) hK (hD.sub (ws' := [((a_t 0), oX8 a_t v_t_isKept v_t_bestPost v_t_mostSeen v_t_taped v_t_from v_t_to v_t_isWrong), ((a_t 5), .inl (cy 0, 7, .inl f_t_found))]) [0, 2] (by decide) rfl)) rfl rfl hl.1 rfl (lv_room (Nat.le_of_ble_eq_true rfl)) dX8_steamFor_16 ⟨Nat.zero_le _, Nat.zero_le _⟩) hP hD hS hA [0, 2] [1, 3, 4, 5] rfl rfl (by decide) (by decide) (fun H locs hP hD hS => ?_)
      have hP : va_P (dC, dI) vwCl [((a_t 6), .inl (cy 0, 48, .inl f_t_far)), ((a_t 8), .inl (cy 2, 48, .inl f_t_isDone)), ((a_t 7), .inl (cy 0, 48, .inl f_t_price)), ((a_t 1), .inl (cy 0, 155, .inl f_t_s)), ((a_t 0), oX8 a_t v_t_isKept v_t_bestPost v_t_mostSeen v_t_taped v_t_from v_t_to v_t_isWrong), ((a_t 5), .inl (cy 0, 7, .inl w26))] H := hP
      have hD : va_D A [((a_t 6), .inl (cy 0, 48, .inl f_t_far)), ((a_t 8), .inl (cy 2, 48, .inl f_t_isDone)), ((a_t 7), .inl (cy 0, 48, .inl f_t_price)), ((a_t 1), .inl (cy 0, 155, .inl f_t_s)), ((a_t 0), oX8 a_t v_t_isKept v_t_bestPost v_t_mostSeen v_t_taped v_t_from v_t_to v_t_isWrong), ((a_t 5), .inl (cy 0, 7, .inl w26))] := hD
      obtain ⟨rfl, rfl, rfl, rfl, rfl⟩ := bb_some5 h
      have hP9 := hP.sub (ws' := [((a_t 0), oX8 a_t v_t_isKept v_t_bestPost v_t_mostSeen v_t_taped v_t_from v_t_to v_t_isWrong), ((a_t 6), .inl (cy 0, 48, .inl f_t_far)), ((a_t 5), .inl (cy 0, 7, .inl w26)), ((a_t 8), .inl (cy 2, 48, .inl f_t_isDone)), ((a_t 7), .inl (cy 0, 48, .inl f_t_price)), ((a_t 1), .inl (cy 0, 155, .inl f_t_s))]) [4, 0, 5, 1, 2, 3] rfl
      have hD9 := hD.sub (ws' := [((a_t 0), oX8 a_t v_t_isKept v_t_bestPost v_t_mostSeen v_t_taped v_t_from v_t_to v_t_isWrong), ((a_t 6), .inl (cy 0, 48, .inl f_t_far)), ((a_t 5), .inl (cy 0, 7, .inl w26)), ((a_t 8), .inl (cy 2, 48, .inl f_t_isDone)), ((a_t 7), .inl (cy 0, 48, .inl f_t_price)), ((a_t 1), .inl (cy 0, 155, .inl f_t_s))]) [4, 0, 5, 1, 2, 3] (by decide) rfl
      exact W.iret hx hb hr (fun t ht hW => ⟨⟨_, (), rfl, rfl, by rw [ht]; exact hP9, va_K.moved hW.alike hK, hD9⟩, hS.F ht⟩) hS.2.2 dX8_steamFor_19
/-! X8_row -/
def uX8_row_s24 (x3_28 : Int32) (f_t_price_30 : Nat → Int32) (k_54 : Int32 → Option (Int32 × (Nat → Int32) × (Nat → Int32))) (rec32 : Int32 → Int32 → Option (Int32 × (Nat → Int32) × (Nat → Int32))) (x4_24 : Int32) (x5_25 : Int32) : Option (Int32 × (Nat → Int32) × (Nat → Int32)) :=
  (if (8 : Int32) ≤ x5_25 then k_54 x4_24 else bb_ix (((8 : Int32) * x3_28) + x5_25) 48 (rec32 (x4_24 + (f_t_price_30 (((8 : Int32) * x3_28) + x5_25).toNatClampNeg)) (x5_25 + (1 : Int32))))
def uX8_row_s12 (nn : Nat) (f_t_price_13 : Nat → Int32) (k_79 : Int32 → Option (Int32 × (Nat → Int32) × (Nat → Int32))) (rec15 : Int32 → Int32 → Int32 → Option (Int32 × (Nat → Int32) × (Nat → Int32))) (x1_9 : Int32) (x2_10 : Int32) (x3_11 : Int32) : Option (Int32 × (Nat → Int32) × (Nat → Int32)) :=
  (if (6 : Int32) ≤ x3_11 then k_79 x1_9 else bb_cut (fun (x4_19 : Int32) => bb_cut (fun (z21 : Int32) => rec15 z21 (if x4_19 < x2_10 then x4_19 else x2_10) (x3_11 + (1 : Int32))) (fun k22 => (if x2_10 ≤ x4_19 then k22 x1_9 else k22 x3_11))) (fun k20 => bb_loop2 (uX8_row_s24 x3_11 f_t_price_13 k20) nn (0 : Int32) (0 : Int32)))
def uX8_row (nn : Nat) (f_t_found : Nat → Int32) (f_t_price : Nat → Int32) (f_t_s : Nat → Int32) : Option (Int32 × (Nat → Int32) × (Nat → Int32)) :=
  bb_b1 (uX8_findPrices nn (1 : Int32) f_t_price f_t_s) (fun (w1 : Nat → Int32) => bb_cut (fun (x1_3 : Int32) => (if 0 ≤ x1_3 then some (x1_3, f_t_found, w1) else bb_b2 (uX8_finds (3 : Int32) f_t_found) (fun (r6 : Int32) (w7 : Nat → Int32) => some (r6, w7, w1)))) (fun k4 => bb_loop3 (uX8_row_s12 nn w1 k4) nn (-1 : Int32) (1000000 : Int32) (0 : Int32)))
theorem kdX8_row : yX8_row.cls = RX8 ∧ yX8_row.cls ≠ "java/lang/invoke/MethodHandle" ∧ yX8_row.cls ≠ "java/lang/invoke/VarHandle" ∧ (parseMethodDescriptor yX8_row.desc).map (fun d => d.parameters.length) = some 0 := by decide +kernel
set_option maxHeartbeats 4000000 in
set_option maxRecDepth 100000 in
theorem kX8_row (l : Launch) (dC : Nat → ClassId) (dI : Nat → Nat → Nat) (cy : Nat → ClassId) (sz : Nat) (a_t : Nat → Nat) (v_t_isKept : Int32) (v_t_bestPost : Int32) (v_t_mostSeen : Int32) (v_t_taped : Int32) (v_t_from : Int32) (v_t_to : Int32) (v_t_isWrong : Int32) (f_t_found : Nat → Int32) (f_t_price : Nat → Int32) (f_t_s : Nat → Int32) (nn : Nat) (r : Int32) (f_t_found_o : Nat → Int32) (f_t_price_o : Nat → Int32) (h : uX8_row nn f_t_found f_t_price f_t_s = some (r, f_t_found_o, f_t_price_o)) : Met l yX8_row wsX8_row ({ frames := 6, cells := 0, slots := 0, locals := 130 }) (va_Pc [.ref (a_t 0)] (fun U => U.heap.size = sz ∧ va_P (dC, dI) vwCl [((a_t 0), oX8 a_t v_t_isKept v_t_bestPost v_t_mostSeen v_t_taped v_t_from v_t_to v_t_isWrong), ((a_t 5), .inl (cy 0, 7, .inl f_t_found)), ((a_t 7), .inl (cy 0, 48, .inl f_t_price)), ((a_t 1), .inl (cy 0, 155, .inl f_t_s))] U.heap ∧ va_K (dC, dI) vwCl (tyX cy) U ∧ va_D (fun _ => True) [((a_t 0), oX8 a_t v_t_isKept v_t_bestPost v_t_mostSeen v_t_taped v_t_from v_t_to v_t_isWrong), ((a_t 5), .inl (cy 0, 7, .inl f_t_found)), ((a_t 7), .inl (cy 0, 48, .inl f_t_price)), ((a_t 1), .inl (cy 0, 155, .inl f_t_s))])) (va_Qi (fun (r2 : Int32) (_ : Unit) => r = r2) (fun _ t => va_P (dC, dI) vwCl [((a_t 0), oX8 a_t v_t_isKept v_t_bestPost v_t_mostSeen v_t_taped v_t_from v_t_to v_t_isWrong), ((a_t 5), .inl (cy 0, 7, .inl f_t_found_o)), ((a_t 7), .inl (cy 0, 48, .inl f_t_price_o)), ((a_t 1), .inl (cy 0, 155, .inl f_t_s))] t.heap ∧ va_K (dC, dI) vwCl (tyX cy) t ∧ va_D (va_A [((a_t 0), oX8 a_t v_t_isKept v_t_bestPost v_t_mostSeen v_t_taped v_t_from v_t_to v_t_isWrong), ((a_t 5), .inl (cy 0, 7, .inl f_t_found)), ((a_t 7), .inl (cy 0, 48, .inl f_t_price)), ((a_t 1), .inl (cy 0, 155, .inl f_t_s))] sz) [((a_t 0), oX8 a_t v_t_isKept v_t_bestPost v_t_mostSeen v_t_taped v_t_from v_t_to v_t_isWrong), ((a_t 5), .inl (cy 0, 7, .inl f_t_found_o)), ((a_t 7), .inl (cy 0, 48, .inl f_t_price_o)), ((a_t 1), .inl (cy 0, 155, .inl f_t_s))]) (va_A [((a_t 0), oX8 a_t v_t_isKept v_t_bestPost v_t_mostSeen v_t_taped v_t_from v_t_to v_t_isWrong), ((a_t 5), .inl (cy 0, 7, .inl f_t_found)), ((a_t 7), .inl (cy 0, 48, .inl f_t_price)), ((a_t 1), .inl (cy 0, 155, .inl f_t_s))] sz)) 0 0 (va_A [((a_t 0), oX8 a_t v_t_isKept v_t_bestPost v_t_mostSeen v_t_taped v_t_from v_t_to v_t_isWrong), ((a_t 5), .inl (cy 0, 7, .inl f_t_found)), ((a_t 7), .inl (cy 0, 48, .inl f_t_price)), ((a_t 1), .inl (cy 0, 155, .inl f_t_s))] sz) := by
  refine Met.ofW (cc := cX8_row) (maxL := 6) (ret := (some .int)) (by decide) rfl ?_
  intro p e s m args below meth c s₁ B hml hv
  obtain ⟨rfl, hsz, hP, hK, hD0⟩ := hv
  have hx := B.exec
  have hb := B.bytes
  have hr := B.returns
  have hts := atoms_spec (ws := wsX8_row) B.pre
  have hown : s.vm.findClass RX8 = some m.cls := findClass_of_methodNamed B.named
  have hlocks := B.notSynchronized
  have iwX8 : ∀ w ∈ wsX80, w ∈ wsX8_row := fun w h9 => List.mem_cons_of_mem _ (List.mem_append_right _ (h9))
  have lk1 := hts (Cond.constant RX8 219 (1000000)) (List.mem_of_getElem? (i := 1) rfl)
  have lk2 := hts (Cond.fieldLink RX8 25 "BathBorderModel" "price" "[I") (List.mem_of_getElem? (i := 2) rfl)
  have lk3 := hts (Cond.methodLink RX8 171 Lib.Math.min.name) (List.mem_of_getElem? (i := 3) rfl)
  have lk4 := hts (Cond.static Lib.Math.min.name) (List.mem_of_getElem? (i := 4) rfl)
  have lk5 := hts (Cond.initialized "java/lang/Math") (List.mem_of_getElem? (i := 5) rfl)
  have lk6 := hts (Cond.code Lib.Math.min.name Lib.Math.min.code 2 (some .int)) (List.mem_of_getElem? (i := 6) rfl)
  subst hsz
  have hD := hD0.self (sz := s.heap.size)
  generalize hAe : va_A [((a_t 0), oX8 a_t v_t_isKept v_t_bestPost v_t_mostSeen v_t_taped v_t_from v_t_to v_t_isWrong), ((a_t 5), .inl (cy 0, 7, .inl f_t_found)), ((a_t 7), .inl (cy 0, 48, .inl f_t_price)), ((a_t 1), .inl (cy 0, 155, .inl f_t_s))] s.heap.size = A at hD ⊢
  have hA : ∀ q : Nat, s.heap.size ≤ q → A q := fun q h => by rw [← hAe]; exact Or.inr h
  have hS : va_S A s.heap s.heap [] := va_S.rf
  have hP : va_P (dC, dI) vwCl [((a_t 0), oX8 a_t v_t_isKept v_t_bestPost v_t_mostSeen v_t_taped v_t_from v_t_to v_t_isWrong), ((a_t 5), .inl (cy 0, 7, .inl f_t_found)), ((a_t 7), .inl (cy 0, 48, .inl f_t_price)), ((a_t 1), .inl (cy 0, 155, .inl f_t_s))] s.heap := hP
  have hl := lv_entry ([.ref (a_t 0)]) (n := 6) (Nat.le_of_ble_eq_true rfl)
  rw [lg_entry_eq]
  generalize (lg_sl ([.ref (a_t 0)]) ++ List.replicate (6 - (lg_sl ([.ref (a_t 0)])).length) Slot.unset).toArray = ls at hl ⊢
  have hl : lv_has ls 6 [(0, .ref (a_t 0))] := hl
  unfold uX8_row at h
  refine bb_cap (fun WW toW ofW => ?_)
  refine lv_aload_n hx hb dX8_row_0 rfl (lv_at hl 0 rfl) ?_
  refine lv_iconst (v := (1 : Int32)) hx hb dX8_row_1 (by decide) ?_
  obtain ⟨w1, hc2, h⟩ := bb_b1_o h
  refine bb_cwv (wr := [((a_t 5), .inl (cy 0, 7, .inl f_t_found))]) (w1 := [((a_t 0), oX8 a_t v_t_isKept v_t_bestPost v_t_mostSeen v_t_taped v_t_from v_t_to v_t_isWrong), ((a_t 7), .inl (cy 0, 48, .inl w1)), ((a_t 1), .inl (cy 0, 155, .inl f_t_s))]) (va_runV (As := [.int (1 : Int32)]) (rest := []) ⟨hx, hb, hml, hown, hts⟩ (kX8_findPrices l dC dI cy s.heap.size a_t (1 : Int32) v_t_isKept v_t_bestPost v_t_mostSeen v_t_taped v_t_from v_t_to v_t_isWrong f_t_price f_t_s nn w1 hc2) (cwV 1 hts gX8_row_X8_findPrices rfl rfl rfl kdX8_findPrices ⟨Nat.le_of_ble_eq_true rfl, Nat.le_of_ble_eq_true rfl⟩) (bb_preVw (va_recv hK hP (ci := 7) (q0 := 0) rfl rfl) (hP.sub (ws' := [((a_t 0), oX8 a_t v_t_isKept v_t_bestPost v_t_mostSeen v_t_taped v_t_from v_t_to v_t_isWrong), ((a_t 7), .inl (cy 0, 48, .inl f_t_price)), ((a_t 1), .inl (cy 0, 155, .inl f_t_s))]) [0, 2, 3] rfl) hK (hD.sub (ws' := [((a_t 0), oX8 a_t v_t_isKept v_t_bestPost v_t_mostSeen v_t_taped v_t_from v_t_to v_t_isWrong), ((a_t 7), .inl (cy 0, 48, .inl f_t_price)), ((a_t 1), .inl (cy 0, 155, .inl f_t_s))]) [0, 2, 3] (by decide) rfl)) rfl rfl hl.1 rfl (lv_room (Nat.le_of_ble_eq_true rfl)) dX8_row_2 ⟨Nat.zero_le _, Nat.zero_le _⟩) hP hD hS hA [0, 2, 3] [1] rfl rfl (by decide) (by decide) (fun H locs hP hD hS => ?_)
  have hP : va_P (dC, dI) vwCl [((a_t 5), .inl (cy 0, 7, .inl f_t_found)), ((a_t 0), oX8 a_t v_t_isKept v_t_bestPost v_t_mostSeen v_t_taped v_t_from v_t_to v_t_isWrong), ((a_t 7), .inl (cy 0, 48, .inl w1)), ((a_t 1), .inl (cy 0, 155, .inl f_t_s))] H := hP
  have hD : va_D A [((a_t 5), .inl (cy 0, 7, .inl f_t_found)), ((a_t 0), oX8 a_t v_t_isKept v_t_bestPost v_t_mostSeen v_t_taped v_t_from v_t_to v_t_isWrong), ((a_t 7), .inl (cy 0, 48, .inl w1)), ((a_t 1), .inl (cy 0, 155, .inl f_t_s))] := hD
  refine lv_iconst (v := (-1 : Int32)) hx hb dX8_row_5 (by decide) ?_
  refine lv_istore_n (lv' := [(1, .int (-1 : Int32)), (0, .ref (a_t 0))]) hx hb dX8_row_6 rfl hl (by decide) rfl (fun ls hl => ?_)
  refine lv_ldc (v := (1000000 : Int32)) hx hb hown lk1 dX8_row_7 ?_
  refine lv_istore_n (lv' := [(2, .int (1000000 : Int32)), (1, .int (-1 : Int32)), (0, .ref (a_t 0))]) hx hb dX8_row_9 rfl hl (by decide) rfl (fun ls hl => ?_)
  refine lv_iconst (v := (0 : Int32)) hx hb dX8_row_10 (by decide) ?_
  refine lv_istore_n (lv' := [(3, .int (0 : Int32)), (2, .int (1000000 : Int32)), (1, .int (-1 : Int32)), (0, .ref (a_t 0))]) hx hb dX8_row_11 rfl hl (by decide) rfl (fun ls hl => ?_)
  obtain ⟨k4, ek4, h⟩ := bb_cut_o h
  have Jk4 : ∀ (x1_3 : Int32) (H : Heap) (locs : List Loc) (ls : Array Slot), k4 x1_3 = some (r, f_t_found_o, f_t_price_o) → va_P (dC, dI) vwCl [((a_t 0), oX8 a_t v_t_isKept v_t_bestPost v_t_mostSeen v_t_taped v_t_from v_t_to v_t_isWrong), ((a_t 5), .inl (cy 0, 7, .inl f_t_found)), ((a_t 7), .inl (cy 0, 48, .inl w1)), ((a_t 1), .inl (cy 0, 155, .inl f_t_s))] H → va_D A [((a_t 0), oX8 a_t v_t_isKept v_t_bestPost v_t_mostSeen v_t_taped v_t_from v_t_to v_t_isWrong), ((a_t 5), .inl (cy 0, 7, .inl f_t_found)), ((a_t 7), .inl (cy 0, 48, .inl w1)), ((a_t 1), .inl (cy 0, 155, .inl f_t_s))] → va_S A s.heap H locs → lv_has ls 6 [(0, .ref (a_t 0)), (1, .int x1_3)] → WW H locs (F0 m 79 ls []) := by
    intro x1_3 H locs ls h hP hD hS hl
    refine ofW _ _ _ ?_
    subst ek4
    refine lv_iload_n hx hb dX8_row_79 rfl (lv_at hl 1 rfl) ?_
    refine lv_if_ge (tgt := 91) hx hb dX8_row_80 (by decide) (fun c5 => ?_) (fun c5 => ?_)
    · replace h := bb_ifp c5 h
      refine lv_iload_n hx hb dX8_row_91 rfl (lv_at hl 1 rfl) ?_
      obtain ⟨rfl, rfl, rfl⟩ := bb_some3 h
      have hP9 := hP.sub (ws' := [((a_t 0), oX8 a_t v_t_isKept v_t_bestPost v_t_mostSeen v_t_taped v_t_from v_t_to v_t_isWrong), ((a_t 5), .inl (cy 0, 7, .inl f_t_found)), ((a_t 7), .inl (cy 0, 48, .inl w1)), ((a_t 1), .inl (cy 0, 155, .inl f_t_s))]) [0, 1, 2, 3] rfl
      have hD9 := hD.sub (ws' := [((a_t 0), oX8 a_t v_t_isKept v_t_bestPost v_t_mostSeen v_t_taped v_t_from v_t_to v_t_isWrong), ((a_t 5), .inl (cy 0, 7, .inl f_t_found)), ((a_t 7), .inl (cy 0, 48, .inl w1)), ((a_t 1), .inl (cy 0, 155, .inl f_t_s))]) [0, 1, 2, 3] (by decide) rfl
      exact W.iret hx hb hr (fun t ht hW => ⟨⟨_, (), rfl, rfl, by rw [ht]; exact hP9, va_K.moved hW.alike hK, hD9⟩, hS.F ht⟩) hS.2.2 dX8_row_92
    · replace h := bb_ifn c5 h
      refine lv_aload_n hx hb dX8_row_83 rfl (lv_at hl 0 rfl) ?_
      refine lv_iconst (v := (3 : Int32)) hx hb dX8_row_84 (by decide) ?_
      obtain ⟨r6, w7, hc8, h⟩ := bb_b2_o h
      refine bb_cwi (wr := [((a_t 7), .inl (cy 0, 48, .inl w1)), ((a_t 1), .inl (cy 0, 155, .inl f_t_s))]) (w1 := [((a_t 0), oX8 a_t v_t_isKept v_t_bestPost v_t_mostSeen v_t_taped v_t_from v_t_to v_t_isWrong), ((a_t 5), .inl (cy 0, 7, .inl w7))]) (va_runV (As := [.int (3 : Int32)]) (rest := []) ⟨hx, hb, hml, hown, hts⟩ (kX8_finds l dC dI cy H.size a_t (3 : Int32) v_t_isKept v_t_bestPost v_t_mostSeen v_t_taped v_t_from v_t_to v_t_isWrong f_t_found r6 w7 hc8) (cwV 1 hts gX8_row_X8_finds rfl rfl rfl kdX8_finds ⟨Nat.le_of_ble_eq_true rfl, Nat.le_of_ble_eq_true rfl⟩) (bb_preVw (va_recv hK hP (ci := 7) (q0 := 0) rfl rfl) (hP.sub (ws' := [((a_t 0), oX8 a_t v_t_isKept v_t_bestPost v_t_mostSeen v_t_taped v_t_from v_t_to v_t_isWrong), ((a_t 5), .inl (cy 0, 7, .inl f_t_found))]) [0, 1] rfl) hK (hD.sub (ws' := [((a_t 0), oX8 a_t v_t_isKept v_t_bestPost v_t_mostSeen v_t_taped v_t_from v_t_to v_t_isWrong), ((a_t 5), .inl (cy 0, 7, .inl f_t_found))]) [0, 1] (by decide) rfl)) rfl rfl hl.1 rfl (lv_room (Nat.le_of_ble_eq_true rfl)) dX8_row_85 ⟨Nat.zero_le _, Nat.zero_le _⟩) hP hD hS hA [0, 1] [2, 3] rfl rfl (by decide) (by decide) (fun H locs hP hD hS => ?_)
      have hP : va_P (dC, dI) vwCl [((a_t 7), .inl (cy 0, 48, .inl w1)), ((a_t 1), .inl (cy 0, 155, .inl f_t_s)), ((a_t 0), oX8 a_t v_t_isKept v_t_bestPost v_t_mostSeen v_t_taped v_t_from v_t_to v_t_isWrong), ((a_t 5), .inl (cy 0, 7, .inl w7))] H := hP
      have hD : va_D A [((a_t 7), .inl (cy 0, 48, .inl w1)), ((a_t 1), .inl (cy 0, 155, .inl f_t_s)), ((a_t 0), oX8 a_t v_t_isKept v_t_bestPost v_t_mostSeen v_t_taped v_t_from v_t_to v_t_isWrong), ((a_t 5), .inl (cy 0, 7, .inl w7))] := hD
      refine lv_goto (tgt := 92) hx hb dX8_row_88 (by decide) ?_
      obtain ⟨rfl, rfl, rfl⟩ := bb_some3 h
      have hP9 := hP.sub (ws' := [((a_t 0), oX8 a_t v_t_isKept v_t_bestPost v_t_mostSeen v_t_taped v_t_from v_t_to v_t_isWrong), ((a_t 5), .inl (cy 0, 7, .inl w7)), ((a_t 7), .inl (cy 0, 48, .inl w1)), ((a_t 1), .inl (cy 0, 155, .inl f_t_s))]) [2, 3, 0, 1] rfl
      have hD9 := hD.sub (ws' := [((a_t 0), oX8 a_t v_t_isKept v_t_bestPost v_t_mostSeen v_t_taped v_t_from v_t_to v_t_isWrong), ((a_t 5), .inl (cy 0, 7, .inl w7)), ((a_t 7), .inl (cy 0, 48, .inl w1)), ((a_t 1), .inl (cy 0, 155, .inl f_t_s))]) [2, 3, 0, 1] (by decide) rfl
      exact W.iret hx hb hr (fun t ht hW => ⟨⟨_, (), rfl, rfl, by rw [ht]; exact hP9, va_K.moved hW.alike hK, hD9⟩, hS.F ht⟩) hS.2.2 dX8_row_92
  have L16 : ∀ (n : Nat) (x1_9 : Int32) (x2_10 : Int32) (x3_11 : Int32) (H : Heap) (locs : List Loc) (ls : Array Slot), bb_loop3 (uX8_row_s12 nn w1 k4) n x1_9 x2_10 x3_11 = some (r, f_t_found_o, f_t_price_o) → va_P (dC, dI) vwCl [((a_t 0), oX8 a_t v_t_isKept v_t_bestPost v_t_mostSeen v_t_taped v_t_from v_t_to v_t_isWrong), ((a_t 5), .inl (cy 0, 7, .inl f_t_found)), ((a_t 7), .inl (cy 0, 48, .inl w1)), ((a_t 1), .inl (cy 0, 155, .inl f_t_s))] H → va_D A [((a_t 0), oX8 a_t v_t_isKept v_t_bestPost v_t_mostSeen v_t_taped v_t_from v_t_to v_t_isWrong), ((a_t 5), .inl (cy 0, 7, .inl f_t_found)), ((a_t 7), .inl (cy 0, 48, .inl w1)), ((a_t 1), .inl (cy 0, 155, .inl f_t_s))] → va_S A s.heap H locs → lv_has ls 6 [(0, .ref (a_t 0)), (1, .int x1_9), (2, .int x2_10), (3, .int x3_11)] → WW H locs (F0 m 12 ls []) := by
    intro n
    induction n with
    | zero => intro x1_9 x2_10 x3_11 H locs ls h; exact (bb_no h).elim
    | succ n ih17 =>
      intro x1_9 x2_10 x3_11 H locs ls h hP hD hS hl
      refine ofW _ _ _ ?_
      obtain ⟨rec15, erec15, h⟩ := bb_loop3_o h
      unfold uX8_row_s12 at h
      refine lv_iload_n hx hb dX8_row_12 rfl (lv_at hl 3 rfl) ?_
      refine lv_bipush (v := (6 : Int32)) hx hb dX8_row_13 (by decide) ?_
      refine lv_icmp_ge (tgt := 79) hx hb dX8_row_15 (by decide) (fun c18 => ?_) (fun c18 => ?_)
      · replace h := bb_ifp c18 h
        exact toW _ _ _ (Jk4 x1_9 _ _ _ h hP hD hS (lv_sub hl [0, 1] rfl))
      · replace h := bb_ifn c18 h
        refine lv_iconst (v := (0 : Int32)) hx hb dX8_row_18 (by decide) ?_
        refine lv_istore (lv' := [(4, .int (0 : Int32)), (0, .ref (a_t 0)), (1, .int x1_9), (2, .int x2_10), (3, .int x3_11)]) hx hb dX8_row_19 hl (by decide) rfl (fun ls hl => ?_)
        refine lv_iconst (v := (0 : Int32)) hx hb dX8_row_21 (by decide) ?_
        refine lv_istore (lv' := [(5, .int (0 : Int32)), (4, .int (0 : Int32)), (0, .ref (a_t 0)), (1, .int x1_9), (2, .int x2_10), (3, .int x3_11)]) hx hb dX8_row_22 hl (by decide) rfl (fun ls hl => ?_)
        obtain ⟨k20, ek20, h⟩ := bb_cut_o h
        have Jk20 : ∀ (x4_19 : Int32) (H : Heap) (locs : List Loc) (ls : Array Slot), k20 x4_19 = some (r, f_t_found_o, f_t_price_o) → va_P (dC, dI) vwCl [((a_t 0), oX8 a_t v_t_isKept v_t_bestPost v_t_mostSeen v_t_taped v_t_from v_t_to v_t_isWrong), ((a_t 5), .inl (cy 0, 7, .inl f_t_found)), ((a_t 7), .inl (cy 0, 48, .inl w1)), ((a_t 1), .inl (cy 0, 155, .inl f_t_s))] H → va_D A [((a_t 0), oX8 a_t v_t_isKept v_t_bestPost v_t_mostSeen v_t_taped v_t_from v_t_to v_t_isWrong), ((a_t 5), .inl (cy 0, 7, .inl f_t_found)), ((a_t 7), .inl (cy 0, 48, .inl w1)), ((a_t 1), .inl (cy 0, 155, .inl f_t_s))] → va_S A s.heap H locs → lv_has ls 6 [(0, .ref (a_t 0)), (1, .int x1_9), (2, .int x2_10), (3, .int x3_11), (4, .int x4_19)] → WW H locs (F0 m 54 ls []) := by
          intro x4_19 H locs ls h hP hD hS hl
          refine ofW _ _ _ ?_
          subst ek20
          refine lv_iload hx hb dX8_row_54 (lv_at hl 4 rfl) ?_
          refine lv_iload_n hx hb dX8_row_56 rfl (lv_at hl 2 rfl) ?_
          obtain ⟨k22, ek22, h⟩ := bb_cut_o h
          have Jk22 : ∀ (z21 : Int32) (H : Heap) (locs : List Loc) (ls : Array Slot), k22 z21 = some (r, f_t_found_o, f_t_price_o) → va_P (dC, dI) vwCl [((a_t 0), oX8 a_t v_t_isKept v_t_bestPost v_t_mostSeen v_t_taped v_t_from v_t_to v_t_isWrong), ((a_t 5), .inl (cy 0, 7, .inl f_t_found)), ((a_t 7), .inl (cy 0, 48, .inl w1)), ((a_t 1), .inl (cy 0, 155, .inl f_t_s))] H → va_D A [((a_t 0), oX8 a_t v_t_isKept v_t_bestPost v_t_mostSeen v_t_taped v_t_from v_t_to v_t_isWrong), ((a_t 5), .inl (cy 0, 7, .inl f_t_found)), ((a_t 7), .inl (cy 0, 48, .inl w1)), ((a_t 1), .inl (cy 0, 155, .inl f_t_s))] → va_S A s.heap H locs → lv_has ls 6 [(0, .ref (a_t 0)), (2, .int x2_10), (3, .int x3_11), (4, .int x4_19)] → WW H locs (F0 m 65 ls [.int z21]) := by
            intro z21 H locs ls h hP hD hS hl
            refine ofW _ _ _ ?_
            subst ek22
            refine lv_istore_n (lv' := [(1, .int z21), (0, .ref (a_t 0)), (2, .int x2_10), (3, .int x3_11), (4, .int x4_19)]) hx hb dX8_row_65 rfl hl (by decide) rfl (fun ls hl => ?_)
            refine lv_iload_n hx hb dX8_row_66 rfl (lv_at hl 2 rfl) ?_
            refine lv_iload hx hb dX8_row_67 (lv_at hl 4 rfl) ?_
            refine va_mmin hx hb (hml.trans hl.1.symm) hown lk3 lk4 lk5 lk6 (Nat.le_of_ble_eq_true rfl) (Nat.le_of_ble_eq_true rfl) (Nat.zero_le _) (Nat.zero_le _) dX8_row_69 ?_
            refine lv_istore_n (lv' := [(2, .int (if x4_19 < x2_10 then x4_19 else x2_10)), (1, .int z21), (0, .ref (a_t 0)), (3, .int x3_11), (4, .int x4_19)]) hx hb dX8_row_72 rfl hl (by decide) rfl (fun ls hl => ?_)
            refine lv_iinc (v := x3_11 + (1 : Int32)) (lv' := [(3, .int (x3_11 + (1 : Int32))), (2, .int (if x4_19 < x2_10 then x4_19 else x2_10)), (1, .int z21), (0, .ref (a_t 0)), (4, .int x4_19)]) hx hb dX8_row_73 hl (k := 3) rfl rfl (by decide) rfl (fun ls hl => ?_)
            refine lv_goto (tgt := 12) hx hb dX8_row_76 (by decide) ?_
            rw [erec15] at h
            exact toW _ _ _ (ih17 z21 (if x4_19 < x2_10 then x4_19 else x2_10) (x3_11 + (1 : Int32)) _ _ _ h hP hD hS (lv_sub hl [3, 2, 1, 0] rfl))
          refine lv_icmp_ge (tgt := 64) hx hb dX8_row_57 (by decide) (fun c23 => ?_) (fun c23 => ?_)
          · replace h := bb_ifp c23 h
            refine lv_iload_n hx hb dX8_row_64 rfl (lv_at hl 1 rfl) ?_
            exact toW _ _ _ (Jk22 x1_9 _ _ _ h hP hD hS (lv_sub hl [0, 2, 3, 4] rfl))
          · replace h := bb_ifn c23 h
            refine lv_iload_n hx hb dX8_row_60 rfl (lv_at hl 3 rfl) ?_
            refine lv_goto (tgt := 65) hx hb dX8_row_61 (by decide) ?_
            exact toW _ _ _ (Jk22 x3_11 _ _ _ h hP hD hS (lv_sub hl [0, 2, 3, 4] rfl))
        have L33 : ∀ (n : Nat) (x4_24 : Int32) (x5_25 : Int32) (H : Heap) (locs : List Loc) (ls : Array Slot), bb_loop2 (uX8_row_s24 x3_11 w1 k20) n x4_24 x5_25 = some (r, f_t_found_o, f_t_price_o) → va_P (dC, dI) vwCl [((a_t 0), oX8 a_t v_t_isKept v_t_bestPost v_t_mostSeen v_t_taped v_t_from v_t_to v_t_isWrong), ((a_t 5), .inl (cy 0, 7, .inl f_t_found)), ((a_t 7), .inl (cy 0, 48, .inl w1)), ((a_t 1), .inl (cy 0, 155, .inl f_t_s))] H → va_D A [((a_t 0), oX8 a_t v_t_isKept v_t_bestPost v_t_mostSeen v_t_taped v_t_from v_t_to v_t_isWrong), ((a_t 5), .inl (cy 0, 7, .inl f_t_found)), ((a_t 7), .inl (cy 0, 48, .inl w1)), ((a_t 1), .inl (cy 0, 155, .inl f_t_s))] → va_S A s.heap H locs → lv_has ls 6 [(0, .ref (a_t 0)), (1, .int x1_9), (2, .int x2_10), (3, .int x3_11), (4, .int x4_24), (5, .int x5_25)] → WW H locs (F0 m 24 ls []) := by
          intro n
          induction n with
          | zero => intro x4_24 x5_25 H locs ls h; exact (bb_no h).elim
          | succ n ih34 =>
            intro x4_24 x5_25 H locs ls h hP hD hS hl
            refine ofW _ _ _ ?_
            obtain ⟨rec32, erec32, h⟩ := bb_loop2_o h
            unfold uX8_row_s24 at h
            refine lv_iload hx hb dX8_row_24 (lv_at hl 5 rfl) ?_
            refine lv_bipush (v := (8 : Int32)) hx hb dX8_row_26 (by decide) ?_
            refine lv_icmp_ge (tgt := 54) hx hb dX8_row_28 (by decide) (fun c35 => ?_) (fun c35 => ?_)
            · replace h := bb_ifp c35 h
              exact toW _ _ _ (Jk20 x4_24 _ _ _ h hP hD hS (lv_sub hl [0, 1, 2, 3, 4] rfl))
            · replace h := bb_ifn c35 h
              refine lv_iload hx hb dX8_row_31 (lv_at hl 4 rfl) ?_
              refine lv_aload_n hx hb dX8_row_33 rfl (lv_at hl 0 rfl) ?_
              refine va_get (D := (dC, dI)) (ci := 7) (v := .ref (a_t 7)) (C := RX8) (T := TX8) (N := 20) hx hb hts iwX8 hown hK hP 0 rfl rfl 6 (by decide) lk2 (fun _ h9 => h9) rfl dX8_row_34 ?_
              refine lv_bipush (v := (8 : Int32)) hx hb dX8_row_37 (by decide) ?_
              refine lv_iload_n hx hb dX8_row_39 rfl (lv_at hl 3 rfl) ?_
              refine lv_imul hx hb dX8_row_40 ?_
              refine lv_iload hx hb dX8_row_41 (lv_at hl 5 rfl) ?_
              refine lv_iadd hx hb dX8_row_43 ?_
              obtain ⟨hi36, h⟩ := bb_ix_o h
              refine va_iald hx hb hK hP 2 0 rfl rfl hi36 dX8_row_44 ?_
              refine lv_iadd hx hb dX8_row_45 ?_
              refine lv_istore (lv' := [(4, .int (x4_24 + (w1 (((8 : Int32) * x3_11) + x5_25).toNatClampNeg))), (0, .ref (a_t 0)), (1, .int x1_9), (2, .int x2_10), (3, .int x3_11), (5, .int x5_25)]) hx hb dX8_row_46 hl (by decide) rfl (fun ls hl => ?_)
              refine lv_iinc (v := x5_25 + (1 : Int32)) (lv' := [(5, .int (x5_25 + (1 : Int32))), (4, .int (x4_24 + (w1 (((8 : Int32) * x3_11) + x5_25).toNatClampNeg))), (0, .ref (a_t 0)), (1, .int x1_9), (2, .int x2_10), (3, .int x3_11)]) hx hb dX8_row_48 hl (k := 5) rfl rfl (by decide) rfl (fun ls hl => ?_)
              refine lv_goto (tgt := 24) hx hb dX8_row_51 (by decide) ?_
              rw [erec32] at h
              exact toW _ _ _ (ih34 (x4_24 + (w1 (((8 : Int32) * x3_11) + x5_25).toNatClampNeg)) (x5_25 + (1 : Int32)) _ _ _ h hP hD hS (lv_sub hl [2, 3, 4, 5, 1, 0] rfl))
        exact toW _ _ _ (L33 nn (0 : Int32) (0 : Int32) _ _ _ h hP hD hS (lv_sub hl [2, 3, 4, 5, 1, 0] rfl))
  exact toW _ _ _ (L16 nn (-1 : Int32) (1000000 : Int32) (0 : Int32) _ _ _ h (hP.sub [1, 0, 2, 3] rfl) (hD.sub [1, 0, 2, 3] (by decide) rfl) hS (lv_sub hl [3, 2, 1, 0] rfl))
/-! X8_findPost -/
def uX8_findPost_s17 (x1_16 : Int32) (f_t_s_19 : Nat → Int32) (k_46 : Int32 → Option ((Int32) × (Int32))) (rec20 : Int32 → Int32 → Option ((Int32) × (Int32))) (x2_14 : Int32) (x3_15 : Int32) : Option ((Int32) × (Int32)) :=
  (if (48 : Int32) ≤ x3_15 then k_46 x2_14 else bb_b1 (uX8_sees x1_16 x3_15 f_t_s_19) (fun (r24 : Int32) => bb_cut (fun (z28 : Int32) => rec20 (x2_14 + z28) (x3_15 + (1 : Int32))) (fun k29 => (if r24 = 0 then k29 (0 : Int32) else k29 (1 : Int32)))))
def uX8_findPost_s7 (nn : Nat) (f_t_s_4 : Nat → Int32) (rec5 : Int32 → Int32 → Int32 → Option ((Int32) × (Int32))) (x1_1 : Int32) (v_t_bestPost_2 : Int32) (v_t_mostSeen_3 : Int32) : Option ((Int32) × (Int32)) :=
  (if (48 : Int32) ≤ x1_1 then some (v_t_bestPost_2, v_t_mostSeen_3) else bb_cut (fun (x2_9 : Int32) => bb_cut (fun (z11 : Int32) => rec5 (x1_1 + (1 : Int32)) z11 (if v_t_mostSeen_3 < x2_9 then x2_9 else v_t_mostSeen_3)) (fun k12 => (if x2_9 ≤ v_t_mostSeen_3 then k12 v_t_bestPost_2 else k12 x1_1))) (fun k10 => bb_loop2 (uX8_findPost_s17 x1_1 f_t_s_4 k10) nn (0 : Int32) (0 : Int32)))
def uX8_findPost (nn : Nat) (v_t_bestPost : Int32) (v_t_mostSeen : Int32) (f_t_s : Nat → Int32) : Option ((Int32) × (Int32)) :=
  bb_loop3 (uX8_findPost_s7 nn f_t_s) nn (0 : Int32) v_t_bestPost (-1 : Int32)
theorem kdX8_findPost : yX8_findPost.cls = RX8 ∧ yX8_findPost.cls ≠ "java/lang/invoke/MethodHandle" ∧ yX8_findPost.cls ≠ "java/lang/invoke/VarHandle" ∧ (parseMethodDescriptor yX8_findPost.desc).map (fun d => d.parameters.length) = some 0 := by decide +kernel
set_option maxHeartbeats 4000000 in
set_option maxRecDepth 100000 in
theorem kX8_findPost (l : Launch) (dC : Nat → ClassId) (dI : Nat → Nat → Nat) (cy : Nat → ClassId) (sz : Nat) (a_t : Nat → Nat) (v_t_isKept : Int32) (v_t_bestPost : Int32) (v_t_mostSeen : Int32) (v_t_taped : Int32) (v_t_from : Int32) (v_t_to : Int32) (v_t_isWrong : Int32) (f_t_s : Nat → Int32) (nn : Nat) (v_t_bestPost_o : Int32) (v_t_mostSeen_o : Int32) (h : uX8_findPost nn v_t_bestPost v_t_mostSeen f_t_s = some (v_t_bestPost_o, v_t_mostSeen_o)) : Met l yX8_findPost wsX8_findPost ({ frames := 3, cells := 0, slots := 0, locals := 64 }) (va_Pc [.ref (a_t 0)] (fun U => U.heap.size = sz ∧ va_P (dC, dI) vwCl [((a_t 0), oX8 a_t v_t_isKept v_t_bestPost v_t_mostSeen v_t_taped v_t_from v_t_to v_t_isWrong), ((a_t 1), .inl (cy 0, 155, .inl f_t_s))] U.heap ∧ va_K (dC, dI) vwCl (tyX cy) U ∧ va_D (fun _ => True) [((a_t 0), oX8 a_t v_t_isKept v_t_bestPost v_t_mostSeen v_t_taped v_t_from v_t_to v_t_isWrong), ((a_t 1), .inl (cy 0, 155, .inl f_t_s))])) (va_Qv (fun (_ : Unit) => True) (fun _ t => va_P (dC, dI) vwCl [((a_t 0), oX8 a_t v_t_isKept v_t_bestPost_o v_t_mostSeen_o v_t_taped v_t_from v_t_to v_t_isWrong), ((a_t 1), .inl (cy 0, 155, .inl f_t_s))] t.heap ∧ va_K (dC, dI) vwCl (tyX cy) t ∧ va_D (va_A [((a_t 0), oX8 a_t v_t_isKept v_t_bestPost v_t_mostSeen v_t_taped v_t_from v_t_to v_t_isWrong), ((a_t 1), .inl (cy 0, 155, .inl f_t_s))] sz) [((a_t 0), oX8 a_t v_t_isKept v_t_bestPost_o v_t_mostSeen_o v_t_taped v_t_from v_t_to v_t_isWrong), ((a_t 1), .inl (cy 0, 155, .inl f_t_s))]) (va_A [((a_t 0), oX8 a_t v_t_isKept v_t_bestPost v_t_mostSeen v_t_taped v_t_from v_t_to v_t_isWrong), ((a_t 1), .inl (cy 0, 155, .inl f_t_s))] sz)) 0 0 (va_A [((a_t 0), oX8 a_t v_t_isKept v_t_bestPost v_t_mostSeen v_t_taped v_t_from v_t_to v_t_isWrong), ((a_t 1), .inl (cy 0, 155, .inl f_t_s))] sz) := by
  refine Met.ofW (cc := cX8_findPost) (maxL := 4) (ret := none) (by decide) rfl ?_
  intro p e s m args below meth c s₁ B hml hv
  obtain ⟨rfl, hsz, hP, hK, hD0⟩ := hv
  have hx := B.exec
  have hb := B.bytes
  have hr := B.returns
  have hts := atoms_spec (ws := wsX8_findPost) B.pre
  have hown : s.vm.findClass RX8 = some m.cls := findClass_of_methodNamed B.named
  have hlocks := B.notSynchronized
  have iwX8 : ∀ w ∈ wsX80, w ∈ wsX8_findPost := fun w h9 => List.mem_cons_of_mem _ (List.mem_append_right _ (h9))
  have lk1 := hts (Cond.fieldLink RX8 233 "BathBorderModel" "mostSeen" "I") (List.mem_of_getElem? (i := 1) rfl)
  have lk2 := hts (Cond.fieldLink RX8 237 "BathBorderModel" "bestPost" "I") (List.mem_of_getElem? (i := 2) rfl)
  have lk3 := hts (Cond.methodLink RX8 220 Lib.Math.max.name) (List.mem_of_getElem? (i := 3) rfl)
  have lk4 := hts (Cond.static Lib.Math.max.name) (List.mem_of_getElem? (i := 4) rfl)
  have lk5 := hts (Cond.initialized "java/lang/Math") (List.mem_of_getElem? (i := 5) rfl)
  have lk6 := hts (Cond.code Lib.Math.max.name Lib.Math.max.code 2 (some .int)) (List.mem_of_getElem? (i := 6) rfl)
  subst hsz
  have hD := hD0.self (sz := s.heap.size)
  generalize hAe : va_A [((a_t 0), oX8 a_t v_t_isKept v_t_bestPost v_t_mostSeen v_t_taped v_t_from v_t_to v_t_isWrong), ((a_t 1), .inl (cy 0, 155, .inl f_t_s))] s.heap.size = A at hD ⊢
  have hA : ∀ q : Nat, s.heap.size ≤ q → A q := fun q h => by rw [← hAe]; exact Or.inr h
  have hS : va_S A s.heap s.heap [] := va_S.rf
  have hP : va_P (dC, dI) vwCl [((a_t 0), oX8 a_t v_t_isKept v_t_bestPost v_t_mostSeen v_t_taped v_t_from v_t_to v_t_isWrong), ((a_t 1), .inl (cy 0, 155, .inl f_t_s))] s.heap := hP
  have hl := lv_entry ([.ref (a_t 0)]) (n := 4) (Nat.le_of_ble_eq_true rfl)
  rw [lg_entry_eq]
  generalize (lg_sl ([.ref (a_t 0)]) ++ List.replicate (4 - (lg_sl ([.ref (a_t 0)])).length) Slot.unset).toArray = ls at hl ⊢
  have hl : lv_has ls 4 [(0, .ref (a_t 0))] := hl
  unfold uX8_findPost at h
  refine bb_cap (fun WW toW ofW => ?_)
  refine lv_aload_n hx hb dX8_findPost_0 rfl (lv_at hl 0 rfl) ?_
  refine lv_iconst (v := (-1 : Int32)) hx hb dX8_findPost_1 (by decide) ?_
  refine va_put (D := (dC, dI)) (ci := 7) (v := .int (-1 : Int32)) (ty := .int) (C := RX8) (T := TX8) (N := 20) hx hb hts iwX8 tyX8 tyX8_ok nmX8 hown hK hP hD hS 0 rfl rfl 9 (by decide) lk1 (fun _ h9 => h9) rfl (by decide +kernel) rfl rfl (Nat.le_of_ble_eq_true rfl) dX8_findPost_2 (fun H locs hP hD hS => ?_)
  have hP : va_P (dC, dI) vwCl [((a_t 0), oX8 a_t v_t_isKept v_t_bestPost (-1 : Int32) v_t_taped v_t_from v_t_to v_t_isWrong), ((a_t 1), .inl (cy 0, 155, .inl f_t_s))] H := hP
  have hD : va_D A [((a_t 0), oX8 a_t v_t_isKept v_t_bestPost (-1 : Int32) v_t_taped v_t_from v_t_to v_t_isWrong), ((a_t 1), .inl (cy 0, 155, .inl f_t_s))] := hD
  refine lv_iconst (v := (0 : Int32)) hx hb dX8_findPost_5 (by decide) ?_
  refine lv_istore_n (lv' := [(1, .int (0 : Int32)), (0, .ref (a_t 0))]) hx hb dX8_findPost_6 rfl hl (by decide) rfl (fun ls hl => ?_)
  have L6 : ∀ (n : Nat) (x1_1 : Int32) (v_t_bestPost_2 : Int32) (v_t_mostSeen_3 : Int32) (H : Heap) (locs : List Loc) (ls : Array Slot), bb_loop3 (uX8_findPost_s7 nn f_t_s) n x1_1 v_t_bestPost_2 v_t_mostSeen_3 = some (v_t_bestPost_o, v_t_mostSeen_o) → va_P (dC, dI) vwCl [((a_t 0), oX8 a_t v_t_isKept v_t_bestPost_2 v_t_mostSeen_3 v_t_taped v_t_from v_t_to v_t_isWrong), ((a_t 1), .inl (cy 0, 155, .inl f_t_s))] H → va_D A [((a_t 0), oX8 a_t v_t_isKept v_t_bestPost_2 v_t_mostSeen_3 v_t_taped v_t_from v_t_to v_t_isWrong), ((a_t 1), .inl (cy 0, 155, .inl f_t_s))] → va_S A s.heap H locs → lv_has ls 4 [(0, .ref (a_t 0)), (1, .int x1_1)] → WW H locs (F0 m 7 ls []) := by
    intro n
    induction n with
    | zero => intro x1_1 v_t_bestPost_2 v_t_mostSeen_3 H locs ls h; exact (bb_no h).elim
    | succ n ih7 =>
      intro x1_1 v_t_bestPost_2 v_t_mostSeen_3 H locs ls h hP hD hS hl
      refine ofW _ _ _ ?_
      obtain ⟨rec5, erec5, h⟩ := bb_loop3_o h
      unfold uX8_findPost_s7 at h
      refine lv_iload_n hx hb dX8_findPost_7 rfl (lv_at hl 1 rfl) ?_
      refine lv_bipush (v := (48 : Int32)) hx hb dX8_findPost_8 (by decide) ?_
      refine lv_icmp_ge (tgt := 84) hx hb dX8_findPost_10 (by decide) (fun c8 => ?_) (fun c8 => ?_)
      · replace h := bb_ifp c8 h
        obtain ⟨rfl, rfl⟩ := bb_some2 h
        have hP9 := hP.sub (ws' := [((a_t 0), oX8 a_t v_t_isKept v_t_bestPost_2 v_t_mostSeen_3 v_t_taped v_t_from v_t_to v_t_isWrong), ((a_t 1), .inl (cy 0, 155, .inl f_t_s))]) [0, 1] rfl
        have hD9 := hD.sub (ws' := [((a_t 0), oX8 a_t v_t_isKept v_t_bestPost_2 v_t_mostSeen_3 v_t_taped v_t_from v_t_to v_t_isWrong), ((a_t 1), .inl (cy 0, 155, .inl f_t_s))]) [0, 1] (by decide) rfl
        exact W.vret hx hb hr (fun t ht hW => ⟨⟨(), rfl, trivial, by rw [ht]; exact hP9, va_K.moved hW.alike hK, hD9⟩, hS.F ht⟩) hS.2.2 dX8_findPost_84
      · replace h := bb_ifn c8 h
        refine lv_iconst (v := (0 : Int32)) hx hb dX8_findPost_13 (by decide) ?_
        refine lv_istore_n (lv' := [(2, .int (0 : Int32)), (0, .ref (a_t 0)), (1, .int x1_1)]) hx hb dX8_findPost_14 rfl hl (by decide) rfl (fun ls hl => ?_)
        refine lv_iconst (v := (0 : Int32)) hx hb dX8_findPost_15 (by decide) ?_
        refine lv_istore_n (lv' := [(3, .int (0 : Int32)), (2, .int (0 : Int32)), (0, .ref (a_t 0)), (1, .int x1_1)]) hx hb dX8_findPost_16 rfl hl (by decide) rfl (fun ls hl => ?_)
        obtain ⟨k10, ek10, h⟩ := bb_cut_o h
        have Jk10 : ∀ (x2_9 : Int32) (H : Heap) (locs : List Loc) (ls : Array Slot), k10 x2_9 = some (v_t_bestPost_o, v_t_mostSeen_o) → va_P (dC, dI) vwCl [((a_t 0), oX8 a_t v_t_isKept v_t_bestPost_2 v_t_mostSeen_3 v_t_taped v_t_from v_t_to v_t_isWrong), ((a_t 1), .inl (cy 0, 155, .inl f_t_s))] H → va_D A [((a_t 0), oX8 a_t v_t_isKept v_t_bestPost_2 v_t_mostSeen_3 v_t_taped v_t_from v_t_to v_t_isWrong), ((a_t 1), .inl (cy 0, 155, .inl f_t_s))] → va_S A s.heap H locs → lv_has ls 4 [(0, .ref (a_t 0)), (1, .int x1_1), (2, .int x2_9)] → WW H locs (F0 m 46 ls []) := by
          intro x2_9 H locs ls h hP hD hS hl
          refine ofW _ _ _ ?_
          subst ek10
          refine lv_aload_n hx hb dX8_findPost_46 rfl (lv_at hl 0 rfl) ?_
          refine lv_iload_n hx hb dX8_findPost_47 rfl (lv_at hl 2 rfl) ?_
          refine lv_aload_n hx hb dX8_findPost_48 rfl (lv_at hl 0 rfl) ?_
          refine va_get (D := (dC, dI)) (ci := 7) (v := .int v_t_mostSeen_3) (C := RX8) (T := TX8) (N := 20) hx hb hts iwX8 hown hK hP 0 rfl rfl 9 (by decide) lk1 (fun _ h9 => h9) rfl dX8_findPost_49 ?_
          obtain ⟨k12, ek12, h⟩ := bb_cut_o h
          have Jk12 : ∀ (z11 : Int32) (H : Heap) (locs : List Loc) (ls : Array Slot), k12 z11 = some (v_t_bestPost_o, v_t_mostSeen_o) → va_P (dC, dI) vwCl [((a_t 0), oX8 a_t v_t_isKept v_t_bestPost_2 v_t_mostSeen_3 v_t_taped v_t_from v_t_to v_t_isWrong), ((a_t 1), .inl (cy 0, 155, .inl f_t_s))] H → va_D A [((a_t 0), oX8 a_t v_t_isKept v_t_bestPost_2 v_t_mostSeen_3 v_t_taped v_t_from v_t_to v_t_isWrong), ((a_t 1), .inl (cy 0, 155, .inl f_t_s))] → va_S A s.heap H locs → lv_has ls 4 [(0, .ref (a_t 0)), (1, .int x1_1), (2, .int x2_9)] → WW H locs (F0 m 63 ls [.int z11, .ref (a_t 0)]) := by
            intro z11 H locs ls h hP hD hS hl
            refine ofW _ _ _ ?_
            subst ek12
            refine va_put (D := (dC, dI)) (ci := 7) (v := .int z11) (ty := .int) (C := RX8) (T := TX8) (N := 20) hx hb hts iwX8 tyX8 tyX8_ok nmX8 hown hK hP hD hS 0 rfl rfl 8 (by decide) lk2 (fun _ h9 => h9) rfl (by decide +kernel) rfl rfl (Nat.le_of_ble_eq_true rfl) dX8_findPost_63 (fun H locs hP hD hS => ?_)
            have hP : va_P (dC, dI) vwCl [((a_t 0), oX8 a_t v_t_isKept z11 v_t_mostSeen_3 v_t_taped v_t_from v_t_to v_t_isWrong), ((a_t 1), .inl (cy 0, 155, .inl f_t_s))] H := hP
            have hD : va_D A [((a_t 0), oX8 a_t v_t_isKept z11 v_t_mostSeen_3 v_t_taped v_t_from v_t_to v_t_isWrong), ((a_t 1), .inl (cy 0, 155, .inl f_t_s))] := hD
            refine lv_aload_n hx hb dX8_findPost_66 rfl (lv_at hl 0 rfl) ?_
            refine lv_aload_n hx hb dX8_findPost_67 rfl (lv_at hl 0 rfl) ?_
            refine va_get (D := (dC, dI)) (ci := 7) (v := .int v_t_mostSeen_3) (C := RX8) (T := TX8) (N := 20) hx hb hts iwX8 hown hK hP 0 rfl rfl 9 (by decide) lk1 (fun _ h9 => h9) rfl dX8_findPost_68 ?_
            refine lv_iload_n hx hb dX8_findPost_71 rfl (lv_at hl 2 rfl) ?_
            refine va_mmax hx hb (hml.trans hl.1.symm) hown lk3 lk4 lk5 lk6 (Nat.le_of_ble_eq_true rfl) (Nat.le_of_ble_eq_true rfl) (Nat.zero_le _) (Nat.zero_le _) dX8_findPost_72 ?_
            refine va_put (D := (dC, dI)) (ci := 7) (v := .int (if v_t_mostSeen_3 < x2_9 then x2_9 else v_t_mostSeen_3)) (ty := .int) (C := RX8) (T := TX8) (N := 20) hx hb hts iwX8 tyX8 tyX8_ok nmX8 hown hK hP hD hS 0 rfl rfl 9 (by decide) lk1 (fun _ h9 => h9) rfl (by decide +kernel) rfl rfl (Nat.le_of_ble_eq_true rfl) dX8_findPost_75 (fun H locs hP hD hS => ?_)
            have hP : va_P (dC, dI) vwCl [((a_t 0), oX8 a_t v_t_isKept z11 (if v_t_mostSeen_3 < x2_9 then x2_9 else v_t_mostSeen_3) v_t_taped v_t_from v_t_to v_t_isWrong), ((a_t 1), .inl (cy 0, 155, .inl f_t_s))] H := hP
            have hD : va_D A [((a_t 0), oX8 a_t v_t_isKept z11 (if v_t_mostSeen_3 < x2_9 then x2_9 else v_t_mostSeen_3) v_t_taped v_t_from v_t_to v_t_isWrong), ((a_t 1), .inl (cy 0, 155, .inl f_t_s))] := hD
            refine lv_iinc (v := x1_1 + (1 : Int32)) (lv' := [(1, .int (x1_1 + (1 : Int32))), (0, .ref (a_t 0)), (2, .int x2_9)]) hx hb dX8_findPost_78 hl (k := 1) rfl rfl (by decide) rfl (fun ls hl => ?_)
            refine lv_goto (tgt := 7) hx hb dX8_findPost_81 (by decide) ?_
            rw [erec5] at h
            exact toW _ _ _ (ih7 (x1_1 + (1 : Int32)) z11 (if v_t_mostSeen_3 < x2_9 then x2_9 else v_t_mostSeen_3) _ _ _ h hP hD hS (lv_sub hl [1, 0] rfl))
          refine lv_icmp_le (tgt := 59) hx hb dX8_findPost_52 (by decide) (fun c13 => ?_) (fun c13 => ?_)
          · replace h := bb_ifp c13 h
            refine lv_aload_n hx hb dX8_findPost_59 rfl (lv_at hl 0 rfl) ?_
            refine va_get (D := (dC, dI)) (ci := 7) (v := .int v_t_bestPost_2) (C := RX8) (T := TX8) (N := 20) hx hb hts iwX8 hown hK hP 0 rfl rfl 8 (by decide) lk2 (fun _ h9 => h9) rfl dX8_findPost_60 ?_
            exact toW _ _ _ (Jk12 v_t_bestPost_2 _ _ _ h hP hD hS (lv_sub hl [0, 1, 2] rfl))
          · replace h := bb_ifn c13 h
            refine lv_iload_n hx hb dX8_findPost_55 rfl (lv_at hl 1 rfl) ?_
            refine lv_goto (tgt := 63) hx hb dX8_findPost_56 (by decide) ?_
            exact toW _ _ _ (Jk12 x1_1 _ _ _ h hP hD hS (lv_sub hl [0, 1, 2] rfl))
        have L21 : ∀ (n : Nat) (x2_14 : Int32) (x3_15 : Int32) (H : Heap) (locs : List Loc) (ls : Array Slot), bb_loop2 (uX8_findPost_s17 x1_1 f_t_s k10) n x2_14 x3_15 = some (v_t_bestPost_o, v_t_mostSeen_o) → va_P (dC, dI) vwCl [((a_t 0), oX8 a_t v_t_isKept v_t_bestPost_2 v_t_mostSeen_3 v_t_taped v_t_from v_t_to v_t_isWrong), ((a_t 1), .inl (cy 0, 155, .inl f_t_s))] H → va_D A [((a_t 0), oX8 a_t v_t_isKept v_t_bestPost_2 v_t_mostSeen_3 v_t_taped v_t_from v_t_to v_t_isWrong), ((a_t 1), .inl (cy 0, 155, .inl f_t_s))] → va_S A s.heap H locs → lv_has ls 4 [(0, .ref (a_t 0)), (1, .int x1_1), (2, .int x2_14), (3, .int x3_15)] → WW H locs (F0 m 17 ls []) := by
          intro n
          induction n with
          | zero => intro x2_14 x3_15 H locs ls h; exact (bb_no h).elim
          | succ n ih22 =>
            intro x2_14 x3_15 H locs ls h hP hD hS hl
            refine ofW _ _ _ ?_
            obtain ⟨rec20, erec20, h⟩ := bb_loop2_o h
            unfold uX8_findPost_s17 at h
            refine lv_iload_n hx hb dX8_findPost_17 rfl (lv_at hl 3 rfl) ?_
            refine lv_bipush (v := (48 : Int32)) hx hb dX8_findPost_18 (by decide) ?_
            refine lv_icmp_ge (tgt := 46) hx hb dX8_findPost_20 (by decide) (fun c23 => ?_) (fun c23 => ?_)
            · replace h := bb_ifp c23 h
              exact toW _ _ _ (Jk10 x2_14 _ _ _ h hP hD hS (lv_sub hl [0, 1, 2] rfl))
            · replace h := bb_ifn c23 h
              refine lv_iload_n hx hb dX8_findPost_23 rfl (lv_at hl 2 rfl) ?_
              refine lv_aload_n hx hb dX8_findPost_24 rfl (lv_at hl 0 rfl) ?_
              refine lv_iload_n hx hb dX8_findPost_25 rfl (lv_at hl 1 rfl) ?_
              refine lv_iload_n hx hb dX8_findPost_26 rfl (lv_at hl 3 rfl) ?_
              obtain ⟨r24, hc25, h⟩ := bb_b1_o h
              refine vp_callSi (W.runV (As := [.int x1_1, .int x3_15]) (rest := [.int x2_14]) ⟨hx, hb, hml, hown, hts⟩ (kX8_sees l dC dI cy a_t x1_1 x3_15 v_t_isKept v_t_bestPost_2 v_t_mostSeen_3 v_t_taped v_t_from v_t_to v_t_isWrong f_t_s r24 hc25) (cwV 2 hts gX8_findPost_X8_sees rfl rfl rfl kdX8_sees ⟨Nat.le_of_ble_eq_true rfl, Nat.le_of_ble_eq_true rfl⟩) (bb_preV (va_recv hK hP (ci := 7) (q0 := 0) rfl rfl) hP hK) rfl rfl hl.1 rfl (lv_room (Nat.le_of_ble_eq_true rfl)) dX8_findPost_27 ⟨Nat.zero_le _, Nat.zero_le _⟩) (fun t26 et26 => ?_)
              obtain ⟨rfl, hz27⟩ := et26
              obtain ⟨k29, ek29, h⟩ := bb_cut_o h
              have Jk29 : ∀ (z28 : Int32) (H : Heap) (locs : List Loc) (ls : Array Slot), k29 z28 = some (v_t_bestPost_o, v_t_mostSeen_o) → va_P (dC, dI) vwCl [((a_t 0), oX8 a_t v_t_isKept v_t_bestPost_2 v_t_mostSeen_3 v_t_taped v_t_from v_t_to v_t_isWrong), ((a_t 1), .inl (cy 0, 155, .inl f_t_s))] H → va_D A [((a_t 0), oX8 a_t v_t_isKept v_t_bestPost_2 v_t_mostSeen_3 v_t_taped v_t_from v_t_to v_t_isWrong), ((a_t 1), .inl (cy 0, 155, .inl f_t_s))] → va_S A s.heap H locs → lv_has ls 4 [(0, .ref (a_t 0)), (1, .int x1_1), (3, .int x3_15)] → WW H locs (F0 m 38 ls [.int z28, .int x2_14]) := by
                intro z28 H locs ls h hP hD hS hl
                refine ofW _ _ _ ?_
                subst ek29
                refine lv_iadd hx hb dX8_findPost_38 ?_
                refine lv_istore_n (lv' := [(2, .int (x2_14 + z28)), (0, .ref (a_t 0)), (1, .int x1_1), (3, .int x3_15)]) hx hb dX8_findPost_39 rfl hl (by decide) rfl (fun ls hl => ?_)
                refine lv_iinc (v := x3_15 + (1 : Int32)) (lv' := [(3, .int (x3_15 + (1 : Int32))), (2, .int (x2_14 + z28)), (0, .ref (a_t 0)), (1, .int x1_1)]) hx hb dX8_findPost_40 hl (k := 3) rfl rfl (by decide) rfl (fun ls hl => ?_)
                refine lv_goto (tgt := 17) hx hb dX8_findPost_43 (by decide) ?_
                rw [erec20] at h
                exact toW _ _ _ (ih22 (x2_14 + z28) (x3_15 + (1 : Int32)) _ _ _ h hP hD hS (lv_sub hl [2, 3, 1, 0] rfl))
              refine lv_if_eq (tgt := 37) hx hb dX8_findPost_30 (by decide) (fun c30 => ?_) (fun c30 => ?_)
              · replace h := bb_ifp c30 h
                refine lv_iconst (v := (0 : Int32)) hx hb dX8_findPost_37 (by decide) ?_
                exact toW _ _ _ (Jk29 (0 : Int32) _ _ _ h hP hD hS (lv_sub hl [0, 1, 3] rfl))
              · replace h := bb_ifn c30 h
                refine lv_iconst (v := (1 : Int32)) hx hb dX8_findPost_33 (by decide) ?_
                refine lv_goto (tgt := 38) hx hb dX8_findPost_34 (by decide) ?_
                exact toW _ _ _ (Jk29 (1 : Int32) _ _ _ h hP hD hS (lv_sub hl [0, 1, 3] rfl))
        exact toW _ _ _ (L21 nn (0 : Int32) (0 : Int32) _ _ _ h hP hD hS (lv_sub hl [2, 3, 1, 0] rfl))
  exact toW _ _ _ (L6 nn (0 : Int32) v_t_bestPost (-1 : Int32) _ _ _ h hP hD hS (lv_sub hl [1, 0] rfl))
/-! X8_post -/
def uX8_post (nn : Nat) (p1 : Int32) (v_t_bestPost : Int32) (v_t_mostSeen : Int32) (f_t_found : Nat → Int32) (f_t_s : Nat → Int32) : Option (Int32 × (Int32) × (Int32) × (Nat → Int32)) :=
  bb_b1 (uX8_isGuard p1) (fun (r1 : Int32) => (if r1 = 0 then bb_b2 (uX8_finds (0 : Int32) f_t_found) (fun (r9 : Int32) (w10 : Nat → Int32) => some (r9, v_t_bestPost, v_t_mostSeen, w10)) else bb_b2 (uX8_findPost nn v_t_bestPost v_t_mostSeen f_t_s) (fun (w6 : Int32) (w7 : Int32) => some (w6, w6, w7, f_t_found))))
theorem kdX8_post : yX8_post.cls = RX8 ∧ yX8_post.cls ≠ "java/lang/invoke/MethodHandle" ∧ yX8_post.cls ≠ "java/lang/invoke/VarHandle" ∧ (parseMethodDescriptor yX8_post.desc).map (fun d => d.parameters.length) = some 1 := by decide +kernel
set_option maxHeartbeats 4000000 in
set_option maxRecDepth 100000 in
theorem kX8_post (l : Launch) (dC : Nat → ClassId) (dI : Nat → Nat → Nat) (cy : Nat → ClassId) (sz : Nat) (a_t : Nat → Nat) (p1 : Int32) (v_t_isKept : Int32) (v_t_bestPost : Int32) (v_t_mostSeen : Int32) (v_t_taped : Int32) (v_t_from : Int32) (v_t_to : Int32) (v_t_isWrong : Int32) (f_t_found : Nat → Int32) (f_t_s : Nat → Int32) (nn : Nat) (r : Int32) (v_t_bestPost_o : Int32) (v_t_mostSeen_o : Int32) (f_t_found_o : Nat → Int32) (h : uX8_post nn p1 v_t_bestPost v_t_mostSeen f_t_found f_t_s = some (r, v_t_bestPost_o, v_t_mostSeen_o, f_t_found_o)) : Met l yX8_post wsX8_post ({ frames := 4, cells := 0, slots := 0, locals := 87 }) (va_Pc [.ref (a_t 0), .int p1] (fun U => U.heap.size = sz ∧ va_P (dC, dI) vwCl [((a_t 0), oX8 a_t v_t_isKept v_t_bestPost v_t_mostSeen v_t_taped v_t_from v_t_to v_t_isWrong), ((a_t 5), .inl (cy 0, 7, .inl f_t_found)), ((a_t 1), .inl (cy 0, 155, .inl f_t_s))] U.heap ∧ va_K (dC, dI) vwCl (tyX cy) U ∧ va_D (fun _ => True) [((a_t 0), oX8 a_t v_t_isKept v_t_bestPost v_t_mostSeen v_t_taped v_t_from v_t_to v_t_isWrong), ((a_t 5), .inl (cy 0, 7, .inl f_t_found)), ((a_t 1), .inl (cy 0, 155, .inl f_t_s))])) (va_Qi (fun (r2 : Int32) (_ : Unit) => r = r2) (fun _ t => va_P (dC, dI) vwCl [((a_t 0), oX8 a_t v_t_isKept v_t_bestPost_o v_t_mostSeen_o v_t_taped v_t_from v_t_to v_t_isWrong), ((a_t 5), .inl (cy 0, 7, .inl f_t_found_o)), ((a_t 1), .inl (cy 0, 155, .inl f_t_s))] t.heap ∧ va_K (dC, dI) vwCl (tyX cy) t ∧ va_D (va_A [((a_t 0), oX8 a_t v_t_isKept v_t_bestPost v_t_mostSeen v_t_taped v_t_from v_t_to v_t_isWrong), ((a_t 5), .inl (cy 0, 7, .inl f_t_found)), ((a_t 1), .inl (cy 0, 155, .inl f_t_s))] sz) [((a_t 0), oX8 a_t v_t_isKept v_t_bestPost_o v_t_mostSeen_o v_t_taped v_t_from v_t_to v_t_isWrong), ((a_t 5), .inl (cy 0, 7, .inl f_t_found_o)), ((a_t 1), .inl (cy 0, 155, .inl f_t_s))]) (va_A [((a_t 0), oX8 a_t v_t_isKept v_t_bestPost v_t_mostSeen v_t_taped v_t_from v_t_to v_t_isWrong), ((a_t 5), .inl (cy 0, 7, .inl f_t_found)), ((a_t 1), .inl (cy 0, 155, .inl f_t_s))] sz)) 0 0 (va_A [((a_t 0), oX8 a_t v_t_isKept v_t_bestPost v_t_mostSeen v_t_taped v_t_from v_t_to v_t_isWrong), ((a_t 5), .inl (cy 0, 7, .inl f_t_found)), ((a_t 1), .inl (cy 0, 155, .inl f_t_s))] sz) := by
  refine Met.ofW (cc := cX8_post) (maxL := 2) (ret := (some .int)) (by decide) rfl ?_
  intro p e s m args below meth c s₁ B hml hv
  obtain ⟨rfl, hsz, hP, hK, hD0⟩ := hv
  have hx := B.exec
  have hb := B.bytes
  have hr := B.returns
  have hts := atoms_spec (ws := wsX8_post) B.pre
  have hown : s.vm.findClass RX8 = some m.cls := findClass_of_methodNamed B.named
  have hlocks := B.notSynchronized
  have iwX8 : ∀ w ∈ wsX80, w ∈ wsX8_post := fun w h9 => List.mem_cons_of_mem _ (List.mem_append_right _ (h9))
  have lk1 := hts (Cond.fieldLink RX8 237 "BathBorderModel" "bestPost" "I") (List.mem_of_getElem? (i := 1) rfl)
  subst hsz
  have hD := hD0.self (sz := s.heap.size)
  generalize hAe : va_A [((a_t 0), oX8 a_t v_t_isKept v_t_bestPost v_t_mostSeen v_t_taped v_t_from v_t_to v_t_isWrong), ((a_t 5), .inl (cy 0, 7, .inl f_t_found)), ((a_t 1), .inl (cy 0, 155, .inl f_t_s))] s.heap.size = A at hD ⊢
  have hA : ∀ q : Nat, s.heap.size ≤ q → A q := fun q h => by rw [← hAe]; exact Or.inr h
  have hS : va_S A s.heap s.heap [] := va_S.rf
  have hP : va_P (dC, dI) vwCl [((a_t 0), oX8 a_t v_t_isKept v_t_bestPost v_t_mostSeen v_t_taped v_t_from v_t_to v_t_isWrong), ((a_t 5), .inl (cy 0, 7, .inl f_t_found)), ((a_t 1), .inl (cy 0, 155, .inl f_t_s))] s.heap := hP
  have hl := lv_entry ([.ref (a_t 0), .int p1]) (n := 2) (Nat.le_of_ble_eq_true rfl)
  rw [lg_entry_eq]
  generalize (lg_sl ([.ref (a_t 0), .int p1]) ++ List.replicate (2 - (lg_sl ([.ref (a_t 0), .int p1])).length) Slot.unset).toArray = ls at hl ⊢
  have hl : lv_has ls 2 [(0, .ref (a_t 0)), (1, .int p1)] := hl
  unfold uX8_post at h
  refine bb_cap (fun WW toW ofW => ?_)
  refine lv_iload_n hx hb dX8_post_0 rfl (lv_at hl 1 rfl) ?_
  obtain ⟨r1, hc2, h⟩ := bb_b1_o h
  refine vp_callSi (W.runS (As := [.int p1]) (rest := []) ⟨hx, hb, hml, hown, hts⟩ (kX8_isGuard l dC dI cy p1 r1 hc2) (va_cwS 1 hts gX8_post_X8_isGuard rfl rfl rfl kdX8_isGuard ⟨Nat.le_of_ble_eq_true rfl, Nat.le_of_ble_eq_true rfl⟩) (bb_preS (hP.sub (ws' := []) [] rfl) hK) rfl rfl hl.1 rfl (lv_room (Nat.le_of_ble_eq_true rfl)) dX8_post_1 ⟨Nat.zero_le _, Nat.zero_le _⟩) (fun t3 et3 => ?_)
  obtain ⟨rfl, hz4⟩ := et3
  refine lv_if_ne (tgt := 13) hx hb dX8_post_4 (by decide) (fun c5 => ?_) (fun c5 => ?_)
  · replace h := bb_ifn c5 h
    refine lv_aload_n hx hb dX8_post_13 rfl (lv_at hl 0 rfl) ?_
    obtain ⟨w6, w7, hc8, h⟩ := bb_b2_o h
    refine bb_cwv (wr := [((a_t 5), .inl (cy 0, 7, .inl f_t_found))]) (w1 := [((a_t 0), oX8 a_t v_t_isKept w6 w7 v_t_taped v_t_from v_t_to v_t_isWrong), ((a_t 1), .inl (cy 0, 155, .inl f_t_s))]) (va_runV (As := []) (rest := []) ⟨hx, hb, hml, hown, hts⟩ (kX8_findPost l dC dI cy s.heap.size a_t v_t_isKept v_t_bestPost v_t_mostSeen v_t_taped v_t_from v_t_to v_t_isWrong f_t_s nn w6 w7 hc8) (cwV 0 hts gX8_post_X8_findPost rfl rfl rfl kdX8_findPost ⟨Nat.le_of_ble_eq_true rfl, Nat.le_of_ble_eq_true rfl⟩) (bb_preVw (va_recv hK hP (ci := 7) (q0 := 0) rfl rfl) (hP.sub (ws' := [((a_t 0), oX8 a_t v_t_isKept v_t_bestPost v_t_mostSeen v_t_taped v_t_from v_t_to v_t_isWrong), ((a_t 1), .inl (cy 0, 155, .inl f_t_s))]) [0, 2] rfl) hK (hD.sub (ws' := [((a_t 0), oX8 a_t v_t_isKept v_t_bestPost v_t_mostSeen v_t_taped v_t_from v_t_to v_t_isWrong), ((a_t 1), .inl (cy 0, 155, .inl f_t_s))]) [0, 2] (by decide) rfl)) rfl rfl hl.1 rfl (lv_room (Nat.le_of_ble_eq_true rfl)) dX8_post_14 ⟨Nat.zero_le _, Nat.zero_le _⟩) hP hD hS hA [0, 2] [1] rfl rfl (by decide) (by decide) (fun H locs hP hD hS => ?_)
    have hP : va_P (dC, dI) vwCl [((a_t 5), .inl (cy 0, 7, .inl f_t_found)), ((a_t 0), oX8 a_t v_t_isKept w6 w7 v_t_taped v_t_from v_t_to v_t_isWrong), ((a_t 1), .inl (cy 0, 155, .inl f_t_s))] H := hP
    have hD : va_D A [((a_t 5), .inl (cy 0, 7, .inl f_t_found)), ((a_t 0), oX8 a_t v_t_isKept w6 w7 v_t_taped v_t_from v_t_to v_t_isWrong), ((a_t 1), .inl (cy 0, 155, .inl f_t_s))] := hD
    refine lv_aload_n hx hb dX8_post_17 rfl (lv_at hl 0 rfl) ?_
    refine va_get (D := (dC, dI)) (ci := 7) (v := .int w6) (C := RX8) (T := TX8) (N := 20) hx hb hts iwX8 hown hK hP 1 rfl rfl 8 (by decide) lk1 (fun _ h9 => h9) rfl dX8_post_18 ?_
    obtain ⟨rfl, rfl, rfl, rfl⟩ := bb_some4 h
    have hP9 := hP.sub (ws' := [((a_t 0), oX8 a_t v_t_isKept w6 w7 v_t_taped v_t_from v_t_to v_t_isWrong), ((a_t 5), .inl (cy 0, 7, .inl f_t_found)), ((a_t 1), .inl (cy 0, 155, .inl f_t_s))]) [1, 0, 2] rfl
    have hD9 := hD.sub (ws' := [((a_t 0), oX8 a_t v_t_isKept w6 w7 v_t_taped v_t_from v_t_to v_t_isWrong), ((a_t 5), .inl (cy 0, 7, .inl f_t_found)), ((a_t 1), .inl (cy 0, 155, .inl f_t_s))]) [1, 0, 2] (by decide) rfl
    exact W.iret hx hb hr (fun t ht hW => ⟨⟨_, (), rfl, rfl, by rw [ht]; exact hP9, va_K.moved hW.alike hK, hD9⟩, hS.F ht⟩) hS.2.2 dX8_post_21
  · replace h := bb_ifp c5 h
    refine lv_aload_n hx hb dX8_post_7 rfl (lv_at hl 0 rfl) ?_
    refine lv_iconst (v := (0 : Int32)) hx hb dX8_post_8 (by decide) ?_
    obtain ⟨r9, w10, hc11, h⟩ := bb_b2_o h
    refine bb_cwi (wr := [((a_t 1), .inl (cy 0, 155, .inl f_t_s))]) (w1 := [((a_t 0), oX8 a_t v_t_isKept v_t_bestPost v_t_mostSeen v_t_taped v_t_from v_t_to v_t_isWrong), ((a_t 5), .inl (cy 0, 7, .inl w10))]) (va_runV (As := [.int (0 : Int32)]) (rest := []) ⟨hx, hb, hml, hown, hts⟩ (kX8_finds l dC dI cy s.heap.size a_t (0 : Int32) v_t_isKept v_t_bestPost v_t_mostSeen v_t_taped v_t_from v_t_to v_t_isWrong f_t_found r9 w10 hc11) (cwV 1 hts gX8_post_X8_finds rfl rfl rfl kdX8_finds ⟨Nat.le_of_ble_eq_true rfl, Nat.le_of_ble_eq_true rfl⟩) (bb_preVw (va_recv hK hP (ci := 7) (q0 := 0) rfl rfl) (hP.sub (ws' := [((a_t 0), oX8 a_t v_t_isKept v_t_bestPost v_t_mostSeen v_t_taped v_t_from v_t_to v_t_isWrong), ((a_t 5), .inl (cy 0, 7, .inl f_t_found))]) [0, 1] rfl) hK (hD.sub (ws' := [((a_t 0), oX8 a_t v_t_isKept v_t_bestPost v_t_mostSeen v_t_taped v_t_from v_t_to v_t_isWrong), ((a_t 5), .inl (cy 0, 7, .inl f_t_found))]) [0, 1] (by decide) rfl)) rfl rfl hl.1 rfl (lv_room (Nat.le_of_ble_eq_true rfl)) dX8_post_9 ⟨Nat.zero_le _, Nat.zero_le _⟩) hP hD hS hA [0, 1] [2] rfl rfl (by decide) (by decide) (fun H locs hP hD hS => ?_)
    have hP : va_P (dC, dI) vwCl [((a_t 1), .inl (cy 0, 155, .inl f_t_s)), ((a_t 0), oX8 a_t v_t_isKept v_t_bestPost v_t_mostSeen v_t_taped v_t_from v_t_to v_t_isWrong), ((a_t 5), .inl (cy 0, 7, .inl w10))] H := hP
    have hD : va_D A [((a_t 1), .inl (cy 0, 155, .inl f_t_s)), ((a_t 0), oX8 a_t v_t_isKept v_t_bestPost v_t_mostSeen v_t_taped v_t_from v_t_to v_t_isWrong), ((a_t 5), .inl (cy 0, 7, .inl w10))] := hD
    obtain ⟨rfl, rfl, rfl, rfl⟩ := bb_some4 h
    have hP9 := hP.sub (ws' := [((a_t 0), oX8 a_t v_t_isKept v_t_bestPost v_t_mostSeen v_t_taped v_t_from v_t_to v_t_isWrong), ((a_t 5), .inl (cy 0, 7, .inl w10)), ((a_t 1), .inl (cy 0, 155, .inl f_t_s))]) [1, 2, 0] rfl
    have hD9 := hD.sub (ws' := [((a_t 0), oX8 a_t v_t_isKept v_t_bestPost v_t_mostSeen v_t_taped v_t_from v_t_to v_t_isWrong), ((a_t 5), .inl (cy 0, 7, .inl w10)), ((a_t 1), .inl (cy 0, 155, .inl f_t_s))]) [1, 2, 0] (by decide) rfl
    exact W.iret hx hb hr (fun t ht hW => ⟨⟨_, (), rfl, rfl, by rw [ht]; exact hP9, va_K.moved hW.alike hK, hD9⟩, hS.F ht⟩) hS.2.2 dX8_post_12
/-! X8_posted -/
def uX8_posted (nn : Nat) (p1 : Int32) (v_t_bestPost : Int32) (v_t_mostSeen : Int32) (f_t_found : Nat → Int32) (f_t_s : Nat → Int32) : Option (Int32 × (Int32) × (Int32) × (Nat → Int32)) :=
  bb_b1 (uX8_isGuard p1) (fun (r1 : Int32) => (if r1 = 0 then bb_b2 (uX8_finds (0 : Int32) f_t_found) (fun (r9 : Int32) (w10 : Nat → Int32) => some (r9, v_t_bestPost, v_t_mostSeen, w10)) else bb_b2 (uX8_findPost nn v_t_bestPost v_t_mostSeen f_t_s) (fun (w6 : Int32) (w7 : Int32) => some (w7, w6, w7, f_t_found))))
theorem kdX8_posted : yX8_posted.cls = RX8 ∧ yX8_posted.cls ≠ "java/lang/invoke/MethodHandle" ∧ yX8_posted.cls ≠ "java/lang/invoke/VarHandle" ∧ (parseMethodDescriptor yX8_posted.desc).map (fun d => d.parameters.length) = some 1 := by decide +kernel
set_option maxHeartbeats 4000000 in
set_option maxRecDepth 100000 in
theorem kX8_posted (l : Launch) (dC : Nat → ClassId) (dI : Nat → Nat → Nat) (cy : Nat → ClassId) (sz : Nat) (a_t : Nat → Nat) (p1 : Int32) (v_t_isKept : Int32) (v_t_bestPost : Int32) (v_t_mostSeen : Int32) (v_t_taped : Int32) (v_t_from : Int32) (v_t_to : Int32) (v_t_isWrong : Int32) (f_t_found : Nat → Int32) (f_t_s : Nat → Int32) (nn : Nat) (r : Int32) (v_t_bestPost_o : Int32) (v_t_mostSeen_o : Int32) (f_t_found_o : Nat → Int32) (h : uX8_posted nn p1 v_t_bestPost v_t_mostSeen f_t_found f_t_s = some (r, v_t_bestPost_o, v_t_mostSeen_o, f_t_found_o)) : Met l yX8_posted wsX8_posted ({ frames := 4, cells := 0, slots := 0, locals := 87 }) (va_Pc [.ref (a_t 0), .int p1] (fun U => U.heap.size = sz ∧ va_P (dC, dI) vwCl [((a_t 0), oX8 a_t v_t_isKept v_t_bestPost v_t_mostSeen v_t_taped v_t_from v_t_to v_t_isWrong), ((a_t 5), .inl (cy 0, 7, .inl f_t_found)), ((a_t 1), .inl (cy 0, 155, .inl f_t_s))] U.heap ∧ va_K (dC, dI) vwCl (tyX cy) U ∧ va_D (fun _ => True) [((a_t 0), oX8 a_t v_t_isKept v_t_bestPost v_t_mostSeen v_t_taped v_t_from v_t_to v_t_isWrong), ((a_t 5), .inl (cy 0, 7, .inl f_t_found)), ((a_t 1), .inl (cy 0, 155, .inl f_t_s))])) (va_Qi (fun (r2 : Int32) (_ : Unit) => r = r2) (fun _ t => va_P (dC, dI) vwCl [((a_t 0), oX8 a_t v_t_isKept v_t_bestPost_o v_t_mostSeen_o v_t_taped v_t_from v_t_to v_t_isWrong), ((a_t 5), .inl (cy 0, 7, .inl f_t_found_o)), ((a_t 1), .inl (cy 0, 155, .inl f_t_s))] t.heap ∧ va_K (dC, dI) vwCl (tyX cy) t ∧ va_D (va_A [((a_t 0), oX8 a_t v_t_isKept v_t_bestPost v_t_mostSeen v_t_taped v_t_from v_t_to v_t_isWrong), ((a_t 5), .inl (cy 0, 7, .inl f_t_found)), ((a_t 1), .inl (cy 0, 155, .inl f_t_s))] sz) [((a_t 0), oX8 a_t v_t_isKept v_t_bestPost_o v_t_mostSeen_o v_t_taped v_t_from v_t_to v_t_isWrong), ((a_t 5), .inl (cy 0, 7, .inl f_t_found_o)), ((a_t 1), .inl (cy 0, 155, .inl f_t_s))]) (va_A [((a_t 0), oX8 a_t v_t_isKept v_t_bestPost v_t_mostSeen v_t_taped v_t_from v_t_to v_t_isWrong), ((a_t 5), .inl (cy 0, 7, .inl f_t_found)), ((a_t 1), .inl (cy 0, 155, .inl f_t_s))] sz)) 0 0 (va_A [((a_t 0), oX8 a_t v_t_isKept v_t_bestPost v_t_mostSeen v_t_taped v_t_from v_t_to v_t_isWrong), ((a_t 5), .inl (cy 0, 7, .inl f_t_found)), ((a_t 1), .inl (cy 0, 155, .inl f_t_s))] sz) := by
  refine Met.ofW (cc := cX8_posted) (maxL := 2) (ret := (some .int)) (by decide) rfl ?_
  intro p e s m args below meth c s₁ B hml hv
  obtain ⟨rfl, hsz, hP, hK, hD0⟩ := hv
  have hx := B.exec
  have hb := B.bytes
  have hr := B.returns
  have hts := atoms_spec (ws := wsX8_posted) B.pre
  have hown : s.vm.findClass RX8 = some m.cls := findClass_of_methodNamed B.named
  have hlocks := B.notSynchronized
  have iwX8 : ∀ w ∈ wsX80, w ∈ wsX8_posted := fun w h9 => List.mem_cons_of_mem _ (List.mem_append_right _ (h9))
  have lk1 := hts (Cond.fieldLink RX8 233 "BathBorderModel" "mostSeen" "I") (List.mem_of_getElem? (i := 1) rfl)
  subst hsz
  have hD := hD0.self (sz := s.heap.size)
  generalize hAe : va_A [((a_t 0), oX8 a_t v_t_isKept v_t_bestPost v_t_mostSeen v_t_taped v_t_from v_t_to v_t_isWrong), ((a_t 5), .inl (cy 0, 7, .inl f_t_found)), ((a_t 1), .inl (cy 0, 155, .inl f_t_s))] s.heap.size = A at hD ⊢
  have hA : ∀ q : Nat, s.heap.size ≤ q → A q := fun q h => by rw [← hAe]; exact Or.inr h
  have hS : va_S A s.heap s.heap [] := va_S.rf
  have hP : va_P (dC, dI) vwCl [((a_t 0), oX8 a_t v_t_isKept v_t_bestPost v_t_mostSeen v_t_taped v_t_from v_t_to v_t_isWrong), ((a_t 5), .inl (cy 0, 7, .inl f_t_found)), ((a_t 1), .inl (cy 0, 155, .inl f_t_s))] s.heap := hP
  have hl := lv_entry ([.ref (a_t 0), .int p1]) (n := 2) (Nat.le_of_ble_eq_true rfl)
  rw [lg_entry_eq]
  generalize (lg_sl ([.ref (a_t 0), .int p1]) ++ List.replicate (2 - (lg_sl ([.ref (a_t 0), .int p1])).length) Slot.unset).toArray = ls at hl ⊢
  have hl : lv_has ls 2 [(0, .ref (a_t 0)), (1, .int p1)] := hl
  unfold uX8_posted at h
  refine bb_cap (fun WW toW ofW => ?_)
  refine lv_iload_n hx hb dX8_posted_0 rfl (lv_at hl 1 rfl) ?_
  obtain ⟨r1, hc2, h⟩ := bb_b1_o h
  refine vp_callSi (W.runS (As := [.int p1]) (rest := []) ⟨hx, hb, hml, hown, hts⟩ (kX8_isGuard l dC dI cy p1 r1 hc2) (va_cwS 1 hts gX8_posted_X8_isGuard rfl rfl rfl kdX8_isGuard ⟨Nat.le_of_ble_eq_true rfl, Nat.le_of_ble_eq_true rfl⟩) (bb_preS (hP.sub (ws' := []) [] rfl) hK) rfl rfl hl.1 rfl (lv_room (Nat.le_of_ble_eq_true rfl)) dX8_posted_1 ⟨Nat.zero_le _, Nat.zero_le _⟩) (fun t3 et3 => ?_)
  obtain ⟨rfl, hz4⟩ := et3
  refine lv_if_ne (tgt := 13) hx hb dX8_posted_4 (by decide) (fun c5 => ?_) (fun c5 => ?_)
  · replace h := bb_ifn c5 h
    refine lv_aload_n hx hb dX8_posted_13 rfl (lv_at hl 0 rfl) ?_
    obtain ⟨w6, w7, hc8, h⟩ := bb_b2_o h
    refine bb_cwv (wr := [((a_t 5), .inl (cy 0, 7, .inl f_t_found))]) (w1 := [((a_t 0), oX8 a_t v_t_isKept w6 w7 v_t_taped v_t_from v_t_to v_t_isWrong), ((a_t 1), .inl (cy 0, 155, .inl f_t_s))]) (va_runV (As := []) (rest := []) ⟨hx, hb, hml, hown, hts⟩ (kX8_findPost l dC dI cy s.heap.size a_t v_t_isKept v_t_bestPost v_t_mostSeen v_t_taped v_t_from v_t_to v_t_isWrong f_t_s nn w6 w7 hc8) (cwV 0 hts gX8_posted_X8_findPost rfl rfl rfl kdX8_findPost ⟨Nat.le_of_ble_eq_true rfl, Nat.le_of_ble_eq_true rfl⟩) (bb_preVw (va_recv hK hP (ci := 7) (q0 := 0) rfl rfl) (hP.sub (ws' := [((a_t 0), oX8 a_t v_t_isKept v_t_bestPost v_t_mostSeen v_t_taped v_t_from v_t_to v_t_isWrong), ((a_t 1), .inl (cy 0, 155, .inl f_t_s))]) [0, 2] rfl) hK (hD.sub (ws' := [((a_t 0), oX8 a_t v_t_isKept v_t_bestPost v_t_mostSeen v_t_taped v_t_from v_t_to v_t_isWrong), ((a_t 1), .inl (cy 0, 155, .inl f_t_s))]) [0, 2] (by decide) rfl)) rfl rfl hl.1 rfl (lv_room (Nat.le_of_ble_eq_true rfl)) dX8_posted_14 ⟨Nat.zero_le _, Nat.zero_le _⟩) hP hD hS hA [0, 2] [1] rfl rfl (by decide) (by decide) (fun H locs hP hD hS => ?_)
    have hP : va_P (dC, dI) vwCl [((a_t 5), .inl (cy 0, 7, .inl f_t_found)), ((a_t 0), oX8 a_t v_t_isKept w6 w7 v_t_taped v_t_from v_t_to v_t_isWrong), ((a_t 1), .inl (cy 0, 155, .inl f_t_s))] H := hP
    have hD : va_D A [((a_t 5), .inl (cy 0, 7, .inl f_t_found)), ((a_t 0), oX8 a_t v_t_isKept w6 w7 v_t_taped v_t_from v_t_to v_t_isWrong), ((a_t 1), .inl (cy 0, 155, .inl f_t_s))] := hD
    refine lv_aload_n hx hb dX8_posted_17 rfl (lv_at hl 0 rfl) ?_
    refine va_get (D := (dC, dI)) (ci := 7) (v := .int w7) (C := RX8) (T := TX8) (N := 20) hx hb hts iwX8 hown hK hP 1 rfl rfl 9 (by decide) lk1 (fun _ h9 => h9) rfl dX8_posted_18 ?_
    obtain ⟨rfl, rfl, rfl, rfl⟩ := bb_some4 h
    have hP9 := hP.sub (ws' := [((a_t 0), oX8 a_t v_t_isKept w6 w7 v_t_taped v_t_from v_t_to v_t_isWrong), ((a_t 5), .inl (cy 0, 7, .inl f_t_found)), ((a_t 1), .inl (cy 0, 155, .inl f_t_s))]) [1, 0, 2] rfl
    have hD9 := hD.sub (ws' := [((a_t 0), oX8 a_t v_t_isKept w6 w7 v_t_taped v_t_from v_t_to v_t_isWrong), ((a_t 5), .inl (cy 0, 7, .inl f_t_found)), ((a_t 1), .inl (cy 0, 155, .inl f_t_s))]) [1, 0, 2] (by decide) rfl
    exact W.iret hx hb hr (fun t ht hW => ⟨⟨_, (), rfl, rfl, by rw [ht]; exact hP9, va_K.moved hW.alike hK, hD9⟩, hS.F ht⟩) hS.2.2 dX8_posted_21
  · replace h := bb_ifp c5 h
    refine lv_aload_n hx hb dX8_posted_7 rfl (lv_at hl 0 rfl) ?_
    refine lv_iconst (v := (0 : Int32)) hx hb dX8_posted_8 (by decide) ?_
    obtain ⟨r9, w10, hc11, h⟩ := bb_b2_o h
    refine bb_cwi (wr := [((a_t 1), .inl (cy 0, 155, .inl f_t_s))]) (w1 := [((a_t 0), oX8 a_t v_t_isKept v_t_bestPost v_t_mostSeen v_t_taped v_t_from v_t_to v_t_isWrong), ((a_t 5), .inl (cy 0, 7, .inl w10))]) (va_runV (As := [.int (0 : Int32)]) (rest := []) ⟨hx, hb, hml, hown, hts⟩ (kX8_finds l dC dI cy s.heap.size a_t (0 : Int32) v_t_isKept v_t_bestPost v_t_mostSeen v_t_taped v_t_from v_t_to v_t_isWrong f_t_found r9 w10 hc11) (cwV 1 hts gX8_posted_X8_finds rfl rfl rfl kdX8_finds ⟨Nat.le_of_ble_eq_true rfl, Nat.le_of_ble_eq_true rfl⟩) (bb_preVw (va_recv hK hP (ci := 7) (q0 := 0) rfl rfl) (hP.sub (ws' := [((a_t 0), oX8 a_t v_t_isKept v_t_bestPost v_t_mostSeen v_t_taped v_t_from v_t_to v_t_isWrong), ((a_t 5), .inl (cy 0, 7, .inl f_t_found))]) [0, 1] rfl) hK (hD.sub (ws' := [((a_t 0), oX8 a_t v_t_isKept v_t_bestPost v_t_mostSeen v_t_taped v_t_from v_t_to v_t_isWrong), ((a_t 5), .inl (cy 0, 7, .inl f_t_found))]) [0, 1] (by decide) rfl)) rfl rfl hl.1 rfl (lv_room (Nat.le_of_ble_eq_true rfl)) dX8_posted_9 ⟨Nat.zero_le _, Nat.zero_le _⟩) hP hD hS hA [0, 1] [2] rfl rfl (by decide) (by decide) (fun H locs hP hD hS => ?_)
    have hP : va_P (dC, dI) vwCl [((a_t 1), .inl (cy 0, 155, .inl f_t_s)), ((a_t 0), oX8 a_t v_t_isKept v_t_bestPost v_t_mostSeen v_t_taped v_t_from v_t_to v_t_isWrong), ((a_t 5), .inl (cy 0, 7, .inl w10))] H := hP
    have hD : va_D A [((a_t 1), .inl (cy 0, 155, .inl f_t_s)), ((a_t 0), oX8 a_t v_t_isKept v_t_bestPost v_t_mostSeen v_t_taped v_t_from v_t_to v_t_isWrong), ((a_t 5), .inl (cy 0, 7, .inl w10))] := hD
    obtain ⟨rfl, rfl, rfl, rfl⟩ := bb_some4 h
    have hP9 := hP.sub (ws' := [((a_t 0), oX8 a_t v_t_isKept v_t_bestPost v_t_mostSeen v_t_taped v_t_from v_t_to v_t_isWrong), ((a_t 5), .inl (cy 0, 7, .inl w10)), ((a_t 1), .inl (cy 0, 155, .inl f_t_s))]) [1, 2, 0] rfl
    have hD9 := hD.sub (ws' := [((a_t 0), oX8 a_t v_t_isKept v_t_bestPost v_t_mostSeen v_t_taped v_t_from v_t_to v_t_isWrong), ((a_t 5), .inl (cy 0, 7, .inl w10)), ((a_t 1), .inl (cy 0, 155, .inl f_t_s))]) [1, 2, 0] (by decide) rfl
    exact W.iret hx hb hr (fun t ht hW => ⟨⟨_, (), rfl, rfl, by rw [ht]; exact hP9, va_K.moved hW.alike hK, hD9⟩, hS.F ht⟩) hS.2.2 dX8_posted_12
/-! X8_trap -/
def uX8_trap_s40 (nn : Nat) (x1_29 : Int32) (x2_30 : Int32) (k_97 : Int32 → (Nat → Int32) → (Nat → Int32) → Option (Int32 × (Nat → Int32) × (Nat → Int32) × (Nat → Int32))) (rec33 : Int32 → Int32 → Int32 → (Nat → Int32) → (Nat → Int32) → Option (Int32 × (Nat → Int32) × (Nat → Int32) × (Nat → Int32))) (x4_24 : Int32) (x5_25 : Int32) (x6_26 : Int32) (f_t_aside_27 : Nat → Int32) (f_t_s_28 : Nat → Int32) : Option (Int32 × (Nat → Int32) × (Nat → Int32) × (Nat → Int32)) :=
  (if (48 : Int32) ≤ x6_26 then k_97 x4_24 f_t_aside_27 f_t_s_28 else bb_ix ((5 : Int32) + x1_29) 155 (bb_b3 (uX8_until nn x2_30 (1 : Int32) (0 : Int32) f_t_aside_27 (upd f_t_s_28 ((5 : Int32) + x1_29).toNatClampNeg x6_26)) (fun (r38 : Int32) (w39 : Nat → Int32) (w40 : Nat → Int32) => bb_cut (fun (z42 : Int32) => rec33 z42 (if r38 < x5_25 then r38 else x5_25) (x6_26 + (1 : Int32)) w39 w40) (fun k43 => (if x5_25 ≤ r38 then k43 x4_24 else k43 x6_26)))))
def uX8_trap (nn : Nat) (p1 : Int32) (p2 : Int32) (f_t_aside : Nat → Int32) (f_t_found : Nat → Int32) (f_t_s : Nat → Int32) : Option (Int32 × (Nat → Int32) × (Nat → Int32) × (Nat → Int32)) :=
  bb_b1 (uX8_isGuard p1) (fun (r1 : Int32) => (if r1 = 0 then bb_b2 (uX8_finds (0 : Int32) f_t_found) (fun (r6 : Int32) (w7 : Nat → Int32) => some (r6, f_t_aside, w7, f_t_s)) else bb_b1 (uX8_isBather p2 f_t_s) (fun (r9 : Int32) => (if r9 = 0 then bb_b2 (uX8_finds (0 : Int32) f_t_found) (fun (r45 : Int32) (w46 : Nat → Int32) => some (r45, f_t_aside, w46, f_t_s)) else bb_ix ((5 : Int32) + p1) 155 (bb_cut (fun (x4_15 : Int32) (f_t_aside_16 : Nat → Int32) (f_t_s_17 : Nat → Int32) => bb_ix ((5 : Int32) + p1) 155 ((if 0 ≤ x4_15 then some (x4_15, f_t_aside_16, f_t_found, upd f_t_s_17 ((5 : Int32) + p1).toNatClampNeg (f_t_s ((5 : Int32) + p1).toNatClampNeg)) else bb_b2 (uX8_finds (3 : Int32) f_t_found) (fun (r21 : Int32) (w22 : Nat → Int32) => some (r21, f_t_aside_16, w22, upd f_t_s_17 ((5 : Int32) + p1).toNatClampNeg (f_t_s ((5 : Int32) + p1).toNatClampNeg)))))) (fun k18 => bb_loop5 (uX8_trap_s40 nn p1 p2 k18) nn (-1 : Int32) (101 : Int32) (0 : Int32) f_t_aside f_t_s))))))
theorem kdX8_trap : yX8_trap.cls = RX8 ∧ yX8_trap.cls ≠ "java/lang/invoke/MethodHandle" ∧ yX8_trap.cls ≠ "java/lang/invoke/VarHandle" ∧ (parseMethodDescriptor yX8_trap.desc).map (fun d => d.parameters.length) = some 2 := by decide +kernel
set_option maxHeartbeats 4000000 in
set_option maxRecDepth 100000 in
theorem kX8_trap (l : Launch) (dC : Nat → ClassId) (dI : Nat → Nat → Nat) (cy : Nat → ClassId) (sz : Nat) (a_t : Nat → Nat) (p1 : Int32) (p2 : Int32) (v_t_isKept : Int32) (v_t_bestPost : Int32) (v_t_mostSeen : Int32) (v_t_taped : Int32) (v_t_from : Int32) (v_t_to : Int32) (v_t_isWrong : Int32) (f_t_aside : Nat → Int32) (f_t_found : Nat → Int32) (f_t_s : Nat → Int32) (nn : Nat) (r : Int32) (f_t_aside_o : Nat → Int32) (f_t_found_o : Nat → Int32) (f_t_s_o : Nat → Int32) (h : uX8_trap nn p1 p2 f_t_aside f_t_found f_t_s = some (r, f_t_aside_o, f_t_found_o, f_t_s_o)) : Met l yX8_trap wsX8_trap ({ frames := 11, cells := 0, slots := 0, locals := 245 }) (va_Pc [.ref (a_t 0), .int p1, .int p2] (fun U => U.heap.size = sz ∧ va_P (dC, dI) vwCl [((a_t 0), oX8 a_t v_t_isKept v_t_bestPost v_t_mostSeen v_t_taped v_t_from v_t_to v_t_isWrong), ((a_t 3), .inl (cy 0, 155, .inl f_t_aside)), ((a_t 5), .inl (cy 0, 7, .inl f_t_found)), ((a_t 1), .inl (cy 0, 155, .inl f_t_s))] U.heap ∧ va_K (dC, dI) vwCl (tyX cy) U ∧ va_D (fun _ => True) [((a_t 0), oX8 a_t v_t_isKept v_t_bestPost v_t_mostSeen v_t_taped v_t_from v_t_to v_t_isWrong), ((a_t 3), .inl (cy 0, 155, .inl f_t_aside)), ((a_t 5), .inl (cy 0, 7, .inl f_t_found)), ((a_t 1), .inl (cy 0, 155, .inl f_t_s))])) (va_Qi (fun (r2 : Int32) (_ : Unit) => r = r2) (fun _ t => va_P (dC, dI) vwCl [((a_t 0), oX8 a_t v_t_isKept v_t_bestPost v_t_mostSeen v_t_taped v_t_from v_t_to v_t_isWrong), ((a_t 3), .inl (cy 0, 155, .inl f_t_aside_o)), ((a_t 5), .inl (cy 0, 7, .inl f_t_found_o)), ((a_t 1), .inl (cy 0, 155, .inl f_t_s_o))] t.heap ∧ va_K (dC, dI) vwCl (tyX cy) t ∧ va_D (va_A [((a_t 0), oX8 a_t v_t_isKept v_t_bestPost v_t_mostSeen v_t_taped v_t_from v_t_to v_t_isWrong), ((a_t 3), .inl (cy 0, 155, .inl f_t_aside)), ((a_t 5), .inl (cy 0, 7, .inl f_t_found)), ((a_t 1), .inl (cy 0, 155, .inl f_t_s))] sz) [((a_t 0), oX8 a_t v_t_isKept v_t_bestPost v_t_mostSeen v_t_taped v_t_from v_t_to v_t_isWrong), ((a_t 3), .inl (cy 0, 155, .inl f_t_aside_o)), ((a_t 5), .inl (cy 0, 7, .inl f_t_found_o)), ((a_t 1), .inl (cy 0, 155, .inl f_t_s_o))]) (va_A [((a_t 0), oX8 a_t v_t_isKept v_t_bestPost v_t_mostSeen v_t_taped v_t_from v_t_to v_t_isWrong), ((a_t 3), .inl (cy 0, 155, .inl f_t_aside)), ((a_t 5), .inl (cy 0, 7, .inl f_t_found)), ((a_t 1), .inl (cy 0, 155, .inl f_t_s))] sz)) 0 0 (va_A [((a_t 0), oX8 a_t v_t_isKept v_t_bestPost v_t_mostSeen v_t_taped v_t_from v_t_to v_t_isWrong), ((a_t 3), .inl (cy 0, 155, .inl f_t_aside)), ((a_t 5), .inl (cy 0, 7, .inl f_t_found)), ((a_t 1), .inl (cy 0, 155, .inl f_t_s))] sz) := by
  refine Met.ofW (cc := cX8_trap) (maxL := 8) (ret := (some .int)) (by decide) rfl ?_
  intro p e s m args below meth c s₁ B hml hv
  obtain ⟨rfl, hsz, hP, hK, hD0⟩ := hv
  have hx := B.exec
  have hb := B.bytes
  have hr := B.returns
  have hts := atoms_spec (ws := wsX8_trap) B.pre
  have hown : s.vm.findClass RX8 = some m.cls := findClass_of_methodNamed B.named
  have hlocks := B.notSynchronized
  have iwX8 : ∀ w ∈ wsX80, w ∈ wsX8_trap := fun w h9 => List.mem_cons_of_mem _ (List.mem_append_right _ (h9))
  have lk1 := hts (Cond.fieldLink RX8 9 "BathBorderModel" "s" "[I") (List.mem_of_getElem? (i := 1) rfl)
  have lk2 := hts (Cond.methodLink RX8 171 Lib.Math.min.name) (List.mem_of_getElem? (i := 2) rfl)
  have lk3 := hts (Cond.static Lib.Math.min.name) (List.mem_of_getElem? (i := 3) rfl)
  have lk4 := hts (Cond.initialized "java/lang/Math") (List.mem_of_getElem? (i := 4) rfl)
  have lk5 := hts (Cond.code Lib.Math.min.name Lib.Math.min.code 2 (some .int)) (List.mem_of_getElem? (i := 5) rfl)
  subst hsz
  have hD := hD0.self (sz := s.heap.size)
  generalize hAe : va_A [((a_t 0), oX8 a_t v_t_isKept v_t_bestPost v_t_mostSeen v_t_taped v_t_from v_t_to v_t_isWrong), ((a_t 3), .inl (cy 0, 155, .inl f_t_aside)), ((a_t 5), .inl (cy 0, 7, .inl f_t_found)), ((a_t 1), .inl (cy 0, 155, .inl f_t_s))] s.heap.size = A at hD ⊢
  have hA : ∀ q : Nat, s.heap.size ≤ q → A q := fun q h => by rw [← hAe]; exact Or.inr h
  have hS : va_S A s.heap s.heap [] := va_S.rf
  have hP : va_P (dC, dI) vwCl [((a_t 0), oX8 a_t v_t_isKept v_t_bestPost v_t_mostSeen v_t_taped v_t_from v_t_to v_t_isWrong), ((a_t 3), .inl (cy 0, 155, .inl f_t_aside)), ((a_t 5), .inl (cy 0, 7, .inl f_t_found)), ((a_t 1), .inl (cy 0, 155, .inl f_t_s))] s.heap := hP
  have hl := lv_entry ([.ref (a_t 0), .int p1, .int p2]) (n := 8) (Nat.le_of_ble_eq_true rfl)
  rw [lg_entry_eq]
  generalize (lg_sl ([.ref (a_t 0), .int p1, .int p2]) ++ List.replicate (8 - (lg_sl ([.ref (a_t 0), .int p1, .int p2])).length) Slot.unset).toArray = ls at hl ⊢
  have hl : lv_has ls 8 [(0, .ref (a_t 0)), (1, .int p1), (2, .int p2)] := hl
  unfold uX8_trap at h
  refine bb_cap (fun WW toW ofW => ?_)
  refine lv_iload_n hx hb dX8_trap_0 rfl (lv_at hl 1 rfl) ?_
  obtain ⟨r1, hc2, h⟩ := bb_b1_o h
  refine vp_callSi (W.runS (As := [.int p1]) (rest := []) ⟨hx, hb, hml, hown, hts⟩ (kX8_isGuard l dC dI cy p1 r1 hc2) (va_cwS 1 hts gX8_trap_X8_isGuard rfl rfl rfl kdX8_isGuard ⟨Nat.le_of_ble_eq_true rfl, Nat.le_of_ble_eq_true rfl⟩) (bb_preS (hP.sub (ws' := []) [] rfl) hK) rfl rfl hl.1 rfl (lv_room (Nat.le_of_ble_eq_true rfl)) dX8_trap_1 ⟨Nat.zero_le _, Nat.zero_le _⟩) (fun t3 et3 => ?_)
  obtain ⟨rfl, hz4⟩ := et3
  refine lv_if_eq (tgt := 15) hx hb dX8_trap_4 (by decide) (fun c5 => ?_) (fun c5 => ?_)
  · replace h := bb_ifp c5 h
    refine lv_aload_n hx hb dX8_trap_15 rfl (lv_at hl 0 rfl) ?_
    refine lv_iconst (v := (0 : Int32)) hx hb dX8_trap_16 (by decide) ?_
    obtain ⟨r6, w7, hc8, h⟩ := bb_b2_o h
    refine bb_cwi (wr := [((a_t 3), .inl (cy 0, 155, .inl f_t_aside)), ((a_t 1), .inl (cy 0, 155, .inl f_t_s))]) (w1 := [((a_t 0), oX8 a_t v_t_isKept v_t_bestPost v_t_mostSeen v_t_taped v_t_from v_t_to v_t_isWrong), ((a_t 5), .inl (cy 0, 7, .inl w7))]) (va_runV (As := [.int (0 : Int32)]) (rest := []) ⟨hx, hb, hml, hown, hts⟩ (kX8_finds l dC dI cy s.heap.size a_t (0 : Int32) v_t_isKept v_t_bestPost v_t_mostSeen v_t_taped v_t_from v_t_to v_t_isWrong f_t_found r6 w7 hc8) (cwV 1 hts gX8_trap_X8_finds rfl rfl rfl kdX8_finds ⟨Nat.le_of_ble_eq_true rfl, Nat.le_of_ble_eq_true rfl⟩) (bb_preVw (va_recv hK hP (ci := 7) (q0 := 0) rfl rfl) (hP.sub (ws' := [((a_t 0), oX8 a_t v_t_isKept v_t_bestPost v_t_mostSeen v_t_taped v_t_from v_t_to v_t_isWrong), ((a_t 5), .inl (cy 0, 7, .inl f_t_found))]) [0, 2] rfl) hK (hD.sub (ws' := [((a_t 0), oX8 a_t v_t_isKept v_t_bestPost v_t_mostSeen v_t_taped v_t_from v_t_to v_t_isWrong), ((a_t 5), .inl (cy 0, 7, .inl f_t_found))]) [0, 2] (by decide) rfl)) rfl rfl hl.1 rfl (lv_room (Nat.le_of_ble_eq_true rfl)) dX8_trap_17 ⟨Nat.zero_le _, Nat.zero_le _⟩) hP hD hS hA [0, 2] [1, 3] rfl rfl (by decide) (by decide) (fun H locs hP hD hS => ?_)
    have hP : va_P (dC, dI) vwCl [((a_t 3), .inl (cy 0, 155, .inl f_t_aside)), ((a_t 1), .inl (cy 0, 155, .inl f_t_s)), ((a_t 0), oX8 a_t v_t_isKept v_t_bestPost v_t_mostSeen v_t_taped v_t_from v_t_to v_t_isWrong), ((a_t 5), .inl (cy 0, 7, .inl w7))] H := hP
    have hD : va_D A [((a_t 3), .inl (cy 0, 155, .inl f_t_aside)), ((a_t 1), .inl (cy 0, 155, .inl f_t_s)), ((a_t 0), oX8 a_t v_t_isKept v_t_bestPost v_t_mostSeen v_t_taped v_t_from v_t_to v_t_isWrong), ((a_t 5), .inl (cy 0, 7, .inl w7))] := hD
    obtain ⟨rfl, rfl, rfl, rfl⟩ := bb_some4 h
    have hP9 := hP.sub (ws' := [((a_t 0), oX8 a_t v_t_isKept v_t_bestPost v_t_mostSeen v_t_taped v_t_from v_t_to v_t_isWrong), ((a_t 3), .inl (cy 0, 155, .inl f_t_aside)), ((a_t 5), .inl (cy 0, 7, .inl w7)), ((a_t 1), .inl (cy 0, 155, .inl f_t_s))]) [2, 0, 3, 1] rfl
    have hD9 := hD.sub (ws' := [((a_t 0), oX8 a_t v_t_isKept v_t_bestPost v_t_mostSeen v_t_taped v_t_from v_t_to v_t_isWrong), ((a_t 3), .inl (cy 0, 155, .inl f_t_aside)), ((a_t 5), .inl (cy 0, 7, .inl w7)), ((a_t 1), .inl (cy 0, 155, .inl f_t_s))]) [2, 0, 3, 1] (by decide) rfl
    exact W.iret hx hb hr (fun t ht hW => ⟨⟨_, (), rfl, rfl, by rw [ht]; exact hP9, va_K.moved hW.alike hK, hD9⟩, hS.F ht⟩) hS.2.2 dX8_trap_20
  · replace h := bb_ifn c5 h
    refine lv_aload_n hx hb dX8_trap_7 rfl (lv_at hl 0 rfl) ?_
    refine lv_iload_n hx hb dX8_trap_8 rfl (lv_at hl 2 rfl) ?_
    obtain ⟨r9, hc10, h⟩ := bb_b1_o h
    refine vp_callSi (W.runV (As := [.int p2]) (rest := []) ⟨hx, hb, hml, hown, hts⟩ (kX8_isBather l dC dI cy a_t p2 v_t_isKept v_t_bestPost v_t_mostSeen v_t_taped v_t_from v_t_to v_t_isWrong f_t_s r9 hc10) (cwV 1 hts gX8_trap_X8_isBather rfl rfl rfl kdX8_isBather ⟨Nat.le_of_ble_eq_true rfl, Nat.le_of_ble_eq_true rfl⟩) (bb_preV (va_recv hK hP (ci := 7) (q0 := 0) rfl rfl) (hP.sub (ws' := [((a_t 0), oX8 a_t v_t_isKept v_t_bestPost v_t_mostSeen v_t_taped v_t_from v_t_to v_t_isWrong), ((a_t 1), .inl (cy 0, 155, .inl f_t_s))]) [0, 3] rfl) hK) rfl rfl hl.1 rfl (lv_room (Nat.le_of_ble_eq_true rfl)) dX8_trap_9 ⟨Nat.zero_le _, Nat.zero_le _⟩) (fun t11 et11 => ?_)
    obtain ⟨rfl, hz12⟩ := et11
    refine lv_if_ne (tgt := 21) hx hb dX8_trap_12 (by decide) (fun c13 => ?_) (fun c13 => ?_)
    · replace h := bb_ifn c13 h
      refine lv_aload_n hx hb dX8_trap_21 rfl (lv_at hl 0 rfl) ?_
      refine va_get (D := (dC, dI)) (ci := 7) (v := .ref (a_t 1)) (C := RX8) (T := TX8) (N := 20) hx hb hts iwX8 hown hK hP 0 rfl rfl 0 (by decide) lk1 (fun _ h9 => h9) rfl dX8_trap_22 ?_
      refine lv_iconst (v := (5 : Int32)) hx hb dX8_trap_25 (by decide) ?_
      refine lv_iload_n hx hb dX8_trap_26 rfl (lv_at hl 1 rfl) ?_
      refine lv_iadd hx hb dX8_trap_27 ?_
      obtain ⟨hi14, h⟩ := bb_ix_o h
      refine va_iald hx hb hK hP 3 0 rfl rfl hi14 dX8_trap_28 ?_
      refine lv_istore_n (lv' := [(3, .int (f_t_s ((5 : Int32) + p1).toNatClampNeg)), (0, .ref (a_t 0)), (1, .int p1), (2, .int p2)]) hx hb dX8_trap_29 rfl hl (by decide) rfl (fun ls hl => ?_)
      refine lv_iconst (v := (-1 : Int32)) hx hb dX8_trap_30 (by decide) ?_
      refine lv_istore (lv' := [(4, .int (-1 : Int32)), (3, .int (f_t_s ((5 : Int32) + p1).toNatClampNeg)), (0, .ref (a_t 0)), (1, .int p1), (2, .int p2)]) hx hb dX8_trap_31 hl (by decide) rfl (fun ls hl => ?_)
      refine lv_bipush (v := (101 : Int32)) hx hb dX8_trap_33 (by decide) ?_
      refine lv_istore (lv' := [(5, .int (101 : Int32)), (4, .int (-1 : Int32)), (3, .int (f_t_s ((5 : Int32) + p1).toNatClampNeg)), (0, .ref (a_t 0)), (1, .int p1), (2, .int p2)]) hx hb dX8_trap_35 hl (by decide) rfl (fun ls hl => ?_)
      refine lv_iconst (v := (0 : Int32)) hx hb dX8_trap_37 (by decide) ?_
      refine lv_istore (lv' := [(6, .int (0 : Int32)), (5, .int (101 : Int32)), (4, .int (-1 : Int32)), (3, .int (f_t_s ((5 : Int32) + p1).toNatClampNeg)), (0, .ref (a_t 0)), (1, .int p1), (2, .int p2)]) hx hb dX8_trap_38 hl (by decide) rfl (fun ls hl => ?_)
      obtain ⟨k18, ek18, h⟩ := bb_cut_o h
      have Jk18 : ∀ (x4_15 : Int32) (f_t_aside_16 : Nat → Int32) (f_t_s_17 : Nat → Int32) (H : Heap) (locs : List Loc) (ls : Array Slot), k18 x4_15 f_t_aside_16 f_t_s_17 = some (r, f_t_aside_o, f_t_found_o, f_t_s_o) → va_P (dC, dI) vwCl [((a_t 0), oX8 a_t v_t_isKept v_t_bestPost v_t_mostSeen v_t_taped v_t_from v_t_to v_t_isWrong), ((a_t 3), .inl (cy 0, 155, .inl f_t_aside_16)), ((a_t 5), .inl (cy 0, 7, .inl f_t_found)), ((a_t 1), .inl (cy 0, 155, .inl f_t_s_17))] H → va_D A [((a_t 0), oX8 a_t v_t_isKept v_t_bestPost v_t_mostSeen v_t_taped v_t_from v_t_to v_t_isWrong), ((a_t 3), .inl (cy 0, 155, .inl f_t_aside_16)), ((a_t 5), .inl (cy 0, 7, .inl f_t_found)), ((a_t 1), .inl (cy 0, 155, .inl f_t_s_17))] → va_S A s.heap H locs → lv_has ls 8 [(0, .ref (a_t 0)), (1, .int p1), (3, .int (f_t_s ((5 : Int32) + p1).toNatClampNeg)), (4, .int x4_15)] → WW H locs (F0 m 97 ls []) := by
        intro x4_15 f_t_aside_16 f_t_s_17 H locs ls h hP hD hS hl
        refine ofW _ _ _ ?_
        subst ek18
        refine lv_aload_n hx hb dX8_trap_97 rfl (lv_at hl 0 rfl) ?_
        refine va_get (D := (dC, dI)) (ci := 7) (v := .ref (a_t 1)) (C := RX8) (T := TX8) (N := 20) hx hb hts iwX8 hown hK hP 0 rfl rfl 0 (by decide) lk1 (fun _ h9 => h9) rfl dX8_trap_98 ?_
        refine lv_iconst (v := (5 : Int32)) hx hb dX8_trap_101 (by decide) ?_
        refine lv_iload_n hx hb dX8_trap_102 rfl (lv_at hl 1 rfl) ?_
        refine lv_iadd hx hb dX8_trap_103 ?_
        refine lv_iload_n hx hb dX8_trap_104 rfl (lv_at hl 2 rfl) ?_
        obtain ⟨hi19, h⟩ := bb_ix_o h
        refine va_iast hx hb hK hP hD hS 3 0 rfl rfl hi19 dX8_trap_105 (fun H locs hP hD hS => ?_)
        have hP : va_P (dC, dI) vwCl [((a_t 0), oX8 a_t v_t_isKept v_t_bestPost v_t_mostSeen v_t_taped v_t_from v_t_to v_t_isWrong), ((a_t 3), .inl (cy 0, 155, .inl f_t_aside_16)), ((a_t 5), .inl (cy 0, 7, .inl f_t_found)), ((a_t 1), .inl (cy 0, 155, .inl (upd f_t_s_17 ((5 : Int32) + p1).toNatClampNeg (f_t_s ((5 : Int32) + p1).toNatClampNeg))))] H := hP
        have hD : va_D A [((a_t 0), oX8 a_t v_t_isKept v_t_bestPost v_t_mostSeen v_t_taped v_t_from v_t_to v_t_isWrong), ((a_t 3), .inl (cy 0, 155, .inl f_t_aside_16)), ((a_t 5), .inl (cy 0, 7, .inl f_t_found)), ((a_t 1), .inl (cy 0, 155, .inl (upd f_t_s_17 ((5 : Int32) + p1).toNatClampNeg (f_t_s ((5 : Int32) + p1).toNatClampNeg))))] := hD
        refine lv_iload hx hb dX8_trap_106 (lv_at hl 3 rfl) ?_
        refine lv_if_ge (tgt := 119) hx hb dX8_trap_108 (by decide) (fun c20 => ?_) (fun c20 => ?_)
        · replace h := bb_ifp c20 h
          refine lv_iload hx hb dX8_trap_119 (lv_at hl 3 rfl) ?_
          obtain ⟨rfl, rfl, rfl, rfl⟩ := bb_some4 h
          have hP9 := hP.sub (ws' := [((a_t 0), oX8 a_t v_t_isKept v_t_bestPost v_t_mostSeen v_t_taped v_t_from v_t_to v_t_isWrong), ((a_t 3), .inl (cy 0, 155, .inl f_t_aside_16)), ((a_t 5), .inl (cy 0, 7, .inl f_t_found)), ((a_t 1), .inl (cy 0, 155, .inl (upd f_t_s_17 ((5 : Int32) + p1).toNatClampNeg (f_t_s ((5 : Int32) + p1).toNatClampNeg))))]) [0, 1, 2, 3] rfl
          have hD9 := hD.sub (ws' := [((a_t 0), oX8 a_t v_t_isKept v_t_bestPost v_t_mostSeen v_t_taped v_t_from v_t_to v_t_isWrong), ((a_t 3), .inl (cy 0, 155, .inl f_t_aside_16)), ((a_t 5), .inl (cy 0, 7, .inl f_t_found)), ((a_t 1), .inl (cy 0, 155, .inl (upd f_t_s_17 ((5 : Int32) + p1).toNatClampNeg (f_t_s ((5 : Int32) + p1).toNatClampNeg))))]) [0, 1, 2, 3] (by decide) rfl
          exact W.iret hx hb hr (fun t ht hW => ⟨⟨_, (), rfl, rfl, by rw [ht]; exact hP9, va_K.moved hW.alike hK, hD9⟩, hS.F ht⟩) hS.2.2 dX8_trap_121
        · replace h := bb_ifn c20 h
          refine lv_aload_n hx hb dX8_trap_111 rfl (lv_at hl 0 rfl) ?_
          refine lv_iconst (v := (3 : Int32)) hx hb dX8_trap_112 (by decide) ?_
          obtain ⟨r21, w22, hc23, h⟩ := bb_b2_o h
          refine bb_cwi (wr := [((a_t 3), .inl (cy 0, 155, .inl f_t_aside_16)), ((a_t 1), .inl (cy 0, 155, .inl (upd f_t_s_17 ((5 : Int32) + p1).toNatClampNeg (f_t_s ((5 : Int32) + p1).toNatClampNeg))))]) (w1 := [((a_t 0), oX8 a_t v_t_isKept v_t_bestPost v_t_mostSeen v_t_taped v_t_from v_t_to v_t_isWrong), ((a_t 5), .inl (cy 0, 7, .inl w22))]) (va_runV (As := [.int (3 : Int32)]) (rest := []) ⟨hx, hb, hml, hown, hts⟩ (kX8_finds l dC dI cy H.size a_t (3 : Int32) v_t_isKept v_t_bestPost v_t_mostSeen v_t_taped v_t_from v_t_to v_t_isWrong f_t_found r21 w22 hc23) (cwV 1 hts gX8_trap_X8_finds rfl rfl rfl kdX8_finds ⟨Nat.le_of_ble_eq_true rfl, Nat.le_of_ble_eq_true rfl⟩) (bb_preVw (va_recv hK hP (ci := 7) (q0 := 0) rfl rfl) (hP.sub (ws' := [((a_t 0), oX8 a_t v_t_isKept v_t_bestPost v_t_mostSeen v_t_taped v_t_from v_t_to v_t_isWrong), ((a_t 5), .inl (cy 0, 7, .inl f_t_found))]) [0, 2] rfl) hK (hD.sub (ws' := [((a_t 0), oX8 a_t v_t_isKept v_t_bestPost v_t_mostSeen v_t_taped v_t_from v_t_to v_t_isWrong), ((a_t 5), .inl (cy 0, 7, .inl f_t_found))]) [0, 2] (by decide) rfl)) rfl rfl hl.1 rfl (lv_room (Nat.le_of_ble_eq_true rfl)) dX8_trap_113 ⟨Nat.zero_le _, Nat.zero_le _⟩) hP hD hS hA [0, 2] [1, 3] rfl rfl (by decide) (by decide) (fun H locs hP hD hS => ?_)
          have hP : va_P (dC, dI) vwCl [((a_t 3), .inl (cy 0, 155, .inl f_t_aside_16)), ((a_t 1), .inl (cy 0, 155, .inl (upd f_t_s_17 ((5 : Int32) + p1).toNatClampNeg (f_t_s ((5 : Int32) + p1).toNatClampNeg)))), ((a_t 0), oX8 a_t v_t_isKept v_t_bestPost v_t_mostSeen v_t_taped v_t_from v_t_to v_t_isWrong), ((a_t 5), .inl (cy 0, 7, .inl w22))] H := hP
          have hD : va_D A [((a_t 3), .inl (cy 0, 155, .inl f_t_aside_16)), ((a_t 1), .inl (cy 0, 155, .inl (upd f_t_s_17 ((5 : Int32) + p1).toNatClampNeg (f_t_s ((5 : Int32) + p1).toNatClampNeg)))), ((a_t 0), oX8 a_t v_t_isKept v_t_bestPost v_t_mostSeen v_t_taped v_t_from v_t_to v_t_isWrong), ((a_t 5), .inl (cy 0, 7, .inl w22))] := hD
          refine lv_goto (tgt := 121) hx hb dX8_trap_116 (by decide) ?_
          obtain ⟨rfl, rfl, rfl, rfl⟩ := bb_some4 h
          have hP9 := hP.sub (ws' := [((a_t 0), oX8 a_t v_t_isKept v_t_bestPost v_t_mostSeen v_t_taped v_t_from v_t_to v_t_isWrong), ((a_t 3), .inl (cy 0, 155, .inl f_t_aside_16)), ((a_t 5), .inl (cy 0, 7, .inl w22)), ((a_t 1), .inl (cy 0, 155, .inl (upd f_t_s_17 ((5 : Int32) + p1).toNatClampNeg (f_t_s ((5 : Int32) + p1).toNatClampNeg))))]) [2, 0, 3, 1] rfl
          have hD9 := hD.sub (ws' := [((a_t 0), oX8 a_t v_t_isKept v_t_bestPost v_t_mostSeen v_t_taped v_t_from v_t_to v_t_isWrong), ((a_t 3), .inl (cy 0, 155, .inl f_t_aside_16)), ((a_t 5), .inl (cy 0, 7, .inl w22)), ((a_t 1), .inl (cy 0, 155, .inl (upd f_t_s_17 ((5 : Int32) + p1).toNatClampNeg (f_t_s ((5 : Int32) + p1).toNatClampNeg))))]) [2, 0, 3, 1] (by decide) rfl
          exact W.iret hx hb hr (fun t ht hW => ⟨⟨_, (), rfl, rfl, by rw [ht]; exact hP9, va_K.moved hW.alike hK, hD9⟩, hS.F ht⟩) hS.2.2 dX8_trap_121
      have L34 : ∀ (n : Nat) (x4_24 : Int32) (x5_25 : Int32) (x6_26 : Int32) (f_t_aside_27 : Nat → Int32) (f_t_s_28 : Nat → Int32) (H : Heap) (locs : List Loc) (ls : Array Slot), bb_loop5 (uX8_trap_s40 nn p1 p2 k18) n x4_24 x5_25 x6_26 f_t_aside_27 f_t_s_28 = some (r, f_t_aside_o, f_t_found_o, f_t_s_o) → va_P (dC, dI) vwCl [((a_t 0), oX8 a_t v_t_isKept v_t_bestPost v_t_mostSeen v_t_taped v_t_from v_t_to v_t_isWrong), ((a_t 3), .inl (cy 0, 155, .inl f_t_aside_27)), ((a_t 5), .inl (cy 0, 7, .inl f_t_found)), ((a_t 1), .inl (cy 0, 155, .inl f_t_s_28))] H → va_D A [((a_t 0), oX8 a_t v_t_isKept v_t_bestPost v_t_mostSeen v_t_taped v_t_from v_t_to v_t_isWrong), ((a_t 3), .inl (cy 0, 155, .inl f_t_aside_27)), ((a_t 5), .inl (cy 0, 7, .inl f_t_found)), ((a_t 1), .inl (cy 0, 155, .inl f_t_s_28))] → va_S A s.heap H locs → lv_has ls 8 [(0, .ref (a_t 0)), (1, .int p1), (2, .int p2), (3, .int (f_t_s ((5 : Int32) + p1).toNatClampNeg)), (4, .int x4_24), (5, .int x5_25), (6, .int x6_26)] → WW H locs (F0 m 40 ls []) := by
        intro n
        induction n with
        | zero => intro x4_24 x5_25 x6_26 f_t_aside_27 f_t_s_28 H locs ls h; exact (bb_no h).elim
        | succ n ih35 =>
          intro x4_24 x5_25 x6_26 f_t_aside_27 f_t_s_28 H locs ls h hP hD hS hl
          refine ofW _ _ _ ?_
          obtain ⟨rec33, erec33, h⟩ := bb_loop5_o h
          unfold uX8_trap_s40 at h
          refine lv_iload hx hb dX8_trap_40 (lv_at hl 6 rfl) ?_
          refine lv_bipush (v := (48 : Int32)) hx hb dX8_trap_42 (by decide) ?_
          refine lv_icmp_ge (tgt := 97) hx hb dX8_trap_44 (by decide) (fun c36 => ?_) (fun c36 => ?_)
          · replace h := bb_ifp c36 h
            exact toW _ _ _ (Jk18 x4_24 f_t_aside_27 f_t_s_28 _ _ _ h hP hD hS (lv_sub hl [0, 1, 3, 4] rfl))
          · replace h := bb_ifn c36 h
            refine lv_aload_n hx hb dX8_trap_47 rfl (lv_at hl 0 rfl) ?_
            refine va_get (D := (dC, dI)) (ci := 7) (v := .ref (a_t 1)) (C := RX8) (T := TX8) (N := 20) hx hb hts iwX8 hown hK hP 0 rfl rfl 0 (by decide) lk1 (fun _ h9 => h9) rfl dX8_trap_48 ?_
            refine lv_iconst (v := (5 : Int32)) hx hb dX8_trap_51 (by decide) ?_
            refine lv_iload_n hx hb dX8_trap_52 rfl (lv_at hl 1 rfl) ?_
            refine lv_iadd hx hb dX8_trap_53 ?_
            refine lv_iload hx hb dX8_trap_54 (lv_at hl 6 rfl) ?_
            obtain ⟨hi37, h⟩ := bb_ix_o h
            refine va_iast hx hb hK hP hD hS 3 0 rfl rfl hi37 dX8_trap_56 (fun H locs hP hD hS => ?_)
            have hP : va_P (dC, dI) vwCl [((a_t 0), oX8 a_t v_t_isKept v_t_bestPost v_t_mostSeen v_t_taped v_t_from v_t_to v_t_isWrong), ((a_t 3), .inl (cy 0, 155, .inl f_t_aside_27)), ((a_t 5), .inl (cy 0, 7, .inl f_t_found)), ((a_t 1), .inl (cy 0, 155, .inl (upd f_t_s_28 ((5 : Int32) + p1).toNatClampNeg x6_26)))] H := hP
            have hD : va_D A [((a_t 0), oX8 a_t v_t_isKept v_t_bestPost v_t_mostSeen v_t_taped v_t_from v_t_to v_t_isWrong), ((a_t 3), .inl (cy 0, 155, .inl f_t_aside_27)), ((a_t 5), .inl (cy 0, 7, .inl f_t_found)), ((a_t 1), .inl (cy 0, 155, .inl (upd f_t_s_28 ((5 : Int32) + p1).toNatClampNeg x6_26)))] := hD
            refine lv_aload_n hx hb dX8_trap_57 rfl (lv_at hl 0 rfl) ?_
            refine lv_iload_n hx hb dX8_trap_58 rfl (lv_at hl 2 rfl) ?_
            refine lv_iconst (v := (1 : Int32)) hx hb dX8_trap_59 (by decide) ?_
            refine lv_iconst (v := (0 : Int32)) hx hb dX8_trap_60 (by decide) ?_
            obtain ⟨r38, w39, w40, hc41, h⟩ := bb_b3_o h
            refine bb_cwi (wr := [((a_t 5), .inl (cy 0, 7, .inl f_t_found))]) (w1 := [((a_t 0), oX8 a_t v_t_isKept v_t_bestPost v_t_mostSeen v_t_taped v_t_from v_t_to v_t_isWrong), ((a_t 3), .inl (cy 0, 155, .inl w39)), ((a_t 1), .inl (cy 0, 155, .inl w40))]) (va_runV (As := [.int p2, .int (1 : Int32), .int (0 : Int32)]) (rest := []) ⟨hx, hb, hml, hown, hts⟩ (kX8_until l dC dI cy H.size a_t p2 (1 : Int32) (0 : Int32) v_t_isKept v_t_bestPost v_t_mostSeen v_t_taped v_t_from v_t_to v_t_isWrong f_t_aside_27 (upd f_t_s_28 ((5 : Int32) + p1).toNatClampNeg x6_26) nn r38 w39 w40 hc41) (cwV 3 hts gX8_trap_X8_until rfl rfl rfl kdX8_until ⟨Nat.le_of_ble_eq_true rfl, Nat.le_of_ble_eq_true rfl⟩) (bb_preVw (va_recv hK hP (ci := 7) (q0 := 0) rfl rfl) (hP.sub (ws' := [((a_t 0), oX8 a_t v_t_isKept v_t_bestPost v_t_mostSeen v_t_taped v_t_from v_t_to v_t_isWrong), ((a_t 3), .inl (cy 0, 155, .inl f_t_aside_27)), ((a_t 1), .inl (cy 0, 155, .inl (upd f_t_s_28 ((5 : Int32) + p1).toNatClampNeg x6_26)))]) [0, 1, 3] rfl) hK (hD.sub (ws' := [((a_t 0), oX8 a_t v_t_isKept v_t_bestPost v_t_mostSeen v_t_taped v_t_from v_t_to v_t_isWrong), ((a_t 3), .inl (cy 0, 155, .inl f_t_aside_27)), ((a_t 1), .inl (cy 0, 155, .inl (upd f_t_s_28 ((5 : Int32) + p1).toNatClampNeg x6_26)))]) [0, 1, 3] (by decide) rfl)) rfl rfl hl.1 rfl (lv_room (Nat.le_of_ble_eq_true rfl)) dX8_trap_61 ⟨Nat.zero_le _, Nat.zero_le _⟩) hP hD hS hA [0, 1, 3] [2] rfl rfl (by decide) (by decide) (fun H locs hP hD hS => ?_)
            have hP : va_P (dC, dI) vwCl [((a_t 5), .inl (cy 0, 7, .inl f_t_found)), ((a_t 0), oX8 a_t v_t_isKept v_t_bestPost v_t_mostSeen v_t_taped v_t_from v_t_to v_t_isWrong), ((a_t 3), .inl (cy 0, 155, .inl w39)), ((a_t 1), .inl (cy 0, 155, .inl w40))] H := hP
            have hD : va_D A [((a_t 5), .inl (cy 0, 7, .inl f_t_found)), ((a_t 0), oX8 a_t v_t_isKept v_t_bestPost v_t_mostSeen v_t_taped v_t_from v_t_to v_t_isWrong), ((a_t 3), .inl (cy 0, 155, .inl w39)), ((a_t 1), .inl (cy 0, 155, .inl w40))] := hD
            refine lv_istore (lv' := [(7, .int r38), (0, .ref (a_t 0)), (1, .int p1), (2, .int p2), (3, .int (f_t_s ((5 : Int32) + p1).toNatClampNeg)), (4, .int x4_24), (5, .int x5_25), (6, .int x6_26)]) hx hb dX8_trap_64 hl (by decide) rfl (fun ls hl => ?_)
            refine lv_iload hx hb dX8_trap_66 (lv_at hl 0 rfl) ?_
            refine lv_iload hx hb dX8_trap_68 (lv_at hl 6 rfl) ?_
            obtain ⟨k43, ek43, h⟩ := bb_cut_o h
            have Jk43 : ∀ (z42 : Int32) (H : Heap) (locs : List Loc) (ls : Array Slot), k43 z42 = some (r, f_t_aside_o, f_t_found_o, f_t_s_o) → va_P (dC, dI) vwCl [((a_t 0), oX8 a_t v_t_isKept v_t_bestPost v_t_mostSeen v_t_taped v_t_from v_t_to v_t_isWrong), ((a_t 3), .inl (cy 0, 155, .inl w39)), ((a_t 5), .inl (cy 0, 7, .inl f_t_found)), ((a_t 1), .inl (cy 0, 155, .inl w40))] H → va_D A [((a_t 0), oX8 a_t v_t_isKept v_t_bestPost v_t_mostSeen v_t_taped v_t_from v_t_to v_t_isWrong), ((a_t 3), .inl (cy 0, 155, .inl w39)), ((a_t 5), .inl (cy 0, 7, .inl f_t_found)), ((a_t 1), .inl (cy 0, 155, .inl w40))] → va_S A s.heap H locs → lv_has ls 8 [(0, .ref (a_t 0)), (1, .int p1), (2, .int p2), (3, .int (f_t_s ((5 : Int32) + p1).toNatClampNeg)), (5, .int x5_25), (6, .int x6_26), (7, .int r38)] → WW H locs (F0 m 80 ls [.int z42]) := by
              intro z42 H locs ls h hP hD hS hl
              refine ofW _ _ _ ?_
              subst ek43
              refine lv_istore (lv' := [(4, .int z42), (0, .ref (a_t 0)), (1, .int p1), (2, .int p2), (3, .int (f_t_s ((5 : Int32) + p1).toNatClampNeg)), (5, .int x5_25), (6, .int x6_26), (7, .int r38)]) hx hb dX8_trap_80 hl (by decide) rfl (fun ls hl => ?_)
              refine lv_iload hx hb dX8_trap_82 (lv_at hl 5 rfl) ?_
              refine lv_iload hx hb dX8_trap_84 (lv_at hl 7 rfl) ?_
              refine va_mmin hx hb (hml.trans hl.1.symm) hown lk2 lk3 lk4 lk5 (Nat.le_of_ble_eq_true rfl) (Nat.le_of_ble_eq_true rfl) (Nat.zero_le _) (Nat.zero_le _) dX8_trap_86 ?_
              refine lv_istore (lv' := [(5, .int (if r38 < x5_25 then r38 else x5_25)), (4, .int z42), (0, .ref (a_t 0)), (1, .int p1), (2, .int p2), (3, .int (f_t_s ((5 : Int32) + p1).toNatClampNeg)), (6, .int x6_26), (7, .int r38)]) hx hb dX8_trap_89 hl (by decide) rfl (fun ls hl => ?_)
              refine lv_iinc (v := x6_26 + (1 : Int32)) (lv' := [(6, .int (x6_26 + (1 : Int32))), (5, .int (if r38 < x5_25 then r38 else x5_25)), (4, .int z42), (0, .ref (a_t 0)), (1, .int p1), (2, .int p2), (3, .int (f_t_s ((5 : Int32) + p1).toNatClampNeg)), (7, .int r38)]) hx hb dX8_trap_91 hl (k := 6) rfl rfl (by decide) rfl (fun ls hl => ?_)
              refine lv_goto (tgt := 40) hx hb dX8_trap_94 (by decide) ?_
              rw [erec33] at h
              exact toW _ _ _ (ih35 z42 (if r38 < x5_25 then r38 else x5_25) (x6_26 + (1 : Int32)) w39 w40 _ _ _ h hP hD hS (lv_sub hl [3, 4, 5, 6, 2, 1, 0] rfl))
            refine lv_icmp_ge (tgt := 78) hx hb dX8_trap_70 (by decide) (fun c44 => ?_) (fun c44 => ?_)
            · replace h := bb_ifp c44 h
              refine lv_iload hx hb dX8_trap_78 (lv_at hl 5 rfl) ?_
              exact toW _ _ _ (Jk43 x4_24 _ _ _ h (hP.sub [1, 2, 0, 3] rfl) (hD.sub [1, 2, 0, 3] (by decide) rfl) hS (lv_sub hl [1, 2, 3, 4, 6, 7, 0] rfl))
            · replace h := bb_ifn c44 h
              refine lv_iload hx hb dX8_trap_73 (lv_at hl 7 rfl) ?_
              refine lv_goto (tgt := 80) hx hb dX8_trap_75 (by decide) ?_
              exact toW _ _ _ (Jk43 x6_26 _ _ _ h (hP.sub [1, 2, 0, 3] rfl) (hD.sub [1, 2, 0, 3] (by decide) rfl) hS (lv_sub hl [1, 2, 3, 4, 6, 7, 0] rfl))
      exact toW _ _ _ (L34 nn (-1 : Int32) (101 : Int32) (0 : Int32) f_t_aside f_t_s _ _ _ h hP hD hS (lv_sub hl [4, 5, 6, 3, 2, 1, 0] rfl))
    · replace h := bb_ifp c13 h
      refine lv_aload_n hx hb dX8_trap_15 rfl (lv_at hl 0 rfl) ?_
      refine lv_iconst (v := (0 : Int32)) hx hb dX8_trap_16 (by decide) ?_
      obtain ⟨r45, w46, hc47, h⟩ := bb_b2_o h
      refine bb_cwi (wr := [((a_t 3), .inl (cy 0, 155, .inl f_t_aside)), ((a_t 1), .inl (cy 0, 155, .inl f_t_s))]) (w1 := [((a_t 0), oX8 a_t v_t_isKept v_t_bestPost v_t_mostSeen v_t_taped v_t_from v_t_to v_t_isWrong), ((a_t 5), .inl (cy 0, 7, .inl w46))]) (va_runV (As := [.int (0 : Int32)]) (rest := []) ⟨hx, hb, hml, hown, hts⟩ (kX8_finds l dC dI cy s.heap.size a_t (0 : Int32) v_t_isKept v_t_bestPost v_t_mostSeen v_t_taped v_t_from v_t_to v_t_isWrong f_t_found r45 w46 hc47) (cwV 1 hts gX8_trap_X8_finds rfl rfl rfl kdX8_finds ⟨Nat.le_of_ble_eq_true rfl, Nat.le_of_ble_eq_true rfl⟩) (bb_preVw (va_recv hK hP (ci := 7) (q0 := 0) rfl rfl) (hP.sub (ws' := [((a_t 0), oX8 a_t v_t_isKept v_t_bestPost v_t_mostSeen v_t_taped v_t_from v_t_to v_t_isWrong), ((a_t 5), .inl (cy 0, 7, .inl f_t_found))]) [0, 2] rfl) hK (hD.sub (ws' := [((a_t 0), oX8 a_t v_t_isKept v_t_bestPost v_t_mostSeen v_t_taped v_t_from v_t_to v_t_isWrong), ((a_t 5), .inl (cy 0, 7, .inl f_t_found))]) [0, 2] (by decide) rfl)) rfl rfl hl.1 rfl (lv_room (Nat.le_of_ble_eq_true rfl)) dX8_trap_17 ⟨Nat.zero_le _, Nat.zero_le _⟩) hP hD hS hA [0, 2] [1, 3] rfl rfl (by decide) (by decide) (fun H locs hP hD hS => ?_)
      have hP : va_P (dC, dI) vwCl [((a_t 3), .inl (cy 0, 155, .inl f_t_aside)), ((a_t 1), .inl (cy 0, 155, .inl f_t_s)), ((a_t 0), oX8 a_t v_t_isKept v_t_bestPost v_t_mostSeen v_t_taped v_t_from v_t_to v_t_isWrong), ((a_t 5), .inl (cy 0, 7, .inl w46))] H := hP
      have hD : va_D A [((a_t 3), .inl (cy 0, 155, .inl f_t_aside)), ((a_t 1), .inl (cy 0, 155, .inl f_t_s)), ((a_t 0), oX8 a_t v_t_isKept v_t_bestPost v_t_mostSeen v_t_taped v_t_from v_t_to v_t_isWrong), ((a_t 5), .inl (cy 0, 7, .inl w46))] := hD
      obtain ⟨rfl, rfl, rfl, rfl⟩ := bb_some4 h
      have hP9 := hP.sub (ws' := [((a_t 0), oX8 a_t v_t_isKept v_t_bestPost v_t_mostSeen v_t_taped v_t_from v_t_to v_t_isWrong), ((a_t 3), .inl (cy 0, 155, .inl f_t_aside)), ((a_t 5), .inl (cy 0, 7, .inl w46)), ((a_t 1), .inl (cy 0, 155, .inl f_t_s))]) [2, 0, 3, 1] rfl
      have hD9 := hD.sub (ws' := [((a_t 0), oX8 a_t v_t_isKept v_t_bestPost v_t_mostSeen v_t_taped v_t_from v_t_to v_t_isWrong), ((a_t 3), .inl (cy 0, 155, .inl f_t_aside)), ((a_t 5), .inl (cy 0, 7, .inl w46)), ((a_t 1), .inl (cy 0, 155, .inl f_t_s))]) [2, 0, 3, 1] (by decide) rfl
      exact W.iret hx hb hr (fun t ht hW => ⟨⟨_, (), rfl, rfl, by rw [ht]; exact hP9, va_K.moved hW.alike hK, hD9⟩, hS.F ht⟩) hS.2.2 dX8_trap_20
/-! X8_ones -/
def uX8_ones_s4 (x0_3 : Int32) (rec4 : Int32 → Int32 → Option (Int32)) (x1_1 : Int32) (x2_2 : Int32) : Option (Int32) :=
  (if (8 : Int32) ≤ x2_2 then some x1_1 else rec4 (x1_1 + ((x0_3 >>> (x2_2 &&& 31)) &&& (1 : Int32))) (x2_2 + (1 : Int32)))
def uX8_ones (nn : Nat) (p1 : Int32) : Option (Int32) :=
  bb_loop2 (uX8_ones_s4 p1) nn (0 : Int32) (0 : Int32)
theorem kdX8_ones : yX8_ones.cls ≠ "java/lang/invoke/MethodHandle" ∧ yX8_ones.cls ≠ "java/lang/invoke/VarHandle" ∧ (parseMethodDescriptor yX8_ones.desc).map (fun d => d.parameters.length) = some 1 := by decide +kernel
set_option maxHeartbeats 4000000 in
set_option maxRecDepth 100000 in
theorem kX8_ones (l : Launch) (dC : Nat → ClassId) (dI : Nat → Nat → Nat) (cy : Nat → ClassId) (p1 : Int32) (nn : Nat) (r : Int32) (h : uX8_ones nn p1 = some r) : Met l yX8_ones wsX8_ones ({ frames := 0, cells := 0, slots := 0, locals := 0 }) (va_Pc [.int p1] (fun U => va_P (dC, dI) vwCl [] U.heap ∧ va_K (dC, dI) vwCl (tyX cy) U)) (vp_Si (fun r2 => r = r2)) 0 0 (fun _ => False) := by
  refine Met.ofW (cc := cX8_ones) (maxL := 3) (ret := (some .int)) (by decide) rfl ?_
  intro p e s m args below meth c s₁ B hml hv
  obtain ⟨rfl, hP, hK⟩ := hv
  have hx := B.exec
  have hb := B.bytes
  have hr := B.returns
  have hts := atoms_spec (ws := wsX8_ones) B.pre
  have hown : s.vm.findClass RX8 = some m.cls := findClass_of_methodNamed B.named
  have hlocks := B.notSynchronized
  have hl := lv_entry ([.int p1]) (n := 3) (Nat.le_of_ble_eq_true rfl)
  rw [lg_entry_eq]
  generalize (lg_sl ([.int p1]) ++ List.replicate (3 - (lg_sl ([.int p1])).length) Slot.unset).toArray = ls at hl ⊢
  have hl : lv_has ls 3 [(0, .int p1)] := hl
  unfold uX8_ones at h
  refine bb_cap (fun WW toW ofW => ?_)
  refine lv_iconst (v := (0 : Int32)) hx hb dX8_ones_0 (by decide) ?_
  refine lv_istore_n (lv' := [(1, .int (0 : Int32)), (0, .int p1)]) hx hb dX8_ones_1 rfl hl (by decide) rfl (fun ls hl => ?_)
  refine lv_iconst (v := (0 : Int32)) hx hb dX8_ones_2 (by decide) ?_
  refine lv_istore_n (lv' := [(2, .int (0 : Int32)), (1, .int (0 : Int32)), (0, .int p1)]) hx hb dX8_ones_3 rfl hl (by decide) rfl (fun ls hl => ?_)
  have L5 : ∀ (n : Nat) (x1_1 : Int32) (x2_2 : Int32) (ls : Array Slot), bb_loop2 (uX8_ones_s4 p1) n x1_1 x2_2 = some r → lv_has ls 3 [(0, .int p1), (1, .int x1_1), (2, .int x2_2)] → WW s.heap [] (F0 m 4 ls []) := by
    intro n
    induction n with
    | zero => intro x1_1 x2_2 ls h; exact (bb_no h).elim
    | succ n ih6 =>
      intro x1_1 x2_2 ls h hl
      refine ofW _ _ _ ?_
      obtain ⟨rec4, erec4, h⟩ := bb_loop2_o h
      unfold uX8_ones_s4 at h
      refine lv_iload_n hx hb dX8_ones_4 rfl (lv_at hl 2 rfl) ?_
      refine lv_bipush (v := (8 : Int32)) hx hb dX8_ones_5 (by decide) ?_
      refine lv_icmp_ge (tgt := 24) hx hb dX8_ones_7 (by decide) (fun c7 => ?_) (fun c7 => ?_)
      · replace h := bb_ifp c7 h
        refine lv_iload_n hx hb dX8_ones_24 rfl (lv_at hl 1 rfl) ?_
        obtain rfl := bb_some1 h
        exact W.iret hx hb hr (fun t ht hW => ⟨_, rfl, rfl, ht⟩) (fun q hq => by cases hq) dX8_ones_25
      · replace h := bb_ifn c7 h
        refine lv_iload_n hx hb dX8_ones_10 rfl (lv_at hl 1 rfl) ?_
        refine lv_iload_n hx hb dX8_ones_11 rfl (lv_at hl 0 rfl) ?_
        refine lv_iload_n hx hb dX8_ones_12 rfl (lv_at hl 2 rfl) ?_
        refine lv_ishr hx hb dX8_ones_13 ?_
        refine lv_iconst (v := (1 : Int32)) hx hb dX8_ones_14 (by decide) ?_
        refine lv_iand hx hb dX8_ones_15 ?_
        refine lv_iadd hx hb dX8_ones_16 ?_
        refine lv_istore_n (lv' := [(1, .int (x1_1 + ((p1 >>> (x2_2 &&& 31)) &&& (1 : Int32)))), (0, .int p1), (2, .int x2_2)]) hx hb dX8_ones_17 rfl hl (by decide) rfl (fun ls hl => ?_)
        refine lv_iinc (v := x2_2 + (1 : Int32)) (lv' := [(2, .int (x2_2 + (1 : Int32))), (1, .int (x1_1 + ((p1 >>> (x2_2 &&& 31)) &&& (1 : Int32)))), (0, .int p1)]) hx hb dX8_ones_18 hl (k := 2) rfl rfl (by decide) rfl (fun ls hl => ?_)
        refine lv_goto (tgt := 4) hx hb dX8_ones_21 (by decide) ?_
        rw [erec4] at h
        exact toW _ _ _ (ih6 (x1_1 + ((p1 >>> (x2_2 &&& 31)) &&& (1 : Int32))) (x2_2 + (1 : Int32)) _ h (lv_sub hl [2, 1, 0] rfl))
  exact toW _ _ _ (L5 nn (0 : Int32) (0 : Int32) _ h (lv_sub hl [2, 1, 0] rfl))
/-! X8_isEnough -/
def uX8_isEnough_s4 (nn : Nat) (x1_3 : Int32) (f_t_s_4 : Nat → Int32) (rec5 : Int32 → Int32 → Option (Int32)) (x2_1 : Int32) (x3_2 : Int32) : Option (Int32) :=
  (if (48 : Int32) ≤ x3_2 then bb_z x2_1 (some x2_1) else bb_b1 (uX8_seenBy nn x3_2 f_t_s_4) (fun (r10 : Int32) => bb_cut (fun (z13 : Int32) => rec5 z13 (x3_2 + (1 : Int32))) (fun k14 => bb_cut (fun (u15 : Unit) => k14 (0 : Int32)) (fun k16 => (if x2_1 = 0 then k16 () else bb_cut (fun (u18 : Unit) => k14 (1 : Int32)) (fun k19 => (if r10 = 0 then k19 () else (if (r10 &&& x1_3) = 0 then k16 () else k19 ()))))))))
def uX8_isEnough (nn : Nat) (p1 : Int32) (f_t_s : Nat → Int32) : Option (Int32) :=
  bb_loop2 (uX8_isEnough_s4 nn p1 f_t_s) nn (1 : Int32) (0 : Int32)
theorem kdX8_isEnough : yX8_isEnough.cls = RX8 ∧ yX8_isEnough.cls ≠ "java/lang/invoke/MethodHandle" ∧ yX8_isEnough.cls ≠ "java/lang/invoke/VarHandle" ∧ (parseMethodDescriptor yX8_isEnough.desc).map (fun d => d.parameters.length) = some 1 := by decide +kernel
set_option maxHeartbeats 4000000 in
set_option maxRecDepth 100000 in
theorem kX8_isEnough (l : Launch) (dC : Nat → ClassId) (dI : Nat → Nat → Nat) (cy : Nat → ClassId) (a_t : Nat → Nat) (p1 : Int32) (v_t_isKept : Int32) (v_t_bestPost : Int32) (v_t_mostSeen : Int32) (v_t_taped : Int32) (v_t_from : Int32) (v_t_to : Int32) (v_t_isWrong : Int32) (f_t_s : Nat → Int32) (nn : Nat) (r : Int32) (h : uX8_isEnough nn p1 f_t_s = some r) : Met l yX8_isEnough wsX8_isEnough ({ frames := 4, cells := 0, slots := 0, locals := 87 }) (va_Pc [.ref (a_t 0), .int p1] (fun U => va_P (dC, dI) vwCl [((a_t 0), oX8 a_t v_t_isKept v_t_bestPost v_t_mostSeen v_t_taped v_t_from v_t_to v_t_isWrong), ((a_t 1), .inl (cy 0, 155, .inl f_t_s))] U.heap ∧ va_K (dC, dI) vwCl (tyX cy) U)) (vp_Si (fun r2 => r = r2 ∧ narrow .boolean (.int r2) = .int r2)) 0 0 (fun _ => False) := by
  refine Met.ofW (cc := cX8_isEnough) (maxL := 5) (ret := (some .boolean)) (by decide) rfl ?_
  intro p e s m args below meth c s₁ B hml hv
  obtain ⟨rfl, hP, hK⟩ := hv
  have hx := B.exec
  have hb := B.bytes
  have hr := B.returns
  have hts := atoms_spec (ws := wsX8_isEnough) B.pre
  have hown : s.vm.findClass RX8 = some m.cls := findClass_of_methodNamed B.named
  have hlocks := B.notSynchronized
  have hl := lv_entry ([.ref (a_t 0), .int p1]) (n := 5) (Nat.le_of_ble_eq_true rfl)
  rw [lg_entry_eq]
  generalize (lg_sl ([.ref (a_t 0), .int p1]) ++ List.replicate (5 - (lg_sl ([.ref (a_t 0), .int p1])).length) Slot.unset).toArray = ls at hl ⊢
  have hl : lv_has ls 5 [(0, .ref (a_t 0)), (1, .int p1)] := hl
  unfold uX8_isEnough at h
  refine bb_cap (fun WW toW ofW => ?_)
  refine lv_iconst (v := (1 : Int32)) hx hb dX8_isEnough_0 (by decide) ?_
  refine lv_istore_n (lv' := [(2, .int (1 : Int32)), (0, .ref (a_t 0)), (1, .int p1)]) hx hb dX8_isEnough_1 rfl hl (by decide) rfl (fun ls hl => ?_)
  refine lv_iconst (v := (0 : Int32)) hx hb dX8_isEnough_2 (by decide) ?_
  refine lv_istore_n (lv' := [(3, .int (0 : Int32)), (2, .int (1 : Int32)), (0, .ref (a_t 0)), (1, .int p1)]) hx hb dX8_isEnough_3 rfl hl (by decide) rfl (fun ls hl => ?_)
  have L6 : ∀ (n : Nat) (x2_1 : Int32) (x3_2 : Int32) (ls : Array Slot), bb_loop2 (uX8_isEnough_s4 nn p1 f_t_s) n x2_1 x3_2 = some r → lv_has ls 5 [(0, .ref (a_t 0)), (1, .int p1), (2, .int x2_1), (3, .int x3_2)] → WW s.heap [] (F0 m 4 ls []) := by
    intro n
    induction n with
    | zero => intro x2_1 x3_2 ls h; exact (bb_no h).elim
    | succ n ih7 =>
      intro x2_1 x3_2 ls h hl
      refine ofW _ _ _ ?_
      obtain ⟨rec5, erec5, h⟩ := bb_loop2_o h
      unfold uX8_isEnough_s4 at h
      refine lv_iload_n hx hb dX8_isEnough_4 rfl (lv_at hl 3 rfl) ?_
      refine lv_bipush (v := (48 : Int32)) hx hb dX8_isEnough_5 (by decide) ?_
      refine lv_icmp_ge (tgt := 45) hx hb dX8_isEnough_7 (by decide) (fun c8 => ?_) (fun c8 => ?_)
      · replace h := bb_ifp c8 h
        refine lv_iload_n hx hb dX8_isEnough_45 rfl (lv_at hl 2 rfl) ?_
        obtain ⟨hz9, h⟩ := bb_z_o h
        obtain rfl := bb_some1 h
        exact W.zret hx hb hr hz9 (fun t ht hW => ⟨_, rfl, ⟨rfl, hz9⟩, ht⟩) (fun q hq => by cases hq) dX8_isEnough_46
      · replace h := bb_ifn c8 h
        refine lv_aload_n hx hb dX8_isEnough_10 rfl (lv_at hl 0 rfl) ?_
        refine lv_iload_n hx hb dX8_isEnough_11 rfl (lv_at hl 3 rfl) ?_
        obtain ⟨r10, hc11, h⟩ := bb_b1_o h
        refine vp_callSi (W.runV (As := [.int x3_2]) (rest := []) ⟨hx, hb, hml, hown, hts⟩ (kX8_seenBy l dC dI cy a_t x3_2 v_t_isKept v_t_bestPost v_t_mostSeen v_t_taped v_t_from v_t_to v_t_isWrong f_t_s nn r10 hc11) (cwV 1 hts gX8_isEnough_X8_seenBy rfl rfl rfl kdX8_seenBy ⟨Nat.le_of_ble_eq_true rfl, Nat.le_of_ble_eq_true rfl⟩) (bb_preV (va_recv hK hP (ci := 7) (q0 := 0) rfl rfl) hP hK) rfl rfl hl.1 rfl (lv_room (Nat.le_of_ble_eq_true rfl)) dX8_isEnough_12 ⟨Nat.zero_le _, Nat.zero_le _⟩) (fun t12 et12 => ?_)
        obtain rfl := et12
        refine lv_istore (lv' := [(4, .int r10), (0, .ref (a_t 0)), (1, .int p1), (2, .int x2_1), (3, .int x3_2)]) hx hb dX8_isEnough_15 hl (by decide) rfl (fun ls hl => ?_)
        refine lv_iload_n hx hb dX8_isEnough_17 rfl (lv_at hl 3 rfl) ?_
        obtain ⟨k14, ek14, h⟩ := bb_cut_o h
        have Jk14 : ∀ (z13 : Int32) (ls : Array Slot), k14 z13 = some r → lv_has ls 5 [(0, .ref (a_t 0)), (1, .int p1), (3, .int x3_2)] → WW s.heap [] (F0 m 38 ls [.int z13]) := by
          intro z13 ls h hl
          refine ofW _ _ _ ?_
          subst ek14
          refine lv_istore_n (lv' := [(2, .int z13), (0, .ref (a_t 0)), (1, .int p1), (3, .int x3_2)]) hx hb dX8_isEnough_38 rfl hl (by decide) rfl (fun ls hl => ?_)
          refine lv_iinc (v := x3_2 + (1 : Int32)) (lv' := [(3, .int (x3_2 + (1 : Int32))), (2, .int z13), (0, .ref (a_t 0)), (1, .int p1)]) hx hb dX8_isEnough_39 hl (k := 3) rfl rfl (by decide) rfl (fun ls hl => ?_)
          refine lv_goto (tgt := 4) hx hb dX8_isEnough_42 (by decide) ?_
          rw [erec5] at h
          exact toW _ _ _ (ih7 z13 (x3_2 + (1 : Int32)) _ h (lv_sub hl [2, 3, 1, 0] rfl))
        obtain ⟨k16, ek16, h⟩ := bb_cut_o h
        have Jk16 : ∀ (u15 : Unit) (ls : Array Slot), k16 u15 = some r → lv_has ls 5 [(0, .ref (a_t 0)), (1, .int p1), (3, .int x3_2)] → WW s.heap [] (F0 m 37 ls []) := by
          intro u15 ls h hl
          refine ofW _ _ _ ?_
          subst ek16
          refine lv_iconst (v := (0 : Int32)) hx hb dX8_isEnough_37 (by decide) ?_
          exact toW _ _ _ (Jk14 (0 : Int32) _ h (lv_sub hl [0, 1, 2] rfl))
        refine lv_if_eq (tgt := 37) hx hb dX8_isEnough_18 (by decide) (fun c17 => ?_) (fun c17 => ?_)
        · replace h := bb_ifp c17 h
          exact toW _ _ _ (Jk16 () _ h (lv_sub hl [1, 2, 4] rfl))
        · replace h := bb_ifn c17 h
          refine lv_iload hx hb dX8_isEnough_21 (lv_at hl 0 rfl) ?_
          obtain ⟨k19, ek19, h⟩ := bb_cut_o h
          have Jk19 : ∀ (u18 : Unit) (ls : Array Slot), k19 u18 = some r → lv_has ls 5 [(0, .ref (a_t 0)), (1, .int p1), (3, .int x3_2)] → WW s.heap [] (F0 m 33 ls []) := by
            intro u18 ls h hl
            refine ofW _ _ _ ?_
            subst ek19
            refine lv_iconst (v := (1 : Int32)) hx hb dX8_isEnough_33 (by decide) ?_
            refine lv_goto (tgt := 38) hx hb dX8_isEnough_34 (by decide) ?_
            exact toW _ _ _ (Jk14 (1 : Int32) _ h (lv_sub hl [0, 1, 2] rfl))
          refine lv_if_eq (tgt := 33) hx hb dX8_isEnough_23 (by decide) (fun c20 => ?_) (fun c20 => ?_)
          · replace h := bb_ifp c20 h
            exact toW _ _ _ (Jk19 () _ h (lv_sub hl [1, 2, 4] rfl))
          · replace h := bb_ifn c20 h
            refine lv_iload hx hb dX8_isEnough_26 (lv_at hl 0 rfl) ?_
            refine lv_iload_n hx hb dX8_isEnough_28 rfl (lv_at hl 2 rfl) ?_
            refine lv_iand hx hb dX8_isEnough_29 ?_
            refine lv_if_eq (tgt := 37) hx hb dX8_isEnough_30 (by decide) (fun c21 => ?_) (fun c21 => ?_)
            · replace h := bb_ifp c21 h
              exact toW _ _ _ (Jk16 () _ h (lv_sub hl [1, 2, 4] rfl))
            · replace h := bb_ifn c21 h
              exact toW _ _ _ (Jk19 () _ h (lv_sub hl [1, 2, 4] rfl))
  exact toW _ _ _ (L6 nn (1 : Int32) (0 : Int32) _ h (lv_sub hl [2, 3, 1, 0] rfl))
/-! X8_enough -/
def uX8_enough_s5 (nn : Nat) (f_t_s_3 : Nat → Int32) (rec4 : Int32 → Int32 → Option (Int32)) (x1_1 : Int32) (x2_2 : Int32) : Option (Int32) :=
  (if (16 : Int32) ≤ x2_2 then some x1_1 else bb_b1 (uX8_ones nn x2_2) (fun (r8 : Int32) => bb_b1 (uX8_ones nn x1_1) (fun (r11 : Int32) => bb_cut (fun (z14 : Int32) => bb_b1 (uX8_isEnough nn x2_2 f_t_s_3) (fun (r16 : Int32) => bb_cut (fun (z20 : Int32) => rec4 z20 (x2_2 + (1 : Int32))) (fun k21 => bb_cut (fun (u22 : Unit) => k21 x1_1) (fun k23 => (if r16 = 0 then k23 () else bb_cut (fun (u25 : Unit) => k21 x2_2) (fun k26 => (if z14 = 0 then (if x2_2 = (15 : Int32) then (if x1_1 = (15 : Int32) then k26 () else k23 ()) else k23 ()) else k26 ()))))))) (fun k15 => (if r11 ≤ r8 then k15 (0 : Int32) else k15 (1 : Int32))))))
def uX8_enough (nn : Nat) (f_t_s : Nat → Int32) : Option (Int32) :=
  bb_loop2 (uX8_enough_s5 nn f_t_s) nn (15 : Int32) (0 : Int32)
theorem kdX8_enough : yX8_enough.cls = RX8 ∧ yX8_enough.cls ≠ "java/lang/invoke/MethodHandle" ∧ yX8_enough.cls ≠ "java/lang/invoke/VarHandle" ∧ (parseMethodDescriptor yX8_enough.desc).map (fun d => d.parameters.length) = some 0 := by decide +kernel
set_option maxHeartbeats 4000000 in
set_option maxRecDepth 100000 in
theorem kX8_enough (l : Launch) (dC : Nat → ClassId) (dI : Nat → Nat → Nat) (cy : Nat → ClassId) (a_t : Nat → Nat) (v_t_isKept : Int32) (v_t_bestPost : Int32) (v_t_mostSeen : Int32) (v_t_taped : Int32) (v_t_from : Int32) (v_t_to : Int32) (v_t_isWrong : Int32) (f_t_s : Nat → Int32) (nn : Nat) (r : Int32) (h : uX8_enough nn f_t_s = some r) : Met l yX8_enough wsX8_enough ({ frames := 5, cells := 0, slots := 0, locals := 111 }) (va_Pc [.ref (a_t 0)] (fun U => va_P (dC, dI) vwCl [((a_t 0), oX8 a_t v_t_isKept v_t_bestPost v_t_mostSeen v_t_taped v_t_from v_t_to v_t_isWrong), ((a_t 1), .inl (cy 0, 155, .inl f_t_s))] U.heap ∧ va_K (dC, dI) vwCl (tyX cy) U)) (vp_Si (fun r2 => r = r2)) 0 0 (fun _ => False) := by
  refine Met.ofW (cc := cX8_enough) (maxL := 4) (ret := (some .int)) (by decide) rfl ?_
  intro p e s m args below meth c s₁ B hml hv
  obtain ⟨rfl, hP, hK⟩ := hv
  have hx := B.exec
  have hb := B.bytes
  have hr := B.returns
  have hts := atoms_spec (ws := wsX8_enough) B.pre
  have hown : s.vm.findClass RX8 = some m.cls := findClass_of_methodNamed B.named
  have hlocks := B.notSynchronized
  have hl := lv_entry ([.ref (a_t 0)]) (n := 4) (Nat.le_of_ble_eq_true rfl)
  rw [lg_entry_eq]
  generalize (lg_sl ([.ref (a_t 0)]) ++ List.replicate (4 - (lg_sl ([.ref (a_t 0)])).length) Slot.unset).toArray = ls at hl ⊢
  have hl : lv_has ls 4 [(0, .ref (a_t 0))] := hl
  unfold uX8_enough at h
  refine bb_cap (fun WW toW ofW => ?_)
  refine lv_bipush (v := (15 : Int32)) hx hb dX8_enough_0 (by decide) ?_
  refine lv_istore_n (lv' := [(1, .int (15 : Int32)), (0, .ref (a_t 0))]) hx hb dX8_enough_2 rfl hl (by decide) rfl (fun ls hl => ?_)
  refine lv_iconst (v := (0 : Int32)) hx hb dX8_enough_3 (by decide) ?_
  refine lv_istore_n (lv' := [(2, .int (0 : Int32)), (1, .int (15 : Int32)), (0, .ref (a_t 0))]) hx hb dX8_enough_4 rfl hl (by decide) rfl (fun ls hl => ?_)
  have L5 : ∀ (n : Nat) (x1_1 : Int32) (x2_2 : Int32) (ls : Array Slot), bb_loop2 (uX8_enough_s5 nn f_t_s) n x1_1 x2_2 = some r → lv_has ls 4 [(0, .ref (a_t 0)), (1, .int x1_1), (2, .int x2_2)] → WW s.heap [] (F0 m 5 ls []) := by
    intro n
    induction n with
    | zero => intro x1_1 x2_2 ls h; exact (bb_no h).elim
    | succ n ih6 =>
      intro x1_1 x2_2 ls h hl
      refine ofW _ _ _ ?_
      obtain ⟨rec4, erec4, h⟩ := bb_loop2_o h
      unfold uX8_enough_s5 at h
      refine lv_iload_n hx hb dX8_enough_5 rfl (lv_at hl 2 rfl) ?_
      refine lv_bipush (v := (16 : Int32)) hx hb dX8_enough_6 (by decide) ?_
      refine lv_icmp_ge (tgt := 64) hx hb dX8_enough_8 (by decide) (fun c7 => ?_) (fun c7 => ?_)
      · replace h := bb_ifp c7 h
        refine lv_iload_n hx hb dX8_enough_64 rfl (lv_at hl 1 rfl) ?_
        obtain rfl := bb_some1 h
        exact W.iret hx hb hr (fun t ht hW => ⟨_, rfl, rfl, ht⟩) (fun q hq => by cases hq) dX8_enough_65
      · replace h := bb_ifn c7 h
        refine lv_iload_n hx hb dX8_enough_11 rfl (lv_at hl 2 rfl) ?_
        obtain ⟨r8, hc9, h⟩ := bb_b1_o h
        refine vp_callSi (W.runS (As := [.int x2_2]) (rest := []) ⟨hx, hb, hml, hown, hts⟩ (kX8_ones l dC dI cy x2_2 nn r8 hc9) (va_cwS 1 hts gX8_enough_X8_ones rfl rfl rfl kdX8_ones ⟨Nat.le_of_ble_eq_true rfl, Nat.le_of_ble_eq_true rfl⟩) (bb_preS (hP.sub (ws' := []) [] rfl) hK) rfl rfl hl.1 rfl (lv_room (Nat.le_of_ble_eq_true rfl)) dX8_enough_12 ⟨Nat.zero_le _, Nat.zero_le _⟩) (fun t10 et10 => ?_)
        obtain rfl := et10
        refine lv_iload_n hx hb dX8_enough_15 rfl (lv_at hl 1 rfl) ?_
        obtain ⟨r11, hc12, h⟩ := bb_b1_o h
        refine vp_callSi (W.runS (As := [.int x1_1]) (rest := [.int r8]) ⟨hx, hb, hml, hown, hts⟩ (kX8_ones l dC dI cy x1_1 nn r11 hc12) (va_cwS 1 hts gX8_enough_X8_ones rfl rfl rfl kdX8_ones ⟨Nat.le_of_ble_eq_true rfl, Nat.le_of_ble_eq_true rfl⟩) (bb_preS (hP.sub (ws' := []) [] rfl) hK) rfl rfl hl.1 rfl (lv_room (Nat.le_of_ble_eq_true rfl)) dX8_enough_16 ⟨Nat.zero_le _, Nat.zero_le _⟩) (fun t13 et13 => ?_)
        obtain rfl := et13
        obtain ⟨k15, ek15, h⟩ := bb_cut_o h
        have Jk15 : ∀ (z14 : Int32) (ls : Array Slot), k15 z14 = some r → lv_has ls 4 [(0, .ref (a_t 0)), (1, .int x1_1), (2, .int x2_2)] → WW s.heap [] (F0 m 27 ls [.int z14]) := by
          intro z14 ls h hl
          refine ofW _ _ _ ?_
          subst ek15
          refine lv_istore_n (lv' := [(3, .int z14), (0, .ref (a_t 0)), (1, .int x1_1), (2, .int x2_2)]) hx hb dX8_enough_27 rfl hl (by decide) rfl (fun ls hl => ?_)
          refine lv_aload_n hx hb dX8_enough_28 rfl (lv_at hl 1 rfl) ?_
          refine lv_iload_n hx hb dX8_enough_29 rfl (lv_at hl 3 rfl) ?_
          obtain ⟨r16, hc17, h⟩ := bb_b1_o h
          refine vp_callSi (W.runV (As := [.int x2_2]) (rest := []) ⟨hx, hb, hml, hown, hts⟩ (kX8_isEnough l dC dI cy a_t x2_2 v_t_isKept v_t_bestPost v_t_mostSeen v_t_taped v_t_from v_t_to v_t_isWrong f_t_s nn r16 hc17) (cwV 1 hts gX8_enough_X8_isEnough rfl rfl rfl kdX8_isEnough ⟨Nat.le_of_ble_eq_true rfl, Nat.le_of_ble_eq_true rfl⟩) (bb_preV (va_recv hK hP (ci := 7) (q0 := 0) rfl rfl) hP hK) rfl rfl hl.1 rfl (lv_room (Nat.le_of_ble_eq_true rfl)) dX8_enough_30 ⟨Nat.zero_le _, Nat.zero_le _⟩) (fun t18 et18 => ?_)
          obtain ⟨rfl, hz19⟩ := et18
          obtain ⟨k21, ek21, h⟩ := bb_cut_o h
          have Jk21 : ∀ (z20 : Int32) (ls : Array Slot), k21 z20 = some r → lv_has ls 4 [(0, .ref (a_t 0)), (2, .int x2_2)] → WW s.heap [] (F0 m 57 ls [.int z20]) := by
            intro z20 ls h hl
            refine ofW _ _ _ ?_
            subst ek21
            refine lv_istore_n (lv' := [(1, .int z20), (0, .ref (a_t 0)), (2, .int x2_2)]) hx hb dX8_enough_57 rfl hl (by decide) rfl (fun ls hl => ?_)
            refine lv_iinc (v := x2_2 + (1 : Int32)) (lv' := [(2, .int (x2_2 + (1 : Int32))), (1, .int z20), (0, .ref (a_t 0))]) hx hb dX8_enough_58 hl (k := 2) rfl rfl (by decide) rfl (fun ls hl => ?_)
            refine lv_goto (tgt := 5) hx hb dX8_enough_61 (by decide) ?_
            rw [erec4] at h
            exact toW _ _ _ (ih6 z20 (x2_2 + (1 : Int32)) _ h (lv_sub hl [2, 1, 0] rfl))
          obtain ⟨k23, ek23, h⟩ := bb_cut_o h
          have Jk23 : ∀ (u22 : Unit) (ls : Array Slot), k23 u22 = some r → lv_has ls 4 [(0, .ref (a_t 0)), (1, .int x1_1), (2, .int x2_2)] → WW s.heap [] (F0 m 56 ls []) := by
            intro u22 ls h hl
            refine ofW _ _ _ ?_
            subst ek23
            refine lv_iload_n hx hb dX8_enough_56 rfl (lv_at hl 1 rfl) ?_
            exact toW _ _ _ (Jk21 x1_1 _ h (lv_sub hl [0, 2] rfl))
          refine lv_if_eq (tgt := 56) hx hb dX8_enough_33 (by decide) (fun c24 => ?_) (fun c24 => ?_)
          · replace h := bb_ifp c24 h
            exact toW _ _ _ (Jk23 () _ h (lv_sub hl [1, 2, 3] rfl))
          · replace h := bb_ifn c24 h
            refine lv_iload_n hx hb dX8_enough_36 rfl (lv_at hl 0 rfl) ?_
            obtain ⟨k26, ek26, h⟩ := bb_cut_o h
            have Jk26 : ∀ (u25 : Unit) (ls : Array Slot), k26 u25 = some r → lv_has ls 4 [(0, .ref (a_t 0)), (2, .int x2_2)] → WW s.heap [] (F0 m 52 ls []) := by
              intro u25 ls h hl
              refine ofW _ _ _ ?_
              subst ek26
              refine lv_iload_n hx hb dX8_enough_52 rfl (lv_at hl 1 rfl) ?_
              refine lv_goto (tgt := 57) hx hb dX8_enough_53 (by decide) ?_
              exact toW _ _ _ (Jk21 x2_2 _ h (lv_sub hl [0, 1] rfl))
            refine lv_if_ne (tgt := 52) hx hb dX8_enough_37 (by decide) (fun c27 => ?_) (fun c27 => ?_)
            · replace h := bb_ifn c27 h
              exact toW _ _ _ (Jk26 () _ h (lv_sub hl [1, 3] rfl))
            · replace h := bb_ifp c27 h
              refine lv_iload_n hx hb dX8_enough_40 rfl (lv_at hl 3 rfl) ?_
              refine lv_bipush (v := (15 : Int32)) hx hb dX8_enough_41 (by decide) ?_
              refine lv_icmp_ne (tgt := 56) hx hb dX8_enough_43 (by decide) (fun c28 => ?_) (fun c28 => ?_)
              · replace h := bb_ifn c28 h
                exact toW _ _ _ (Jk23 () _ h (lv_sub hl [1, 2, 3] rfl))
              · replace h := bb_ifp c28 h
                refine lv_iload_n hx hb dX8_enough_46 rfl (lv_at hl 2 rfl) ?_
                refine lv_bipush (v := (15 : Int32)) hx hb dX8_enough_47 (by decide) ?_
                refine lv_icmp_ne (tgt := 56) hx hb dX8_enough_49 (by decide) (fun c29 => ?_) (fun c29 => ?_)
                · replace h := bb_ifn c29 h
                  exact toW _ _ _ (Jk23 () _ h (lv_sub hl [1, 2, 3] rfl))
                · replace h := bb_ifp c29 h
                  exact toW _ _ _ (Jk26 () _ h (lv_sub hl [1, 3] rfl))
        refine lv_icmp_ge (tgt := 26) hx hb dX8_enough_19 (by decide) (fun c30 => ?_) (fun c30 => ?_)
        · replace h := bb_ifp c30 h
          refine lv_iconst (v := (0 : Int32)) hx hb dX8_enough_26 (by decide) ?_
          exact toW _ _ _ (Jk15 (0 : Int32) _ h (lv_sub hl [0, 1, 2] rfl))
        · replace h := bb_ifn c30 h
          refine lv_iconst (v := (1 : Int32)) hx hb dX8_enough_22 (by decide) ?_
          refine lv_goto (tgt := 27) hx hb dX8_enough_23 (by decide) ?_
          exact toW _ _ _ (Jk15 (1 : Int32) _ h (lv_sub hl [0, 1, 2] rfl))
  exact toW _ _ _ (L5 nn (15 : Int32) (0 : Int32) _ h (lv_sub hl [2, 1, 0] rfl))
/-! X8_isSheet -/
def uX8_isSheet (p1 : Int32) : Option (Int32) :=
  bb_b1 (uX8_in p1.toInt64 (0 : Int64) (3 : Int64)) (fun (r1 : Int32) => some r1)
theorem kdX8_isSheet : yX8_isSheet.cls ≠ "java/lang/invoke/MethodHandle" ∧ yX8_isSheet.cls ≠ "java/lang/invoke/VarHandle" ∧ (parseMethodDescriptor yX8_isSheet.desc).map (fun d => d.parameters.length) = some 1 := by decide +kernel
set_option maxHeartbeats 4000000 in
set_option maxRecDepth 100000 in
theorem kX8_isSheet (l : Launch) (dC : Nat → ClassId) (dI : Nat → Nat → Nat) (cy : Nat → ClassId) (p1 : Int32) (r : Int32) (h : uX8_isSheet p1 = some r) : Met l yX8_isSheet wsX8_isSheet ({ frames := 1, cells := 0, slots := 0, locals := 25 }) (va_Pc [.int p1] (fun U => va_P (dC, dI) vwCl [] U.heap ∧ va_K (dC, dI) vwCl (tyX cy) U)) (vp_Si (fun r2 => r = r2 ∧ narrow .boolean (.int r2) = .int r2)) 0 0 (fun _ => False) := by
  refine Met.ofW (cc := cX8_isSheet) (maxL := 1) (ret := (some .boolean)) (by decide) rfl ?_
  intro p e s m args below meth c s₁ B hml hv
  obtain ⟨rfl, hP, hK⟩ := hv
  have hx := B.exec
  have hb := B.bytes
  have hr := B.returns
  have hts := atoms_spec (ws := wsX8_isSheet) B.pre
  have hown : s.vm.findClass RX8 = some m.cls := findClass_of_methodNamed B.named
  have hlocks := B.notSynchronized
  have lk1 := hts (Cond.constantLong RX8 62 (3)) (List.mem_of_getElem? (i := 1) rfl)
  have hl := lv_entry ([.int p1]) (n := 1) (Nat.le_of_ble_eq_true rfl)
  rw [lg_entry_eq]
  generalize (lg_sl ([.int p1]) ++ List.replicate (1 - (lg_sl ([.int p1])).length) Slot.unset).toArray = ls at hl ⊢
  have hl : lv_has ls 1 [(0, .int p1)] := hl
  unfold uX8_isSheet at h
  refine bb_cap (fun WW toW ofW => ?_)
  refine lv_iload_n hx hb dX8_isSheet_0 rfl (lv_at hl 0 rfl) ?_
  refine lv_i2l hx hb dX8_isSheet_1 rfl ?_
  refine lv_lconst (v := (0 : Int64)) hx hb dX8_isSheet_2 (by decide) ?_
  refine lv_ldc2 (v := (3 : Int64)) hx hb hown lk1 dX8_isSheet_3 ?_
  obtain ⟨r1, hc2, h⟩ := bb_b1_o h
  refine vp_callSi (W.runS (As := [.long p1.toInt64, .long (0 : Int64), .long (3 : Int64)]) (rest := []) ⟨hx, hb, hml, hown, hts⟩ (kX8_in l dC dI cy p1.toInt64 (0 : Int64) (3 : Int64) r1 hc2) (va_cwS 3 hts gX8_isSheet_X8_in rfl rfl rfl kdX8_in ⟨Nat.le_of_ble_eq_true rfl, Nat.le_of_ble_eq_true rfl⟩) (bb_preS hP hK) rfl rfl hl.1 rfl (lv_room (Nat.le_of_ble_eq_true rfl)) dX8_isSheet_6 ⟨Nat.zero_le _, Nat.zero_le _⟩) (fun t3 et3 => ?_)
  obtain ⟨rfl, hz4⟩ := et3
  obtain rfl := bb_some1 h
  exact W.zret hx hb hr hz4 (fun t ht hW => ⟨_, rfl, ⟨rfl, hz4⟩, ht⟩) (fun q hq => by cases hq) dX8_isSheet_9
/-! X8_lacks -/
def uX8_lacks (p1 : Int32) (f_t_bitsOf : Nat → Int32) : Option (Int32) :=
  bb_b1 (uX8_isSheet p1) (fun (r1 : Int32) => (if r1 = 0 then some (0 : Int32) else bb_ix p1 4 ((if (f_t_bitsOf p1.toNatClampNeg) = 0 then some (5 : Int32) else some (-1 : Int32)))))
theorem kdX8_lacks : yX8_lacks.cls = RX8 ∧ yX8_lacks.cls ≠ "java/lang/invoke/MethodHandle" ∧ yX8_lacks.cls ≠ "java/lang/invoke/VarHandle" ∧ (parseMethodDescriptor yX8_lacks.desc).map (fun d => d.parameters.length) = some 1 := by decide +kernel
set_option maxHeartbeats 4000000 in
set_option maxRecDepth 100000 in
theorem kX8_lacks (l : Launch) (dC : Nat → ClassId) (dI : Nat → Nat → Nat) (cy : Nat → ClassId) (a_t : Nat → Nat) (p1 : Int32) (v_t_isKept : Int32) (v_t_bestPost : Int32) (v_t_mostSeen : Int32) (v_t_taped : Int32) (v_t_from : Int32) (v_t_to : Int32) (v_t_isWrong : Int32) (f_t_bitsOf : Nat → Int32) (r : Int32) (h : uX8_lacks p1 f_t_bitsOf = some r) : Met l yX8_lacks wsX8_lacks ({ frames := 2, cells := 0, slots := 0, locals := 45 }) (va_Pc [.ref (a_t 0), .int p1] (fun U => va_P (dC, dI) vwCl [((a_t 0), oX8 a_t v_t_isKept v_t_bestPost v_t_mostSeen v_t_taped v_t_from v_t_to v_t_isWrong), ((a_t 17), .inl (cy 0, 4, .inl f_t_bitsOf))] U.heap ∧ va_K (dC, dI) vwCl (tyX cy) U)) (vp_Si (fun r2 => r = r2)) 0 0 (fun _ => False) := by
  refine Met.ofW (cc := cX8_lacks) (maxL := 2) (ret := (some .int)) (by decide) rfl ?_
  intro p e s m args below meth c s₁ B hml hv
  obtain ⟨rfl, hP, hK⟩ := hv
  have hx := B.exec
  have hb := B.bytes
  have hr := B.returns
  have hts := atoms_spec (ws := wsX8_lacks) B.pre
  have hown : s.vm.findClass RX8 = some m.cls := findClass_of_methodNamed B.named
  have hlocks := B.notSynchronized
  have iwX8 : ∀ w ∈ wsX80, w ∈ wsX8_lacks := fun w h9 => List.mem_cons_of_mem _ (List.mem_append_right _ (h9))
  have lk1 := hts (Cond.fieldLink RX8 39 "BathBorderModel" "bitsOf" "[I") (List.mem_of_getElem? (i := 1) rfl)
  have hl := lv_entry ([.ref (a_t 0), .int p1]) (n := 2) (Nat.le_of_ble_eq_true rfl)
  rw [lg_entry_eq]
  generalize (lg_sl ([.ref (a_t 0), .int p1]) ++ List.replicate (2 - (lg_sl ([.ref (a_t 0), .int p1])).length) Slot.unset).toArray = ls at hl ⊢
  have hl : lv_has ls 2 [(0, .ref (a_t 0)), (1, .int p1)] := hl
  unfold uX8_lacks at h
  refine bb_cap (fun WW toW ofW => ?_)
  refine lv_iload_n hx hb dX8_lacks_0 rfl (lv_at hl 1 rfl) ?_
  obtain ⟨r1, hc2, h⟩ := bb_b1_o h
  refine vp_callSi (W.runS (As := [.int p1]) (rest := []) ⟨hx, hb, hml, hown, hts⟩ (kX8_isSheet l dC dI cy p1 r1 hc2) (va_cwS 1 hts gX8_lacks_X8_isSheet rfl rfl rfl kdX8_isSheet ⟨Nat.le_of_ble_eq_true rfl, Nat.le_of_ble_eq_true rfl⟩) (bb_preS (hP.sub (ws' := []) [] rfl) hK) rfl rfl hl.1 rfl (lv_room (Nat.le_of_ble_eq_true rfl)) dX8_lacks_1 ⟨Nat.zero_le _, Nat.zero_le _⟩) (fun t3 et3 => ?_)
  obtain ⟨rfl, hz4⟩ := et3
  refine lv_if_ne (tgt := 11) hx hb dX8_lacks_4 (by decide) (fun c5 => ?_) (fun c5 => ?_)
  · replace h := bb_ifn c5 h
    refine lv_aload_n hx hb dX8_lacks_11 rfl (lv_at hl 0 rfl) ?_
    refine va_get (D := (dC, dI)) (ci := 7) (v := .ref (a_t 17)) (C := RX8) (T := TX8) (N := 20) hx hb hts iwX8 hown hK hP 0 rfl rfl 16 (by decide) lk1 (fun _ h9 => h9) rfl dX8_lacks_12 ?_
    refine lv_iload_n hx hb dX8_lacks_15 rfl (lv_at hl 1 rfl) ?_
    obtain ⟨hi6, h⟩ := bb_ix_o h
    refine va_iald hx hb hK hP 1 0 rfl rfl hi6 dX8_lacks_16 ?_
    refine lv_if_ne (tgt := 24) hx hb dX8_lacks_17 (by decide) (fun c7 => ?_) (fun c7 => ?_)
    · replace h := bb_ifn c7 h
      refine lv_iconst (v := (-1 : Int32)) hx hb dX8_lacks_24 (by decide) ?_
      obtain rfl := bb_some1 h
      exact W.iret hx hb hr (fun t ht hW => ⟨_, rfl, rfl, ht⟩) (fun q hq => by cases hq) dX8_lacks_25
    · replace h := bb_ifp c7 h
      refine lv_iconst (v := (5 : Int32)) hx hb dX8_lacks_20 (by decide) ?_
      refine lv_goto (tgt := 25) hx hb dX8_lacks_21 (by decide) ?_
      obtain rfl := bb_some1 h
      exact W.iret hx hb hr (fun t ht hW => ⟨_, rfl, rfl, ht⟩) (fun q hq => by cases hq) dX8_lacks_25
  · replace h := bb_ifp c5 h
    refine lv_iconst (v := (0 : Int32)) hx hb dX8_lacks_7 (by decide) ?_
    refine lv_goto (tgt := 25) hx hb dX8_lacks_8 (by decide) ?_
    obtain rfl := bb_some1 h
    exact W.iret hx hb hr (fun t ht hW => ⟨_, rfl, rfl, ht⟩) (fun q hq => by cases hq) dX8_lacks_25
/-! X8_fits -/
def uX8_fits_s62 (x5_36 : Int32) (f_t_s_41 : Nat → Int32) (k_110 : Int32 → Option (Int32 × (Nat → Int32) × (Nat → Int32) × (Nat → Int32))) (rec43 : Int32 → Int32 → Option (Int32 × (Nat → Int32) × (Nat → Int32) × (Nat → Int32))) (x3_32 : Int32) (x6_33 : Int32) : Option (Int32 × (Nat → Int32) × (Nat → Int32) × (Nat → Int32)) :=
  (if (f_t_s_41 (1 : Int32).toNatClampNeg) ≤ x6_33 then k_110 x3_32 else bb_cut (fun (z47 : Int32) => rec43 (x3_32 &&& z47) (x6_33 + (1 : Int32))) (fun k48 => bb_cut (fun (u49 : Unit) => k48 (-1 : Int32)) (fun k50 => (if x5_36 = (-1 : Int32) then k50 () else bb_b1 (uX8_its x6_33 (3 : Int32) f_t_s_41) (fun (r52 : Int32) => (if x5_36 = r52 then k50 () else k48 (((1 : Int32) <<< (x6_33 &&& 31)) ^^^ (-1 : Int32))))))))
def uX8_fits_s34 (nn : Nat) (x1_16 : Int32) (f_t_number_20 : Nat → Int32) (f_t_sizeOf_21 : Nat → Int32) (k_120 : Int32 → (Nat → Int32) → Option (Int32 × (Nat → Int32) × (Nat → Int32) × (Nat → Int32))) (rec22 : Int32 → Int32 → (Nat → Int32) → Option (Int32 × (Nat → Int32) × (Nat → Int32) × (Nat → Int32))) (x3_13 : Int32) (x4_14 : Int32) (f_t_s_15 : Nat → Int32) : Option (Int32 × (Nat → Int32) × (Nat → Int32) × (Nat → Int32)) :=
  bb_ix x1_16 4 ((if (f_t_sizeOf_21 x1_16.toNatClampNeg) ≤ x4_14 then k_120 x3_13 f_t_s_15 else bb_ix (((40 : Int32) * x1_16) + x4_14) 160 (bb_cut (fun (x3_28 : Int32) => bb_b1 (uX8_aMinute nn f_t_s_15) (fun (w30 : Nat → Int32) => rec22 x3_28 (x4_14 + (1 : Int32)) w30)) (fun k29 => bb_loop2 (uX8_fits_s62 (f_t_number_20 (((40 : Int32) * x1_16) + x4_14).toNatClampNeg) f_t_s_15 k29) nn x3_13 (0 : Int32)))))
def uX8_fits (nn : Nat) (p1 : Int32) (f_t_aside : Nat → Int32) (f_t_bitsOf : Nat → Int32) (f_t_found : Nat → Int32) (f_t_number : Nat → Int32) (f_t_s : Nat → Int32) (f_t_sizeOf : Nat → Int32) : Option (Int32 × (Nat → Int32) × (Nat → Int32) × (Nat → Int32)) :=
  bb_b1 (uX8_lacks p1 f_t_bitsOf) (fun (r1 : Int32) => (if r1 < 0 then bb_lt (((1 : Int32) <<< ((f_t_s (1 : Int32).toNatClampNeg) &&& 31)) - (1 : Int32)) (fun (y5 : Int32) => bb_b1 (uX8_lends nn f_t_aside f_t_s) (fun (w6 : Nat → Int32) => bb_cut (fun (x3_8 : Int32) (f_t_s_9 : Nat → Int32) => bb_b1 (uX8_laysBack nn w6 f_t_s_9) (fun (w11 : Nat → Int32) => some (x3_8, w6, f_t_found, w11))) (fun k10 => bb_loop3 (uX8_fits_s34 nn p1 f_t_number f_t_sizeOf k10) nn y5 (0 : Int32) f_t_s))) else bb_b2 (uX8_finds r1 f_t_found) (fun (r56 : Int32) (w57 : Nat → Int32) => some (r56, f_t_aside, w57, f_t_s))))
theorem kdX8_fits : yX8_fits.cls = RX8 ∧ yX8_fits.cls ≠ "java/lang/invoke/MethodHandle" ∧ yX8_fits.cls ≠ "java/lang/invoke/VarHandle" ∧ (parseMethodDescriptor yX8_fits.desc).map (fun d => d.parameters.length) = some 1 := by decide +kernel
set_option maxHeartbeats 4000000 in
set_option maxRecDepth 100000 in
theorem kX8_fits (l : Launch) (dC : Nat → ClassId) (dI : Nat → Nat → Nat) (cy : Nat → ClassId) (sz : Nat) (a_t : Nat → Nat) (p1 : Int32) (v_t_isKept : Int32) (v_t_bestPost : Int32) (v_t_mostSeen : Int32) (v_t_taped : Int32) (v_t_from : Int32) (v_t_to : Int32) (v_t_isWrong : Int32) (f_t_aside : Nat → Int32) (f_t_bitsOf : Nat → Int32) (f_t_found : Nat → Int32) (f_t_number : Nat → Int32) (f_t_s : Nat → Int32) (f_t_sizeOf : Nat → Int32) (nn : Nat) (r : Int32) (f_t_aside_o : Nat → Int32) (f_t_found_o : Nat → Int32) (f_t_s_o : Nat → Int32) (h : uX8_fits nn p1 f_t_aside f_t_bitsOf f_t_found f_t_number f_t_s f_t_sizeOf = some (r, f_t_aside_o, f_t_found_o, f_t_s_o)) : Met l yX8_fits wsX8_fits ({ frames := 10, cells := 0, slots := 0, locals := 221 }) (va_Pc [.ref (a_t 0), .int p1] (fun U => U.heap.size = sz ∧ va_P (dC, dI) vwCl [((a_t 0), oX8 a_t v_t_isKept v_t_bestPost v_t_mostSeen v_t_taped v_t_from v_t_to v_t_isWrong), ((a_t 3), .inl (cy 0, 155, .inl f_t_aside)), ((a_t 17), .inl (cy 0, 4, .inl f_t_bitsOf)), ((a_t 5), .inl (cy 0, 7, .inl f_t_found)), ((a_t 19), .inl (cy 0, 160, .inl f_t_number)), ((a_t 1), .inl (cy 0, 155, .inl f_t_s)), ((a_t 18), .inl (cy 0, 4, .inl f_t_sizeOf))] U.heap ∧ va_K (dC, dI) vwCl (tyX cy) U ∧ va_D (fun _ => True) [((a_t 0), oX8 a_t v_t_isKept v_t_bestPost v_t_mostSeen v_t_taped v_t_from v_t_to v_t_isWrong), ((a_t 3), .inl (cy 0, 155, .inl f_t_aside)), ((a_t 17), .inl (cy 0, 4, .inl f_t_bitsOf)), ((a_t 5), .inl (cy 0, 7, .inl f_t_found)), ((a_t 19), .inl (cy 0, 160, .inl f_t_number)), ((a_t 1), .inl (cy 0, 155, .inl f_t_s)), ((a_t 18), .inl (cy 0, 4, .inl f_t_sizeOf))])) (va_Qi (fun (r2 : Int32) (_ : Unit) => r = r2) (fun _ t => va_P (dC, dI) vwCl [((a_t 0), oX8 a_t v_t_isKept v_t_bestPost v_t_mostSeen v_t_taped v_t_from v_t_to v_t_isWrong), ((a_t 3), .inl (cy 0, 155, .inl f_t_aside_o)), ((a_t 17), .inl (cy 0, 4, .inl f_t_bitsOf)), ((a_t 5), .inl (cy 0, 7, .inl f_t_found_o)), ((a_t 19), .inl (cy 0, 160, .inl f_t_number)), ((a_t 1), .inl (cy 0, 155, .inl f_t_s_o)), ((a_t 18), .inl (cy 0, 4, .inl f_t_sizeOf))] t.heap ∧ va_K (dC, dI) vwCl (tyX cy) t ∧ va_D (va_A [((a_t 0), oX8 a_t v_t_isKept v_t_bestPost v_t_mostSeen v_t_taped v_t_from v_t_to v_t_isWrong), ((a_t 3), .inl (cy 0, 155, .inl f_t_aside)), ((a_t 17), .inl (cy 0, 4, .inl f_t_bitsOf)), ((a_t 5), .inl (cy 0, 7, .inl f_t_found)), ((a_t 19), .inl (cy 0, 160, .inl f_t_number)), ((a_t 1), .inl (cy 0, 155, .inl f_t_s)), ((a_t 18), .inl (cy 0, 4, .inl f_t_sizeOf))] sz) [((a_t 0), oX8 a_t v_t_isKept v_t_bestPost v_t_mostSeen v_t_taped v_t_from v_t_to v_t_isWrong), ((a_t 3), .inl (cy 0, 155, .inl f_t_aside_o)), ((a_t 17), .inl (cy 0, 4, .inl f_t_bitsOf)), ((a_t 5), .inl (cy 0, 7, .inl f_t_found_o)), ((a_t 19), .inl (cy 0, 160, .inl f_t_number)), ((a_t 1), .inl (cy 0, 155, .inl f_t_s_o)), ((a_t 18), .inl (cy 0, 4, .inl f_t_sizeOf))]) (va_A [((a_t 0), oX8 a_t v_t_isKept v_t_bestPost v_t_mostSeen v_t_taped v_t_from v_t_to v_t_isWrong), ((a_t 3), .inl (cy 0, 155, .inl f_t_aside)), ((a_t 17), .inl (cy 0, 4, .inl f_t_bitsOf)), ((a_t 5), .inl (cy 0, 7, .inl f_t_found)), ((a_t 19), .inl (cy 0, 160, .inl f_t_number)), ((a_t 1), .inl (cy 0, 155, .inl f_t_s)), ((a_t 18), .inl (cy 0, 4, .inl f_t_sizeOf))] sz)) 0 0 (va_A [((a_t 0), oX8 a_t v_t_isKept v_t_bestPost v_t_mostSeen v_t_taped v_t_from v_t_to v_t_isWrong), ((a_t 3), .inl (cy 0, 155, .inl f_t_aside)), ((a_t 17), .inl (cy 0, 4, .inl f_t_bitsOf)), ((a_t 5), .inl (cy 0, 7, .inl f_t_found)), ((a_t 19), .inl (cy 0, 160, .inl f_t_number)), ((a_t 1), .inl (cy 0, 155, .inl f_t_s)), ((a_t 18), .inl (cy 0, 4, .inl f_t_sizeOf))] sz) := by
  refine Met.ofW (cc := cX8_fits) (maxL := 7) (ret := (some .int)) (by decide) rfl ?_
  intro p e s m args below meth c s₁ B hml hv
  obtain ⟨rfl, hsz, hP, hK, hD0⟩ := hv
  have hx := B.exec
  have hb := B.bytes
  have hr := B.returns
  have hts := atoms_spec (ws := wsX8_fits) B.pre
  have hown : s.vm.findClass RX8 = some m.cls := findClass_of_methodNamed B.named
  have hlocks := B.notSynchronized
  have iwX8 : ∀ w ∈ wsX80, w ∈ wsX8_fits := fun w h9 => List.mem_cons_of_mem _ (List.mem_append_right _ (h9))
  have lk1 := hts (Cond.fieldLink RX8 9 "BathBorderModel" "s" "[I") (List.mem_of_getElem? (i := 1) rfl)
  have lk2 := hts (Cond.fieldLink RX8 42 "BathBorderModel" "sizeOf" "[I") (List.mem_of_getElem? (i := 2) rfl)
  have lk3 := hts (Cond.fieldLink RX8 45 "BathBorderModel" "number" "[I") (List.mem_of_getElem? (i := 3) rfl)
  subst hsz
  have hD := hD0.self (sz := s.heap.size)
  generalize hAe : va_A [((a_t 0), oX8 a_t v_t_isKept v_t_bestPost v_t_mostSeen v_t_taped v_t_from v_t_to v_t_isWrong), ((a_t 3), .inl (cy 0, 155, .inl f_t_aside)), ((a_t 17), .inl (cy 0, 4, .inl f_t_bitsOf)), ((a_t 5), .inl (cy 0, 7, .inl f_t_found)), ((a_t 19), .inl (cy 0, 160, .inl f_t_number)), ((a_t 1), .inl (cy 0, 155, .inl f_t_s)), ((a_t 18), .inl (cy 0, 4, .inl f_t_sizeOf))] s.heap.size = A at hD ⊢
  have hA : ∀ q : Nat, s.heap.size ≤ q → A q := fun q h => by rw [← hAe]; exact Or.inr h
  have hS : va_S A s.heap s.heap [] := va_S.rf
  have hP : va_P (dC, dI) vwCl [((a_t 0), oX8 a_t v_t_isKept v_t_bestPost v_t_mostSeen v_t_taped v_t_from v_t_to v_t_isWrong), ((a_t 3), .inl (cy 0, 155, .inl f_t_aside)), ((a_t 17), .inl (cy 0, 4, .inl f_t_bitsOf)), ((a_t 5), .inl (cy 0, 7, .inl f_t_found)), ((a_t 19), .inl (cy 0, 160, .inl f_t_number)), ((a_t 1), .inl (cy 0, 155, .inl f_t_s)), ((a_t 18), .inl (cy 0, 4, .inl f_t_sizeOf))] s.heap := hP
  have hl := lv_entry ([.ref (a_t 0), .int p1]) (n := 7) (Nat.le_of_ble_eq_true rfl)
  rw [lg_entry_eq]
  generalize (lg_sl ([.ref (a_t 0), .int p1]) ++ List.replicate (7 - (lg_sl ([.ref (a_t 0), .int p1])).length) Slot.unset).toArray = ls at hl ⊢
  have hl : lv_has ls 7 [(0, .ref (a_t 0)), (1, .int p1)] := hl
  unfold uX8_fits at h
  refine bb_cap (fun WW toW ofW => ?_)
  refine lv_aload_n hx hb dX8_fits_0 rfl (lv_at hl 0 rfl) ?_
  refine lv_iload_n hx hb dX8_fits_1 rfl (lv_at hl 1 rfl) ?_
  obtain ⟨r1, hc2, h⟩ := bb_b1_o h
  refine vp_callSi (W.runV (As := [.int p1]) (rest := []) ⟨hx, hb, hml, hown, hts⟩ (kX8_lacks l dC dI cy a_t p1 v_t_isKept v_t_bestPost v_t_mostSeen v_t_taped v_t_from v_t_to v_t_isWrong f_t_bitsOf r1 hc2) (cwV 1 hts gX8_fits_X8_lacks rfl rfl rfl kdX8_lacks ⟨Nat.le_of_ble_eq_true rfl, Nat.le_of_ble_eq_true rfl⟩) (bb_preV (va_recv hK hP (ci := 7) (q0 := 0) rfl rfl) (hP.sub (ws' := [((a_t 0), oX8 a_t v_t_isKept v_t_bestPost v_t_mostSeen v_t_taped v_t_from v_t_to v_t_isWrong), ((a_t 17), .inl (cy 0, 4, .inl f_t_bitsOf))]) [0, 2] rfl) hK) rfl rfl hl.1 rfl (lv_room (Nat.le_of_ble_eq_true rfl)) dX8_fits_2 ⟨Nat.zero_le _, Nat.zero_le _⟩) (fun t3 et3 => ?_)
  obtain rfl := et3
  refine lv_istore_n (lv' := [(2, .int r1), (0, .ref (a_t 0)), (1, .int p1)]) hx hb dX8_fits_5 rfl hl (by decide) rfl (fun ls hl => ?_)
  refine lv_iload_n hx hb dX8_fits_6 rfl (lv_at hl 0 rfl) ?_
  refine lv_if_lt (tgt := 16) hx hb dX8_fits_7 (by decide) (fun c4 => ?_) (fun c4 => ?_)
  · replace h := bb_ifp c4 h
    refine lv_iconst (v := (1 : Int32)) hx hb dX8_fits_16 (by decide) ?_
    refine lv_aload_n hx hb dX8_fits_17 rfl (lv_at hl 1 rfl) ?_
    refine va_get (D := (dC, dI)) (ci := 7) (v := .ref (a_t 1)) (C := RX8) (T := TX8) (N := 20) hx hb hts iwX8 hown hK hP 0 rfl rfl 0 (by decide) lk1 (fun _ h9 => h9) rfl dX8_fits_18 ?_
    refine lv_iconst (v := (1 : Int32)) hx hb dX8_fits_21 (by decide) ?_
    refine va_iald hx hb hK hP 5 0 rfl rfl (bb_in (by decide)) dX8_fits_22 ?_
    refine lv_ishl hx hb dX8_fits_23 ?_
    refine lv_iconst (v := (1 : Int32)) hx hb dX8_fits_24 (by decide) ?_
    refine lv_isub hx hb dX8_fits_25 ?_
    refine lv_topi (fun y5 ey5 => ?_)
    replace h := bb_lt_o ey5 h
    refine lv_istore_n (lv' := [(3, .int y5), (2, .int r1), (0, .ref (a_t 0)), (1, .int p1)]) hx hb dX8_fits_26 rfl hl (by decide) rfl (fun ls hl => ?_)
    refine lv_aload_n hx hb dX8_fits_27 rfl (lv_at hl 2 rfl) ?_
    obtain ⟨w6, hc7, h⟩ := bb_b1_o h
    refine bb_cwv (wr := [((a_t 17), .inl (cy 0, 4, .inl f_t_bitsOf)), ((a_t 5), .inl (cy 0, 7, .inl f_t_found)), ((a_t 19), .inl (cy 0, 160, .inl f_t_number)), ((a_t 18), .inl (cy 0, 4, .inl f_t_sizeOf))]) (w1 := [((a_t 0), oX8 a_t v_t_isKept v_t_bestPost v_t_mostSeen v_t_taped v_t_from v_t_to v_t_isWrong), ((a_t 3), .inl (cy 0, 155, .inl w6)), ((a_t 1), .inl (cy 0, 155, .inl f_t_s))]) (va_runV (As := []) (rest := []) ⟨hx, hb, hml, hown, hts⟩ (kX8_lends l dC dI cy s.heap.size a_t v_t_isKept v_t_bestPost v_t_mostSeen v_t_taped v_t_from v_t_to v_t_isWrong f_t_aside f_t_s nn w6 hc7) (cwV 0 hts gX8_fits_X8_lends rfl rfl rfl kdX8_lends ⟨Nat.le_of_ble_eq_true rfl, Nat.le_of_ble_eq_true rfl⟩) (bb_preVw (va_recv hK hP (ci := 7) (q0 := 0) rfl rfl) (hP.sub (ws' := [((a_t 0), oX8 a_t v_t_isKept v_t_bestPost v_t_mostSeen v_t_taped v_t_from v_t_to v_t_isWrong), ((a_t 3), .inl (cy 0, 155, .inl f_t_aside)), ((a_t 1), .inl (cy 0, 155, .inl f_t_s))]) [0, 1, 5] rfl) hK (hD.sub (ws' := [((a_t 0), oX8 a_t v_t_isKept v_t_bestPost v_t_mostSeen v_t_taped v_t_from v_t_to v_t_isWrong), ((a_t 3), .inl (cy 0, 155, .inl f_t_aside)), ((a_t 1), .inl (cy 0, 155, .inl f_t_s))]) [0, 1, 5] (by decide) rfl)) rfl rfl hl.1 rfl (lv_room (Nat.le_of_ble_eq_true rfl)) dX8_fits_28 ⟨Nat.zero_le _, Nat.zero_le _⟩) hP hD hS hA [0, 1, 5] [2, 3, 4, 6] rfl rfl (by decide) (by decide) (fun H locs hP hD hS => ?_)
    have hP : va_P (dC, dI) vwCl [((a_t 17), .inl (cy 0, 4, .inl f_t_bitsOf)), ((a_t 5), .inl (cy 0, 7, .inl f_t_found)), ((a_t 19), .inl (cy 0, 160, .inl f_t_number)), ((a_t 18), .inl (cy 0, 4, .inl f_t_sizeOf)), ((a_t 0), oX8 a_t v_t_isKept v_t_bestPost v_t_mostSeen v_t_taped v_t_from v_t_to v_t_isWrong), ((a_t 3), .inl (cy 0, 155, .inl w6)), ((a_t 1), .inl (cy 0, 155, .inl f_t_s))] H := hP
    have hD : va_D A [((a_t 17), .inl (cy 0, 4, .inl f_t_bitsOf)), ((a_t 5), .inl (cy 0, 7, .inl f_t_found)), ((a_t 19), .inl (cy 0, 160, .inl f_t_number)), ((a_t 18), .inl (cy 0, 4, .inl f_t_sizeOf)), ((a_t 0), oX8 a_t v_t_isKept v_t_bestPost v_t_mostSeen v_t_taped v_t_from v_t_to v_t_isWrong), ((a_t 3), .inl (cy 0, 155, .inl w6)), ((a_t 1), .inl (cy 0, 155, .inl f_t_s))] := hD
    refine lv_iconst (v := (0 : Int32)) hx hb dX8_fits_31 (by decide) ?_
    refine lv_istore (lv' := [(4, .int (0 : Int32)), (3, .int y5), (2, .int r1), (0, .ref (a_t 0)), (1, .int p1)]) hx hb dX8_fits_32 hl (by decide) rfl (fun ls hl => ?_)
    obtain ⟨k10, ek10, h⟩ := bb_cut_o h
    have Jk10 : ∀ (x3_8 : Int32) (f_t_s_9 : Nat → Int32) (H : Heap) (locs : List Loc) (ls : Array Slot), k10 x3_8 f_t_s_9 = some (r, f_t_aside_o, f_t_found_o, f_t_s_o) → va_P (dC, dI) vwCl [((a_t 0), oX8 a_t v_t_isKept v_t_bestPost v_t_mostSeen v_t_taped v_t_from v_t_to v_t_isWrong), ((a_t 3), .inl (cy 0, 155, .inl w6)), ((a_t 17), .inl (cy 0, 4, .inl f_t_bitsOf)), ((a_t 5), .inl (cy 0, 7, .inl f_t_found)), ((a_t 19), .inl (cy 0, 160, .inl f_t_number)), ((a_t 1), .inl (cy 0, 155, .inl f_t_s_9)), ((a_t 18), .inl (cy 0, 4, .inl f_t_sizeOf))] H → va_D A [((a_t 0), oX8 a_t v_t_isKept v_t_bestPost v_t_mostSeen v_t_taped v_t_from v_t_to v_t_isWrong), ((a_t 3), .inl (cy 0, 155, .inl w6)), ((a_t 17), .inl (cy 0, 4, .inl f_t_bitsOf)), ((a_t 5), .inl (cy 0, 7, .inl f_t_found)), ((a_t 19), .inl (cy 0, 160, .inl f_t_number)), ((a_t 1), .inl (cy 0, 155, .inl f_t_s_9)), ((a_t 18), .inl (cy 0, 4, .inl f_t_sizeOf))] → va_S A s.heap H locs → lv_has ls 7 [(0, .ref (a_t 0)), (3, .int x3_8)] → WW H locs (F0 m 120 ls []) := by
      intro x3_8 f_t_s_9 H locs ls h hP hD hS hl
      refine ofW _ _ _ ?_
      subst ek10
      refine lv_aload_n hx hb dX8_fits_120 rfl (lv_at hl 0 rfl) ?_
      obtain ⟨w11, hc12, h⟩ := bb_b1_o h
      refine bb_cwv (wr := [((a_t 17), .inl (cy 0, 4, .inl f_t_bitsOf)), ((a_t 5), .inl (cy 0, 7, .inl f_t_found)), ((a_t 19), .inl (cy 0, 160, .inl f_t_number)), ((a_t 18), .inl (cy 0, 4, .inl f_t_sizeOf))]) (w1 := [((a_t 0), oX8 a_t v_t_isKept v_t_bestPost v_t_mostSeen v_t_taped v_t_from v_t_to v_t_isWrong), ((a_t 3), .inl (cy 0, 155, .inl w6)), ((a_t 1), .inl (cy 0, 155, .inl w11))]) (va_runV (As := []) (rest := []) ⟨hx, hb, hml, hown, hts⟩ (kX8_laysBack l dC dI cy H.size a_t v_t_isKept v_t_bestPost v_t_mostSeen v_t_taped v_t_from v_t_to v_t_isWrong w6 f_t_s_9 nn w11 hc12) (cwV 0 hts gX8_fits_X8_laysBack rfl rfl rfl kdX8_laysBack ⟨Nat.le_of_ble_eq_true rfl, Nat.le_of_ble_eq_true rfl⟩) (bb_preVw (va_recv hK hP (ci := 7) (q0 := 0) rfl rfl) (hP.sub (ws' := [((a_t 0), oX8 a_t v_t_isKept v_t_bestPost v_t_mostSeen v_t_taped v_t_from v_t_to v_t_isWrong), ((a_t 3), .inl (cy 0, 155, .inl w6)), ((a_t 1), .inl (cy 0, 155, .inl f_t_s_9))]) [0, 1, 5] rfl) hK (hD.sub (ws' := [((a_t 0), oX8 a_t v_t_isKept v_t_bestPost v_t_mostSeen v_t_taped v_t_from v_t_to v_t_isWrong), ((a_t 3), .inl (cy 0, 155, .inl w6)), ((a_t 1), .inl (cy 0, 155, .inl f_t_s_9))]) [0, 1, 5] (by decide) rfl)) rfl rfl hl.1 rfl (lv_room (Nat.le_of_ble_eq_true rfl)) dX8_fits_121 ⟨Nat.zero_le _, Nat.zero_le _⟩) hP hD hS hA [0, 1, 5] [2, 3, 4, 6] rfl rfl (by decide) (by decide) (fun H locs hP hD hS => ?_)
      have hP : va_P (dC, dI) vwCl [((a_t 17), .inl (cy 0, 4, .inl f_t_bitsOf)), ((a_t 5), .inl (cy 0, 7, .inl f_t_found)), ((a_t 19), .inl (cy 0, 160, .inl f_t_number)), ((a_t 18), .inl (cy 0, 4, .inl f_t_sizeOf)), ((a_t 0), oX8 a_t v_t_isKept v_t_bestPost v_t_mostSeen v_t_taped v_t_from v_t_to v_t_isWrong), ((a_t 3), .inl (cy 0, 155, .inl w6)), ((a_t 1), .inl (cy 0, 155, .inl w11))] H := hP
      have hD : va_D A [((a_t 17), .inl (cy 0, 4, .inl f_t_bitsOf)), ((a_t 5), .inl (cy 0, 7, .inl f_t_found)), ((a_t 19), .inl (cy 0, 160, .inl f_t_number)), ((a_t 18), .inl (cy 0, 4, .inl f_t_sizeOf)), ((a_t 0), oX8 a_t v_t_isKept v_t_bestPost v_t_mostSeen v_t_taped v_t_from v_t_to v_t_isWrong), ((a_t 3), .inl (cy 0, 155, .inl w6)), ((a_t 1), .inl (cy 0, 155, .inl w11))] := hD
      refine lv_iload_n hx hb dX8_fits_124 rfl (lv_at hl 1 rfl) ?_
      obtain ⟨rfl, rfl, rfl, rfl⟩ := bb_some4 h
      have hP9 := hP.sub (ws' := [((a_t 0), oX8 a_t v_t_isKept v_t_bestPost v_t_mostSeen v_t_taped v_t_from v_t_to v_t_isWrong), ((a_t 3), .inl (cy 0, 155, .inl w6)), ((a_t 17), .inl (cy 0, 4, .inl f_t_bitsOf)), ((a_t 5), .inl (cy 0, 7, .inl f_t_found)), ((a_t 19), .inl (cy 0, 160, .inl f_t_number)), ((a_t 1), .inl (cy 0, 155, .inl w11)), ((a_t 18), .inl (cy 0, 4, .inl f_t_sizeOf))]) [4, 5, 0, 1, 2, 6, 3] rfl
      have hD9 := hD.sub (ws' := [((a_t 0), oX8 a_t v_t_isKept v_t_bestPost v_t_mostSeen v_t_taped v_t_from v_t_to v_t_isWrong), ((a_t 3), .inl (cy 0, 155, .inl w6)), ((a_t 17), .inl (cy 0, 4, .inl f_t_bitsOf)), ((a_t 5), .inl (cy 0, 7, .inl f_t_found)), ((a_t 19), .inl (cy 0, 160, .inl f_t_number)), ((a_t 1), .inl (cy 0, 155, .inl w11)), ((a_t 18), .inl (cy 0, 4, .inl f_t_sizeOf))]) [4, 5, 0, 1, 2, 6, 3] (by decide) rfl
      exact W.iret hx hb hr (fun t ht hW => ⟨⟨_, (), rfl, rfl, by rw [ht]; exact hP9, va_K.moved hW.alike hK, hD9⟩, hS.F ht⟩) hS.2.2 dX8_fits_125
    have L23 : ∀ (n : Nat) (x3_13 : Int32) (x4_14 : Int32) (f_t_s_15 : Nat → Int32) (H : Heap) (locs : List Loc) (ls : Array Slot), bb_loop3 (uX8_fits_s34 nn p1 f_t_number f_t_sizeOf k10) n x3_13 x4_14 f_t_s_15 = some (r, f_t_aside_o, f_t_found_o, f_t_s_o) → va_P (dC, dI) vwCl [((a_t 0), oX8 a_t v_t_isKept v_t_bestPost v_t_mostSeen v_t_taped v_t_from v_t_to v_t_isWrong), ((a_t 3), .inl (cy 0, 155, .inl w6)), ((a_t 17), .inl (cy 0, 4, .inl f_t_bitsOf)), ((a_t 5), .inl (cy 0, 7, .inl f_t_found)), ((a_t 19), .inl (cy 0, 160, .inl f_t_number)), ((a_t 1), .inl (cy 0, 155, .inl f_t_s_15)), ((a_t 18), .inl (cy 0, 4, .inl f_t_sizeOf))] H → va_D A [((a_t 0), oX8 a_t v_t_isKept v_t_bestPost v_t_mostSeen v_t_taped v_t_from v_t_to v_t_isWrong), ((a_t 3), .inl (cy 0, 155, .inl w6)), ((a_t 17), .inl (cy 0, 4, .inl f_t_bitsOf)), ((a_t 5), .inl (cy 0, 7, .inl f_t_found)), ((a_t 19), .inl (cy 0, 160, .inl f_t_number)), ((a_t 1), .inl (cy 0, 155, .inl f_t_s_15)), ((a_t 18), .inl (cy 0, 4, .inl f_t_sizeOf))] → va_S A s.heap H locs → lv_has ls 7 [(0, .ref (a_t 0)), (1, .int p1), (3, .int x3_13), (4, .int x4_14)] → WW H locs (F0 m 34 ls []) := by
      intro n
      induction n with
      | zero => intro x3_13 x4_14 f_t_s_15 H locs ls h; exact (bb_no h).elim
      | succ n ih24 =>
        intro x3_13 x4_14 f_t_s_15 H locs ls h hP hD hS hl
        refine ofW _ _ _ ?_
        obtain ⟨rec22, erec22, h⟩ := bb_loop3_o h
        unfold uX8_fits_s34 at h
        refine lv_iload hx hb dX8_fits_34 (lv_at hl 3 rfl) ?_
        refine lv_aload_n hx hb dX8_fits_36 rfl (lv_at hl 0 rfl) ?_
        refine va_get (D := (dC, dI)) (ci := 7) (v := .ref (a_t 18)) (C := RX8) (T := TX8) (N := 20) hx hb hts iwX8 hown hK hP 0 rfl rfl 17 (by decide) lk2 (fun _ h9 => h9) rfl dX8_fits_37 ?_
        refine lv_iload_n hx hb dX8_fits_40 rfl (lv_at hl 1 rfl) ?_
        obtain ⟨hi25, h⟩ := bb_ix_o h
        refine va_iald hx hb hK hP 6 0 rfl rfl hi25 dX8_fits_41 ?_
        refine lv_icmp_ge (tgt := 120) hx hb dX8_fits_42 (by decide) (fun c26 => ?_) (fun c26 => ?_)
        · replace h := bb_ifp c26 h
          exact toW _ _ _ (Jk10 x3_13 f_t_s_15 _ _ _ h hP hD hS (lv_sub hl [0, 2] rfl))
        · replace h := bb_ifn c26 h
          refine lv_aload_n hx hb dX8_fits_45 rfl (lv_at hl 0 rfl) ?_
          refine va_get (D := (dC, dI)) (ci := 7) (v := .ref (a_t 19)) (C := RX8) (T := TX8) (N := 20) hx hb hts iwX8 hown hK hP 0 rfl rfl 18 (by decide) lk3 (fun _ h9 => h9) rfl dX8_fits_46 ?_
          refine lv_bipush (v := (40 : Int32)) hx hb dX8_fits_49 (by decide) ?_
          refine lv_iload_n hx hb dX8_fits_51 rfl (lv_at hl 1 rfl) ?_
          refine lv_imul hx hb dX8_fits_52 ?_
          refine lv_iload hx hb dX8_fits_53 (lv_at hl 3 rfl) ?_
          refine lv_iadd hx hb dX8_fits_55 ?_
          obtain ⟨hi27, h⟩ := bb_ix_o h
          refine va_iald hx hb hK hP 4 0 rfl rfl hi27 dX8_fits_56 ?_
          refine lv_istore (lv' := [(5, .int (f_t_number (((40 : Int32) * p1) + x4_14).toNatClampNeg)), (0, .ref (a_t 0)), (1, .int p1), (3, .int x3_13), (4, .int x4_14)]) hx hb dX8_fits_57 hl (by decide) rfl (fun ls hl => ?_)
          refine lv_iconst (v := (0 : Int32)) hx hb dX8_fits_59 (by decide) ?_
          refine lv_istore (lv' := [(6, .int (0 : Int32)), (5, .int (f_t_number (((40 : Int32) * p1) + x4_14).toNatClampNeg)), (0, .ref (a_t 0)), (1, .int p1), (3, .int x3_13), (4, .int x4_14)]) hx hb dX8_fits_60 hl (by decide) rfl (fun ls hl => ?_)
          obtain ⟨k29, ek29, h⟩ := bb_cut_o h
          have Jk29 : ∀ (x3_28 : Int32) (H : Heap) (locs : List Loc) (ls : Array Slot), k29 x3_28 = some (r, f_t_aside_o, f_t_found_o, f_t_s_o) → va_P (dC, dI) vwCl [((a_t 0), oX8 a_t v_t_isKept v_t_bestPost v_t_mostSeen v_t_taped v_t_from v_t_to v_t_isWrong), ((a_t 3), .inl (cy 0, 155, .inl w6)), ((a_t 17), .inl (cy 0, 4, .inl f_t_bitsOf)), ((a_t 5), .inl (cy 0, 7, .inl f_t_found)), ((a_t 19), .inl (cy 0, 160, .inl f_t_number)), ((a_t 1), .inl (cy 0, 155, .inl f_t_s_15)), ((a_t 18), .inl (cy 0, 4, .inl f_t_sizeOf))] H → va_D A [((a_t 0), oX8 a_t v_t_isKept v_t_bestPost v_t_mostSeen v_t_taped v_t_from v_t_to v_t_isWrong), ((a_t 3), .inl (cy 0, 155, .inl w6)), ((a_t 17), .inl (cy 0, 4, .inl f_t_bitsOf)), ((a_t 5), .inl (cy 0, 7, .inl f_t_found)), ((a_t 19), .inl (cy 0, 160, .inl f_t_number)), ((a_t 1), .inl (cy 0, 155, .inl f_t_s_15)), ((a_t 18), .inl (cy 0, 4, .inl f_t_sizeOf))] → va_S A s.heap H locs → lv_has ls 7 [(0, .ref (a_t 0)), (1, .int p1), (3, .int x3_28), (4, .int x4_14)] → WW H locs (F0 m 110 ls []) := by
            intro x3_28 H locs ls h hP hD hS hl
            refine ofW _ _ _ ?_
            subst ek29
            refine lv_aload_n hx hb dX8_fits_110 rfl (lv_at hl 0 rfl) ?_
            obtain ⟨w30, hc31, h⟩ := bb_b1_o h
            refine bb_cwv (wr := [((a_t 3), .inl (cy 0, 155, .inl w6)), ((a_t 17), .inl (cy 0, 4, .inl f_t_bitsOf)), ((a_t 5), .inl (cy 0, 7, .inl f_t_found)), ((a_t 19), .inl (cy 0, 160, .inl f_t_number)), ((a_t 18), .inl (cy 0, 4, .inl f_t_sizeOf))]) (w1 := [((a_t 0), oX8 a_t v_t_isKept v_t_bestPost v_t_mostSeen v_t_taped v_t_from v_t_to v_t_isWrong), ((a_t 1), .inl (cy 0, 155, .inl w30))]) (va_runV (As := []) (rest := []) ⟨hx, hb, hml, hown, hts⟩ (kX8_aMinute l dC dI cy H.size a_t v_t_isKept v_t_bestPost v_t_mostSeen v_t_taped v_t_from v_t_to v_t_isWrong f_t_s_15 nn w30 hc31) (cwV 0 hts gX8_fits_X8_aMinute rfl rfl rfl kdX8_aMinute ⟨Nat.le_of_ble_eq_true rfl, Nat.le_of_ble_eq_true rfl⟩) (bb_preVw (va_recv hK hP (ci := 7) (q0 := 0) rfl rfl) (hP.sub (ws' := [((a_t 0), oX8 a_t v_t_isKept v_t_bestPost v_t_mostSeen v_t_taped v_t_from v_t_to v_t_isWrong), ((a_t 1), .inl (cy 0, 155, .inl f_t_s_15))]) [0, 5] rfl) hK (hD.sub (ws' := [((a_t 0), oX8 a_t v_t_isKept v_t_bestPost v_t_mostSeen v_t_taped v_t_from v_t_to v_t_isWrong), ((a_t 1), .inl (cy 0, 155, .inl f_t_s_15))]) [0, 5] (by decide) rfl)) rfl rfl hl.1 rfl (lv_room (Nat.le_of_ble_eq_true rfl)) dX8_fits_111 ⟨Nat.zero_le _, Nat.zero_le _⟩) hP hD hS hA [0, 5] [1, 2, 3, 4, 6] rfl rfl (by decide) (by decide) (fun H locs hP hD hS => ?_)
            have hP : va_P (dC, dI) vwCl [((a_t 3), .inl (cy 0, 155, .inl w6)), ((a_t 17), .inl (cy 0, 4, .inl f_t_bitsOf)), ((a_t 5), .inl (cy 0, 7, .inl f_t_found)), ((a_t 19), .inl (cy 0, 160, .inl f_t_number)), ((a_t 18), .inl (cy 0, 4, .inl f_t_sizeOf)), ((a_t 0), oX8 a_t v_t_isKept v_t_bestPost v_t_mostSeen v_t_taped v_t_from v_t_to v_t_isWrong), ((a_t 1), .inl (cy 0, 155, .inl w30))] H := hP
            have hD : va_D A [((a_t 3), .inl (cy 0, 155, .inl w6)), ((a_t 17), .inl (cy 0, 4, .inl f_t_bitsOf)), ((a_t 5), .inl (cy 0, 7, .inl f_t_found)), ((a_t 19), .inl (cy 0, 160, .inl f_t_number)), ((a_t 18), .inl (cy 0, 4, .inl f_t_sizeOf)), ((a_t 0), oX8 a_t v_t_isKept v_t_bestPost v_t_mostSeen v_t_taped v_t_from v_t_to v_t_isWrong), ((a_t 1), .inl (cy 0, 155, .inl w30))] := hD
            refine lv_iinc (v := x4_14 + (1 : Int32)) (lv' := [(4, .int (x4_14 + (1 : Int32))), (0, .ref (a_t 0)), (1, .int p1), (3, .int x3_28)]) hx hb dX8_fits_114 hl (k := 3) rfl rfl (by decide) rfl (fun ls hl => ?_)
            refine lv_goto (tgt := 34) hx hb dX8_fits_117 (by decide) ?_
            rw [erec22] at h
            exact toW _ _ _ (ih24 x3_28 (x4_14 + (1 : Int32)) w30 _ _ _ h (hP.sub [5, 0, 1, 2, 3, 6, 4] rfl) (hD.sub [5, 0, 1, 2, 3, 6, 4] (by decide) rfl) hS (lv_sub hl [1, 2, 3, 0] rfl))
          have L44 : ∀ (n : Nat) (x3_32 : Int32) (x6_33 : Int32) (H : Heap) (locs : List Loc) (ls : Array Slot), bb_loop2 (uX8_fits_s62 (f_t_number (((40 : Int32) * p1) + x4_14).toNatClampNeg) f_t_s_15 k29) n x3_32 x6_33 = some (r, f_t_aside_o, f_t_found_o, f_t_s_o) → va_P (dC, dI) vwCl [((a_t 0), oX8 a_t v_t_isKept v_t_bestPost v_t_mostSeen v_t_taped v_t_from v_t_to v_t_isWrong), ((a_t 3), .inl (cy 0, 155, .inl w6)), ((a_t 17), .inl (cy 0, 4, .inl f_t_bitsOf)), ((a_t 5), .inl (cy 0, 7, .inl f_t_found)), ((a_t 19), .inl (cy 0, 160, .inl f_t_number)), ((a_t 1), .inl (cy 0, 155, .inl f_t_s_15)), ((a_t 18), .inl (cy 0, 4, .inl f_t_sizeOf))] H → va_D A [((a_t 0), oX8 a_t v_t_isKept v_t_bestPost v_t_mostSeen v_t_taped v_t_from v_t_to v_t_isWrong), ((a_t 3), .inl (cy 0, 155, .inl w6)), ((a_t 17), .inl (cy 0, 4, .inl f_t_bitsOf)), ((a_t 5), .inl (cy 0, 7, .inl f_t_found)), ((a_t 19), .inl (cy 0, 160, .inl f_t_number)), ((a_t 1), .inl (cy 0, 155, .inl f_t_s_15)), ((a_t 18), .inl (cy 0, 4, .inl f_t_sizeOf))] → va_S A s.heap H locs → lv_has ls 7 [(0, .ref (a_t 0)), (1, .int p1), (3, .int x3_32), (4, .int x4_14), (5, .int (f_t_number (((40 : Int32) * p1) + x4_14).toNatClampNeg)), (6, .int x6_33)] → WW H locs (F0 m 62 ls []) := by
            intro n
            induction n with
            | zero => intro x3_32 x6_33 H locs ls h; exact (bb_no h).elim
            | succ n ih45 =>
              intro x3_32 x6_33 H locs ls h hP hD hS hl
              refine ofW _ _ _ ?_
              obtain ⟨rec43, erec43, h⟩ := bb_loop2_o h
              unfold uX8_fits_s62 at h
              refine lv_iload hx hb dX8_fits_62 (lv_at hl 5 rfl) ?_
              refine lv_aload_n hx hb dX8_fits_64 rfl (lv_at hl 0 rfl) ?_
              refine va_get (D := (dC, dI)) (ci := 7) (v := .ref (a_t 1)) (C := RX8) (T := TX8) (N := 20) hx hb hts iwX8 hown hK hP 0 rfl rfl 0 (by decide) lk1 (fun _ h9 => h9) rfl dX8_fits_65 ?_
              refine lv_iconst (v := (1 : Int32)) hx hb dX8_fits_68 (by decide) ?_
              refine va_iald hx hb hK hP 5 0 rfl rfl (bb_in (by decide)) dX8_fits_69 ?_
              refine lv_icmp_ge (tgt := 110) hx hb dX8_fits_70 (by decide) (fun c46 => ?_) (fun c46 => ?_)
              · replace h := bb_ifp c46 h
                exact toW _ _ _ (Jk29 x3_32 _ _ _ h hP hD hS (lv_sub hl [0, 1, 2, 3] rfl))
              · replace h := bb_ifn c46 h
                refine lv_iload_n hx hb dX8_fits_73 rfl (lv_at hl 2 rfl) ?_
                refine lv_iload hx hb dX8_fits_74 (lv_at hl 4 rfl) ?_
                refine lv_iconst (v := (-1 : Int32)) hx hb dX8_fits_76 (by decide) ?_
                obtain ⟨k48, ek48, h⟩ := bb_cut_o h
                have Jk48 : ∀ (z47 : Int32) (H : Heap) (locs : List Loc) (ls : Array Slot), k48 z47 = some (r, f_t_aside_o, f_t_found_o, f_t_s_o) → va_P (dC, dI) vwCl [((a_t 0), oX8 a_t v_t_isKept v_t_bestPost v_t_mostSeen v_t_taped v_t_from v_t_to v_t_isWrong), ((a_t 3), .inl (cy 0, 155, .inl w6)), ((a_t 17), .inl (cy 0, 4, .inl f_t_bitsOf)), ((a_t 5), .inl (cy 0, 7, .inl f_t_found)), ((a_t 19), .inl (cy 0, 160, .inl f_t_number)), ((a_t 1), .inl (cy 0, 155, .inl f_t_s_15)), ((a_t 18), .inl (cy 0, 4, .inl f_t_sizeOf))] H → va_D A [((a_t 0), oX8 a_t v_t_isKept v_t_bestPost v_t_mostSeen v_t_taped v_t_from v_t_to v_t_isWrong), ((a_t 3), .inl (cy 0, 155, .inl w6)), ((a_t 17), .inl (cy 0, 4, .inl f_t_bitsOf)), ((a_t 5), .inl (cy 0, 7, .inl f_t_found)), ((a_t 19), .inl (cy 0, 160, .inl f_t_number)), ((a_t 1), .inl (cy 0, 155, .inl f_t_s_15)), ((a_t 18), .inl (cy 0, 4, .inl f_t_sizeOf))] → va_S A s.heap H locs → lv_has ls 7 [(0, .ref (a_t 0)), (1, .int p1), (4, .int x4_14), (5, .int (f_t_number (((40 : Int32) * p1) + x4_14).toNatClampNeg)), (6, .int x6_33)] → WW H locs (F0 m 102 ls [.int z47, .int x3_32]) := by
                  intro z47 H locs ls h hP hD hS hl
                  refine ofW _ _ _ ?_
                  subst ek48
                  refine lv_iand hx hb dX8_fits_102 ?_
                  refine lv_istore_n (lv' := [(3, .int (x3_32 &&& z47)), (0, .ref (a_t 0)), (1, .int p1), (4, .int x4_14), (5, .int (f_t_number (((40 : Int32) * p1) + x4_14).toNatClampNeg)), (6, .int x6_33)]) hx hb dX8_fits_103 rfl hl (by decide) rfl (fun ls hl => ?_)
                  refine lv_iinc (v := x6_33 + (1 : Int32)) (lv' := [(6, .int (x6_33 + (1 : Int32))), (3, .int (x3_32 &&& z47)), (0, .ref (a_t 0)), (1, .int p1), (4, .int x4_14), (5, .int (f_t_number (((40 : Int32) * p1) + x4_14).toNatClampNeg))]) hx hb dX8_fits_104 hl (k := 5) rfl rfl (by decide) rfl (fun ls hl => ?_)
                  refine lv_goto (tgt := 62) hx hb dX8_fits_107 (by decide) ?_
                  rw [erec43] at h
                  exact toW _ _ _ (ih45 (x3_32 &&& z47) (x6_33 + (1 : Int32)) _ _ _ h hP hD hS (lv_sub hl [2, 3, 1, 4, 5, 0] rfl))
                obtain ⟨k50, ek50, h⟩ := bb_cut_o h
                have Jk50 : ∀ (u49 : Unit) (H : Heap) (locs : List Loc) (ls : Array Slot), k50 u49 = some (r, f_t_aside_o, f_t_found_o, f_t_s_o) → va_P (dC, dI) vwCl [((a_t 0), oX8 a_t v_t_isKept v_t_bestPost v_t_mostSeen v_t_taped v_t_from v_t_to v_t_isWrong), ((a_t 3), .inl (cy 0, 155, .inl w6)), ((a_t 17), .inl (cy 0, 4, .inl f_t_bitsOf)), ((a_t 5), .inl (cy 0, 7, .inl f_t_found)), ((a_t 19), .inl (cy 0, 160, .inl f_t_number)), ((a_t 1), .inl (cy 0, 155, .inl f_t_s_15)), ((a_t 18), .inl (cy 0, 4, .inl f_t_sizeOf))] H → va_D A [((a_t 0), oX8 a_t v_t_isKept v_t_bestPost v_t_mostSeen v_t_taped v_t_from v_t_to v_t_isWrong), ((a_t 3), .inl (cy 0, 155, .inl w6)), ((a_t 17), .inl (cy 0, 4, .inl f_t_bitsOf)), ((a_t 5), .inl (cy 0, 7, .inl f_t_found)), ((a_t 19), .inl (cy 0, 160, .inl f_t_number)), ((a_t 1), .inl (cy 0, 155, .inl f_t_s_15)), ((a_t 18), .inl (cy 0, 4, .inl f_t_sizeOf))] → va_S A s.heap H locs → lv_has ls 7 [(0, .ref (a_t 0)), (1, .int p1), (4, .int x4_14), (5, .int (f_t_number (((40 : Int32) * p1) + x4_14).toNatClampNeg)), (6, .int x6_33)] → WW H locs (F0 m 92 ls [.int x3_32]) := by
                  intro u49 H locs ls h hP hD hS hl
                  refine ofW _ _ _ ?_
                  subst ek50
                  refine lv_iconst (v := (-1 : Int32)) hx hb dX8_fits_92 (by decide) ?_
                  refine lv_goto (tgt := 102) hx hb dX8_fits_93 (by decide) ?_
                  exact toW _ _ _ (Jk48 (-1 : Int32) _ _ _ h hP hD hS (lv_sub hl [0, 1, 2, 3, 4] rfl))
                refine lv_icmp_eq (tgt := 92) hx hb dX8_fits_77 (by decide) (fun c51 => ?_) (fun c51 => ?_)
                · replace h := bb_ifp c51 h
                  exact toW _ _ _ (Jk50 () _ _ _ h hP hD hS (lv_sub hl [0, 1, 3, 4, 5] rfl))
                · replace h := bb_ifn c51 h
                  refine lv_iload hx hb dX8_fits_80 (lv_at hl 4 rfl) ?_
                  refine lv_aload_n hx hb dX8_fits_82 rfl (lv_at hl 0 rfl) ?_
                  refine lv_iload hx hb dX8_fits_83 (lv_at hl 5 rfl) ?_
                  refine lv_iconst (v := (3 : Int32)) hx hb dX8_fits_85 (by decide) ?_
                  obtain ⟨r52, hc53, h⟩ := bb_b1_o h
                  refine vp_callSi (W.runV (As := [.int x6_33, .int (3 : Int32)]) (rest := [.int (f_t_number (((40 : Int32) * p1) + x4_14).toNatClampNeg), .int x3_32]) ⟨hx, hb, hml, hown, hts⟩ (kX8_its l dC dI cy a_t x6_33 (3 : Int32) v_t_isKept v_t_bestPost v_t_mostSeen v_t_taped v_t_from v_t_to v_t_isWrong f_t_s_15 r52 hc53) (cwV 2 hts gX8_fits_X8_its rfl rfl rfl kdX8_its ⟨Nat.le_of_ble_eq_true rfl, Nat.le_of_ble_eq_true rfl⟩) (bb_preV (va_recv hK hP (ci := 7) (q0 := 0) rfl rfl) (hP.sub (ws' := [((a_t 0), oX8 a_t v_t_isKept v_t_bestPost v_t_mostSeen v_t_taped v_t_from v_t_to v_t_isWrong), ((a_t 1), .inl (cy 0, 155, .inl f_t_s_15))]) [0, 5] rfl) hK) rfl rfl hl.1 rfl (lv_room (Nat.le_of_ble_eq_true rfl)) dX8_fits_86 ⟨Nat.zero_le _, Nat.zero_le _⟩) (fun t54 et54 => ?_)
                  obtain rfl := et54
                  refine lv_icmp_ne (tgt := 96) hx hb dX8_fits_89 (by decide) (fun c55 => ?_) (fun c55 => ?_)
                  · replace h := bb_ifn c55 h
                    refine lv_iconst (v := (1 : Int32)) hx hb dX8_fits_96 (by decide) ?_
                    refine lv_iload hx hb dX8_fits_97 (lv_at hl 5 rfl) ?_
                    refine lv_ishl hx hb dX8_fits_99 ?_
                    refine lv_iconst (v := (-1 : Int32)) hx hb dX8_fits_100 (by decide) ?_
                    refine lv_ixor hx hb dX8_fits_101 ?_
                    exact toW _ _ _ (Jk48 (((1 : Int32) <<< (x6_33 &&& 31)) ^^^ (-1 : Int32)) _ _ _ h hP hD hS (lv_sub hl [0, 1, 3, 4, 5] rfl))
                  · replace h := bb_ifp c55 h
                    exact toW _ _ _ (Jk50 () _ _ _ h hP hD hS (lv_sub hl [0, 1, 3, 4, 5] rfl))
          exact toW _ _ _ (L44 nn x3_13 (0 : Int32) _ _ _ h hP hD hS (lv_sub hl [2, 3, 4, 5, 1, 0] rfl))
    exact toW _ _ _ (L23 nn y5 (0 : Int32) f_t_s _ _ _ h (hP.sub [4, 5, 0, 1, 2, 6, 3] rfl) (hD.sub [4, 5, 0, 1, 2, 6, 3] (by decide) rfl) hS (lv_sub hl [3, 4, 1, 0] rfl))
  · replace h := bb_ifn c4 h
    refine lv_aload_n hx hb dX8_fits_10 rfl (lv_at hl 1 rfl) ?_
    refine lv_iload_n hx hb dX8_fits_11 rfl (lv_at hl 0 rfl) ?_
    obtain ⟨r56, w57, hc58, h⟩ := bb_b2_o h
    refine bb_cwi (wr := [((a_t 3), .inl (cy 0, 155, .inl f_t_aside)), ((a_t 17), .inl (cy 0, 4, .inl f_t_bitsOf)), ((a_t 19), .inl (cy 0, 160, .inl f_t_number)), ((a_t 1), .inl (cy 0, 155, .inl f_t_s)), ((a_t 18), .inl (cy 0, 4, .inl f_t_sizeOf))]) (w1 := [((a_t 0), oX8 a_t v_t_isKept v_t_bestPost v_t_mostSeen v_t_taped v_t_from v_t_to v_t_isWrong), ((a_t 5), .inl (cy 0, 7, .inl w57))]) (va_runV (As := [.int r1]) (rest := []) ⟨hx, hb, hml, hown, hts⟩ (kX8_finds l dC dI cy s.heap.size a_t r1 v_t_isKept v_t_bestPost v_t_mostSeen v_t_taped v_t_from v_t_to v_t_isWrong f_t_found r56 w57 hc58) (cwV 1 hts gX8_fits_X8_finds rfl rfl rfl kdX8_finds ⟨Nat.le_of_ble_eq_true rfl, Nat.le_of_ble_eq_true rfl⟩) (bb_preVw (va_recv hK hP (ci := 7) (q0 := 0) rfl rfl) (hP.sub (ws' := [((a_t 0), oX8 a_t v_t_isKept v_t_bestPost v_t_mostSeen v_t_taped v_t_from v_t_to v_t_isWrong), ((a_t 5), .inl (cy 0, 7, .inl f_t_found))]) [0, 3] rfl) hK (hD.sub (ws' := [((a_t 0), oX8 a_t v_t_isKept v_t_bestPost v_t_mostSeen v_t_taped v_t_from v_t_to v_t_isWrong), ((a_t 5), .inl (cy 0, 7, .inl f_t_found))]) [0, 3] (by decide) rfl)) rfl rfl hl.1 rfl (lv_room (Nat.le_of_ble_eq_true rfl)) dX8_fits_12 ⟨Nat.zero_le _, Nat.zero_le _⟩) hP hD hS hA [0, 3] [1, 2, 4, 5, 6] rfl rfl (by decide) (by decide) (fun H locs hP hD hS => ?_)
    have hP : va_P (dC, dI) vwCl [((a_t 3), .inl (cy 0, 155, .inl f_t_aside)), ((a_t 17), .inl (cy 0, 4, .inl f_t_bitsOf)), ((a_t 19), .inl (cy 0, 160, .inl f_t_number)), ((a_t 1), .inl (cy 0, 155, .inl f_t_s)), ((a_t 18), .inl (cy 0, 4, .inl f_t_sizeOf)), ((a_t 0), oX8 a_t v_t_isKept v_t_bestPost v_t_mostSeen v_t_taped v_t_from v_t_to v_t_isWrong), ((a_t 5), .inl (cy 0, 7, .inl w57))] H := hP
    have hD : va_D A [((a_t 3), .inl (cy 0, 155, .inl f_t_aside)), ((a_t 17), .inl (cy 0, 4, .inl f_t_bitsOf)), ((a_t 19), .inl (cy 0, 160, .inl f_t_number)), ((a_t 1), .inl (cy 0, 155, .inl f_t_s)), ((a_t 18), .inl (cy 0, 4, .inl f_t_sizeOf)), ((a_t 0), oX8 a_t v_t_isKept v_t_bestPost v_t_mostSeen v_t_taped v_t_from v_t_to v_t_isWrong), ((a_t 5), .inl (cy 0, 7, .inl w57))] := hD
    obtain ⟨rfl, rfl, rfl, rfl⟩ := bb_some4 h
    have hP9 := hP.sub (ws' := [((a_t 0), oX8 a_t v_t_isKept v_t_bestPost v_t_mostSeen v_t_taped v_t_from v_t_to v_t_isWrong), ((a_t 3), .inl (cy 0, 155, .inl f_t_aside)), ((a_t 17), .inl (cy 0, 4, .inl f_t_bitsOf)), ((a_t 5), .inl (cy 0, 7, .inl w57)), ((a_t 19), .inl (cy 0, 160, .inl f_t_number)), ((a_t 1), .inl (cy 0, 155, .inl f_t_s)), ((a_t 18), .inl (cy 0, 4, .inl f_t_sizeOf))]) [5, 0, 1, 6, 2, 3, 4] rfl
    have hD9 := hD.sub (ws' := [((a_t 0), oX8 a_t v_t_isKept v_t_bestPost v_t_mostSeen v_t_taped v_t_from v_t_to v_t_isWrong), ((a_t 3), .inl (cy 0, 155, .inl f_t_aside)), ((a_t 17), .inl (cy 0, 4, .inl f_t_bitsOf)), ((a_t 5), .inl (cy 0, 7, .inl w57)), ((a_t 19), .inl (cy 0, 160, .inl f_t_number)), ((a_t 1), .inl (cy 0, 155, .inl f_t_s)), ((a_t 18), .inl (cy 0, 4, .inl f_t_sizeOf))]) [5, 0, 1, 6, 2, 3, 4] (by decide) rfl
    exact W.iret hx hb hr (fun t ht hW => ⟨⟨_, (), rfl, rfl, by rw [ht]; exact hP9, va_K.moved hW.alike hK, hD9⟩, hS.F ht⟩) hS.2.2 dX8_fits_15
/-! X8_swaps -/
def uX8_swaps_s94 (x4_23 : Int32) (f_t_s_25 : Nat → Int32) (k_123 : Int32 → Int32 → Option (Int32 × (Nat → Int32))) (rec26 : Int32 → Int32 → Int32 → Option (Int32 × (Nat → Int32))) (x2_20 : Int32) (x3_21 : Int32) (x5_22 : Int32) : Option (Int32 × (Nat → Int32)) :=
  (if x5_22 = x4_23 then k_123 x2_20 x3_21 else bb_b1 (uX8_its x5_22 (4 : Int32) f_t_s_25) (fun (r30 : Int32) => rec26 (x2_20 + (1 : Int32)) (x3_21 ||| ((1 : Int32) <<< (x5_22 &&& 31))) r30))
def uX8_swaps_s58 (nn : Nat) (f_t_found_7 : Nat → Int32) (f_t_s_8 : Nat → Int32) (rec9 : Int32 → Int32 → Int32 → Option (Int32 × (Nat → Int32))) (x2_4 : Int32) (x3_5 : Int32) (x4_6 : Int32) : Option (Int32 × (Nat → Int32)) :=
  (if (f_t_s_8 (1 : Int32).toNatClampNeg) ≤ x4_6 then some (x2_4, f_t_found_7) else bb_cut (fun (x2_13 : Int32) (x3_14 : Int32) => rec9 x2_13 x3_14 (x4_6 + (1 : Int32))) (fun k15 => (if ((x3_5 >>> (x4_6 &&& 31)) &&& (1 : Int32)) = 0 then bb_b1 (uX8_its x4_6 (4 : Int32) f_t_s_8) (fun (r17 : Int32) => bb_loop3 (uX8_swaps_s94 x4_6 f_t_s_8 k15) nn x2_4 (x3_5 ||| ((1 : Int32) <<< (x4_6 &&& 31))) r17) else k15 x2_4 x3_5)))
def uX8_swaps_s4 (f_t_s_39 : Nat → Int32) (k_31 : Int32 → Option (Int32 × (Nat → Int32))) (rec40 : Int32 → Int32 → Option (Int32 × (Nat → Int32))) (x1_36 : Int32) (x2_37 : Int32) : Option (Int32 × (Nat → Int32)) :=
  (if (f_t_s_39 (1 : Int32).toNatClampNeg) ≤ x2_37 then k_31 x1_36 else bb_b1 (uX8_its x2_37 (4 : Int32) f_t_s_39) (fun (r44 : Int32) => rec40 (x1_36 ||| ((1 : Int32) <<< (r44 &&& 31))) (x2_37 + (1 : Int32))))
def uX8_swaps (nn : Nat) (f_t_found : Nat → Int32) (f_t_s : Nat → Int32) : Option (Int32 × (Nat → Int32)) :=
  bb_cut (fun (x1_1 : Int32) => (if x1_1 = (((1 : Int32) <<< ((f_t_s (1 : Int32).toNatClampNeg) &&& 31)) - (1 : Int32)) then bb_loop3 (uX8_swaps_s58 nn f_t_found f_t_s) nn (0 : Int32) (0 : Int32) (0 : Int32) else bb_b2 (uX8_finds (4 : Int32) f_t_found) (fun (r33 : Int32) (w34 : Nat → Int32) => some (r33, w34)))) (fun k2 => bb_loop2 (uX8_swaps_s4 f_t_s k2) nn (0 : Int32) (0 : Int32))
theorem kdX8_swaps : yX8_swaps.cls = RX8 ∧ yX8_swaps.cls ≠ "java/lang/invoke/MethodHandle" ∧ yX8_swaps.cls ≠ "java/lang/invoke/VarHandle" ∧ (parseMethodDescriptor yX8_swaps.desc).map (fun d => d.parameters.length) = some 0 := by decide +kernel
set_option maxHeartbeats 4000000 in
set_option maxRecDepth 100000 in
theorem kX8_swaps (l : Launch) (dC : Nat → ClassId) (dI : Nat → Nat → Nat) (cy : Nat → ClassId) (sz : Nat) (a_t : Nat → Nat) (v_t_isKept : Int32) (v_t_bestPost : Int32) (v_t_mostSeen : Int32) (v_t_taped : Int32) (v_t_from : Int32) (v_t_to : Int32) (v_t_isWrong : Int32) (f_t_found : Nat → Int32) (f_t_s : Nat → Int32) (nn : Nat) (r : Int32) (f_t_found_o : Nat → Int32) (h : uX8_swaps nn f_t_found f_t_s = some (r, f_t_found_o)) : Met l yX8_swaps wsX8_swaps ({ frames := 1, cells := 0, slots := 0, locals := 22 }) (va_Pc [.ref (a_t 0)] (fun U => U.heap.size = sz ∧ va_P (dC, dI) vwCl [((a_t 0), oX8 a_t v_t_isKept v_t_bestPost v_t_mostSeen v_t_taped v_t_from v_t_to v_t_isWrong), ((a_t 5), .inl (cy 0, 7, .inl f_t_found)), ((a_t 1), .inl (cy 0, 155, .inl f_t_s))] U.heap ∧ va_K (dC, dI) vwCl (tyX cy) U ∧ va_D (fun _ => True) [((a_t 0), oX8 a_t v_t_isKept v_t_bestPost v_t_mostSeen v_t_taped v_t_from v_t_to v_t_isWrong), ((a_t 5), .inl (cy 0, 7, .inl f_t_found)), ((a_t 1), .inl (cy 0, 155, .inl f_t_s))])) (va_Qi (fun (r2 : Int32) (_ : Unit) => r = r2) (fun _ t => va_P (dC, dI) vwCl [((a_t 0), oX8 a_t v_t_isKept v_t_bestPost v_t_mostSeen v_t_taped v_t_from v_t_to v_t_isWrong), ((a_t 5), .inl (cy 0, 7, .inl f_t_found_o)), ((a_t 1), .inl (cy 0, 155, .inl f_t_s))] t.heap ∧ va_K (dC, dI) vwCl (tyX cy) t ∧ va_D (va_A [((a_t 0), oX8 a_t v_t_isKept v_t_bestPost v_t_mostSeen v_t_taped v_t_from v_t_to v_t_isWrong), ((a_t 5), .inl (cy 0, 7, .inl f_t_found)), ((a_t 1), .inl (cy 0, 155, .inl f_t_s))] sz) [((a_t 0), oX8 a_t v_t_isKept v_t_bestPost v_t_mostSeen v_t_taped v_t_from v_t_to v_t_isWrong), ((a_t 5), .inl (cy 0, 7, .inl f_t_found_o)), ((a_t 1), .inl (cy 0, 155, .inl f_t_s))]) (va_A [((a_t 0), oX8 a_t v_t_isKept v_t_bestPost v_t_mostSeen v_t_taped v_t_from v_t_to v_t_isWrong), ((a_t 5), .inl (cy 0, 7, .inl f_t_found)), ((a_t 1), .inl (cy 0, 155, .inl f_t_s))] sz)) 0 0 (va_A [((a_t 0), oX8 a_t v_t_isKept v_t_bestPost v_t_mostSeen v_t_taped v_t_from v_t_to v_t_isWrong), ((a_t 5), .inl (cy 0, 7, .inl f_t_found)), ((a_t 1), .inl (cy 0, 155, .inl f_t_s))] sz) := by
  refine Met.ofW (cc := cX8_swaps) (maxL := 6) (ret := (some .int)) (by decide) rfl ?_
  intro p e s m args below meth c s₁ B hml hv
  obtain ⟨rfl, hsz, hP, hK, hD0⟩ := hv
  have hx := B.exec
  have hb := B.bytes
  have hr := B.returns
  have hts := atoms_spec (ws := wsX8_swaps) B.pre
  have hown : s.vm.findClass RX8 = some m.cls := findClass_of_methodNamed B.named
  have hlocks := B.notSynchronized
  have iwX8 : ∀ w ∈ wsX80, w ∈ wsX8_swaps := fun w h9 => List.mem_cons_of_mem _ (List.mem_append_right _ (h9))
  have lk1 := hts (Cond.fieldLink RX8 9 "BathBorderModel" "s" "[I") (List.mem_of_getElem? (i := 1) rfl)
  subst hsz
  have hD := hD0.self (sz := s.heap.size)
  generalize hAe : va_A [((a_t 0), oX8 a_t v_t_isKept v_t_bestPost v_t_mostSeen v_t_taped v_t_from v_t_to v_t_isWrong), ((a_t 5), .inl (cy 0, 7, .inl f_t_found)), ((a_t 1), .inl (cy 0, 155, .inl f_t_s))] s.heap.size = A at hD ⊢
  have hA : ∀ q : Nat, s.heap.size ≤ q → A q := fun q h => by rw [← hAe]; exact Or.inr h
  have hS : va_S A s.heap s.heap [] := va_S.rf
  have hP : va_P (dC, dI) vwCl [((a_t 0), oX8 a_t v_t_isKept v_t_bestPost v_t_mostSeen v_t_taped v_t_from v_t_to v_t_isWrong), ((a_t 5), .inl (cy 0, 7, .inl f_t_found)), ((a_t 1), .inl (cy 0, 155, .inl f_t_s))] s.heap := hP
  have hl := lv_entry ([.ref (a_t 0)]) (n := 6) (Nat.le_of_ble_eq_true rfl)
  rw [lg_entry_eq]
  generalize (lg_sl ([.ref (a_t 0)]) ++ List.replicate (6 - (lg_sl ([.ref (a_t 0)])).length) Slot.unset).toArray = ls at hl ⊢
  have hl : lv_has ls 6 [(0, .ref (a_t 0))] := hl
  unfold uX8_swaps at h
  refine bb_cap (fun WW toW ofW => ?_)
  refine lv_iconst (v := (0 : Int32)) hx hb dX8_swaps_0 (by decide) ?_
  refine lv_istore_n (lv' := [(1, .int (0 : Int32)), (0, .ref (a_t 0))]) hx hb dX8_swaps_1 rfl hl (by decide) rfl (fun ls hl => ?_)
  refine lv_iconst (v := (0 : Int32)) hx hb dX8_swaps_2 (by decide) ?_
  refine lv_istore_n (lv' := [(2, .int (0 : Int32)), (1, .int (0 : Int32)), (0, .ref (a_t 0))]) hx hb dX8_swaps_3 rfl hl (by decide) rfl (fun ls hl => ?_)
  obtain ⟨k2, ek2, h⟩ := bb_cut_o h
  have Jk2 : ∀ (x1_1 : Int32) (H : Heap) (locs : List Loc) (ls : Array Slot), k2 x1_1 = some (r, f_t_found_o) → va_P (dC, dI) vwCl [((a_t 0), oX8 a_t v_t_isKept v_t_bestPost v_t_mostSeen v_t_taped v_t_from v_t_to v_t_isWrong), ((a_t 5), .inl (cy 0, 7, .inl f_t_found)), ((a_t 1), .inl (cy 0, 155, .inl f_t_s))] H → va_D A [((a_t 0), oX8 a_t v_t_isKept v_t_bestPost v_t_mostSeen v_t_taped v_t_from v_t_to v_t_isWrong), ((a_t 5), .inl (cy 0, 7, .inl f_t_found)), ((a_t 1), .inl (cy 0, 155, .inl f_t_s))] → va_S A s.heap H locs → lv_has ls 6 [(0, .ref (a_t 0)), (1, .int x1_1)] → WW H locs (F0 m 31 ls []) := by
    intro x1_1 H locs ls h hP hD hS hl
    refine ofW _ _ _ ?_
    subst ek2
    refine lv_iload_n hx hb dX8_swaps_31 rfl (lv_at hl 1 rfl) ?_
    refine lv_iconst (v := (1 : Int32)) hx hb dX8_swaps_32 (by decide) ?_
    refine lv_aload_n hx hb dX8_swaps_33 rfl (lv_at hl 0 rfl) ?_
    refine va_get (D := (dC, dI)) (ci := 7) (v := .ref (a_t 1)) (C := RX8) (T := TX8) (N := 20) hx hb hts iwX8 hown hK hP 0 rfl rfl 0 (by decide) lk1 (fun _ h9 => h9) rfl dX8_swaps_34 ?_
    refine lv_iconst (v := (1 : Int32)) hx hb dX8_swaps_37 (by decide) ?_
    refine va_iald hx hb hK hP 2 0 rfl rfl (bb_in (by decide)) dX8_swaps_38 ?_
    refine lv_ishl hx hb dX8_swaps_39 ?_
    refine lv_iconst (v := (1 : Int32)) hx hb dX8_swaps_40 (by decide) ?_
    refine lv_isub hx hb dX8_swaps_41 ?_
    refine lv_icmp_eq (tgt := 51) hx hb dX8_swaps_42 (by decide) (fun c3 => ?_) (fun c3 => ?_)
    · replace h := bb_ifp c3 h
      refine lv_iconst (v := (0 : Int32)) hx hb dX8_swaps_51 (by decide) ?_
      refine lv_istore_n (lv' := [(2, .int (0 : Int32)), (0, .ref (a_t 0)), (1, .int x1_1)]) hx hb dX8_swaps_52 rfl hl (by decide) rfl (fun ls hl => ?_)
      refine lv_iconst (v := (0 : Int32)) hx hb dX8_swaps_53 (by decide) ?_
      refine lv_istore_n (lv' := [(3, .int (0 : Int32)), (2, .int (0 : Int32)), (0, .ref (a_t 0)), (1, .int x1_1)]) hx hb dX8_swaps_54 rfl hl (by decide) rfl (fun ls hl => ?_)
      refine lv_iconst (v := (0 : Int32)) hx hb dX8_swaps_55 (by decide) ?_
      refine lv_istore (lv' := [(4, .int (0 : Int32)), (3, .int (0 : Int32)), (2, .int (0 : Int32)), (0, .ref (a_t 0)), (1, .int x1_1)]) hx hb dX8_swaps_56 hl (by decide) rfl (fun ls hl => ?_)
      have L10 : ∀ (n : Nat) (x2_4 : Int32) (x3_5 : Int32) (x4_6 : Int32) (H : Heap) (locs : List Loc) (ls : Array Slot), bb_loop3 (uX8_swaps_s58 nn f_t_found f_t_s) n x2_4 x3_5 x4_6 = some (r, f_t_found_o) → va_P (dC, dI) vwCl [((a_t 0), oX8 a_t v_t_isKept v_t_bestPost v_t_mostSeen v_t_taped v_t_from v_t_to v_t_isWrong), ((a_t 5), .inl (cy 0, 7, .inl f_t_found)), ((a_t 1), .inl (cy 0, 155, .inl f_t_s))] H → va_D A [((a_t 0), oX8 a_t v_t_isKept v_t_bestPost v_t_mostSeen v_t_taped v_t_from v_t_to v_t_isWrong), ((a_t 5), .inl (cy 0, 7, .inl f_t_found)), ((a_t 1), .inl (cy 0, 155, .inl f_t_s))] → va_S A s.heap H locs → lv_has ls 6 [(0, .ref (a_t 0)), (2, .int x2_4), (3, .int x3_5), (4, .int x4_6)] → WW H locs (F0 m 58 ls []) := by
        intro n
        induction n with
        | zero => intro x2_4 x3_5 x4_6 H locs ls h; exact (bb_no h).elim
        | succ n ih11 =>
          intro x2_4 x3_5 x4_6 H locs ls h hP hD hS hl
          refine ofW _ _ _ ?_
          obtain ⟨rec9, erec9, h⟩ := bb_loop3_o h
          unfold uX8_swaps_s58 at h
          refine lv_iload hx hb dX8_swaps_58 (lv_at hl 3 rfl) ?_
          refine lv_aload_n hx hb dX8_swaps_60 rfl (lv_at hl 0 rfl) ?_
          refine va_get (D := (dC, dI)) (ci := 7) (v := .ref (a_t 1)) (C := RX8) (T := TX8) (N := 20) hx hb hts iwX8 hown hK hP 0 rfl rfl 0 (by decide) lk1 (fun _ h9 => h9) rfl dX8_swaps_61 ?_
          refine lv_iconst (v := (1 : Int32)) hx hb dX8_swaps_64 (by decide) ?_
          refine va_iald hx hb hK hP 2 0 rfl rfl (bb_in (by decide)) dX8_swaps_65 ?_
          refine lv_icmp_ge (tgt := 129) hx hb dX8_swaps_66 (by decide) (fun c12 => ?_) (fun c12 => ?_)
          · replace h := bb_ifp c12 h
            refine lv_iload_n hx hb dX8_swaps_129 rfl (lv_at hl 1 rfl) ?_
            obtain ⟨rfl, rfl⟩ := bb_some2 h
            have hP9 := hP.sub (ws' := [((a_t 0), oX8 a_t v_t_isKept v_t_bestPost v_t_mostSeen v_t_taped v_t_from v_t_to v_t_isWrong), ((a_t 5), .inl (cy 0, 7, .inl f_t_found)), ((a_t 1), .inl (cy 0, 155, .inl f_t_s))]) [0, 1, 2] rfl
            have hD9 := hD.sub (ws' := [((a_t 0), oX8 a_t v_t_isKept v_t_bestPost v_t_mostSeen v_t_taped v_t_from v_t_to v_t_isWrong), ((a_t 5), .inl (cy 0, 7, .inl f_t_found)), ((a_t 1), .inl (cy 0, 155, .inl f_t_s))]) [0, 1, 2] (by decide) rfl
            exact W.iret hx hb hr (fun t ht hW => ⟨⟨_, (), rfl, rfl, by rw [ht]; exact hP9, va_K.moved hW.alike hK, hD9⟩, hS.F ht⟩) hS.2.2 dX8_swaps_130
          · replace h := bb_ifn c12 h
            refine lv_iload_n hx hb dX8_swaps_69 rfl (lv_at hl 2 rfl) ?_
            refine lv_iload hx hb dX8_swaps_70 (lv_at hl 3 rfl) ?_
            refine lv_ishr hx hb dX8_swaps_72 ?_
            refine lv_iconst (v := (1 : Int32)) hx hb dX8_swaps_73 (by decide) ?_
            refine lv_iand hx hb dX8_swaps_74 ?_
            obtain ⟨k15, ek15, h⟩ := bb_cut_o h
            have Jk15 : ∀ (x2_13 : Int32) (x3_14 : Int32) (H : Heap) (locs : List Loc) (ls : Array Slot), k15 x2_13 x3_14 = some (r, f_t_found_o) → va_P (dC, dI) vwCl [((a_t 0), oX8 a_t v_t_isKept v_t_bestPost v_t_mostSeen v_t_taped v_t_from v_t_to v_t_isWrong), ((a_t 5), .inl (cy 0, 7, .inl f_t_found)), ((a_t 1), .inl (cy 0, 155, .inl f_t_s))] H → va_D A [((a_t 0), oX8 a_t v_t_isKept v_t_bestPost v_t_mostSeen v_t_taped v_t_from v_t_to v_t_isWrong), ((a_t 5), .inl (cy 0, 7, .inl f_t_found)), ((a_t 1), .inl (cy 0, 155, .inl f_t_s))] → va_S A s.heap H locs → lv_has ls 6 [(0, .ref (a_t 0)), (2, .int x2_13), (3, .int x3_14), (4, .int x4_6)] → WW H locs (F0 m 123 ls []) := by
              intro x2_13 x3_14 H locs ls h hP hD hS hl
              refine ofW _ _ _ ?_
              subst ek15
              refine lv_iinc (v := x4_6 + (1 : Int32)) (lv' := [(4, .int (x4_6 + (1 : Int32))), (0, .ref (a_t 0)), (2, .int x2_13), (3, .int x3_14)]) hx hb dX8_swaps_123 hl (k := 3) rfl rfl (by decide) rfl (fun ls hl => ?_)
              refine lv_goto (tgt := 58) hx hb dX8_swaps_126 (by decide) ?_
              rw [erec9] at h
              exact toW _ _ _ (ih11 x2_13 x3_14 (x4_6 + (1 : Int32)) _ _ _ h hP hD hS (lv_sub hl [1, 2, 3, 0] rfl))
            refine lv_if_ne (tgt := 123) hx hb dX8_swaps_75 (by decide) (fun c16 => ?_) (fun c16 => ?_)
            · replace h := bb_ifn c16 h
              exact toW _ _ _ (Jk15 x2_4 x3_5 _ _ _ h hP hD hS (lv_sub hl [0, 1, 2, 3] rfl))
            · replace h := bb_ifp c16 h
              refine lv_iload_n hx hb dX8_swaps_78 rfl (lv_at hl 2 rfl) ?_
              refine lv_iconst (v := (1 : Int32)) hx hb dX8_swaps_79 (by decide) ?_
              refine lv_iload hx hb dX8_swaps_80 (lv_at hl 3 rfl) ?_
              refine lv_ishl hx hb dX8_swaps_82 ?_
              refine lv_ior hx hb dX8_swaps_83 ?_
              refine lv_istore_n (lv' := [(3, .int (x3_5 ||| ((1 : Int32) <<< (x4_6 &&& 31)))), (0, .ref (a_t 0)), (2, .int x2_4), (4, .int x4_6)]) hx hb dX8_swaps_84 rfl hl (by decide) rfl (fun ls hl => ?_)
              refine lv_aload_n hx hb dX8_swaps_85 rfl (lv_at hl 1 rfl) ?_
              refine lv_iload hx hb dX8_swaps_86 (lv_at hl 3 rfl) ?_
              refine lv_iconst (v := (4 : Int32)) hx hb dX8_swaps_88 (by decide) ?_
              obtain ⟨r17, hc18, h⟩ := bb_b1_o h
              refine vp_callSi (W.runV (As := [.int x4_6, .int (4 : Int32)]) (rest := []) ⟨hx, hb, hml, hown, hts⟩ (kX8_its l dC dI cy a_t x4_6 (4 : Int32) v_t_isKept v_t_bestPost v_t_mostSeen v_t_taped v_t_from v_t_to v_t_isWrong f_t_s r17 hc18) (cwV 2 hts gX8_swaps_X8_its rfl rfl rfl kdX8_its ⟨Nat.le_of_ble_eq_true rfl, Nat.le_of_ble_eq_true rfl⟩) (bb_preV (va_recv hK hP (ci := 7) (q0 := 0) rfl rfl) (hP.sub (ws' := [((a_t 0), oX8 a_t v_t_isKept v_t_bestPost v_t_mostSeen v_t_taped v_t_from v_t_to v_t_isWrong), ((a_t 1), .inl (cy 0, 155, .inl f_t_s))]) [0, 2] rfl) hK) rfl rfl hl.1 rfl (lv_room (Nat.le_of_ble_eq_true rfl)) dX8_swaps_89 ⟨Nat.zero_le _, Nat.zero_le _⟩) (fun t19 et19 => ?_)
              obtain rfl := et19
              refine lv_istore (lv' := [(5, .int r17), (3, .int (x3_5 ||| ((1 : Int32) <<< (x4_6 &&& 31)))), (0, .ref (a_t 0)), (2, .int x2_4), (4, .int x4_6)]) hx hb dX8_swaps_92 hl (by decide) rfl (fun ls hl => ?_)
              have L27 : ∀ (n : Nat) (x2_20 : Int32) (x3_21 : Int32) (x5_22 : Int32) (H : Heap) (locs : List Loc) (ls : Array Slot), bb_loop3 (uX8_swaps_s94 x4_6 f_t_s k15) n x2_20 x3_21 x5_22 = some (r, f_t_found_o) → va_P (dC, dI) vwCl [((a_t 0), oX8 a_t v_t_isKept v_t_bestPost v_t_mostSeen v_t_taped v_t_from v_t_to v_t_isWrong), ((a_t 5), .inl (cy 0, 7, .inl f_t_found)), ((a_t 1), .inl (cy 0, 155, .inl f_t_s))] H → va_D A [((a_t 0), oX8 a_t v_t_isKept v_t_bestPost v_t_mostSeen v_t_taped v_t_from v_t_to v_t_isWrong), ((a_t 5), .inl (cy 0, 7, .inl f_t_found)), ((a_t 1), .inl (cy 0, 155, .inl f_t_s))] → va_S A s.heap H locs → lv_has ls 6 [(0, .ref (a_t 0)), (2, .int x2_20), (3, .int x3_21), (4, .int x4_6), (5, .int x5_22)] → WW H locs (F0 m 94 ls []) := by
                intro n
                induction n with
                | zero => intro x2_20 x3_21 x5_22 H locs ls h; exact (bb_no h).elim
                | succ n ih28 =>
                  intro x2_20 x3_21 x5_22 H locs ls h hP hD hS hl
                  refine ofW _ _ _ ?_
                  obtain ⟨rec26, erec26, h⟩ := bb_loop3_o h
                  unfold uX8_swaps_s94 at h
                  refine lv_iload hx hb dX8_swaps_94 (lv_at hl 4 rfl) ?_
                  refine lv_iload hx hb dX8_swaps_96 (lv_at hl 3 rfl) ?_
                  refine lv_icmp_eq (tgt := 123) hx hb dX8_swaps_98 (by decide) (fun c29 => ?_) (fun c29 => ?_)
                  · replace h := bb_ifp c29 h
                    exact toW _ _ _ (Jk15 x2_20 x3_21 _ _ _ h hP hD hS (lv_sub hl [0, 1, 2, 3] rfl))
                  · replace h := bb_ifn c29 h
                    refine lv_iload_n hx hb dX8_swaps_101 rfl (lv_at hl 2 rfl) ?_
                    refine lv_iconst (v := (1 : Int32)) hx hb dX8_swaps_102 (by decide) ?_
                    refine lv_iload hx hb dX8_swaps_103 (lv_at hl 4 rfl) ?_
                    refine lv_ishl hx hb dX8_swaps_105 ?_
                    refine lv_ior hx hb dX8_swaps_106 ?_
                    refine lv_istore_n (lv' := [(3, .int (x3_21 ||| ((1 : Int32) <<< (x5_22 &&& 31)))), (0, .ref (a_t 0)), (2, .int x2_20), (4, .int x4_6), (5, .int x5_22)]) hx hb dX8_swaps_107 rfl hl (by decide) rfl (fun ls hl => ?_)
                    refine lv_iinc (v := x2_20 + (1 : Int32)) (lv' := [(2, .int (x2_20 + (1 : Int32))), (3, .int (x3_21 ||| ((1 : Int32) <<< (x5_22 &&& 31)))), (0, .ref (a_t 0)), (4, .int x4_6), (5, .int x5_22)]) hx hb dX8_swaps_108 hl (k := 2) rfl rfl (by decide) rfl (fun ls hl => ?_)
                    refine lv_aload_n hx hb dX8_swaps_111 rfl (lv_at hl 2 rfl) ?_
                    refine lv_iload hx hb dX8_swaps_112 (lv_at hl 4 rfl) ?_
                    refine lv_iconst (v := (4 : Int32)) hx hb dX8_swaps_114 (by decide) ?_
                    obtain ⟨r30, hc31, h⟩ := bb_b1_o h
                    refine vp_callSi (W.runV (As := [.int x5_22, .int (4 : Int32)]) (rest := []) ⟨hx, hb, hml, hown, hts⟩ (kX8_its l dC dI cy a_t x5_22 (4 : Int32) v_t_isKept v_t_bestPost v_t_mostSeen v_t_taped v_t_from v_t_to v_t_isWrong f_t_s r30 hc31) (cwV 2 hts gX8_swaps_X8_its rfl rfl rfl kdX8_its ⟨Nat.le_of_ble_eq_true rfl, Nat.le_of_ble_eq_true rfl⟩) (bb_preV (va_recv hK hP (ci := 7) (q0 := 0) rfl rfl) (hP.sub (ws' := [((a_t 0), oX8 a_t v_t_isKept v_t_bestPost v_t_mostSeen v_t_taped v_t_from v_t_to v_t_isWrong), ((a_t 1), .inl (cy 0, 155, .inl f_t_s))]) [0, 2] rfl) hK) rfl rfl hl.1 rfl (lv_room (Nat.le_of_ble_eq_true rfl)) dX8_swaps_115 ⟨Nat.zero_le _, Nat.zero_le _⟩) (fun t32 et32 => ?_)
                    obtain rfl := et32
                    refine lv_istore (lv' := [(5, .int r30), (2, .int (x2_20 + (1 : Int32))), (3, .int (x3_21 ||| ((1 : Int32) <<< (x5_22 &&& 31)))), (0, .ref (a_t 0)), (4, .int x4_6)]) hx hb dX8_swaps_118 hl (by decide) rfl (fun ls hl => ?_)
                    refine lv_goto (tgt := 94) hx hb dX8_swaps_120 (by decide) ?_
                    rw [erec26] at h
                    exact toW _ _ _ (ih28 (x2_20 + (1 : Int32)) (x3_21 ||| ((1 : Int32) <<< (x5_22 &&& 31))) r30 _ _ _ h hP hD hS (lv_sub hl [3, 1, 2, 4, 0] rfl))
              exact toW _ _ _ (L27 nn x2_4 (x3_5 ||| ((1 : Int32) <<< (x4_6 &&& 31))) r17 _ _ _ h hP hD hS (lv_sub hl [2, 3, 1, 4, 0] rfl))
      exact toW _ _ _ (L10 nn (0 : Int32) (0 : Int32) (0 : Int32) _ _ _ h hP hD hS (lv_sub hl [3, 2, 1, 0] rfl))
    · replace h := bb_ifn c3 h
      refine lv_aload_n hx hb dX8_swaps_45 rfl (lv_at hl 0 rfl) ?_
      refine lv_iconst (v := (4 : Int32)) hx hb dX8_swaps_46 (by decide) ?_
      obtain ⟨r33, w34, hc35, h⟩ := bb_b2_o h
      refine bb_cwi (wr := [((a_t 1), .inl (cy 0, 155, .inl f_t_s))]) (w1 := [((a_t 0), oX8 a_t v_t_isKept v_t_bestPost v_t_mostSeen v_t_taped v_t_from v_t_to v_t_isWrong), ((a_t 5), .inl (cy 0, 7, .inl w34))]) (va_runV (As := [.int (4 : Int32)]) (rest := []) ⟨hx, hb, hml, hown, hts⟩ (kX8_finds l dC dI cy H.size a_t (4 : Int32) v_t_isKept v_t_bestPost v_t_mostSeen v_t_taped v_t_from v_t_to v_t_isWrong f_t_found r33 w34 hc35) (cwV 1 hts gX8_swaps_X8_finds rfl rfl rfl kdX8_finds ⟨Nat.le_of_ble_eq_true rfl, Nat.le_of_ble_eq_true rfl⟩) (bb_preVw (va_recv hK hP (ci := 7) (q0 := 0) rfl rfl) (hP.sub (ws' := [((a_t 0), oX8 a_t v_t_isKept v_t_bestPost v_t_mostSeen v_t_taped v_t_from v_t_to v_t_isWrong), ((a_t 5), .inl (cy 0, 7, .inl f_t_found))]) [0, 1] rfl) hK (hD.sub (ws' := [((a_t 0), oX8 a_t v_t_isKept v_t_bestPost v_t_mostSeen v_t_taped v_t_from v_t_to v_t_isWrong), ((a_t 5), .inl (cy 0, 7, .inl f_t_found))]) [0, 1] (by decide) rfl)) rfl rfl hl.1 rfl (lv_room (Nat.le_of_ble_eq_true rfl)) dX8_swaps_47 ⟨Nat.zero_le _, Nat.zero_le _⟩) hP hD hS hA [0, 1] [2] rfl rfl (by decide) (by decide) (fun H locs hP hD hS => ?_)
      have hP : va_P (dC, dI) vwCl [((a_t 1), .inl (cy 0, 155, .inl f_t_s)), ((a_t 0), oX8 a_t v_t_isKept v_t_bestPost v_t_mostSeen v_t_taped v_t_from v_t_to v_t_isWrong), ((a_t 5), .inl (cy 0, 7, .inl w34))] H := hP
      have hD : va_D A [((a_t 1), .inl (cy 0, 155, .inl f_t_s)), ((a_t 0), oX8 a_t v_t_isKept v_t_bestPost v_t_mostSeen v_t_taped v_t_from v_t_to v_t_isWrong), ((a_t 5), .inl (cy 0, 7, .inl w34))] := hD
      obtain ⟨rfl, rfl⟩ := bb_some2 h
      have hP9 := hP.sub (ws' := [((a_t 0), oX8 a_t v_t_isKept v_t_bestPost v_t_mostSeen v_t_taped v_t_from v_t_to v_t_isWrong), ((a_t 5), .inl (cy 0, 7, .inl w34)), ((a_t 1), .inl (cy 0, 155, .inl f_t_s))]) [1, 2, 0] rfl
      have hD9 := hD.sub (ws' := [((a_t 0), oX8 a_t v_t_isKept v_t_bestPost v_t_mostSeen v_t_taped v_t_from v_t_to v_t_isWrong), ((a_t 5), .inl (cy 0, 7, .inl w34)), ((a_t 1), .inl (cy 0, 155, .inl f_t_s))]) [1, 2, 0] (by decide) rfl
      exact W.iret hx hb hr (fun t ht hW => ⟨⟨_, (), rfl, rfl, by rw [ht]; exact hP9, va_K.moved hW.alike hK, hD9⟩, hS.F ht⟩) hS.2.2 dX8_swaps_50
  have L41 : ∀ (n : Nat) (x1_36 : Int32) (x2_37 : Int32) (H : Heap) (locs : List Loc) (ls : Array Slot), bb_loop2 (uX8_swaps_s4 f_t_s k2) n x1_36 x2_37 = some (r, f_t_found_o) → va_P (dC, dI) vwCl [((a_t 0), oX8 a_t v_t_isKept v_t_bestPost v_t_mostSeen v_t_taped v_t_from v_t_to v_t_isWrong), ((a_t 5), .inl (cy 0, 7, .inl f_t_found)), ((a_t 1), .inl (cy 0, 155, .inl f_t_s))] H → va_D A [((a_t 0), oX8 a_t v_t_isKept v_t_bestPost v_t_mostSeen v_t_taped v_t_from v_t_to v_t_isWrong), ((a_t 5), .inl (cy 0, 7, .inl f_t_found)), ((a_t 1), .inl (cy 0, 155, .inl f_t_s))] → va_S A s.heap H locs → lv_has ls 6 [(0, .ref (a_t 0)), (1, .int x1_36), (2, .int x2_37)] → WW H locs (F0 m 4 ls []) := by
    intro n
    induction n with
    | zero => intro x1_36 x2_37 H locs ls h; exact (bb_no h).elim
    | succ n ih42 =>
      intro x1_36 x2_37 H locs ls h hP hD hS hl
      refine ofW _ _ _ ?_
      obtain ⟨rec40, erec40, h⟩ := bb_loop2_o h
      unfold uX8_swaps_s4 at h
      refine lv_iload_n hx hb dX8_swaps_4 rfl (lv_at hl 2 rfl) ?_
      refine lv_aload_n hx hb dX8_swaps_5 rfl (lv_at hl 0 rfl) ?_
      refine va_get (D := (dC, dI)) (ci := 7) (v := .ref (a_t 1)) (C := RX8) (T := TX8) (N := 20) hx hb hts iwX8 hown hK hP 0 rfl rfl 0 (by decide) lk1 (fun _ h9 => h9) rfl dX8_swaps_6 ?_
      refine lv_iconst (v := (1 : Int32)) hx hb dX8_swaps_9 (by decide) ?_
      refine va_iald hx hb hK hP 2 0 rfl rfl (bb_in (by decide)) dX8_swaps_10 ?_
      refine lv_icmp_ge (tgt := 31) hx hb dX8_swaps_11 (by decide) (fun c43 => ?_) (fun c43 => ?_)
      · replace h := bb_ifp c43 h
        exact toW _ _ _ (Jk2 x1_36 _ _ _ h hP hD hS (lv_sub hl [0, 1] rfl))
      · replace h := bb_ifn c43 h
        refine lv_iload_n hx hb dX8_swaps_14 rfl (lv_at hl 1 rfl) ?_
        refine lv_iconst (v := (1 : Int32)) hx hb dX8_swaps_15 (by decide) ?_
        refine lv_aload_n hx hb dX8_swaps_16 rfl (lv_at hl 0 rfl) ?_
        refine lv_iload_n hx hb dX8_swaps_17 rfl (lv_at hl 2 rfl) ?_
        refine lv_iconst (v := (4 : Int32)) hx hb dX8_swaps_18 (by decide) ?_
        obtain ⟨r44, hc45, h⟩ := bb_b1_o h
        refine vp_callSi (W.runV (As := [.int x2_37, .int (4 : Int32)]) (rest := [.int (1 : Int32), .int x1_36]) ⟨hx, hb, hml, hown, hts⟩ (kX8_its l dC dI cy a_t x2_37 (4 : Int32) v_t_isKept v_t_bestPost v_t_mostSeen v_t_taped v_t_from v_t_to v_t_isWrong f_t_s r44 hc45) (cwV 2 hts gX8_swaps_X8_its rfl rfl rfl kdX8_its ⟨Nat.le_of_ble_eq_true rfl, Nat.le_of_ble_eq_true rfl⟩) (bb_preV (va_recv hK hP (ci := 7) (q0 := 0) rfl rfl) (hP.sub (ws' := [((a_t 0), oX8 a_t v_t_isKept v_t_bestPost v_t_mostSeen v_t_taped v_t_from v_t_to v_t_isWrong), ((a_t 1), .inl (cy 0, 155, .inl f_t_s))]) [0, 2] rfl) hK) rfl rfl hl.1 rfl (lv_room (Nat.le_of_ble_eq_true rfl)) dX8_swaps_19 ⟨Nat.zero_le _, Nat.zero_le _⟩) (fun t46 et46 => ?_)
        obtain rfl := et46
        refine lv_ishl hx hb dX8_swaps_22 ?_
        refine lv_ior hx hb dX8_swaps_23 ?_
        refine lv_istore_n (lv' := [(1, .int (x1_36 ||| ((1 : Int32) <<< (r44 &&& 31)))), (0, .ref (a_t 0)), (2, .int x2_37)]) hx hb dX8_swaps_24 rfl hl (by decide) rfl (fun ls hl => ?_)
        refine lv_iinc (v := x2_37 + (1 : Int32)) (lv' := [(2, .int (x2_37 + (1 : Int32))), (1, .int (x1_36 ||| ((1 : Int32) <<< (r44 &&& 31)))), (0, .ref (a_t 0))]) hx hb dX8_swaps_25 hl (k := 2) rfl rfl (by decide) rfl (fun ls hl => ?_)
        refine lv_goto (tgt := 4) hx hb dX8_swaps_28 (by decide) ?_
        rw [erec40] at h
        exact toW _ _ _ (ih42 (x1_36 ||| ((1 : Int32) <<< (r44 &&& 31))) (x2_37 + (1 : Int32)) _ _ _ h hP hD hS (lv_sub hl [2, 1, 0] rfl))
  exact toW _ _ _ (L41 nn (0 : Int32) (0 : Int32) _ _ _ h hP hD hS (lv_sub hl [2, 1, 0] rfl))
/-! X8_swap -/
def uX8_swap (p1 : Int32) (p2 : Int32) (f_t_found : Nat → Int32) (f_t_s : Nat → Int32) : Option (Int32 × (Nat → Int32) × (Nat → Int32)) :=
  bb_b1 (uX8_isBather p1 f_t_s) (fun (r1 : Int32) => (if r1 = 0 then bb_b2 (uX8_finds (0 : Int32) f_t_found) (fun (r6 : Int32) (w7 : Nat → Int32) => some (r6, w7, f_t_s)) else bb_b1 (uX8_isBather p2 f_t_s) (fun (r9 : Int32) => (if r9 = 0 then bb_b2 (uX8_finds (0 : Int32) f_t_found) (fun (r14 : Int32) (w15 : Nat → Int32) => some (r14, w15, f_t_s)) else (if p1 = p2 then bb_b2 (uX8_finds (0 : Int32) f_t_found) (fun (r29 : Int32) (w30 : Nat → Int32) => some (r29, w30, f_t_s)) else bb_b1 (uX8_its p1 (4 : Int32) f_t_s) (fun (r18 : Int32) => bb_b1 (uX8_its p2 (4 : Int32) f_t_s) (fun (r21 : Int32) => bb_b1 (uX8_sets p1 (4 : Int32) r21 f_t_s) (fun (w24 : Nat → Int32) => bb_b1 (uX8_sets p2 (4 : Int32) r18 w24) (fun (w26 : Nat → Int32) => (if r18 = r21 then some ((0 : Int32), f_t_found, w26) else some ((1 : Int32), f_t_found, w26)))))))))))
theorem kdX8_swap : yX8_swap.cls = RX8 ∧ yX8_swap.cls ≠ "java/lang/invoke/MethodHandle" ∧ yX8_swap.cls ≠ "java/lang/invoke/VarHandle" ∧ (parseMethodDescriptor yX8_swap.desc).map (fun d => d.parameters.length) = some 2 := by decide +kernel
set_option maxHeartbeats 4000000 in
set_option maxRecDepth 100000 in
theorem kX8_swap (l : Launch) (dC : Nat → ClassId) (dI : Nat → Nat → Nat) (cy : Nat → ClassId) (sz : Nat) (a_t : Nat → Nat) (p1 : Int32) (p2 : Int32) (v_t_isKept : Int32) (v_t_bestPost : Int32) (v_t_mostSeen : Int32) (v_t_taped : Int32) (v_t_from : Int32) (v_t_to : Int32) (v_t_isWrong : Int32) (f_t_found : Nat → Int32) (f_t_s : Nat → Int32) (r : Int32) (f_t_found_o : Nat → Int32) (f_t_s_o : Nat → Int32) (h : uX8_swap p1 p2 f_t_found f_t_s = some (r, f_t_found_o, f_t_s_o)) : Met l yX8_swap wsX8_swap ({ frames := 2, cells := 0, slots := 0, locals := 46 }) (va_Pc [.ref (a_t 0), .int p1, .int p2] (fun U => U.heap.size = sz ∧ va_P (dC, dI) vwCl [((a_t 0), oX8 a_t v_t_isKept v_t_bestPost v_t_mostSeen v_t_taped v_t_from v_t_to v_t_isWrong), ((a_t 5), .inl (cy 0, 7, .inl f_t_found)), ((a_t 1), .inl (cy 0, 155, .inl f_t_s))] U.heap ∧ va_K (dC, dI) vwCl (tyX cy) U ∧ va_D (fun _ => True) [((a_t 0), oX8 a_t v_t_isKept v_t_bestPost v_t_mostSeen v_t_taped v_t_from v_t_to v_t_isWrong), ((a_t 5), .inl (cy 0, 7, .inl f_t_found)), ((a_t 1), .inl (cy 0, 155, .inl f_t_s))])) (va_Qi (fun (r2 : Int32) (_ : Unit) => r = r2) (fun _ t => va_P (dC, dI) vwCl [((a_t 0), oX8 a_t v_t_isKept v_t_bestPost v_t_mostSeen v_t_taped v_t_from v_t_to v_t_isWrong), ((a_t 5), .inl (cy 0, 7, .inl f_t_found_o)), ((a_t 1), .inl (cy 0, 155, .inl f_t_s_o))] t.heap ∧ va_K (dC, dI) vwCl (tyX cy) t ∧ va_D (va_A [((a_t 0), oX8 a_t v_t_isKept v_t_bestPost v_t_mostSeen v_t_taped v_t_from v_t_to v_t_isWrong), ((a_t 5), .inl (cy 0, 7, .inl f_t_found)), ((a_t 1), .inl (cy 0, 155, .inl f_t_s))] sz) [((a_t 0), oX8 a_t v_t_isKept v_t_bestPost v_t_mostSeen v_t_taped v_t_from v_t_to v_t_isWrong), ((a_t 5), .inl (cy 0, 7, .inl f_t_found_o)), ((a_t 1), .inl (cy 0, 155, .inl f_t_s_o))]) (va_A [((a_t 0), oX8 a_t v_t_isKept v_t_bestPost v_t_mostSeen v_t_taped v_t_from v_t_to v_t_isWrong), ((a_t 5), .inl (cy 0, 7, .inl f_t_found)), ((a_t 1), .inl (cy 0, 155, .inl f_t_s))] sz)) 0 0 (va_A [((a_t 0), oX8 a_t v_t_isKept v_t_bestPost v_t_mostSeen v_t_taped v_t_from v_t_to v_t_isWrong), ((a_t 5), .inl (cy 0, 7, .inl f_t_found)), ((a_t 1), .inl (cy 0, 155, .inl f_t_s))] sz) := by
  refine Met.ofW (cc := cX8_swap) (maxL := 5) (ret := (some .int)) (by decide) rfl ?_
  intro p e s m args below meth c s₁ B hml hv
  obtain ⟨rfl, hsz, hP, hK, hD0⟩ := hv
  have hx := B.exec
  have hb := B.bytes
  have hr := B.returns
  have hts := atoms_spec (ws := wsX8_swap) B.pre
  have hown : s.vm.findClass RX8 = some m.cls := findClass_of_methodNamed B.named
  have hlocks := B.notSynchronized
  subst hsz
  have hD := hD0.self (sz := s.heap.size)
  generalize hAe : va_A [((a_t 0), oX8 a_t v_t_isKept v_t_bestPost v_t_mostSeen v_t_taped v_t_from v_t_to v_t_isWrong), ((a_t 5), .inl (cy 0, 7, .inl f_t_found)), ((a_t 1), .inl (cy 0, 155, .inl f_t_s))] s.heap.size = A at hD ⊢
  have hA : ∀ q : Nat, s.heap.size ≤ q → A q := fun q h => by rw [← hAe]; exact Or.inr h
  have hS : va_S A s.heap s.heap [] := va_S.rf
  have hP : va_P (dC, dI) vwCl [((a_t 0), oX8 a_t v_t_isKept v_t_bestPost v_t_mostSeen v_t_taped v_t_from v_t_to v_t_isWrong), ((a_t 5), .inl (cy 0, 7, .inl f_t_found)), ((a_t 1), .inl (cy 0, 155, .inl f_t_s))] s.heap := hP
  have hl := lv_entry ([.ref (a_t 0), .int p1, .int p2]) (n := 5) (Nat.le_of_ble_eq_true rfl)
  rw [lg_entry_eq]
  generalize (lg_sl ([.ref (a_t 0), .int p1, .int p2]) ++ List.replicate (5 - (lg_sl ([.ref (a_t 0), .int p1, .int p2])).length) Slot.unset).toArray = ls at hl ⊢
  have hl : lv_has ls 5 [(0, .ref (a_t 0)), (1, .int p1), (2, .int p2)] := hl
  unfold uX8_swap at h
  refine bb_cap (fun WW toW ofW => ?_)
  refine lv_aload_n hx hb dX8_swap_0 rfl (lv_at hl 0 rfl) ?_
  refine lv_iload_n hx hb dX8_swap_1 rfl (lv_at hl 1 rfl) ?_
  obtain ⟨r1, hc2, h⟩ := bb_b1_o h
  refine vp_callSi (W.runV (As := [.int p1]) (rest := []) ⟨hx, hb, hml, hown, hts⟩ (kX8_isBather l dC dI cy a_t p1 v_t_isKept v_t_bestPost v_t_mostSeen v_t_taped v_t_from v_t_to v_t_isWrong f_t_s r1 hc2) (cwV 1 hts gX8_swap_X8_isBather rfl rfl rfl kdX8_isBather ⟨Nat.le_of_ble_eq_true rfl, Nat.le_of_ble_eq_true rfl⟩) (bb_preV (va_recv hK hP (ci := 7) (q0 := 0) rfl rfl) (hP.sub (ws' := [((a_t 0), oX8 a_t v_t_isKept v_t_bestPost v_t_mostSeen v_t_taped v_t_from v_t_to v_t_isWrong), ((a_t 1), .inl (cy 0, 155, .inl f_t_s))]) [0, 2] rfl) hK) rfl rfl hl.1 rfl (lv_room (Nat.le_of_ble_eq_true rfl)) dX8_swap_2 ⟨Nat.zero_le _, Nat.zero_le _⟩) (fun t3 et3 => ?_)
  obtain ⟨rfl, hz4⟩ := et3
  refine lv_if_eq (tgt := 21) hx hb dX8_swap_5 (by decide) (fun c5 => ?_) (fun c5 => ?_)
  · replace h := bb_ifp c5 h
    refine lv_aload_n hx hb dX8_swap_21 rfl (lv_at hl 0 rfl) ?_
    refine lv_iconst (v := (0 : Int32)) hx hb dX8_swap_22 (by decide) ?_
    obtain ⟨r6, w7, hc8, h⟩ := bb_b2_o h
    refine bb_cwi (wr := [((a_t 1), .inl (cy 0, 155, .inl f_t_s))]) (w1 := [((a_t 0), oX8 a_t v_t_isKept v_t_bestPost v_t_mostSeen v_t_taped v_t_from v_t_to v_t_isWrong), ((a_t 5), .inl (cy 0, 7, .inl w7))]) (va_runV (As := [.int (0 : Int32)]) (rest := []) ⟨hx, hb, hml, hown, hts⟩ (kX8_finds l dC dI cy s.heap.size a_t (0 : Int32) v_t_isKept v_t_bestPost v_t_mostSeen v_t_taped v_t_from v_t_to v_t_isWrong f_t_found r6 w7 hc8) (cwV 1 hts gX8_swap_X8_finds rfl rfl rfl kdX8_finds ⟨Nat.le_of_ble_eq_true rfl, Nat.le_of_ble_eq_true rfl⟩) (bb_preVw (va_recv hK hP (ci := 7) (q0 := 0) rfl rfl) (hP.sub (ws' := [((a_t 0), oX8 a_t v_t_isKept v_t_bestPost v_t_mostSeen v_t_taped v_t_from v_t_to v_t_isWrong), ((a_t 5), .inl (cy 0, 7, .inl f_t_found))]) [0, 1] rfl) hK (hD.sub (ws' := [((a_t 0), oX8 a_t v_t_isKept v_t_bestPost v_t_mostSeen v_t_taped v_t_from v_t_to v_t_isWrong), ((a_t 5), .inl (cy 0, 7, .inl f_t_found))]) [0, 1] (by decide) rfl)) rfl rfl hl.1 rfl (lv_room (Nat.le_of_ble_eq_true rfl)) dX8_swap_23 ⟨Nat.zero_le _, Nat.zero_le _⟩) hP hD hS hA [0, 1] [2] rfl rfl (by decide) (by decide) (fun H locs hP hD hS => ?_)
    have hP : va_P (dC, dI) vwCl [((a_t 1), .inl (cy 0, 155, .inl f_t_s)), ((a_t 0), oX8 a_t v_t_isKept v_t_bestPost v_t_mostSeen v_t_taped v_t_from v_t_to v_t_isWrong), ((a_t 5), .inl (cy 0, 7, .inl w7))] H := hP
    have hD : va_D A [((a_t 1), .inl (cy 0, 155, .inl f_t_s)), ((a_t 0), oX8 a_t v_t_isKept v_t_bestPost v_t_mostSeen v_t_taped v_t_from v_t_to v_t_isWrong), ((a_t 5), .inl (cy 0, 7, .inl w7))] := hD
    obtain ⟨rfl, rfl, rfl⟩ := bb_some3 h
    have hP9 := hP.sub (ws' := [((a_t 0), oX8 a_t v_t_isKept v_t_bestPost v_t_mostSeen v_t_taped v_t_from v_t_to v_t_isWrong), ((a_t 5), .inl (cy 0, 7, .inl w7)), ((a_t 1), .inl (cy 0, 155, .inl f_t_s))]) [1, 2, 0] rfl
    have hD9 := hD.sub (ws' := [((a_t 0), oX8 a_t v_t_isKept v_t_bestPost v_t_mostSeen v_t_taped v_t_from v_t_to v_t_isWrong), ((a_t 5), .inl (cy 0, 7, .inl w7)), ((a_t 1), .inl (cy 0, 155, .inl f_t_s))]) [1, 2, 0] (by decide) rfl
    exact W.iret hx hb hr (fun t ht hW => ⟨⟨_, (), rfl, rfl, by rw [ht]; exact hP9, va_K.moved hW.alike hK, hD9⟩, hS.F ht⟩) hS.2.2 dX8_swap_26
  · replace h := bb_ifn c5 h
    refine lv_aload_n hx hb dX8_swap_8 rfl (lv_at hl 0 rfl) ?_
    refine lv_iload_n hx hb dX8_swap_9 rfl (lv_at hl 2 rfl) ?_
    obtain ⟨r9, hc10, h⟩ := bb_b1_o h
    refine vp_callSi (W.runV (As := [.int p2]) (rest := []) ⟨hx, hb, hml, hown, hts⟩ (kX8_isBather l dC dI cy a_t p2 v_t_isKept v_t_bestPost v_t_mostSeen v_t_taped v_t_from v_t_to v_t_isWrong f_t_s r9 hc10) (cwV 1 hts gX8_swap_X8_isBather rfl rfl rfl kdX8_isBather ⟨Nat.le_of_ble_eq_true rfl, Nat.le_of_ble_eq_true rfl⟩) (bb_preV (va_recv hK hP (ci := 7) (q0 := 0) rfl rfl) (hP.sub (ws' := [((a_t 0), oX8 a_t v_t_isKept v_t_bestPost v_t_mostSeen v_t_taped v_t_from v_t_to v_t_isWrong), ((a_t 1), .inl (cy 0, 155, .inl f_t_s))]) [0, 2] rfl) hK) rfl rfl hl.1 rfl (lv_room (Nat.le_of_ble_eq_true rfl)) dX8_swap_10 ⟨Nat.zero_le _, Nat.zero_le _⟩) (fun t11 et11 => ?_)
    obtain ⟨rfl, hz12⟩ := et11
    refine lv_if_eq (tgt := 21) hx hb dX8_swap_13 (by decide) (fun c13 => ?_) (fun c13 => ?_)
    · replace h := bb_ifp c13 h
      refine lv_aload_n hx hb dX8_swap_21 rfl (lv_at hl 0 rfl) ?_
      refine lv_iconst (v := (0 : Int32)) hx hb dX8_swap_22 (by decide) ?_
      obtain ⟨r14, w15, hc16, h⟩ := bb_b2_o h
      refine bb_cwi (wr := [((a_t 1), .inl (cy 0, 155, .inl f_t_s))]) (w1 := [((a_t 0), oX8 a_t v_t_isKept v_t_bestPost v_t_mostSeen v_t_taped v_t_from v_t_to v_t_isWrong), ((a_t 5), .inl (cy 0, 7, .inl w15))]) (va_runV (As := [.int (0 : Int32)]) (rest := []) ⟨hx, hb, hml, hown, hts⟩ (kX8_finds l dC dI cy s.heap.size a_t (0 : Int32) v_t_isKept v_t_bestPost v_t_mostSeen v_t_taped v_t_from v_t_to v_t_isWrong f_t_found r14 w15 hc16) (cwV 1 hts gX8_swap_X8_finds rfl rfl rfl kdX8_finds ⟨Nat.le_of_ble_eq_true rfl, Nat.le_of_ble_eq_true rfl⟩) (bb_preVw (va_recv hK hP (ci := 7) (q0 := 0) rfl rfl) (hP.sub (ws' := [((a_t 0), oX8 a_t v_t_isKept v_t_bestPost v_t_mostSeen v_t_taped v_t_from v_t_to v_t_isWrong), ((a_t 5), .inl (cy 0, 7, .inl f_t_found))]) [0, 1] rfl) hK (hD.sub (ws' := [((a_t 0), oX8 a_t v_t_isKept v_t_bestPost v_t_mostSeen v_t_taped v_t_from v_t_to v_t_isWrong), ((a_t 5), .inl (cy 0, 7, .inl f_t_found))]) [0, 1] (by decide) rfl)) rfl rfl hl.1 rfl (lv_room (Nat.le_of_ble_eq_true rfl)) dX8_swap_23 ⟨Nat.zero_le _, Nat.zero_le _⟩) hP hD hS hA [0, 1] [2] rfl rfl (by decide) (by decide) (fun H locs hP hD hS => ?_)
      have hP : va_P (dC, dI) vwCl [((a_t 1), .inl (cy 0, 155, .inl f_t_s)), ((a_t 0), oX8 a_t v_t_isKept v_t_bestPost v_t_mostSeen v_t_taped v_t_from v_t_to v_t_isWrong), ((a_t 5), .inl (cy 0, 7, .inl w15))] H := hP
      have hD : va_D A [((a_t 1), .inl (cy 0, 155, .inl f_t_s)), ((a_t 0), oX8 a_t v_t_isKept v_t_bestPost v_t_mostSeen v_t_taped v_t_from v_t_to v_t_isWrong), ((a_t 5), .inl (cy 0, 7, .inl w15))] := hD
      obtain ⟨rfl, rfl, rfl⟩ := bb_some3 h
      have hP9 := hP.sub (ws' := [((a_t 0), oX8 a_t v_t_isKept v_t_bestPost v_t_mostSeen v_t_taped v_t_from v_t_to v_t_isWrong), ((a_t 5), .inl (cy 0, 7, .inl w15)), ((a_t 1), .inl (cy 0, 155, .inl f_t_s))]) [1, 2, 0] rfl
      have hD9 := hD.sub (ws' := [((a_t 0), oX8 a_t v_t_isKept v_t_bestPost v_t_mostSeen v_t_taped v_t_from v_t_to v_t_isWrong), ((a_t 5), .inl (cy 0, 7, .inl w15)), ((a_t 1), .inl (cy 0, 155, .inl f_t_s))]) [1, 2, 0] (by decide) rfl
      exact W.iret hx hb hr (fun t ht hW => ⟨⟨_, (), rfl, rfl, by rw [ht]; exact hP9, va_K.moved hW.alike hK, hD9⟩, hS.F ht⟩) hS.2.2 dX8_swap_26
    · replace h := bb_ifn c13 h
      refine lv_iload_n hx hb dX8_swap_16 rfl (lv_at hl 1 rfl) ?_
      refine lv_iload_n hx hb dX8_swap_17 rfl (lv_at hl 2 rfl) ?_
      refine lv_icmp_ne (tgt := 27) hx hb dX8_swap_18 (by decide) (fun c17 => ?_) (fun c17 => ?_)
      · replace h := bb_ifn c17 h
        refine lv_aload_n hx hb dX8_swap_27 rfl (lv_at hl 0 rfl) ?_
        refine lv_iload_n hx hb dX8_swap_28 rfl (lv_at hl 1 rfl) ?_
        refine lv_iconst (v := (4 : Int32)) hx hb dX8_swap_29 (by decide) ?_
        obtain ⟨r18, hc19, h⟩ := bb_b1_o h
        refine vp_callSi (W.runV (As := [.int p1, .int (4 : Int32)]) (rest := []) ⟨hx, hb, hml, hown, hts⟩ (kX8_its l dC dI cy a_t p1 (4 : Int32) v_t_isKept v_t_bestPost v_t_mostSeen v_t_taped v_t_from v_t_to v_t_isWrong f_t_s r18 hc19) (cwV 2 hts gX8_swap_X8_its rfl rfl rfl kdX8_its ⟨Nat.le_of_ble_eq_true rfl, Nat.le_of_ble_eq_true rfl⟩) (bb_preV (va_recv hK hP (ci := 7) (q0 := 0) rfl rfl) (hP.sub (ws' := [((a_t 0), oX8 a_t v_t_isKept v_t_bestPost v_t_mostSeen v_t_taped v_t_from v_t_to v_t_isWrong), ((a_t 1), .inl (cy 0, 155, .inl f_t_s))]) [0, 2] rfl) hK) rfl rfl hl.1 rfl (lv_room (Nat.le_of_ble_eq_true rfl)) dX8_swap_30 ⟨Nat.zero_le _, Nat.zero_le _⟩) (fun t20 et20 => ?_)
        obtain rfl := et20
        refine lv_istore_n (lv' := [(3, .int r18), (0, .ref (a_t 0)), (1, .int p1), (2, .int p2)]) hx hb dX8_swap_33 rfl hl (by decide) rfl (fun ls hl => ?_)
        refine lv_aload_n hx hb dX8_swap_34 rfl (lv_at hl 1 rfl) ?_
        refine lv_iload_n hx hb dX8_swap_35 rfl (lv_at hl 3 rfl) ?_
        refine lv_iconst (v := (4 : Int32)) hx hb dX8_swap_36 (by decide) ?_
        obtain ⟨r21, hc22, h⟩ := bb_b1_o h
        refine vp_callSi (W.runV (As := [.int p2, .int (4 : Int32)]) (rest := []) ⟨hx, hb, hml, hown, hts⟩ (kX8_its l dC dI cy a_t p2 (4 : Int32) v_t_isKept v_t_bestPost v_t_mostSeen v_t_taped v_t_from v_t_to v_t_isWrong f_t_s r21 hc22) (cwV 2 hts gX8_swap_X8_its rfl rfl rfl kdX8_its ⟨Nat.le_of_ble_eq_true rfl, Nat.le_of_ble_eq_true rfl⟩) (bb_preV (va_recv hK hP (ci := 7) (q0 := 0) rfl rfl) (hP.sub (ws' := [((a_t 0), oX8 a_t v_t_isKept v_t_bestPost v_t_mostSeen v_t_taped v_t_from v_t_to v_t_isWrong), ((a_t 1), .inl (cy 0, 155, .inl f_t_s))]) [0, 2] rfl) hK) rfl rfl hl.1 rfl (lv_room (Nat.le_of_ble_eq_true rfl)) dX8_swap_37 ⟨Nat.zero_le _, Nat.zero_le _⟩) (fun t23 et23 => ?_)
        obtain rfl := et23
        refine lv_istore (lv' := [(4, .int r21), (3, .int r18), (0, .ref (a_t 0)), (1, .int p1), (2, .int p2)]) hx hb dX8_swap_40 hl (by decide) rfl (fun ls hl => ?_)
        refine lv_aload_n hx hb dX8_swap_42 rfl (lv_at hl 2 rfl) ?_
        refine lv_iload_n hx hb dX8_swap_43 rfl (lv_at hl 3 rfl) ?_
        refine lv_iconst (v := (4 : Int32)) hx hb dX8_swap_44 (by decide) ?_
        refine lv_iload hx hb dX8_swap_45 (lv_at hl 0 rfl) ?_
        obtain ⟨w24, hc25, h⟩ := bb_b1_o h
        refine bb_cwv (wr := [((a_t 5), .inl (cy 0, 7, .inl f_t_found))]) (w1 := [((a_t 0), oX8 a_t v_t_isKept v_t_bestPost v_t_mostSeen v_t_taped v_t_from v_t_to v_t_isWrong), ((a_t 1), .inl (cy 0, 155, .inl w24))]) (va_runV (As := [.int p1, .int (4 : Int32), .int r21]) (rest := []) ⟨hx, hb, hml, hown, hts⟩ (kX8_sets l dC dI cy s.heap.size a_t p1 (4 : Int32) r21 v_t_isKept v_t_bestPost v_t_mostSeen v_t_taped v_t_from v_t_to v_t_isWrong f_t_s w24 hc25) (cwV 3 hts gX8_swap_X8_sets rfl rfl rfl kdX8_sets ⟨Nat.le_of_ble_eq_true rfl, Nat.le_of_ble_eq_true rfl⟩) (bb_preVw (va_recv hK hP (ci := 7) (q0 := 0) rfl rfl) (hP.sub (ws' := [((a_t 0), oX8 a_t v_t_isKept v_t_bestPost v_t_mostSeen v_t_taped v_t_from v_t_to v_t_isWrong), ((a_t 1), .inl (cy 0, 155, .inl f_t_s))]) [0, 2] rfl) hK (hD.sub (ws' := [((a_t 0), oX8 a_t v_t_isKept v_t_bestPost v_t_mostSeen v_t_taped v_t_from v_t_to v_t_isWrong), ((a_t 1), .inl (cy 0, 155, .inl f_t_s))]) [0, 2] (by decide) rfl)) rfl rfl hl.1 rfl (lv_room (Nat.le_of_ble_eq_true rfl)) dX8_swap_47 ⟨Nat.zero_le _, Nat.zero_le _⟩) hP hD hS hA [0, 2] [1] rfl rfl (by decide) (by decide) (fun H locs hP hD hS => ?_)
        have hP : va_P (dC, dI) vwCl [((a_t 5), .inl (cy 0, 7, .inl f_t_found)), ((a_t 0), oX8 a_t v_t_isKept v_t_bestPost v_t_mostSeen v_t_taped v_t_from v_t_to v_t_isWrong), ((a_t 1), .inl (cy 0, 155, .inl w24))] H := hP
        have hD : va_D A [((a_t 5), .inl (cy 0, 7, .inl f_t_found)), ((a_t 0), oX8 a_t v_t_isKept v_t_bestPost v_t_mostSeen v_t_taped v_t_from v_t_to v_t_isWrong), ((a_t 1), .inl (cy 0, 155, .inl w24))] := hD
        refine lv_aload_n hx hb dX8_swap_50 rfl (lv_at hl 2 rfl) ?_
        refine lv_iload_n hx hb dX8_swap_51 rfl (lv_at hl 4 rfl) ?_
        refine lv_iconst (v := (4 : Int32)) hx hb dX8_swap_52 (by decide) ?_
        refine lv_iload_n hx hb dX8_swap_53 rfl (lv_at hl 1 rfl) ?_
        obtain ⟨w26, hc27, h⟩ := bb_b1_o h
        refine bb_cwv (wr := [((a_t 5), .inl (cy 0, 7, .inl f_t_found))]) (w1 := [((a_t 0), oX8 a_t v_t_isKept v_t_bestPost v_t_mostSeen v_t_taped v_t_from v_t_to v_t_isWrong), ((a_t 1), .inl (cy 0, 155, .inl w26))]) (va_runV (As := [.int p2, .int (4 : Int32), .int r18]) (rest := []) ⟨hx, hb, hml, hown, hts⟩ (kX8_sets l dC dI cy H.size a_t p2 (4 : Int32) r18 v_t_isKept v_t_bestPost v_t_mostSeen v_t_taped v_t_from v_t_to v_t_isWrong w24 w26 hc27) (cwV 3 hts gX8_swap_X8_sets rfl rfl rfl kdX8_sets ⟨Nat.le_of_ble_eq_true rfl, Nat.le_of_ble_eq_true rfl⟩) (bb_preVw (va_recv hK hP (ci := 7) (q0 := 1) rfl rfl) (hP.sub (ws' := [((a_t 0), oX8 a_t v_t_isKept v_t_bestPost v_t_mostSeen v_t_taped v_t_from v_t_to v_t_isWrong), ((a_t 1), .inl (cy 0, 155, .inl w24))]) [1, 2] rfl) hK (hD.sub (ws' := [((a_t 0), oX8 a_t v_t_isKept v_t_bestPost v_t_mostSeen v_t_taped v_t_from v_t_to v_t_isWrong), ((a_t 1), .inl (cy 0, 155, .inl w24))]) [1, 2] (by decide) rfl)) rfl rfl hl.1 rfl (lv_room (Nat.le_of_ble_eq_true rfl)) dX8_swap_54 ⟨Nat.zero_le _, Nat.zero_le _⟩) hP hD hS hA [1, 2] [0] rfl rfl (by decide) (by decide) (fun H locs hP hD hS => ?_)
        have hP : va_P (dC, dI) vwCl [((a_t 5), .inl (cy 0, 7, .inl f_t_found)), ((a_t 0), oX8 a_t v_t_isKept v_t_bestPost v_t_mostSeen v_t_taped v_t_from v_t_to v_t_isWrong), ((a_t 1), .inl (cy 0, 155, .inl w26))] H := hP
        have hD : va_D A [((a_t 5), .inl (cy 0, 7, .inl f_t_found)), ((a_t 0), oX8 a_t v_t_isKept v_t_bestPost v_t_mostSeen v_t_taped v_t_from v_t_to v_t_isWrong), ((a_t 1), .inl (cy 0, 155, .inl w26))] := hD
        refine lv_iload_n hx hb dX8_swap_57 rfl (lv_at hl 1 rfl) ?_
        refine lv_iload hx hb dX8_swap_58 (lv_at hl 0 rfl) ?_
        refine lv_icmp_ne (tgt := 67) hx hb dX8_swap_60 (by decide) (fun c28 => ?_) (fun c28 => ?_)
        · replace h := bb_ifn c28 h
          refine lv_iconst (v := (1 : Int32)) hx hb dX8_swap_67 (by decide) ?_
          obtain ⟨rfl, rfl, rfl⟩ := bb_some3 h
          have hP9 := hP.sub (ws' := [((a_t 0), oX8 a_t v_t_isKept v_t_bestPost v_t_mostSeen v_t_taped v_t_from v_t_to v_t_isWrong), ((a_t 5), .inl (cy 0, 7, .inl f_t_found)), ((a_t 1), .inl (cy 0, 155, .inl w26))]) [1, 0, 2] rfl
          have hD9 := hD.sub (ws' := [((a_t 0), oX8 a_t v_t_isKept v_t_bestPost v_t_mostSeen v_t_taped v_t_from v_t_to v_t_isWrong), ((a_t 5), .inl (cy 0, 7, .inl f_t_found)), ((a_t 1), .inl (cy 0, 155, .inl w26))]) [1, 0, 2] (by decide) rfl
          exact W.iret hx hb hr (fun t ht hW => ⟨⟨_, (), rfl, rfl, by rw [ht]; exact hP9, va_K.moved hW.alike hK, hD9⟩, hS.F ht⟩) hS.2.2 dX8_swap_68
        · replace h := bb_ifp c28 h
          refine lv_iconst (v := (0 : Int32)) hx hb dX8_swap_63 (by decide) ?_
          refine lv_goto (tgt := 68) hx hb dX8_swap_64 (by decide) ?_
          obtain ⟨rfl, rfl, rfl⟩ := bb_some3 h
          have hP9 := hP.sub (ws' := [((a_t 0), oX8 a_t v_t_isKept v_t_bestPost v_t_mostSeen v_t_taped v_t_from v_t_to v_t_isWrong), ((a_t 5), .inl (cy 0, 7, .inl f_t_found)), ((a_t 1), .inl (cy 0, 155, .inl w26))]) [1, 0, 2] rfl
          have hD9 := hD.sub (ws' := [((a_t 0), oX8 a_t v_t_isKept v_t_bestPost v_t_mostSeen v_t_taped v_t_from v_t_to v_t_isWrong), ((a_t 5), .inl (cy 0, 7, .inl f_t_found)), ((a_t 1), .inl (cy 0, 155, .inl w26))]) [1, 0, 2] (by decide) rfl
          exact W.iret hx hb hr (fun t ht hW => ⟨⟨_, (), rfl, rfl, by rw [ht]; exact hP9, va_K.moved hW.alike hK, hD9⟩, hS.F ht⟩) hS.2.2 dX8_swap_68
      · replace h := bb_ifp c17 h
        refine lv_aload_n hx hb dX8_swap_21 rfl (lv_at hl 0 rfl) ?_
        refine lv_iconst (v := (0 : Int32)) hx hb dX8_swap_22 (by decide) ?_
        obtain ⟨r29, w30, hc31, h⟩ := bb_b2_o h
        refine bb_cwi (wr := [((a_t 1), .inl (cy 0, 155, .inl f_t_s))]) (w1 := [((a_t 0), oX8 a_t v_t_isKept v_t_bestPost v_t_mostSeen v_t_taped v_t_from v_t_to v_t_isWrong), ((a_t 5), .inl (cy 0, 7, .inl w30))]) (va_runV (As := [.int (0 : Int32)]) (rest := []) ⟨hx, hb, hml, hown, hts⟩ (kX8_finds l dC dI cy s.heap.size a_t (0 : Int32) v_t_isKept v_t_bestPost v_t_mostSeen v_t_taped v_t_from v_t_to v_t_isWrong f_t_found r29 w30 hc31) (cwV 1 hts gX8_swap_X8_finds rfl rfl rfl kdX8_finds ⟨Nat.le_of_ble_eq_true rfl, Nat.le_of_ble_eq_true rfl⟩) (bb_preVw (va_recv hK hP (ci := 7) (q0 := 0) rfl rfl) (hP.sub (ws' := [((a_t 0), oX8 a_t v_t_isKept v_t_bestPost v_t_mostSeen v_t_taped v_t_from v_t_to v_t_isWrong), ((a_t 5), .inl (cy 0, 7, .inl f_t_found))]) [0, 1] rfl) hK (hD.sub (ws' := [((a_t 0), oX8 a_t v_t_isKept v_t_bestPost v_t_mostSeen v_t_taped v_t_from v_t_to v_t_isWrong), ((a_t 5), .inl (cy 0, 7, .inl f_t_found))]) [0, 1] (by decide) rfl)) rfl rfl hl.1 rfl (lv_room (Nat.le_of_ble_eq_true rfl)) dX8_swap_23 ⟨Nat.zero_le _, Nat.zero_le _⟩) hP hD hS hA [0, 1] [2] rfl rfl (by decide) (by decide) (fun H locs hP hD hS => ?_)
        have hP : va_P (dC, dI) vwCl [((a_t 1), .inl (cy 0, 155, .inl f_t_s)), ((a_t 0), oX8 a_t v_t_isKept v_t_bestPost v_t_mostSeen v_t_taped v_t_from v_t_to v_t_isWrong), ((a_t 5), .inl (cy 0, 7, .inl w30))] H := hP
        have hD : va_D A [((a_t 1), .inl (cy 0, 155, .inl f_t_s)), ((a_t 0), oX8 a_t v_t_isKept v_t_bestPost v_t_mostSeen v_t_taped v_t_from v_t_to v_t_isWrong), ((a_t 5), .inl (cy 0, 7, .inl w30))] := hD
        obtain ⟨rfl, rfl, rfl⟩ := bb_some3 h
        have hP9 := hP.sub (ws' := [((a_t 0), oX8 a_t v_t_isKept v_t_bestPost v_t_mostSeen v_t_taped v_t_from v_t_to v_t_isWrong), ((a_t 5), .inl (cy 0, 7, .inl w30)), ((a_t 1), .inl (cy 0, 155, .inl f_t_s))]) [1, 2, 0] rfl
        have hD9 := hD.sub (ws' := [((a_t 0), oX8 a_t v_t_isKept v_t_bestPost v_t_mostSeen v_t_taped v_t_from v_t_to v_t_isWrong), ((a_t 5), .inl (cy 0, 7, .inl w30)), ((a_t 1), .inl (cy 0, 155, .inl f_t_s))]) [1, 2, 0] (by decide) rfl
        exact W.iret hx hb hr (fun t ht hW => ⟨⟨_, (), rfl, rfl, by rw [ht]; exact hP9, va_K.moved hW.alike hK, hD9⟩, hS.F ht⟩) hS.2.2 dX8_swap_26
/-! X8_columnOf -/
def uX8_columnOf (p1 : Int32) (f_t_s : Nat → Int32) : Option (Int32) :=
  bb_b1 (uX8_its p1 (1 : Int32) f_t_s) (fun (r1 : Int32) => (if r1 = (100 : Int32) then some (0 : Int32) else (if r1 = (101 : Int32) then some (7 : Int32) else some (r1 - r1 / (8 : Int32) * (8 : Int32)))))
theorem kdX8_columnOf : yX8_columnOf.cls = RX8 ∧ yX8_columnOf.cls ≠ "java/lang/invoke/MethodHandle" ∧ yX8_columnOf.cls ≠ "java/lang/invoke/VarHandle" ∧ (parseMethodDescriptor yX8_columnOf.desc).map (fun d => d.parameters.length) = some 1 := by decide +kernel
set_option maxHeartbeats 4000000 in
set_option maxRecDepth 100000 in
theorem kX8_columnOf (l : Launch) (dC : Nat → ClassId) (dI : Nat → Nat → Nat) (cy : Nat → ClassId) (a_t : Nat → Nat) (p1 : Int32) (v_t_isKept : Int32) (v_t_bestPost : Int32) (v_t_mostSeen : Int32) (v_t_taped : Int32) (v_t_from : Int32) (v_t_to : Int32) (v_t_isWrong : Int32) (f_t_s : Nat → Int32) (r : Int32) (h : uX8_columnOf p1 f_t_s = some r) : Met l yX8_columnOf wsX8_columnOf ({ frames := 1, cells := 0, slots := 0, locals := 22 }) (va_Pc [.ref (a_t 0), .int p1] (fun U => va_P (dC, dI) vwCl [((a_t 0), oX8 a_t v_t_isKept v_t_bestPost v_t_mostSeen v_t_taped v_t_from v_t_to v_t_isWrong), ((a_t 1), .inl (cy 0, 155, .inl f_t_s))] U.heap ∧ va_K (dC, dI) vwCl (tyX cy) U)) (vp_Si (fun r2 => r = r2)) 0 0 (fun _ => False) := by
  refine Met.ofW (cc := cX8_columnOf) (maxL := 3) (ret := (some .int)) (by decide) rfl ?_
  intro p e s m args below meth c s₁ B hml hv
  obtain ⟨rfl, hP, hK⟩ := hv
  have hx := B.exec
  have hb := B.bytes
  have hr := B.returns
  have hts := atoms_spec (ws := wsX8_columnOf) B.pre
  have hown : s.vm.findClass RX8 = some m.cls := findClass_of_methodNamed B.named
  have hlocks := B.notSynchronized
  have hl := lv_entry ([.ref (a_t 0), .int p1]) (n := 3) (Nat.le_of_ble_eq_true rfl)
  rw [lg_entry_eq]
  generalize (lg_sl ([.ref (a_t 0), .int p1]) ++ List.replicate (3 - (lg_sl ([.ref (a_t 0), .int p1])).length) Slot.unset).toArray = ls at hl ⊢
  have hl : lv_has ls 3 [(0, .ref (a_t 0)), (1, .int p1)] := hl
  unfold uX8_columnOf at h
  refine bb_cap (fun WW toW ofW => ?_)
  refine lv_aload_n hx hb dX8_columnOf_0 rfl (lv_at hl 0 rfl) ?_
  refine lv_iload_n hx hb dX8_columnOf_1 rfl (lv_at hl 1 rfl) ?_
  refine lv_iconst (v := (1 : Int32)) hx hb dX8_columnOf_2 (by decide) ?_
  obtain ⟨r1, hc2, h⟩ := bb_b1_o h
  refine vp_callSi (W.runV (As := [.int p1, .int (1 : Int32)]) (rest := []) ⟨hx, hb, hml, hown, hts⟩ (kX8_its l dC dI cy a_t p1 (1 : Int32) v_t_isKept v_t_bestPost v_t_mostSeen v_t_taped v_t_from v_t_to v_t_isWrong f_t_s r1 hc2) (cwV 2 hts gX8_columnOf_X8_its rfl rfl rfl kdX8_its ⟨Nat.le_of_ble_eq_true rfl, Nat.le_of_ble_eq_true rfl⟩) (bb_preV (va_recv hK hP (ci := 7) (q0 := 0) rfl rfl) hP hK) rfl rfl hl.1 rfl (lv_room (Nat.le_of_ble_eq_true rfl)) dX8_columnOf_3 ⟨Nat.zero_le _, Nat.zero_le _⟩) (fun t3 et3 => ?_)
  obtain rfl := et3
  refine lv_istore_n (lv' := [(2, .int r1), (0, .ref (a_t 0)), (1, .int p1)]) hx hb dX8_columnOf_6 rfl hl (by decide) rfl (fun ls hl => ?_)
  refine lv_iload_n hx hb dX8_columnOf_7 rfl (lv_at hl 0 rfl) ?_
  refine lv_bipush (v := (100 : Int32)) hx hb dX8_columnOf_8 (by decide) ?_
  refine lv_icmp_ne (tgt := 17) hx hb dX8_columnOf_10 (by decide) (fun c4 => ?_) (fun c4 => ?_)
  · replace h := bb_ifn c4 h
    refine lv_iload_n hx hb dX8_columnOf_17 rfl (lv_at hl 0 rfl) ?_
    refine lv_bipush (v := (101 : Int32)) hx hb dX8_columnOf_18 (by decide) ?_
    refine lv_icmp_ne (tgt := 28) hx hb dX8_columnOf_20 (by decide) (fun c5 => ?_) (fun c5 => ?_)
    · replace h := bb_ifn c5 h
      refine lv_iload_n hx hb dX8_columnOf_28 rfl (lv_at hl 0 rfl) ?_
      refine lv_bipush (v := (8 : Int32)) hx hb dX8_columnOf_29 (by decide) ?_
      refine lv_irem hx hb dX8_columnOf_31 (by decide) ?_
      obtain rfl := bb_some1 h
      exact W.iret hx hb hr (fun t ht hW => ⟨_, rfl, rfl, ht⟩) (fun q hq => by cases hq) dX8_columnOf_32
    · replace h := bb_ifp c5 h
      refine lv_bipush (v := (7 : Int32)) hx hb dX8_columnOf_23 (by decide) ?_
      refine lv_goto (tgt := 32) hx hb dX8_columnOf_25 (by decide) ?_
      obtain rfl := bb_some1 h
      exact W.iret hx hb hr (fun t ht hW => ⟨_, rfl, rfl, ht⟩) (fun q hq => by cases hq) dX8_columnOf_32
  · replace h := bb_ifp c4 h
    refine lv_iconst (v := (0 : Int32)) hx hb dX8_columnOf_13 (by decide) ?_
    refine lv_goto (tgt := 32) hx hb dX8_columnOf_14 (by decide) ?_
    obtain rfl := bb_some1 h
    exact W.iret hx hb hr (fun t ht hW => ⟨_, rfl, rfl, ht⟩) (fun q hq => by cases hq) dX8_columnOf_32
/-! X8_tax -/
def uX8_tax_s30 (nn : Nat) (x1_24 : Int32) (x2_25 : Int32) (k_54 : Int32 → (Nat → Int32) → Option (Int32 × (Nat → Int32) × (Nat → Int32) × (Nat → Int32))) (rec28 : Int32 → Int32 → (Nat → Int32) → Option (Int32 × (Nat → Int32) × (Nat → Int32) × (Nat → Int32))) (x3_21 : Int32) (x4_22 : Int32) (f_t_s_23 : Nat → Int32) : Option (Int32 × (Nat → Int32) × (Nat → Int32) × (Nat → Int32)) :=
  (if x2_25 ≤ x4_22 then k_54 x3_21 f_t_s_23 else bb_b1 (uX8_aMinute nn f_t_s_23) (fun (w32 : Nat → Int32) => bb_b1 (uX8_columnOf x1_24 w32) (fun (r34 : Int32) => rec28 (x3_21 + r34) (x4_22 + (1 : Int32)) w32)))
def uX8_tax (nn : Nat) (p1 : Int32) (p2 : Int32) (f_t_aside : Nat → Int32) (f_t_found : Nat → Int32) (f_t_s : Nat → Int32) : Option (Int32 × (Nat → Int32) × (Nat → Int32) × (Nat → Int32)) :=
  bb_b1 (uX8_isBather p1 f_t_s) (fun (r1 : Int32) => (if r1 = 0 then bb_b2 (uX8_finds (0 : Int32) f_t_found) (fun (r6 : Int32) (w7 : Nat → Int32) => some (r6, f_t_aside, w7, f_t_s)) else bb_b1 (uX8_isAhead p2) (fun (r9 : Int32) => (if r9 = 0 then bb_b2 (uX8_finds (0 : Int32) f_t_found) (fun (r37 : Int32) (w38 : Nat → Int32) => some (r37, f_t_aside, w38, f_t_s)) else bb_b1 (uX8_lends nn f_t_aside f_t_s) (fun (w14 : Nat → Int32) => bb_cut (fun (x3_16 : Int32) (f_t_s_17 : Nat → Int32) => bb_b1 (uX8_laysBack nn w14 f_t_s_17) (fun (w19 : Nat → Int32) => some (x3_16, w14, f_t_found, w19))) (fun k18 => bb_loop3 (uX8_tax_s30 nn p1 p2 k18) nn (0 : Int32) (0 : Int32) f_t_s))))))
theorem kdX8_tax : yX8_tax.cls = RX8 ∧ yX8_tax.cls ≠ "java/lang/invoke/MethodHandle" ∧ yX8_tax.cls ≠ "java/lang/invoke/VarHandle" ∧ (parseMethodDescriptor yX8_tax.desc).map (fun d => d.parameters.length) = some 2 := by decide +kernel
set_option maxHeartbeats 4000000 in
set_option maxRecDepth 100000 in
theorem kX8_tax (l : Launch) (dC : Nat → ClassId) (dI : Nat → Nat → Nat) (cy : Nat → ClassId) (sz : Nat) (a_t : Nat → Nat) (p1 : Int32) (p2 : Int32) (v_t_isKept : Int32) (v_t_bestPost : Int32) (v_t_mostSeen : Int32) (v_t_taped : Int32) (v_t_from : Int32) (v_t_to : Int32) (v_t_isWrong : Int32) (f_t_aside : Nat → Int32) (f_t_found : Nat → Int32) (f_t_s : Nat → Int32) (nn : Nat) (r : Int32) (f_t_aside_o : Nat → Int32) (f_t_found_o : Nat → Int32) (f_t_s_o : Nat → Int32) (h : uX8_tax nn p1 p2 f_t_aside f_t_found f_t_s = some (r, f_t_aside_o, f_t_found_o, f_t_s_o)) : Met l yX8_tax wsX8_tax ({ frames := 10, cells := 0, slots := 0, locals := 221 }) (va_Pc [.ref (a_t 0), .int p1, .int p2] (fun U => U.heap.size = sz ∧ va_P (dC, dI) vwCl [((a_t 0), oX8 a_t v_t_isKept v_t_bestPost v_t_mostSeen v_t_taped v_t_from v_t_to v_t_isWrong), ((a_t 3), .inl (cy 0, 155, .inl f_t_aside)), ((a_t 5), .inl (cy 0, 7, .inl f_t_found)), ((a_t 1), .inl (cy 0, 155, .inl f_t_s))] U.heap ∧ va_K (dC, dI) vwCl (tyX cy) U ∧ va_D (fun _ => True) [((a_t 0), oX8 a_t v_t_isKept v_t_bestPost v_t_mostSeen v_t_taped v_t_from v_t_to v_t_isWrong), ((a_t 3), .inl (cy 0, 155, .inl f_t_aside)), ((a_t 5), .inl (cy 0, 7, .inl f_t_found)), ((a_t 1), .inl (cy 0, 155, .inl f_t_s))])) (va_Qi (fun (r2 : Int32) (_ : Unit) => r = r2) (fun _ t => va_P (dC, dI) vwCl [((a_t 0), oX8 a_t v_t_isKept v_t_bestPost v_t_mostSeen v_t_taped v_t_from v_t_to v_t_isWrong), ((a_t 3), .inl (cy 0, 155, .inl f_t_aside_o)), ((a_t 5), .inl (cy 0, 7, .inl f_t_found_o)), ((a_t 1), .inl (cy 0, 155, .inl f_t_s_o))] t.heap ∧ va_K (dC, dI) vwCl (tyX cy) t ∧ va_D (va_A [((a_t 0), oX8 a_t v_t_isKept v_t_bestPost v_t_mostSeen v_t_taped v_t_from v_t_to v_t_isWrong), ((a_t 3), .inl (cy 0, 155, .inl f_t_aside)), ((a_t 5), .inl (cy 0, 7, .inl f_t_found)), ((a_t 1), .inl (cy 0, 155, .inl f_t_s))] sz) [((a_t 0), oX8 a_t v_t_isKept v_t_bestPost v_t_mostSeen v_t_taped v_t_from v_t_to v_t_isWrong), ((a_t 3), .inl (cy 0, 155, .inl f_t_aside_o)), ((a_t 5), .inl (cy 0, 7, .inl f_t_found_o)), ((a_t 1), .inl (cy 0, 155, .inl f_t_s_o))]) (va_A [((a_t 0), oX8 a_t v_t_isKept v_t_bestPost v_t_mostSeen v_t_taped v_t_from v_t_to v_t_isWrong), ((a_t 3), .inl (cy 0, 155, .inl f_t_aside)), ((a_t 5), .inl (cy 0, 7, .inl f_t_found)), ((a_t 1), .inl (cy 0, 155, .inl f_t_s))] sz)) 0 0 (va_A [((a_t 0), oX8 a_t v_t_isKept v_t_bestPost v_t_mostSeen v_t_taped v_t_from v_t_to v_t_isWrong), ((a_t 3), .inl (cy 0, 155, .inl f_t_aside)), ((a_t 5), .inl (cy 0, 7, .inl f_t_found)), ((a_t 1), .inl (cy 0, 155, .inl f_t_s))] sz) := by
  refine Met.ofW (cc := cX8_tax) (maxL := 5) (ret := (some .int)) (by decide) rfl ?_
  intro p e s m args below meth c s₁ B hml hv
  obtain ⟨rfl, hsz, hP, hK, hD0⟩ := hv
  have hx := B.exec
  have hb := B.bytes
  have hr := B.returns
  have hts := atoms_spec (ws := wsX8_tax) B.pre
  have hown : s.vm.findClass RX8 = some m.cls := findClass_of_methodNamed B.named
  have hlocks := B.notSynchronized
  subst hsz
  have hD := hD0.self (sz := s.heap.size)
  generalize hAe : va_A [((a_t 0), oX8 a_t v_t_isKept v_t_bestPost v_t_mostSeen v_t_taped v_t_from v_t_to v_t_isWrong), ((a_t 3), .inl (cy 0, 155, .inl f_t_aside)), ((a_t 5), .inl (cy 0, 7, .inl f_t_found)), ((a_t 1), .inl (cy 0, 155, .inl f_t_s))] s.heap.size = A at hD ⊢
  have hA : ∀ q : Nat, s.heap.size ≤ q → A q := fun q h => by rw [← hAe]; exact Or.inr h
  have hS : va_S A s.heap s.heap [] := va_S.rf
  have hP : va_P (dC, dI) vwCl [((a_t 0), oX8 a_t v_t_isKept v_t_bestPost v_t_mostSeen v_t_taped v_t_from v_t_to v_t_isWrong), ((a_t 3), .inl (cy 0, 155, .inl f_t_aside)), ((a_t 5), .inl (cy 0, 7, .inl f_t_found)), ((a_t 1), .inl (cy 0, 155, .inl f_t_s))] s.heap := hP
  have hl := lv_entry ([.ref (a_t 0), .int p1, .int p2]) (n := 5) (Nat.le_of_ble_eq_true rfl)
  rw [lg_entry_eq]
  generalize (lg_sl ([.ref (a_t 0), .int p1, .int p2]) ++ List.replicate (5 - (lg_sl ([.ref (a_t 0), .int p1, .int p2])).length) Slot.unset).toArray = ls at hl ⊢
  have hl : lv_has ls 5 [(0, .ref (a_t 0)), (1, .int p1), (2, .int p2)] := hl
  unfold uX8_tax at h
  refine bb_cap (fun WW toW ofW => ?_)
  refine lv_aload_n hx hb dX8_tax_0 rfl (lv_at hl 0 rfl) ?_
  refine lv_iload_n hx hb dX8_tax_1 rfl (lv_at hl 1 rfl) ?_
  obtain ⟨r1, hc2, h⟩ := bb_b1_o h
  refine vp_callSi (W.runV (As := [.int p1]) (rest := []) ⟨hx, hb, hml, hown, hts⟩ (kX8_isBather l dC dI cy a_t p1 v_t_isKept v_t_bestPost v_t_mostSeen v_t_taped v_t_from v_t_to v_t_isWrong f_t_s r1 hc2) (cwV 1 hts gX8_tax_X8_isBather rfl rfl rfl kdX8_isBather ⟨Nat.le_of_ble_eq_true rfl, Nat.le_of_ble_eq_true rfl⟩) (bb_preV (va_recv hK hP (ci := 7) (q0 := 0) rfl rfl) (hP.sub (ws' := [((a_t 0), oX8 a_t v_t_isKept v_t_bestPost v_t_mostSeen v_t_taped v_t_from v_t_to v_t_isWrong), ((a_t 1), .inl (cy 0, 155, .inl f_t_s))]) [0, 3] rfl) hK) rfl rfl hl.1 rfl (lv_room (Nat.le_of_ble_eq_true rfl)) dX8_tax_2 ⟨Nat.zero_le _, Nat.zero_le _⟩) (fun t3 et3 => ?_)
  obtain ⟨rfl, hz4⟩ := et3
  refine lv_if_eq (tgt := 15) hx hb dX8_tax_5 (by decide) (fun c5 => ?_) (fun c5 => ?_)
  · replace h := bb_ifp c5 h
    refine lv_aload_n hx hb dX8_tax_15 rfl (lv_at hl 0 rfl) ?_
    refine lv_iconst (v := (0 : Int32)) hx hb dX8_tax_16 (by decide) ?_
    obtain ⟨r6, w7, hc8, h⟩ := bb_b2_o h
    refine bb_cwi (wr := [((a_t 3), .inl (cy 0, 155, .inl f_t_aside)), ((a_t 1), .inl (cy 0, 155, .inl f_t_s))]) (w1 := [((a_t 0), oX8 a_t v_t_isKept v_t_bestPost v_t_mostSeen v_t_taped v_t_from v_t_to v_t_isWrong), ((a_t 5), .inl (cy 0, 7, .inl w7))]) (va_runV (As := [.int (0 : Int32)]) (rest := []) ⟨hx, hb, hml, hown, hts⟩ (kX8_finds l dC dI cy s.heap.size a_t (0 : Int32) v_t_isKept v_t_bestPost v_t_mostSeen v_t_taped v_t_from v_t_to v_t_isWrong f_t_found r6 w7 hc8) (cwV 1 hts gX8_tax_X8_finds rfl rfl rfl kdX8_finds ⟨Nat.le_of_ble_eq_true rfl, Nat.le_of_ble_eq_true rfl⟩) (bb_preVw (va_recv hK hP (ci := 7) (q0 := 0) rfl rfl) (hP.sub (ws' := [((a_t 0), oX8 a_t v_t_isKept v_t_bestPost v_t_mostSeen v_t_taped v_t_from v_t_to v_t_isWrong), ((a_t 5), .inl (cy 0, 7, .inl f_t_found))]) [0, 2] rfl) hK (hD.sub (ws' := [((a_t 0), oX8 a_t v_t_isKept v_t_bestPost v_t_mostSeen v_t_taped v_t_from v_t_to v_t_isWrong), ((a_t 5), .inl (cy 0, 7, .inl f_t_found))]) [0, 2] (by decide) rfl)) rfl rfl hl.1 rfl (lv_room (Nat.le_of_ble_eq_true rfl)) dX8_tax_17 ⟨Nat.zero_le _, Nat.zero_le _⟩) hP hD hS hA [0, 2] [1, 3] rfl rfl (by decide) (by decide) (fun H locs hP hD hS => ?_)
    have hP : va_P (dC, dI) vwCl [((a_t 3), .inl (cy 0, 155, .inl f_t_aside)), ((a_t 1), .inl (cy 0, 155, .inl f_t_s)), ((a_t 0), oX8 a_t v_t_isKept v_t_bestPost v_t_mostSeen v_t_taped v_t_from v_t_to v_t_isWrong), ((a_t 5), .inl (cy 0, 7, .inl w7))] H := hP
    have hD : va_D A [((a_t 3), .inl (cy 0, 155, .inl f_t_aside)), ((a_t 1), .inl (cy 0, 155, .inl f_t_s)), ((a_t 0), oX8 a_t v_t_isKept v_t_bestPost v_t_mostSeen v_t_taped v_t_from v_t_to v_t_isWrong), ((a_t 5), .inl (cy 0, 7, .inl w7))] := hD
    obtain ⟨rfl, rfl, rfl, rfl⟩ := bb_some4 h
    have hP9 := hP.sub (ws' := [((a_t 0), oX8 a_t v_t_isKept v_t_bestPost v_t_mostSeen v_t_taped v_t_from v_t_to v_t_isWrong), ((a_t 3), .inl (cy 0, 155, .inl f_t_aside)), ((a_t 5), .inl (cy 0, 7, .inl w7)), ((a_t 1), .inl (cy 0, 155, .inl f_t_s))]) [2, 0, 3, 1] rfl
    have hD9 := hD.sub (ws' := [((a_t 0), oX8 a_t v_t_isKept v_t_bestPost v_t_mostSeen v_t_taped v_t_from v_t_to v_t_isWrong), ((a_t 3), .inl (cy 0, 155, .inl f_t_aside)), ((a_t 5), .inl (cy 0, 7, .inl w7)), ((a_t 1), .inl (cy 0, 155, .inl f_t_s))]) [2, 0, 3, 1] (by decide) rfl
    exact W.iret hx hb hr (fun t ht hW => ⟨⟨_, (), rfl, rfl, by rw [ht]; exact hP9, va_K.moved hW.alike hK, hD9⟩, hS.F ht⟩) hS.2.2 dX8_tax_20
  · replace h := bb_ifn c5 h
    refine lv_iload_n hx hb dX8_tax_8 rfl (lv_at hl 2 rfl) ?_
    obtain ⟨r9, hc10, h⟩ := bb_b1_o h
    refine vp_callSi (W.runS (As := [.int p2]) (rest := []) ⟨hx, hb, hml, hown, hts⟩ (kX8_isAhead l dC dI cy p2 r9 hc10) (va_cwS 1 hts gX8_tax_X8_isAhead rfl rfl rfl kdX8_isAhead ⟨Nat.le_of_ble_eq_true rfl, Nat.le_of_ble_eq_true rfl⟩) (bb_preS (hP.sub (ws' := []) [] rfl) hK) rfl rfl hl.1 rfl (lv_room (Nat.le_of_ble_eq_true rfl)) dX8_tax_9 ⟨Nat.zero_le _, Nat.zero_le _⟩) (fun t11 et11 => ?_)
    obtain ⟨rfl, hz12⟩ := et11
    refine lv_if_ne (tgt := 21) hx hb dX8_tax_12 (by decide) (fun c13 => ?_) (fun c13 => ?_)
    · replace h := bb_ifn c13 h
      refine lv_aload_n hx hb dX8_tax_21 rfl (lv_at hl 0 rfl) ?_
      obtain ⟨w14, hc15, h⟩ := bb_b1_o h
      refine bb_cwv (wr := [((a_t 5), .inl (cy 0, 7, .inl f_t_found))]) (w1 := [((a_t 0), oX8 a_t v_t_isKept v_t_bestPost v_t_mostSeen v_t_taped v_t_from v_t_to v_t_isWrong), ((a_t 3), .inl (cy 0, 155, .inl w14)), ((a_t 1), .inl (cy 0, 155, .inl f_t_s))]) (va_runV (As := []) (rest := []) ⟨hx, hb, hml, hown, hts⟩ (kX8_lends l dC dI cy s.heap.size a_t v_t_isKept v_t_bestPost v_t_mostSeen v_t_taped v_t_from v_t_to v_t_isWrong f_t_aside f_t_s nn w14 hc15) (cwV 0 hts gX8_tax_X8_lends rfl rfl rfl kdX8_lends ⟨Nat.le_of_ble_eq_true rfl, Nat.le_of_ble_eq_true rfl⟩) (bb_preVw (va_recv hK hP (ci := 7) (q0 := 0) rfl rfl) (hP.sub (ws' := [((a_t 0), oX8 a_t v_t_isKept v_t_bestPost v_t_mostSeen v_t_taped v_t_from v_t_to v_t_isWrong), ((a_t 3), .inl (cy 0, 155, .inl f_t_aside)), ((a_t 1), .inl (cy 0, 155, .inl f_t_s))]) [0, 1, 3] rfl) hK (hD.sub (ws' := [((a_t 0), oX8 a_t v_t_isKept v_t_bestPost v_t_mostSeen v_t_taped v_t_from v_t_to v_t_isWrong), ((a_t 3), .inl (cy 0, 155, .inl f_t_aside)), ((a_t 1), .inl (cy 0, 155, .inl f_t_s))]) [0, 1, 3] (by decide) rfl)) rfl rfl hl.1 rfl (lv_room (Nat.le_of_ble_eq_true rfl)) dX8_tax_22 ⟨Nat.zero_le _, Nat.zero_le _⟩) hP hD hS hA [0, 1, 3] [2] rfl rfl (by decide) (by decide) (fun H locs hP hD hS => ?_)
      have hP : va_P (dC, dI) vwCl [((a_t 5), .inl (cy 0, 7, .inl f_t_found)), ((a_t 0), oX8 a_t v_t_isKept v_t_bestPost v_t_mostSeen v_t_taped v_t_from v_t_to v_t_isWrong), ((a_t 3), .inl (cy 0, 155, .inl w14)), ((a_t 1), .inl (cy 0, 155, .inl f_t_s))] H := hP
      have hD : va_D A [((a_t 5), .inl (cy 0, 7, .inl f_t_found)), ((a_t 0), oX8 a_t v_t_isKept v_t_bestPost v_t_mostSeen v_t_taped v_t_from v_t_to v_t_isWrong), ((a_t 3), .inl (cy 0, 155, .inl w14)), ((a_t 1), .inl (cy 0, 155, .inl f_t_s))] := hD
      refine lv_iconst (v := (0 : Int32)) hx hb dX8_tax_25 (by decide) ?_
      refine lv_istore_n (lv' := [(3, .int (0 : Int32)), (0, .ref (a_t 0)), (1, .int p1), (2, .int p2)]) hx hb dX8_tax_26 rfl hl (by decide) rfl (fun ls hl => ?_)
      refine lv_iconst (v := (0 : Int32)) hx hb dX8_tax_27 (by decide) ?_
      refine lv_istore (lv' := [(4, .int (0 : Int32)), (3, .int (0 : Int32)), (0, .ref (a_t 0)), (1, .int p1), (2, .int p2)]) hx hb dX8_tax_28 hl (by decide) rfl (fun ls hl => ?_)
      obtain ⟨k18, ek18, h⟩ := bb_cut_o h
      have Jk18 : ∀ (x3_16 : Int32) (f_t_s_17 : Nat → Int32) (H : Heap) (locs : List Loc) (ls : Array Slot), k18 x3_16 f_t_s_17 = some (r, f_t_aside_o, f_t_found_o, f_t_s_o) → va_P (dC, dI) vwCl [((a_t 0), oX8 a_t v_t_isKept v_t_bestPost v_t_mostSeen v_t_taped v_t_from v_t_to v_t_isWrong), ((a_t 3), .inl (cy 0, 155, .inl w14)), ((a_t 5), .inl (cy 0, 7, .inl f_t_found)), ((a_t 1), .inl (cy 0, 155, .inl f_t_s_17))] H → va_D A [((a_t 0), oX8 a_t v_t_isKept v_t_bestPost v_t_mostSeen v_t_taped v_t_from v_t_to v_t_isWrong), ((a_t 3), .inl (cy 0, 155, .inl w14)), ((a_t 5), .inl (cy 0, 7, .inl f_t_found)), ((a_t 1), .inl (cy 0, 155, .inl f_t_s_17))] → va_S A s.heap H locs → lv_has ls 5 [(0, .ref (a_t 0)), (3, .int x3_16)] → WW H locs (F0 m 54 ls []) := by
        intro x3_16 f_t_s_17 H locs ls h hP hD hS hl
        refine ofW _ _ _ ?_
        subst ek18
        refine lv_aload_n hx hb dX8_tax_54 rfl (lv_at hl 0 rfl) ?_
        obtain ⟨w19, hc20, h⟩ := bb_b1_o h
        refine bb_cwv (wr := [((a_t 5), .inl (cy 0, 7, .inl f_t_found))]) (w1 := [((a_t 0), oX8 a_t v_t_isKept v_t_bestPost v_t_mostSeen v_t_taped v_t_from v_t_to v_t_isWrong), ((a_t 3), .inl (cy 0, 155, .inl w14)), ((a_t 1), .inl (cy 0, 155, .inl w19))]) (va_runV (As := []) (rest := []) ⟨hx, hb, hml, hown, hts⟩ (kX8_laysBack l dC dI cy H.size a_t v_t_isKept v_t_bestPost v_t_mostSeen v_t_taped v_t_from v_t_to v_t_isWrong w14 f_t_s_17 nn w19 hc20) (cwV 0 hts gX8_tax_X8_laysBack rfl rfl rfl kdX8_laysBack ⟨Nat.le_of_ble_eq_true rfl, Nat.le_of_ble_eq_true rfl⟩) (bb_preVw (va_recv hK hP (ci := 7) (q0 := 0) rfl rfl) (hP.sub (ws' := [((a_t 0), oX8 a_t v_t_isKept v_t_bestPost v_t_mostSeen v_t_taped v_t_from v_t_to v_t_isWrong), ((a_t 3), .inl (cy 0, 155, .inl w14)), ((a_t 1), .inl (cy 0, 155, .inl f_t_s_17))]) [0, 1, 3] rfl) hK (hD.sub (ws' := [((a_t 0), oX8 a_t v_t_isKept v_t_bestPost v_t_mostSeen v_t_taped v_t_from v_t_to v_t_isWrong), ((a_t 3), .inl (cy 0, 155, .inl w14)), ((a_t 1), .inl (cy 0, 155, .inl f_t_s_17))]) [0, 1, 3] (by decide) rfl)) rfl rfl hl.1 rfl (lv_room (Nat.le_of_ble_eq_true rfl)) dX8_tax_55 ⟨Nat.zero_le _, Nat.zero_le _⟩) hP hD hS hA [0, 1, 3] [2] rfl rfl (by decide) (by decide) (fun H locs hP hD hS => ?_)
        have hP : va_P (dC, dI) vwCl [((a_t 5), .inl (cy 0, 7, .inl f_t_found)), ((a_t 0), oX8 a_t v_t_isKept v_t_bestPost v_t_mostSeen v_t_taped v_t_from v_t_to v_t_isWrong), ((a_t 3), .inl (cy 0, 155, .inl w14)), ((a_t 1), .inl (cy 0, 155, .inl w19))] H := hP
        have hD : va_D A [((a_t 5), .inl (cy 0, 7, .inl f_t_found)), ((a_t 0), oX8 a_t v_t_isKept v_t_bestPost v_t_mostSeen v_t_taped v_t_from v_t_to v_t_isWrong), ((a_t 3), .inl (cy 0, 155, .inl w14)), ((a_t 1), .inl (cy 0, 155, .inl w19))] := hD
        refine lv_iload_n hx hb dX8_tax_58 rfl (lv_at hl 1 rfl) ?_
        obtain ⟨rfl, rfl, rfl, rfl⟩ := bb_some4 h
        have hP9 := hP.sub (ws' := [((a_t 0), oX8 a_t v_t_isKept v_t_bestPost v_t_mostSeen v_t_taped v_t_from v_t_to v_t_isWrong), ((a_t 3), .inl (cy 0, 155, .inl w14)), ((a_t 5), .inl (cy 0, 7, .inl f_t_found)), ((a_t 1), .inl (cy 0, 155, .inl w19))]) [1, 2, 0, 3] rfl
        have hD9 := hD.sub (ws' := [((a_t 0), oX8 a_t v_t_isKept v_t_bestPost v_t_mostSeen v_t_taped v_t_from v_t_to v_t_isWrong), ((a_t 3), .inl (cy 0, 155, .inl w14)), ((a_t 5), .inl (cy 0, 7, .inl f_t_found)), ((a_t 1), .inl (cy 0, 155, .inl w19))]) [1, 2, 0, 3] (by decide) rfl
        exact W.iret hx hb hr (fun t ht hW => ⟨⟨_, (), rfl, rfl, by rw [ht]; exact hP9, va_K.moved hW.alike hK, hD9⟩, hS.F ht⟩) hS.2.2 dX8_tax_59
      have L29 : ∀ (n : Nat) (x3_21 : Int32) (x4_22 : Int32) (f_t_s_23 : Nat → Int32) (H : Heap) (locs : List Loc) (ls : Array Slot), bb_loop3 (uX8_tax_s30 nn p1 p2 k18) n x3_21 x4_22 f_t_s_23 = some (r, f_t_aside_o, f_t_found_o, f_t_s_o) → va_P (dC, dI) vwCl [((a_t 0), oX8 a_t v_t_isKept v_t_bestPost v_t_mostSeen v_t_taped v_t_from v_t_to v_t_isWrong), ((a_t 3), .inl (cy 0, 155, .inl w14)), ((a_t 5), .inl (cy 0, 7, .inl f_t_found)), ((a_t 1), .inl (cy 0, 155, .inl f_t_s_23))] H → va_D A [((a_t 0), oX8 a_t v_t_isKept v_t_bestPost v_t_mostSeen v_t_taped v_t_from v_t_to v_t_isWrong), ((a_t 3), .inl (cy 0, 155, .inl w14)), ((a_t 5), .inl (cy 0, 7, .inl f_t_found)), ((a_t 1), .inl (cy 0, 155, .inl f_t_s_23))] → va_S A s.heap H locs → lv_has ls 5 [(0, .ref (a_t 0)), (1, .int p1), (2, .int p2), (3, .int x3_21), (4, .int x4_22)] → WW H locs (F0 m 30 ls []) := by
        intro n
        induction n with
        | zero => intro x3_21 x4_22 f_t_s_23 H locs ls h; exact (bb_no h).elim
        | succ n ih30 =>
          intro x3_21 x4_22 f_t_s_23 H locs ls h hP hD hS hl
          refine ofW _ _ _ ?_
          obtain ⟨rec28, erec28, h⟩ := bb_loop3_o h
          unfold uX8_tax_s30 at h
          refine lv_iload hx hb dX8_tax_30 (lv_at hl 4 rfl) ?_
          refine lv_iload_n hx hb dX8_tax_32 rfl (lv_at hl 2 rfl) ?_
          refine lv_icmp_ge (tgt := 54) hx hb dX8_tax_33 (by decide) (fun c31 => ?_) (fun c31 => ?_)
          · replace h := bb_ifp c31 h
            exact toW _ _ _ (Jk18 x3_21 f_t_s_23 _ _ _ h hP hD hS (lv_sub hl [0, 3] rfl))
          · replace h := bb_ifn c31 h
            refine lv_aload_n hx hb dX8_tax_36 rfl (lv_at hl 0 rfl) ?_
            obtain ⟨w32, hc33, h⟩ := bb_b1_o h
            refine bb_cwv (wr := [((a_t 3), .inl (cy 0, 155, .inl w14)), ((a_t 5), .inl (cy 0, 7, .inl f_t_found))]) (w1 := [((a_t 0), oX8 a_t v_t_isKept v_t_bestPost v_t_mostSeen v_t_taped v_t_from v_t_to v_t_isWrong), ((a_t 1), .inl (cy 0, 155, .inl w32))]) (va_runV (As := []) (rest := []) ⟨hx, hb, hml, hown, hts⟩ (kX8_aMinute l dC dI cy H.size a_t v_t_isKept v_t_bestPost v_t_mostSeen v_t_taped v_t_from v_t_to v_t_isWrong f_t_s_23 nn w32 hc33) (cwV 0 hts gX8_tax_X8_aMinute rfl rfl rfl kdX8_aMinute ⟨Nat.le_of_ble_eq_true rfl, Nat.le_of_ble_eq_true rfl⟩) (bb_preVw (va_recv hK hP (ci := 7) (q0 := 0) rfl rfl) (hP.sub (ws' := [((a_t 0), oX8 a_t v_t_isKept v_t_bestPost v_t_mostSeen v_t_taped v_t_from v_t_to v_t_isWrong), ((a_t 1), .inl (cy 0, 155, .inl f_t_s_23))]) [0, 3] rfl) hK (hD.sub (ws' := [((a_t 0), oX8 a_t v_t_isKept v_t_bestPost v_t_mostSeen v_t_taped v_t_from v_t_to v_t_isWrong), ((a_t 1), .inl (cy 0, 155, .inl f_t_s_23))]) [0, 3] (by decide) rfl)) rfl rfl hl.1 rfl (lv_room (Nat.le_of_ble_eq_true rfl)) dX8_tax_37 ⟨Nat.zero_le _, Nat.zero_le _⟩) hP hD hS hA [0, 3] [1, 2] rfl rfl (by decide) (by decide) (fun H locs hP hD hS => ?_)
            have hP : va_P (dC, dI) vwCl [((a_t 3), .inl (cy 0, 155, .inl w14)), ((a_t 5), .inl (cy 0, 7, .inl f_t_found)), ((a_t 0), oX8 a_t v_t_isKept v_t_bestPost v_t_mostSeen v_t_taped v_t_from v_t_to v_t_isWrong), ((a_t 1), .inl (cy 0, 155, .inl w32))] H := hP
            have hD : va_D A [((a_t 3), .inl (cy 0, 155, .inl w14)), ((a_t 5), .inl (cy 0, 7, .inl f_t_found)), ((a_t 0), oX8 a_t v_t_isKept v_t_bestPost v_t_mostSeen v_t_taped v_t_from v_t_to v_t_isWrong), ((a_t 1), .inl (cy 0, 155, .inl w32))] := hD
            refine lv_iload_n hx hb dX8_tax_40 rfl (lv_at hl 3 rfl) ?_
            refine lv_aload_n hx hb dX8_tax_41 rfl (lv_at hl 0 rfl) ?_
            refine lv_iload_n hx hb dX8_tax_42 rfl (lv_at hl 1 rfl) ?_
            obtain ⟨r34, hc35, h⟩ := bb_b1_o h
            refine vp_callSi (W.runV (As := [.int p1]) (rest := [.int x3_21]) ⟨hx, hb, hml, hown, hts⟩ (kX8_columnOf l dC dI cy a_t p1 v_t_isKept v_t_bestPost v_t_mostSeen v_t_taped v_t_from v_t_to v_t_isWrong w32 r34 hc35) (cwV 1 hts gX8_tax_X8_columnOf rfl rfl rfl kdX8_columnOf ⟨Nat.le_of_ble_eq_true rfl, Nat.le_of_ble_eq_true rfl⟩) (bb_preV (va_recv hK hP (ci := 7) (q0 := 2) rfl rfl) (hP.sub (ws' := [((a_t 0), oX8 a_t v_t_isKept v_t_bestPost v_t_mostSeen v_t_taped v_t_from v_t_to v_t_isWrong), ((a_t 1), .inl (cy 0, 155, .inl w32))]) [2, 3] rfl) hK) rfl rfl hl.1 rfl (lv_room (Nat.le_of_ble_eq_true rfl)) dX8_tax_43 ⟨Nat.zero_le _, Nat.zero_le _⟩) (fun t36 et36 => ?_)
            obtain rfl := et36
            refine lv_iadd hx hb dX8_tax_46 ?_
            refine lv_istore_n (lv' := [(3, .int (x3_21 + r34)), (0, .ref (a_t 0)), (1, .int p1), (2, .int p2), (4, .int x4_22)]) hx hb dX8_tax_47 rfl hl (by decide) rfl (fun ls hl => ?_)
            refine lv_iinc (v := x4_22 + (1 : Int32)) (lv' := [(4, .int (x4_22 + (1 : Int32))), (3, .int (x3_21 + r34)), (0, .ref (a_t 0)), (1, .int p1), (2, .int p2)]) hx hb dX8_tax_48 hl (k := 4) rfl rfl (by decide) rfl (fun ls hl => ?_)
            refine lv_goto (tgt := 30) hx hb dX8_tax_51 (by decide) ?_
            rw [erec28] at h
            exact toW _ _ _ (ih30 (x3_21 + r34) (x4_22 + (1 : Int32)) w32 _ _ _ h (hP.sub [2, 0, 1, 3] rfl) (hD.sub [2, 0, 1, 3] (by decide) rfl) hS (lv_sub hl [2, 3, 4, 1, 0] rfl))
      exact toW _ _ _ (L29 nn (0 : Int32) (0 : Int32) f_t_s _ _ _ h (hP.sub [1, 2, 0, 3] rfl) (hD.sub [1, 2, 0, 3] (by decide) rfl) hS (lv_sub hl [2, 3, 4, 1, 0] rfl))
    · replace h := bb_ifp c13 h
      refine lv_aload_n hx hb dX8_tax_15 rfl (lv_at hl 0 rfl) ?_
      refine lv_iconst (v := (0 : Int32)) hx hb dX8_tax_16 (by decide) ?_
      obtain ⟨r37, w38, hc39, h⟩ := bb_b2_o h
      refine bb_cwi (wr := [((a_t 3), .inl (cy 0, 155, .inl f_t_aside)), ((a_t 1), .inl (cy 0, 155, .inl f_t_s))]) (w1 := [((a_t 0), oX8 a_t v_t_isKept v_t_bestPost v_t_mostSeen v_t_taped v_t_from v_t_to v_t_isWrong), ((a_t 5), .inl (cy 0, 7, .inl w38))]) (va_runV (As := [.int (0 : Int32)]) (rest := []) ⟨hx, hb, hml, hown, hts⟩ (kX8_finds l dC dI cy s.heap.size a_t (0 : Int32) v_t_isKept v_t_bestPost v_t_mostSeen v_t_taped v_t_from v_t_to v_t_isWrong f_t_found r37 w38 hc39) (cwV 1 hts gX8_tax_X8_finds rfl rfl rfl kdX8_finds ⟨Nat.le_of_ble_eq_true rfl, Nat.le_of_ble_eq_true rfl⟩) (bb_preVw (va_recv hK hP (ci := 7) (q0 := 0) rfl rfl) (hP.sub (ws' := [((a_t 0), oX8 a_t v_t_isKept v_t_bestPost v_t_mostSeen v_t_taped v_t_from v_t_to v_t_isWrong), ((a_t 5), .inl (cy 0, 7, .inl f_t_found))]) [0, 2] rfl) hK (hD.sub (ws' := [((a_t 0), oX8 a_t v_t_isKept v_t_bestPost v_t_mostSeen v_t_taped v_t_from v_t_to v_t_isWrong), ((a_t 5), .inl (cy 0, 7, .inl f_t_found))]) [0, 2] (by decide) rfl)) rfl rfl hl.1 rfl (lv_room (Nat.le_of_ble_eq_true rfl)) dX8_tax_17 ⟨Nat.zero_le _, Nat.zero_le _⟩) hP hD hS hA [0, 2] [1, 3] rfl rfl (by decide) (by decide) (fun H locs hP hD hS => ?_)
      have hP : va_P (dC, dI) vwCl [((a_t 3), .inl (cy 0, 155, .inl f_t_aside)), ((a_t 1), .inl (cy 0, 155, .inl f_t_s)), ((a_t 0), oX8 a_t v_t_isKept v_t_bestPost v_t_mostSeen v_t_taped v_t_from v_t_to v_t_isWrong), ((a_t 5), .inl (cy 0, 7, .inl w38))] H := hP
      have hD : va_D A [((a_t 3), .inl (cy 0, 155, .inl f_t_aside)), ((a_t 1), .inl (cy 0, 155, .inl f_t_s)), ((a_t 0), oX8 a_t v_t_isKept v_t_bestPost v_t_mostSeen v_t_taped v_t_from v_t_to v_t_isWrong), ((a_t 5), .inl (cy 0, 7, .inl w38))] := hD
      obtain ⟨rfl, rfl, rfl, rfl⟩ := bb_some4 h
      have hP9 := hP.sub (ws' := [((a_t 0), oX8 a_t v_t_isKept v_t_bestPost v_t_mostSeen v_t_taped v_t_from v_t_to v_t_isWrong), ((a_t 3), .inl (cy 0, 155, .inl f_t_aside)), ((a_t 5), .inl (cy 0, 7, .inl w38)), ((a_t 1), .inl (cy 0, 155, .inl f_t_s))]) [2, 0, 3, 1] rfl
      have hD9 := hD.sub (ws' := [((a_t 0), oX8 a_t v_t_isKept v_t_bestPost v_t_mostSeen v_t_taped v_t_from v_t_to v_t_isWrong), ((a_t 3), .inl (cy 0, 155, .inl f_t_aside)), ((a_t 5), .inl (cy 0, 7, .inl w38)), ((a_t 1), .inl (cy 0, 155, .inl f_t_s))]) [2, 0, 3, 1] (by decide) rfl
      exact W.iret hx hb hr (fun t ht hW => ⟨⟨_, (), rfl, rfl, by rw [ht]; exact hP9, va_K.moved hW.alike hK, hD9⟩, hS.F ht⟩) hS.2.2 dX8_tax_20
