/-! X8_finds -/
def uX8_finds (p1 : Int32) (f_t_found : Nat → Int32) : Option (Int32 × (Nat → Int32)) :=
  bb_ix p1 7 (bb_ix p1 7 (some ((-1000001 : Int32) - p1, upd f_t_found p1.toNatClampNeg ((f_t_found p1.toNatClampNeg) + (1 : Int32)))))
theorem kdX8_finds : yX8_finds.cls = RX8 ∧ yX8_finds.cls ≠ "java/lang/invoke/MethodHandle" ∧ yX8_finds.cls ≠ "java/lang/invoke/VarHandle" ∧ (parseMethodDescriptor yX8_finds.desc).map (fun d => d.parameters.length) = some 1 := by decide +kernel
set_option maxHeartbeats 4000000 in
set_option maxRecDepth 100000 in
theorem kX8_finds (l : Launch) (dC : Nat → ClassId) (dI : Nat → Nat → Nat) (cy : Nat → ClassId) (sz : Nat) (a_t : Nat → Nat) (p1 : Int32) (v_t_isKept : Int32) (v_t_bestPost : Int32) (v_t_mostSeen : Int32) (v_t_taped : Int32) (v_t_from : Int32) (v_t_to : Int32) (v_t_isWrong : Int32) (f_t_found : Nat → Int32) (r : Int32) (f_t_found_o : Nat → Int32) (h : uX8_finds p1 f_t_found = some (r, f_t_found_o)) : Met l yX8_finds wsX8_finds ({ frames := 0, cells := 0, slots := 0, locals := 0 }) (va_Pc [.ref (a_t 0), .int p1] (fun U => U.heap.size = sz ∧ va_P (dC, dI) vwCl [((a_t 0), oX8 a_t v_t_isKept v_t_bestPost v_t_mostSeen v_t_taped v_t_from v_t_to v_t_isWrong), ((a_t 5), .inl (cy 0, 7, .inl f_t_found))] U.heap ∧ va_K (dC, dI) vwCl (tyX cy) U ∧ va_D (fun _ => True) [((a_t 0), oX8 a_t v_t_isKept v_t_bestPost v_t_mostSeen v_t_taped v_t_from v_t_to v_t_isWrong), ((a_t 5), .inl (cy 0, 7, .inl f_t_found))])) (va_Qi (fun (r2 : Int32) (_ : Unit) => r = r2) (fun _ t => va_P (dC, dI) vwCl [((a_t 0), oX8 a_t v_t_isKept v_t_bestPost v_t_mostSeen v_t_taped v_t_from v_t_to v_t_isWrong), ((a_t 5), .inl (cy 0, 7, .inl f_t_found_o))] t.heap ∧ va_K (dC, dI) vwCl (tyX cy) t ∧ va_D (va_A [((a_t 0), oX8 a_t v_t_isKept v_t_bestPost v_t_mostSeen v_t_taped v_t_from v_t_to v_t_isWrong), ((a_t 5), .inl (cy 0, 7, .inl f_t_found))] sz) [((a_t 0), oX8 a_t v_t_isKept v_t_bestPost v_t_mostSeen v_t_taped v_t_from v_t_to v_t_isWrong), ((a_t 5), .inl (cy 0, 7, .inl f_t_found_o))]) (va_A [((a_t 0), oX8 a_t v_t_isKept v_t_bestPost v_t_mostSeen v_t_taped v_t_from v_t_to v_t_isWrong), ((a_t 5), .inl (cy 0, 7, .inl f_t_found))] sz)) 0 0 (va_A [((a_t 0), oX8 a_t v_t_isKept v_t_bestPost v_t_mostSeen v_t_taped v_t_from v_t_to v_t_isWrong), ((a_t 5), .inl (cy 0, 7, .inl f_t_found))] sz) := by
  refine Met.ofW (cc := cX8_finds) (maxL := 2) (ret := (some .int)) (by decide) rfl ?_
  intro p e s m args below meth c s₁ B hml hv
  obtain ⟨rfl, hsz, hP, hK, hD0⟩ := hv
  have hx := B.exec
  have hb := B.bytes
  have hr := B.returns
  have hts := atoms_spec (ws := wsX8_finds) B.pre
  have hown : s.vm.findClass RX8 = some m.cls := findClass_of_methodNamed B.named
  have hlocks := B.notSynchronized
  have iwX8 : ∀ w ∈ wsX80, w ∈ wsX8_finds := fun w h9 => List.mem_cons_of_mem _ (List.mem_append_right _ (h9))
  have lk1 := hts (Cond.fieldLink RX8 19 "BathBorderModel" "found" "[I") (List.mem_of_getElem? (i := 1) rfl)
  have lk2 := hts (Cond.constant RX8 51 (-1000001)) (List.mem_of_getElem? (i := 2) rfl)
  subst hsz
  have hD := hD0.self (sz := s.heap.size)
  generalize hAe : va_A [((a_t 0), oX8 a_t v_t_isKept v_t_bestPost v_t_mostSeen v_t_taped v_t_from v_t_to v_t_isWrong), ((a_t 5), .inl (cy 0, 7, .inl f_t_found))] s.heap.size = A at hD ⊢
  have hA : ∀ q : Nat, s.heap.size ≤ q → A q := fun q h => by rw [← hAe]; exact Or.inr h
  have hS : va_S A s.heap s.heap [] := va_S.rf
  have hP : va_P (dC, dI) vwCl [((a_t 0), oX8 a_t v_t_isKept v_t_bestPost v_t_mostSeen v_t_taped v_t_from v_t_to v_t_isWrong), ((a_t 5), .inl (cy 0, 7, .inl f_t_found))] s.heap := hP
  have hl := lv_entry ([.ref (a_t 0), .int p1]) (n := 2) (Nat.le_of_ble_eq_true rfl)
  rw [lg_entry_eq]
  generalize (lg_sl ([.ref (a_t 0), .int p1]) ++ List.replicate (2 - (lg_sl ([.ref (a_t 0), .int p1])).length) Slot.unset).toArray = ls at hl ⊢
  have hl : lv_has ls 2 [(0, .ref (a_t 0)), (1, .int p1)] := hl
  unfold uX8_finds at h
  refine bb_cap (fun WW toW ofW => ?_)
  refine lv_aload_n hx hb dX8_finds_0 rfl (lv_at hl 0 rfl) ?_
  refine va_get (D := (dC, dI)) (ci := 7) (v := .ref (a_t 5)) (C := RX8) (T := TX8) (N := 20) hx hb hts iwX8 hown hK hP 0 rfl rfl 4 (by decide) lk1 (fun _ h9 => h9) rfl dX8_finds_1 ?_
  refine lv_iload_n hx hb dX8_finds_4 rfl (lv_at hl 1 rfl) ?_
  refine lv_dup2_11 hx hb dX8_finds_5 rfl rfl ?_
  obtain ⟨hi1, h⟩ := bb_ix_o h
  refine va_iald hx hb hK hP 1 0 rfl rfl hi1 dX8_finds_6 ?_
  refine lv_iconst (v := (1 : Int32)) hx hb dX8_finds_7 (by decide) ?_
  refine lv_iadd hx hb dX8_finds_8 ?_
  obtain ⟨hi2, h⟩ := bb_ix_o h
  refine va_iast hx hb hK hP hD hS 1 0 rfl rfl hi2 dX8_finds_9 (fun H locs hP hD hS => ?_)
  have hP : va_P (dC, dI) vwCl [((a_t 0), oX8 a_t v_t_isKept v_t_bestPost v_t_mostSeen v_t_taped v_t_from v_t_to v_t_isWrong), ((a_t 5), .inl (cy 0, 7, .inl (upd f_t_found p1.toNatClampNeg ((f_t_found p1.toNatClampNeg) + (1 : Int32)))))] H := hP
  have hD : va_D A [((a_t 0), oX8 a_t v_t_isKept v_t_bestPost v_t_mostSeen v_t_taped v_t_from v_t_to v_t_isWrong), ((a_t 5), .inl (cy 0, 7, .inl (upd f_t_found p1.toNatClampNeg ((f_t_found p1.toNatClampNeg) + (1 : Int32)))))] := hD
  refine lv_ldc (v := (-1000001 : Int32)) hx hb hown lk2 dX8_finds_10 ?_
  refine lv_iload_n hx hb dX8_finds_12 rfl (lv_at hl 1 rfl) ?_
  refine lv_isub hx hb dX8_finds_13 ?_
  obtain ⟨rfl, rfl⟩ := bb_some2 h
  have hP9 := hP.sub (ws' := [((a_t 0), oX8 a_t v_t_isKept v_t_bestPost v_t_mostSeen v_t_taped v_t_from v_t_to v_t_isWrong), ((a_t 5), .inl (cy 0, 7, .inl (upd f_t_found p1.toNatClampNeg ((f_t_found p1.toNatClampNeg) + (1 : Int32)))))]) [0, 1] rfl
  have hD9 := hD.sub (ws' := [((a_t 0), oX8 a_t v_t_isKept v_t_bestPost v_t_mostSeen v_t_taped v_t_from v_t_to v_t_isWrong), ((a_t 5), .inl (cy 0, 7, .inl (upd f_t_found p1.toNatClampNeg ((f_t_found p1.toNatClampNeg) + (1 : Int32)))))]) [0, 1] (by decide) rfl
  exact W.iret hx hb hr (fun t ht hW => ⟨⟨_, (), rfl, rfl, by rw [ht]; exact hP9, va_K.moved hW.alike hK, hD9⟩, hS.F ht⟩) hS.2.2 dX8_finds_14
/-! X8_in -/
def uX8_in (p1 : Int64) (p2 : Int64) (p3 : Int64) : Option (Int32) :=
  (if (lg_cmp p1 p2) < 0 then some (0 : Int32) else (if 0 < (lg_cmp p1 p3) then some (0 : Int32) else some (1 : Int32)))
theorem kdX8_in : yX8_in.cls ≠ "java/lang/invoke/MethodHandle" ∧ yX8_in.cls ≠ "java/lang/invoke/VarHandle" ∧ (parseMethodDescriptor yX8_in.desc).map (fun d => d.parameters.length) = some 3 := by decide +kernel
set_option maxHeartbeats 4000000 in
set_option maxRecDepth 100000 in
theorem kX8_in (l : Launch) (dC : Nat → ClassId) (dI : Nat → Nat → Nat) (cy : Nat → ClassId) (p1 : Int64) (p2 : Int64) (p3 : Int64) (r : Int32) (h : uX8_in p1 p2 p3 = some r) : Met l yX8_in wsX8_in ({ frames := 0, cells := 0, slots := 0, locals := 0 }) (va_Pc [.long p1, .long p2, .long p3] (fun U => va_P (dC, dI) vwCl [] U.heap ∧ va_K (dC, dI) vwCl (tyX cy) U)) (vp_Si (fun r2 => r = r2 ∧ narrow .boolean (.int r2) = .int r2)) 0 0 (fun _ => False) := by
  refine Met.ofW (cc := cX8_in) (maxL := 6) (ret := (some .boolean)) (by decide) rfl ?_
  intro p e s m args below meth c s₁ B hml hv
  obtain ⟨rfl, hP, hK⟩ := hv
  have hx := B.exec
  have hb := B.bytes
  have hr := B.returns
  have hts := atoms_spec (ws := wsX8_in) B.pre
  have hown : s.vm.findClass RX8 = some m.cls := findClass_of_methodNamed B.named
  have hlocks := B.notSynchronized
  have hl := lv_entry ([.long p1, .long p2, .long p3]) (n := 6) (Nat.le_of_ble_eq_true rfl)
  rw [lg_entry_eq]
  generalize (lg_sl ([.long p1, .long p2, .long p3]) ++ List.replicate (6 - (lg_sl ([.long p1, .long p2, .long p3])).length) Slot.unset).toArray = ls at hl ⊢
  have hl : lv_has ls 6 [(0, .long p1), (2, .long p2), (4, .long p3)] := hl
  unfold uX8_in at h
  refine bb_cap (fun WW toW ofW => ?_)
  refine lv_lload_n hx hb dX8_in_0 rfl (lv_at hl 0 rfl) ?_
  refine lv_lload_n hx hb dX8_in_1 rfl (lv_at hl 1 rfl) ?_
  refine W.lcmp hx hb dX8_in_2 ?_
  refine lv_if_lt (tgt := 17) hx hb dX8_in_3 (by decide) (fun c1 => ?_) (fun c1 => ?_)
  · replace h := bb_ifp c1 h
    refine lv_iconst (v := (0 : Int32)) hx hb dX8_in_17 (by decide) ?_
    obtain rfl := bb_some1 h
    exact W.zret hx hb hr (by decide) (fun t ht hW => ⟨_, rfl, ⟨rfl, (by decide)⟩, ht⟩) (fun q hq => by cases hq) dX8_in_18
  · replace h := bb_ifn c1 h
    refine lv_lload_n hx hb dX8_in_6 rfl (lv_at hl 0 rfl) ?_
    refine lv_lload hx hb dX8_in_7 (lv_at hl 2 rfl) ?_
    refine W.lcmp hx hb dX8_in_9 ?_
    refine lv_if_gt (tgt := 17) hx hb dX8_in_10 (by decide) (fun c2 => ?_) (fun c2 => ?_)
    · replace h := bb_ifp c2 h
      refine lv_iconst (v := (0 : Int32)) hx hb dX8_in_17 (by decide) ?_
      obtain rfl := bb_some1 h
      exact W.zret hx hb hr (by decide) (fun t ht hW => ⟨_, rfl, ⟨rfl, (by decide)⟩, ht⟩) (fun q hq => by cases hq) dX8_in_18
    · replace h := bb_ifn c2 h
      refine lv_iconst (v := (1 : Int32)) hx hb dX8_in_13 (by decide) ?_
      refine lv_goto (tgt := 18) hx hb dX8_in_14 (by decide) ?_
      obtain rfl := bb_some1 h
      exact W.zret hx hb hr (by decide) (fun t ht hW => ⟨_, rfl, ⟨rfl, (by decide)⟩, ht⟩) (fun q hq => by cases hq) dX8_in_18
/-! X8_become -/
def uX8_become_s2 (f_p1_3 : Nat → Int32) (rec4 : Int32 → (Nat → Int32) → Option ((Nat → Int32))) (x2_1 : Int32) (f_p2_2 : Nat → Int32) : Option ((Nat → Int32)) :=
  (if (155 : Int32) ≤ x2_1 then some f_p2_2 else bb_ix x2_1 155 (bb_ix x2_1 155 (rec4 (x2_1 + (1 : Int32)) (upd f_p2_2 x2_1.toNatClampNeg (f_p1_3 x2_1.toNatClampNeg)))))
def uX8_become (nn : Nat) (f_p1 : Nat → Int32) (f_p2 : Nat → Int32) : Option ((Nat → Int32)) :=
  bb_loop2 (uX8_become_s2 f_p1) nn (0 : Int32) f_p2
theorem kdX8_become : yX8_become.cls ≠ "java/lang/invoke/MethodHandle" ∧ yX8_become.cls ≠ "java/lang/invoke/VarHandle" ∧ (parseMethodDescriptor yX8_become.desc).map (fun d => d.parameters.length) = some 2 := by decide +kernel
set_option maxHeartbeats 4000000 in
set_option maxRecDepth 100000 in
theorem kX8_become (l : Launch) (dC : Nat → ClassId) (dI : Nat → Nat → Nat) (cy : Nat → ClassId) (sz : Nat) (q_p1 : Nat) (q_p2 : Nat) (f_p1 : Nat → Int32) (f_p2 : Nat → Int32) (nn : Nat) (f_p2_o : Nat → Int32) (h : uX8_become nn f_p1 f_p2 = some f_p2_o) : Met l yX8_become wsX8_become ({ frames := 0, cells := 0, slots := 0, locals := 0 }) (va_Pc [.ref q_p1, .ref q_p2] (fun U => U.heap.size = sz ∧ va_P (dC, dI) vwCl [(q_p1, .inl (cy 0, 155, .inl f_p1)), (q_p2, .inl (cy 0, 155, .inl f_p2))] U.heap ∧ va_K (dC, dI) vwCl (tyX cy) U ∧ va_D (fun _ => True) [(q_p1, .inl (cy 0, 155, .inl f_p1)), (q_p2, .inl (cy 0, 155, .inl f_p2))])) (va_Qv (fun (_ : Unit) => True) (fun _ t => va_P (dC, dI) vwCl [(q_p1, .inl (cy 0, 155, .inl f_p1)), (q_p2, .inl (cy 0, 155, .inl f_p2_o))] t.heap ∧ va_K (dC, dI) vwCl (tyX cy) t ∧ va_D (va_A [(q_p1, .inl (cy 0, 155, .inl f_p1)), (q_p2, .inl (cy 0, 155, .inl f_p2))] sz) [(q_p1, .inl (cy 0, 155, .inl f_p1)), (q_p2, .inl (cy 0, 155, .inl f_p2_o))]) (va_A [(q_p1, .inl (cy 0, 155, .inl f_p1)), (q_p2, .inl (cy 0, 155, .inl f_p2))] sz)) 0 0 (va_A [(q_p1, .inl (cy 0, 155, .inl f_p1)), (q_p2, .inl (cy 0, 155, .inl f_p2))] sz) := by
  refine Met.ofW (cc := cX8_become) (maxL := 3) (ret := none) (by decide) rfl ?_
  intro p e s m args below meth c s₁ B hml hv
  obtain ⟨rfl, hsz, hP, hK, hD0⟩ := hv
  have hx := B.exec
  have hb := B.bytes
  have hr := B.returns
  have hts := atoms_spec (ws := wsX8_become) B.pre
  have hown : s.vm.findClass RX8 = some m.cls := findClass_of_methodNamed B.named
  have hlocks := B.notSynchronized
  subst hsz
  have hD := hD0.self (sz := s.heap.size)
  generalize hAe : va_A [(q_p1, .inl (cy 0, 155, .inl f_p1)), (q_p2, .inl (cy 0, 155, .inl f_p2))] s.heap.size = A at hD ⊢
  have hA : ∀ q : Nat, s.heap.size ≤ q → A q := fun q h => by rw [← hAe]; exact Or.inr h
  have hS : va_S A s.heap s.heap [] := va_S.rf
  have hP : va_P (dC, dI) vwCl [(q_p1, .inl (cy 0, 155, .inl f_p1)), (q_p2, .inl (cy 0, 155, .inl f_p2))] s.heap := hP
  have hl := lv_entry ([.ref q_p1, .ref q_p2]) (n := 3) (Nat.le_of_ble_eq_true rfl)
  rw [lg_entry_eq]
  generalize (lg_sl ([.ref q_p1, .ref q_p2]) ++ List.replicate (3 - (lg_sl ([.ref q_p1, .ref q_p2])).length) Slot.unset).toArray = ls at hl ⊢
  have hl : lv_has ls 3 [(0, .ref q_p1), (1, .ref q_p2)] := hl
  unfold uX8_become at h
  refine bb_cap (fun WW toW ofW => ?_)
  refine lv_iconst (v := (0 : Int32)) hx hb dX8_become_0 (by decide) ?_
  refine lv_istore_n (lv' := [(2, .int (0 : Int32)), (0, .ref q_p1), (1, .ref q_p2)]) hx hb dX8_become_1 rfl hl (by decide) rfl (fun ls hl => ?_)
  have L5 : ∀ (n : Nat) (x2_1 : Int32) (f_p2_2 : Nat → Int32) (H : Heap) (locs : List Loc) (ls : Array Slot), bb_loop2 (uX8_become_s2 f_p1) n x2_1 f_p2_2 = some f_p2_o → va_P (dC, dI) vwCl [(q_p1, .inl (cy 0, 155, .inl f_p1)), (q_p2, .inl (cy 0, 155, .inl f_p2_2))] H → va_D A [(q_p1, .inl (cy 0, 155, .inl f_p1)), (q_p2, .inl (cy 0, 155, .inl f_p2_2))] → va_S A s.heap H locs → lv_has ls 3 [(0, .ref q_p1), (1, .ref q_p2), (2, .int x2_1)] → WW H locs (F0 m 2 ls []) := by
    intro n
    induction n with
    | zero => intro x2_1 f_p2_2 H locs ls h; exact (bb_no h).elim
    | succ n ih6 =>
      intro x2_1 f_p2_2 H locs ls h hP hD hS hl
      refine ofW _ _ _ ?_
      obtain ⟨rec4, erec4, h⟩ := bb_loop2_o h
      unfold uX8_become_s2 at h
      refine lv_iload_n hx hb dX8_become_2 rfl (lv_at hl 2 rfl) ?_
      refine lv_sipush (v := (155 : Int32)) hx hb dX8_become_3 (by decide) ?_
      refine lv_icmp_ge (tgt := 21) hx hb dX8_become_6 (by decide) (fun c7 => ?_) (fun c7 => ?_)
      · replace h := bb_ifp c7 h
        obtain rfl := bb_some1 h
        have hP9 := hP.sub (ws' := [(q_p1, .inl (cy 0, 155, .inl f_p1)), (q_p2, .inl (cy 0, 155, .inl f_p2_2))]) [0, 1] rfl
        have hD9 := hD.sub (ws' := [(q_p1, .inl (cy 0, 155, .inl f_p1)), (q_p2, .inl (cy 0, 155, .inl f_p2_2))]) [0, 1] (by decide) rfl
        exact W.vret hx hb hr (fun t ht hW => ⟨⟨(), rfl, trivial, by rw [ht]; exact hP9, va_K.moved hW.alike hK, hD9⟩, hS.F ht⟩) hS.2.2 dX8_become_21
      · replace h := bb_ifn c7 h
        refine lv_aload_n hx hb dX8_become_9 rfl (lv_at hl 1 rfl) ?_
        refine lv_iload_n hx hb dX8_become_10 rfl (lv_at hl 2 rfl) ?_
        refine lv_aload_n hx hb dX8_become_11 rfl (lv_at hl 0 rfl) ?_
        refine lv_iload_n hx hb dX8_become_12 rfl (lv_at hl 2 rfl) ?_
        obtain ⟨hi8, h⟩ := bb_ix_o h
        refine va_iald hx hb hK hP 0 0 rfl rfl hi8 dX8_become_13 ?_
        obtain ⟨hi9, h⟩ := bb_ix_o h
        refine va_iast hx hb hK hP hD hS 1 0 rfl rfl hi9 dX8_become_14 (fun H locs hP hD hS => ?_)
        have hP : va_P (dC, dI) vwCl [(q_p1, .inl (cy 0, 155, .inl f_p1)), (q_p2, .inl (cy 0, 155, .inl (upd f_p2_2 x2_1.toNatClampNeg (f_p1 x2_1.toNatClampNeg))))] H := hP
        have hD : va_D A [(q_p1, .inl (cy 0, 155, .inl f_p1)), (q_p2, .inl (cy 0, 155, .inl (upd f_p2_2 x2_1.toNatClampNeg (f_p1 x2_1.toNatClampNeg))))] := hD
        refine lv_iinc (v := x2_1 + (1 : Int32)) (lv' := [(2, .int (x2_1 + (1 : Int32))), (0, .ref q_p1), (1, .ref q_p2)]) hx hb dX8_become_15 hl (k := 2) rfl rfl (by decide) rfl (fun ls hl => ?_)
        refine lv_goto (tgt := 2) hx hb dX8_become_18 (by decide) ?_
        rw [erec4] at h
        exact toW _ _ _ (ih6 (x2_1 + (1 : Int32)) (upd f_p2_2 x2_1.toNatClampNeg (f_p1 x2_1.toNatClampNeg)) _ _ _ h hP hD hS (lv_sub hl [1, 2, 0] rfl))
  exact toW _ _ _ (L5 nn (0 : Int32) f_p2 _ _ _ h hP hD hS (lv_sub hl [1, 2, 0] rfl))
/-! X8_lends -/
def uX8_lends (nn : Nat) (f_t_aside : Nat → Int32) (f_t_s : Nat → Int32) : Option ((Nat → Int32)) :=
  bb_b1 (uX8_become nn f_t_s f_t_aside) (fun (w1 : Nat → Int32) => some w1)
theorem kdX8_lends : yX8_lends.cls = RX8 ∧ yX8_lends.cls ≠ "java/lang/invoke/MethodHandle" ∧ yX8_lends.cls ≠ "java/lang/invoke/VarHandle" ∧ (parseMethodDescriptor yX8_lends.desc).map (fun d => d.parameters.length) = some 0 := by decide +kernel
set_option maxHeartbeats 4000000 in
set_option maxRecDepth 100000 in
theorem kX8_lends (l : Launch) (dC : Nat → ClassId) (dI : Nat → Nat → Nat) (cy : Nat → ClassId) (sz : Nat) (a_t : Nat → Nat) (v_t_isKept : Int32) (v_t_bestPost : Int32) (v_t_mostSeen : Int32) (v_t_taped : Int32) (v_t_from : Int32) (v_t_to : Int32) (v_t_isWrong : Int32) (f_t_aside : Nat → Int32) (f_t_s : Nat → Int32) (nn : Nat) (f_t_aside_o : Nat → Int32) (h : uX8_lends nn f_t_aside f_t_s = some f_t_aside_o) : Met l yX8_lends wsX8_lends ({ frames := 1, cells := 0, slots := 0, locals := 22 }) (va_Pc [.ref (a_t 0)] (fun U => U.heap.size = sz ∧ va_P (dC, dI) vwCl [((a_t 0), oX8 a_t v_t_isKept v_t_bestPost v_t_mostSeen v_t_taped v_t_from v_t_to v_t_isWrong), ((a_t 3), .inl (cy 0, 155, .inl f_t_aside)), ((a_t 1), .inl (cy 0, 155, .inl f_t_s))] U.heap ∧ va_K (dC, dI) vwCl (tyX cy) U ∧ va_D (fun _ => True) [((a_t 0), oX8 a_t v_t_isKept v_t_bestPost v_t_mostSeen v_t_taped v_t_from v_t_to v_t_isWrong), ((a_t 3), .inl (cy 0, 155, .inl f_t_aside)), ((a_t 1), .inl (cy 0, 155, .inl f_t_s))])) (va_Qv (fun (_ : Unit) => True) (fun _ t => va_P (dC, dI) vwCl [((a_t 0), oX8 a_t v_t_isKept v_t_bestPost v_t_mostSeen v_t_taped v_t_from v_t_to v_t_isWrong), ((a_t 3), .inl (cy 0, 155, .inl f_t_aside_o)), ((a_t 1), .inl (cy 0, 155, .inl f_t_s))] t.heap ∧ va_K (dC, dI) vwCl (tyX cy) t ∧ va_D (va_A [((a_t 0), oX8 a_t v_t_isKept v_t_bestPost v_t_mostSeen v_t_taped v_t_from v_t_to v_t_isWrong), ((a_t 3), .inl (cy 0, 155, .inl f_t_aside)), ((a_t 1), .inl (cy 0, 155, .inl f_t_s))] sz) [((a_t 0), oX8 a_t v_t_isKept v_t_bestPost v_t_mostSeen v_t_taped v_t_from v_t_to v_t_isWrong), ((a_t 3), .inl (cy 0, 155, .inl f_t_aside_o)), ((a_t 1), .inl (cy 0, 155, .inl f_t_s))]) (va_A [((a_t 0), oX8 a_t v_t_isKept v_t_bestPost v_t_mostSeen v_t_taped v_t_from v_t_to v_t_isWrong), ((a_t 3), .inl (cy 0, 155, .inl f_t_aside)), ((a_t 1), .inl (cy 0, 155, .inl f_t_s))] sz)) 0 0 (va_A [((a_t 0), oX8 a_t v_t_isKept v_t_bestPost v_t_mostSeen v_t_taped v_t_from v_t_to v_t_isWrong), ((a_t 3), .inl (cy 0, 155, .inl f_t_aside)), ((a_t 1), .inl (cy 0, 155, .inl f_t_s))] sz) := by
  refine Met.ofW (cc := cX8_lends) (maxL := 1) (ret := none) (by decide) rfl ?_
  intro p e s m args below meth c s₁ B hml hv
  obtain ⟨rfl, hsz, hP, hK, hD0⟩ := hv
  have hx := B.exec
  have hb := B.bytes
  have hr := B.returns
  have hts := atoms_spec (ws := wsX8_lends) B.pre
  have hown : s.vm.findClass RX8 = some m.cls := findClass_of_methodNamed B.named
  have hlocks := B.notSynchronized
  have iwX8 : ∀ w ∈ wsX80, w ∈ wsX8_lends := fun w h9 => List.mem_cons_of_mem _ (List.mem_append_right _ (h9))
  have lk1 := hts (Cond.fieldLink RX8 9 "BathBorderModel" "s" "[I") (List.mem_of_getElem? (i := 1) rfl)
  have lk2 := hts (Cond.fieldLink RX8 16 "BathBorderModel" "aside" "[I") (List.mem_of_getElem? (i := 2) rfl)
  subst hsz
  have hD := hD0.self (sz := s.heap.size)
  generalize hAe : va_A [((a_t 0), oX8 a_t v_t_isKept v_t_bestPost v_t_mostSeen v_t_taped v_t_from v_t_to v_t_isWrong), ((a_t 3), .inl (cy 0, 155, .inl f_t_aside)), ((a_t 1), .inl (cy 0, 155, .inl f_t_s))] s.heap.size = A at hD ⊢
  have hA : ∀ q : Nat, s.heap.size ≤ q → A q := fun q h => by rw [← hAe]; exact Or.inr h
  have hS : va_S A s.heap s.heap [] := va_S.rf
  have hP : va_P (dC, dI) vwCl [((a_t 0), oX8 a_t v_t_isKept v_t_bestPost v_t_mostSeen v_t_taped v_t_from v_t_to v_t_isWrong), ((a_t 3), .inl (cy 0, 155, .inl f_t_aside)), ((a_t 1), .inl (cy 0, 155, .inl f_t_s))] s.heap := hP
  have hl := lv_entry ([.ref (a_t 0)]) (n := 1) (Nat.le_of_ble_eq_true rfl)
  rw [lg_entry_eq]
  generalize (lg_sl ([.ref (a_t 0)]) ++ List.replicate (1 - (lg_sl ([.ref (a_t 0)])).length) Slot.unset).toArray = ls at hl ⊢
  have hl : lv_has ls 1 [(0, .ref (a_t 0))] := hl
  unfold uX8_lends at h
  refine bb_cap (fun WW toW ofW => ?_)
  refine lv_aload_n hx hb dX8_lends_0 rfl (lv_at hl 0 rfl) ?_
  refine va_get (D := (dC, dI)) (ci := 7) (v := .ref (a_t 1)) (C := RX8) (T := TX8) (N := 20) hx hb hts iwX8 hown hK hP 0 rfl rfl 0 (by decide) lk1 (fun _ h9 => h9) rfl dX8_lends_1 ?_
  refine lv_aload_n hx hb dX8_lends_4 rfl (lv_at hl 0 rfl) ?_
  refine va_get (D := (dC, dI)) (ci := 7) (v := .ref (a_t 3)) (C := RX8) (T := TX8) (N := 20) hx hb hts iwX8 hown hK hP 0 rfl rfl 2 (by decide) lk2 (fun _ h9 => h9) rfl dX8_lends_5 ?_
  obtain ⟨w1, hc2, h⟩ := bb_b1_o h
  refine bb_cwv (wr := [((a_t 0), oX8 a_t v_t_isKept v_t_bestPost v_t_mostSeen v_t_taped v_t_from v_t_to v_t_isWrong)]) (w1 := [((a_t 1), .inl (cy 0, 155, .inl f_t_s)), ((a_t 3), .inl (cy 0, 155, .inl w1))]) (va_runS (As := [.ref (a_t 1), .ref (a_t 3)]) (rest := []) ⟨hx, hb, hml, hown, hts⟩ (kX8_become l dC dI cy s.heap.size (a_t 1) (a_t 3) f_t_s f_t_aside nn w1 hc2) (va_cwS 2 hts gX8_lends_X8_become rfl rfl rfl kdX8_become ⟨Nat.le_of_ble_eq_true rfl, Nat.le_of_ble_eq_true rfl⟩) (bb_preSw (hP.sub (ws' := [((a_t 1), .inl (cy 0, 155, .inl f_t_s)), ((a_t 3), .inl (cy 0, 155, .inl f_t_aside))]) [2, 1] rfl) hK (hD.sub (ws' := [((a_t 1), .inl (cy 0, 155, .inl f_t_s)), ((a_t 3), .inl (cy 0, 155, .inl f_t_aside))]) [2, 1] (by decide) rfl)) rfl rfl hl.1 rfl (lv_room (Nat.le_of_ble_eq_true rfl)) dX8_lends_8 ⟨Nat.zero_le _, Nat.zero_le _⟩) hP hD hS hA [2, 1] [0] rfl rfl (by decide) (by decide) (fun H locs hP hD hS => ?_)
  have hP : va_P (dC, dI) vwCl [((a_t 0), oX8 a_t v_t_isKept v_t_bestPost v_t_mostSeen v_t_taped v_t_from v_t_to v_t_isWrong), ((a_t 1), .inl (cy 0, 155, .inl f_t_s)), ((a_t 3), .inl (cy 0, 155, .inl w1))] H := hP
  have hD : va_D A [((a_t 0), oX8 a_t v_t_isKept v_t_bestPost v_t_mostSeen v_t_taped v_t_from v_t_to v_t_isWrong), ((a_t 1), .inl (cy 0, 155, .inl f_t_s)), ((a_t 3), .inl (cy 0, 155, .inl w1))] := hD
  obtain rfl := bb_some1 h
  have hP9 := hP.sub (ws' := [((a_t 0), oX8 a_t v_t_isKept v_t_bestPost v_t_mostSeen v_t_taped v_t_from v_t_to v_t_isWrong), ((a_t 3), .inl (cy 0, 155, .inl w1)), ((a_t 1), .inl (cy 0, 155, .inl f_t_s))]) [0, 2, 1] rfl
  have hD9 := hD.sub (ws' := [((a_t 0), oX8 a_t v_t_isKept v_t_bestPost v_t_mostSeen v_t_taped v_t_from v_t_to v_t_isWrong), ((a_t 3), .inl (cy 0, 155, .inl w1)), ((a_t 1), .inl (cy 0, 155, .inl f_t_s))]) [0, 2, 1] (by decide) rfl
  exact W.vret hx hb hr (fun t ht hW => ⟨⟨(), rfl, trivial, by rw [ht]; exact hP9, va_K.moved hW.alike hK, hD9⟩, hS.F ht⟩) hS.2.2 dX8_lends_11
/-! X8_laysBack -/
def uX8_laysBack (nn : Nat) (f_t_aside : Nat → Int32) (f_t_s : Nat → Int32) : Option ((Nat → Int32)) :=
  bb_b1 (uX8_become nn f_t_aside f_t_s) (fun (w1 : Nat → Int32) => some w1)
theorem kdX8_laysBack : yX8_laysBack.cls = RX8 ∧ yX8_laysBack.cls ≠ "java/lang/invoke/MethodHandle" ∧ yX8_laysBack.cls ≠ "java/lang/invoke/VarHandle" ∧ (parseMethodDescriptor yX8_laysBack.desc).map (fun d => d.parameters.length) = some 0 := by decide +kernel
set_option maxHeartbeats 4000000 in
set_option maxRecDepth 100000 in
theorem kX8_laysBack (l : Launch) (dC : Nat → ClassId) (dI : Nat → Nat → Nat) (cy : Nat → ClassId) (sz : Nat) (a_t : Nat → Nat) (v_t_isKept : Int32) (v_t_bestPost : Int32) (v_t_mostSeen : Int32) (v_t_taped : Int32) (v_t_from : Int32) (v_t_to : Int32) (v_t_isWrong : Int32) (f_t_aside : Nat → Int32) (f_t_s : Nat → Int32) (nn : Nat) (f_t_s_o : Nat → Int32) (h : uX8_laysBack nn f_t_aside f_t_s = some f_t_s_o) : Met l yX8_laysBack wsX8_laysBack ({ frames := 1, cells := 0, slots := 0, locals := 22 }) (va_Pc [.ref (a_t 0)] (fun U => U.heap.size = sz ∧ va_P (dC, dI) vwCl [((a_t 0), oX8 a_t v_t_isKept v_t_bestPost v_t_mostSeen v_t_taped v_t_from v_t_to v_t_isWrong), ((a_t 3), .inl (cy 0, 155, .inl f_t_aside)), ((a_t 1), .inl (cy 0, 155, .inl f_t_s))] U.heap ∧ va_K (dC, dI) vwCl (tyX cy) U ∧ va_D (fun _ => True) [((a_t 0), oX8 a_t v_t_isKept v_t_bestPost v_t_mostSeen v_t_taped v_t_from v_t_to v_t_isWrong), ((a_t 3), .inl (cy 0, 155, .inl f_t_aside)), ((a_t 1), .inl (cy 0, 155, .inl f_t_s))])) (va_Qv (fun (_ : Unit) => True) (fun _ t => va_P (dC, dI) vwCl [((a_t 0), oX8 a_t v_t_isKept v_t_bestPost v_t_mostSeen v_t_taped v_t_from v_t_to v_t_isWrong), ((a_t 3), .inl (cy 0, 155, .inl f_t_aside)), ((a_t 1), .inl (cy 0, 155, .inl f_t_s_o))] t.heap ∧ va_K (dC, dI) vwCl (tyX cy) t ∧ va_D (va_A [((a_t 0), oX8 a_t v_t_isKept v_t_bestPost v_t_mostSeen v_t_taped v_t_from v_t_to v_t_isWrong), ((a_t 3), .inl (cy 0, 155, .inl f_t_aside)), ((a_t 1), .inl (cy 0, 155, .inl f_t_s))] sz) [((a_t 0), oX8 a_t v_t_isKept v_t_bestPost v_t_mostSeen v_t_taped v_t_from v_t_to v_t_isWrong), ((a_t 3), .inl (cy 0, 155, .inl f_t_aside)), ((a_t 1), .inl (cy 0, 155, .inl f_t_s_o))]) (va_A [((a_t 0), oX8 a_t v_t_isKept v_t_bestPost v_t_mostSeen v_t_taped v_t_from v_t_to v_t_isWrong), ((a_t 3), .inl (cy 0, 155, .inl f_t_aside)), ((a_t 1), .inl (cy 0, 155, .inl f_t_s))] sz)) 0 0 (va_A [((a_t 0), oX8 a_t v_t_isKept v_t_bestPost v_t_mostSeen v_t_taped v_t_from v_t_to v_t_isWrong), ((a_t 3), .inl (cy 0, 155, .inl f_t_aside)), ((a_t 1), .inl (cy 0, 155, .inl f_t_s))] sz) := by
  refine Met.ofW (cc := cX8_laysBack) (maxL := 1) (ret := none) (by decide) rfl ?_
  intro p e s m args below meth c s₁ B hml hv
  obtain ⟨rfl, hsz, hP, hK, hD0⟩ := hv
  have hx := B.exec
  have hb := B.bytes
  have hr := B.returns
  have hts := atoms_spec (ws := wsX8_laysBack) B.pre
  have hown : s.vm.findClass RX8 = some m.cls := findClass_of_methodNamed B.named
  have hlocks := B.notSynchronized
  have iwX8 : ∀ w ∈ wsX80, w ∈ wsX8_laysBack := fun w h9 => List.mem_cons_of_mem _ (List.mem_append_right _ (h9))
  have lk1 := hts (Cond.fieldLink RX8 16 "BathBorderModel" "aside" "[I") (List.mem_of_getElem? (i := 1) rfl)
  have lk2 := hts (Cond.fieldLink RX8 9 "BathBorderModel" "s" "[I") (List.mem_of_getElem? (i := 2) rfl)
  subst hsz
  have hD := hD0.self (sz := s.heap.size)
  generalize hAe : va_A [((a_t 0), oX8 a_t v_t_isKept v_t_bestPost v_t_mostSeen v_t_taped v_t_from v_t_to v_t_isWrong), ((a_t 3), .inl (cy 0, 155, .inl f_t_aside)), ((a_t 1), .inl (cy 0, 155, .inl f_t_s))] s.heap.size = A at hD ⊢
  have hA : ∀ q : Nat, s.heap.size ≤ q → A q := fun q h => by rw [← hAe]; exact Or.inr h
  have hS : va_S A s.heap s.heap [] := va_S.rf
  have hP : va_P (dC, dI) vwCl [((a_t 0), oX8 a_t v_t_isKept v_t_bestPost v_t_mostSeen v_t_taped v_t_from v_t_to v_t_isWrong), ((a_t 3), .inl (cy 0, 155, .inl f_t_aside)), ((a_t 1), .inl (cy 0, 155, .inl f_t_s))] s.heap := hP
  have hl := lv_entry ([.ref (a_t 0)]) (n := 1) (Nat.le_of_ble_eq_true rfl)
  rw [lg_entry_eq]
  generalize (lg_sl ([.ref (a_t 0)]) ++ List.replicate (1 - (lg_sl ([.ref (a_t 0)])).length) Slot.unset).toArray = ls at hl ⊢
  have hl : lv_has ls 1 [(0, .ref (a_t 0))] := hl
  unfold uX8_laysBack at h
  refine bb_cap (fun WW toW ofW => ?_)
  refine lv_aload_n hx hb dX8_laysBack_0 rfl (lv_at hl 0 rfl) ?_
  refine va_get (D := (dC, dI)) (ci := 7) (v := .ref (a_t 3)) (C := RX8) (T := TX8) (N := 20) hx hb hts iwX8 hown hK hP 0 rfl rfl 2 (by decide) lk1 (fun _ h9 => h9) rfl dX8_laysBack_1 ?_
  refine lv_aload_n hx hb dX8_laysBack_4 rfl (lv_at hl 0 rfl) ?_
  refine va_get (D := (dC, dI)) (ci := 7) (v := .ref (a_t 1)) (C := RX8) (T := TX8) (N := 20) hx hb hts iwX8 hown hK hP 0 rfl rfl 0 (by decide) lk2 (fun _ h9 => h9) rfl dX8_laysBack_5 ?_
  obtain ⟨w1, hc2, h⟩ := bb_b1_o h
  refine bb_cwv (wr := [((a_t 0), oX8 a_t v_t_isKept v_t_bestPost v_t_mostSeen v_t_taped v_t_from v_t_to v_t_isWrong)]) (w1 := [((a_t 3), .inl (cy 0, 155, .inl f_t_aside)), ((a_t 1), .inl (cy 0, 155, .inl w1))]) (va_runS (As := [.ref (a_t 3), .ref (a_t 1)]) (rest := []) ⟨hx, hb, hml, hown, hts⟩ (kX8_become l dC dI cy s.heap.size (a_t 3) (a_t 1) f_t_aside f_t_s nn w1 hc2) (va_cwS 2 hts gX8_laysBack_X8_become rfl rfl rfl kdX8_become ⟨Nat.le_of_ble_eq_true rfl, Nat.le_of_ble_eq_true rfl⟩) (bb_preSw (hP.sub (ws' := [((a_t 3), .inl (cy 0, 155, .inl f_t_aside)), ((a_t 1), .inl (cy 0, 155, .inl f_t_s))]) [1, 2] rfl) hK (hD.sub (ws' := [((a_t 3), .inl (cy 0, 155, .inl f_t_aside)), ((a_t 1), .inl (cy 0, 155, .inl f_t_s))]) [1, 2] (by decide) rfl)) rfl rfl hl.1 rfl (lv_room (Nat.le_of_ble_eq_true rfl)) dX8_laysBack_8 ⟨Nat.zero_le _, Nat.zero_le _⟩) hP hD hS hA [1, 2] [0] rfl rfl (by decide) (by decide) (fun H locs hP hD hS => ?_)
  have hP : va_P (dC, dI) vwCl [((a_t 0), oX8 a_t v_t_isKept v_t_bestPost v_t_mostSeen v_t_taped v_t_from v_t_to v_t_isWrong), ((a_t 3), .inl (cy 0, 155, .inl f_t_aside)), ((a_t 1), .inl (cy 0, 155, .inl w1))] H := hP
  have hD : va_D A [((a_t 0), oX8 a_t v_t_isKept v_t_bestPost v_t_mostSeen v_t_taped v_t_from v_t_to v_t_isWrong), ((a_t 3), .inl (cy 0, 155, .inl f_t_aside)), ((a_t 1), .inl (cy 0, 155, .inl w1))] := hD
  obtain rfl := bb_some1 h
  have hP9 := hP.sub (ws' := [((a_t 0), oX8 a_t v_t_isKept v_t_bestPost v_t_mostSeen v_t_taped v_t_from v_t_to v_t_isWrong), ((a_t 3), .inl (cy 0, 155, .inl f_t_aside)), ((a_t 1), .inl (cy 0, 155, .inl w1))]) [0, 1, 2] rfl
  have hD9 := hD.sub (ws' := [((a_t 0), oX8 a_t v_t_isKept v_t_bestPost v_t_mostSeen v_t_taped v_t_from v_t_to v_t_isWrong), ((a_t 3), .inl (cy 0, 155, .inl f_t_aside)), ((a_t 1), .inl (cy 0, 155, .inl w1))]) [0, 1, 2] (by decide) rfl
  exact W.vret hx hb hr (fun t ht hW => ⟨⟨(), rfl, trivial, by rw [ht]; exact hP9, va_K.moved hW.alike hK, hD9⟩, hS.F ht⟩) hS.2.2 dX8_laysBack_11
/-! X8_isCell -/
def uX8_isCell (p1 : Int32) : Option (Int32) :=
  bb_b1 (uX8_in p1.toInt64 (0 : Int64) (47 : Int64)) (fun (r1 : Int32) => some r1)
theorem kdX8_isCell : yX8_isCell.cls ≠ "java/lang/invoke/MethodHandle" ∧ yX8_isCell.cls ≠ "java/lang/invoke/VarHandle" ∧ (parseMethodDescriptor yX8_isCell.desc).map (fun d => d.parameters.length) = some 1 := by decide +kernel
set_option maxHeartbeats 4000000 in
set_option maxRecDepth 100000 in
theorem kX8_isCell (l : Launch) (dC : Nat → ClassId) (dI : Nat → Nat → Nat) (cy : Nat → ClassId) (p1 : Int32) (r : Int32) (h : uX8_isCell p1 = some r) : Met l yX8_isCell wsX8_isCell ({ frames := 1, cells := 0, slots := 0, locals := 25 }) (va_Pc [.int p1] (fun U => va_P (dC, dI) vwCl [] U.heap ∧ va_K (dC, dI) vwCl (tyX cy) U)) (vp_Si (fun r2 => r = r2 ∧ narrow .boolean (.int r2) = .int r2)) 0 0 (fun _ => False) := by
  refine Met.ofW (cc := cX8_isCell) (maxL := 1) (ret := (some .boolean)) (by decide) rfl ?_
  intro p e s m args below meth c s₁ B hml hv
  obtain ⟨rfl, hP, hK⟩ := hv
  have hx := B.exec
  have hb := B.bytes
  have hr := B.returns
  have hts := atoms_spec (ws := wsX8_isCell) B.pre
  have hown : s.vm.findClass RX8 = some m.cls := findClass_of_methodNamed B.named
  have hlocks := B.notSynchronized
  have lk1 := hts (Cond.constantLong RX8 56 (47)) (List.mem_of_getElem? (i := 1) rfl)
  have hl := lv_entry ([.int p1]) (n := 1) (Nat.le_of_ble_eq_true rfl)
  rw [lg_entry_eq]
  generalize (lg_sl ([.int p1]) ++ List.replicate (1 - (lg_sl ([.int p1])).length) Slot.unset).toArray = ls at hl ⊢
  have hl : lv_has ls 1 [(0, .int p1)] := hl
  unfold uX8_isCell at h
  refine bb_cap (fun WW toW ofW => ?_)
  refine lv_iload_n hx hb dX8_isCell_0 rfl (lv_at hl 0 rfl) ?_
  refine lv_i2l hx hb dX8_isCell_1 rfl ?_
  refine lv_lconst (v := (0 : Int64)) hx hb dX8_isCell_2 (by decide) ?_
  refine lv_ldc2 (v := (47 : Int64)) hx hb hown lk1 dX8_isCell_3 ?_
  obtain ⟨r1, hc2, h⟩ := bb_b1_o h
  refine vp_callSi (W.runS (As := [.long p1.toInt64, .long (0 : Int64), .long (47 : Int64)]) (rest := []) ⟨hx, hb, hml, hown, hts⟩ (kX8_in l dC dI cy p1.toInt64 (0 : Int64) (47 : Int64) r1 hc2) (va_cwS 3 hts gX8_isCell_X8_in rfl rfl rfl kdX8_in ⟨Nat.le_of_ble_eq_true rfl, Nat.le_of_ble_eq_true rfl⟩) (bb_preS hP hK) rfl rfl hl.1 rfl (lv_room (Nat.le_of_ble_eq_true rfl)) dX8_isCell_6 ⟨Nat.zero_le _, Nat.zero_le _⟩) (fun t3 et3 => ?_)
  obtain ⟨rfl, hz4⟩ := et3
  obtain rfl := bb_some1 h
  exact W.zret hx hb hr hz4 (fun t ht hW => ⟨_, rfl, ⟨rfl, hz4⟩, ht⟩) (fun q hq => by cases hq) dX8_isCell_9
/-! X8_isGuard -/
def uX8_isGuard (p1 : Int32) : Option (Int32) :=
  bb_b1 (uX8_in p1.toInt64 (0 : Int64) (3 : Int64)) (fun (r1 : Int32) => some r1)
theorem kdX8_isGuard : yX8_isGuard.cls ≠ "java/lang/invoke/MethodHandle" ∧ yX8_isGuard.cls ≠ "java/lang/invoke/VarHandle" ∧ (parseMethodDescriptor yX8_isGuard.desc).map (fun d => d.parameters.length) = some 1 := by decide +kernel
set_option maxHeartbeats 4000000 in
set_option maxRecDepth 100000 in
theorem kX8_isGuard (l : Launch) (dC : Nat → ClassId) (dI : Nat → Nat → Nat) (cy : Nat → ClassId) (p1 : Int32) (r : Int32) (h : uX8_isGuard p1 = some r) : Met l yX8_isGuard wsX8_isGuard ({ frames := 1, cells := 0, slots := 0, locals := 25 }) (va_Pc [.int p1] (fun U => va_P (dC, dI) vwCl [] U.heap ∧ va_K (dC, dI) vwCl (tyX cy) U)) (vp_Si (fun r2 => r = r2 ∧ narrow .boolean (.int r2) = .int r2)) 0 0 (fun _ => False) := by
  refine Met.ofW (cc := cX8_isGuard) (maxL := 1) (ret := (some .boolean)) (by decide) rfl ?_
  intro p e s m args below meth c s₁ B hml hv
  obtain ⟨rfl, hP, hK⟩ := hv
  have hx := B.exec
  have hb := B.bytes
  have hr := B.returns
  have hts := atoms_spec (ws := wsX8_isGuard) B.pre
  have hown : s.vm.findClass RX8 = some m.cls := findClass_of_methodNamed B.named
  have hlocks := B.notSynchronized
  have lk1 := hts (Cond.constantLong RX8 62 (3)) (List.mem_of_getElem? (i := 1) rfl)
  have hl := lv_entry ([.int p1]) (n := 1) (Nat.le_of_ble_eq_true rfl)
  rw [lg_entry_eq]
  generalize (lg_sl ([.int p1]) ++ List.replicate (1 - (lg_sl ([.int p1])).length) Slot.unset).toArray = ls at hl ⊢
  have hl : lv_has ls 1 [(0, .int p1)] := hl
  unfold uX8_isGuard at h
  refine bb_cap (fun WW toW ofW => ?_)
  refine lv_iload_n hx hb dX8_isGuard_0 rfl (lv_at hl 0 rfl) ?_
  refine lv_i2l hx hb dX8_isGuard_1 rfl ?_
  refine lv_lconst (v := (0 : Int64)) hx hb dX8_isGuard_2 (by decide) ?_
  refine lv_ldc2 (v := (3 : Int64)) hx hb hown lk1 dX8_isGuard_3 ?_
  obtain ⟨r1, hc2, h⟩ := bb_b1_o h
  refine vp_callSi (W.runS (As := [.long p1.toInt64, .long (0 : Int64), .long (3 : Int64)]) (rest := []) ⟨hx, hb, hml, hown, hts⟩ (kX8_in l dC dI cy p1.toInt64 (0 : Int64) (3 : Int64) r1 hc2) (va_cwS 3 hts gX8_isGuard_X8_in rfl rfl rfl kdX8_in ⟨Nat.le_of_ble_eq_true rfl, Nat.le_of_ble_eq_true rfl⟩) (bb_preS hP hK) rfl rfl hl.1 rfl (lv_room (Nat.le_of_ble_eq_true rfl)) dX8_isGuard_6 ⟨Nat.zero_le _, Nat.zero_le _⟩) (fun t3 et3 => ?_)
  obtain ⟨rfl, hz4⟩ := et3
  obtain rfl := bb_some1 h
  exact W.zret hx hb hr hz4 (fun t ht hW => ⟨_, rfl, ⟨rfl, hz4⟩, ht⟩) (fun q hq => by cases hq) dX8_isGuard_9
/-! X8_isSide -/
def uX8_isSide (p1 : Int32) : Option (Int32) :=
  bb_b1 (uX8_in p1.toInt64 (0 : Int64) (1 : Int64)) (fun (r1 : Int32) => some r1)
theorem kdX8_isSide : yX8_isSide.cls ≠ "java/lang/invoke/MethodHandle" ∧ yX8_isSide.cls ≠ "java/lang/invoke/VarHandle" ∧ (parseMethodDescriptor yX8_isSide.desc).map (fun d => d.parameters.length) = some 1 := by decide +kernel
set_option maxHeartbeats 4000000 in
set_option maxRecDepth 100000 in
theorem kX8_isSide (l : Launch) (dC : Nat → ClassId) (dI : Nat → Nat → Nat) (cy : Nat → ClassId) (p1 : Int32) (r : Int32) (h : uX8_isSide p1 = some r) : Met l yX8_isSide wsX8_isSide ({ frames := 1, cells := 0, slots := 0, locals := 25 }) (va_Pc [.int p1] (fun U => va_P (dC, dI) vwCl [] U.heap ∧ va_K (dC, dI) vwCl (tyX cy) U)) (vp_Si (fun r2 => r = r2 ∧ narrow .boolean (.int r2) = .int r2)) 0 0 (fun _ => False) := by
  refine Met.ofW (cc := cX8_isSide) (maxL := 1) (ret := (some .boolean)) (by decide) rfl ?_
  intro p e s m args below meth c s₁ B hml hv
  obtain ⟨rfl, hP, hK⟩ := hv
  have hx := B.exec
  have hb := B.bytes
  have hr := B.returns
  have hts := atoms_spec (ws := wsX8_isSide) B.pre
  have hown : s.vm.findClass RX8 = some m.cls := findClass_of_methodNamed B.named
  have hlocks := B.notSynchronized
  have hl := lv_entry ([.int p1]) (n := 1) (Nat.le_of_ble_eq_true rfl)
  rw [lg_entry_eq]
  generalize (lg_sl ([.int p1]) ++ List.replicate (1 - (lg_sl ([.int p1])).length) Slot.unset).toArray = ls at hl ⊢
  have hl : lv_has ls 1 [(0, .int p1)] := hl
  unfold uX8_isSide at h
  refine bb_cap (fun WW toW ofW => ?_)
  refine lv_iload_n hx hb dX8_isSide_0 rfl (lv_at hl 0 rfl) ?_
  refine lv_i2l hx hb dX8_isSide_1 rfl ?_
  refine lv_lconst (v := (0 : Int64)) hx hb dX8_isSide_2 (by decide) ?_
  refine lv_lconst (v := (1 : Int64)) hx hb dX8_isSide_3 (by decide) ?_
  obtain ⟨r1, hc2, h⟩ := bb_b1_o h
  refine vp_callSi (W.runS (As := [.long p1.toInt64, .long (0 : Int64), .long (1 : Int64)]) (rest := []) ⟨hx, hb, hml, hown, hts⟩ (kX8_in l dC dI cy p1.toInt64 (0 : Int64) (1 : Int64) r1 hc2) (va_cwS 3 hts gX8_isSide_X8_in rfl rfl rfl kdX8_in ⟨Nat.le_of_ble_eq_true rfl, Nat.le_of_ble_eq_true rfl⟩) (bb_preS hP hK) rfl rfl hl.1 rfl (lv_room (Nat.le_of_ble_eq_true rfl)) dX8_isSide_4 ⟨Nat.zero_le _, Nat.zero_le _⟩) (fun t3 et3 => ?_)
  obtain ⟨rfl, hz4⟩ := et3
  obtain rfl := bb_some1 h
  exact W.zret hx hb hr hz4 (fun t ht hW => ⟨_, rfl, ⟨rfl, hz4⟩, ht⟩) (fun q hq => by cases hq) dX8_isSide_7
/-! X8_isBather -/
def uX8_isBather (p1 : Int32) (f_t_s : Nat → Int32) : Option (Int32) :=
  bb_b1 (uX8_in p1.toInt64 (0 : Int64) (((f_t_s (1 : Int32).toNatClampNeg) - (1 : Int32)).toInt64)) (fun (r1 : Int32) => some r1)
theorem kdX8_isBather : yX8_isBather.cls = RX8 ∧ yX8_isBather.cls ≠ "java/lang/invoke/MethodHandle" ∧ yX8_isBather.cls ≠ "java/lang/invoke/VarHandle" ∧ (parseMethodDescriptor yX8_isBather.desc).map (fun d => d.parameters.length) = some 1 := by decide +kernel
set_option maxHeartbeats 4000000 in
set_option maxRecDepth 100000 in
theorem kX8_isBather (l : Launch) (dC : Nat → ClassId) (dI : Nat → Nat → Nat) (cy : Nat → ClassId) (a_t : Nat → Nat) (p1 : Int32) (v_t_isKept : Int32) (v_t_bestPost : Int32) (v_t_mostSeen : Int32) (v_t_taped : Int32) (v_t_from : Int32) (v_t_to : Int32) (v_t_isWrong : Int32) (f_t_s : Nat → Int32) (r : Int32) (h : uX8_isBather p1 f_t_s = some r) : Met l yX8_isBather wsX8_isBather ({ frames := 1, cells := 0, slots := 0, locals := 25 }) (va_Pc [.ref (a_t 0), .int p1] (fun U => va_P (dC, dI) vwCl [((a_t 0), oX8 a_t v_t_isKept v_t_bestPost v_t_mostSeen v_t_taped v_t_from v_t_to v_t_isWrong), ((a_t 1), .inl (cy 0, 155, .inl f_t_s))] U.heap ∧ va_K (dC, dI) vwCl (tyX cy) U)) (vp_Si (fun r2 => r = r2 ∧ narrow .boolean (.int r2) = .int r2)) 0 0 (fun _ => False) := by
  refine Met.ofW (cc := cX8_isBather) (maxL := 2) (ret := (some .boolean)) (by decide) rfl ?_
  intro p e s m args below meth c s₁ B hml hv
  obtain ⟨rfl, hP, hK⟩ := hv
  have hx := B.exec
  have hb := B.bytes
  have hr := B.returns
  have hts := atoms_spec (ws := wsX8_isBather) B.pre
  have hown : s.vm.findClass RX8 = some m.cls := findClass_of_methodNamed B.named
  have hlocks := B.notSynchronized
  have iwX8 : ∀ w ∈ wsX80, w ∈ wsX8_isBather := fun w h9 => List.mem_cons_of_mem _ (List.mem_append_right _ (h9))
  have lk1 := hts (Cond.fieldLink RX8 9 "BathBorderModel" "s" "[I") (List.mem_of_getElem? (i := 1) rfl)
  have hl := lv_entry ([.ref (a_t 0), .int p1]) (n := 2) (Nat.le_of_ble_eq_true rfl)
  rw [lg_entry_eq]
  generalize (lg_sl ([.ref (a_t 0), .int p1]) ++ List.replicate (2 - (lg_sl ([.ref (a_t 0), .int p1])).length) Slot.unset).toArray = ls at hl ⊢
  have hl : lv_has ls 2 [(0, .ref (a_t 0)), (1, .int p1)] := hl
  unfold uX8_isBather at h
  refine bb_cap (fun WW toW ofW => ?_)
  refine lv_iload_n hx hb dX8_isBather_0 rfl (lv_at hl 1 rfl) ?_
  refine lv_i2l hx hb dX8_isBather_1 rfl ?_
  refine lv_lconst (v := (0 : Int64)) hx hb dX8_isBather_2 (by decide) ?_
  refine lv_aload_n hx hb dX8_isBather_3 rfl (lv_at hl 0 rfl) ?_
  refine va_get (D := (dC, dI)) (ci := 7) (v := .ref (a_t 1)) (C := RX8) (T := TX8) (N := 20) hx hb hts iwX8 hown hK hP 0 rfl rfl 0 (by decide) lk1 (fun _ h9 => h9) rfl dX8_isBather_4 ?_
  refine lv_iconst (v := (1 : Int32)) hx hb dX8_isBather_7 (by decide) ?_
  refine va_iald hx hb hK hP 1 0 rfl rfl (bb_in (by decide)) dX8_isBather_8 ?_
  refine lv_iconst (v := (1 : Int32)) hx hb dX8_isBather_9 (by decide) ?_
  refine lv_isub hx hb dX8_isBather_10 ?_
  refine lv_i2l hx hb dX8_isBather_11 rfl ?_
  obtain ⟨r1, hc2, h⟩ := bb_b1_o h
  refine vp_callSi (W.runS (As := [.long p1.toInt64, .long (0 : Int64), .long (((f_t_s (1 : Int32).toNatClampNeg) - (1 : Int32)).toInt64)]) (rest := []) ⟨hx, hb, hml, hown, hts⟩ (kX8_in l dC dI cy p1.toInt64 (0 : Int64) (((f_t_s (1 : Int32).toNatClampNeg) - (1 : Int32)).toInt64) r1 hc2) (va_cwS 3 hts gX8_isBather_X8_in rfl rfl rfl kdX8_in ⟨Nat.le_of_ble_eq_true rfl, Nat.le_of_ble_eq_true rfl⟩) (bb_preS (hP.sub (ws' := []) [] rfl) hK) rfl rfl hl.1 rfl (lv_room (Nat.le_of_ble_eq_true rfl)) dX8_isBather_12 ⟨Nat.zero_le _, Nat.zero_le _⟩) (fun t3 et3 => ?_)
  obtain ⟨rfl, hz4⟩ := et3
  obtain rfl := bb_some1 h
  exact W.zret hx hb hr hz4 (fun t ht hW => ⟨_, rfl, ⟨rfl, hz4⟩, ht⟩) (fun q hq => by cases hq) dX8_isBather_15
/-! X8_its -/
def uX8_its (p1 : Int32) (p2 : Int32) (f_t_s : Nat → Int32) : Option (Int32) :=
  bb_ix (((105 : Int32) + ((5 : Int32) * p1)) + p2) 155 (some (f_t_s (((105 : Int32) + ((5 : Int32) * p1)) + p2).toNatClampNeg))
theorem kdX8_its : yX8_its.cls = RX8 ∧ yX8_its.cls ≠ "java/lang/invoke/MethodHandle" ∧ yX8_its.cls ≠ "java/lang/invoke/VarHandle" ∧ (parseMethodDescriptor yX8_its.desc).map (fun d => d.parameters.length) = some 2 := by decide +kernel
set_option maxHeartbeats 4000000 in
set_option maxRecDepth 100000 in
theorem kX8_its (l : Launch) (dC : Nat → ClassId) (dI : Nat → Nat → Nat) (cy : Nat → ClassId) (a_t : Nat → Nat) (p1 : Int32) (p2 : Int32) (v_t_isKept : Int32) (v_t_bestPost : Int32) (v_t_mostSeen : Int32) (v_t_taped : Int32) (v_t_from : Int32) (v_t_to : Int32) (v_t_isWrong : Int32) (f_t_s : Nat → Int32) (r : Int32) (h : uX8_its p1 p2 f_t_s = some r) : Met l yX8_its wsX8_its ({ frames := 0, cells := 0, slots := 0, locals := 0 }) (va_Pc [.ref (a_t 0), .int p1, .int p2] (fun U => va_P (dC, dI) vwCl [((a_t 0), oX8 a_t v_t_isKept v_t_bestPost v_t_mostSeen v_t_taped v_t_from v_t_to v_t_isWrong), ((a_t 1), .inl (cy 0, 155, .inl f_t_s))] U.heap ∧ va_K (dC, dI) vwCl (tyX cy) U)) (vp_Si (fun r2 => r = r2)) 0 0 (fun _ => False) := by
  refine Met.ofW (cc := cX8_its) (maxL := 3) (ret := (some .int)) (by decide) rfl ?_
  intro p e s m args below meth c s₁ B hml hv
  obtain ⟨rfl, hP, hK⟩ := hv
  have hx := B.exec
  have hb := B.bytes
  have hr := B.returns
  have hts := atoms_spec (ws := wsX8_its) B.pre
  have hown : s.vm.findClass RX8 = some m.cls := findClass_of_methodNamed B.named
  have hlocks := B.notSynchronized
  have iwX8 : ∀ w ∈ wsX80, w ∈ wsX8_its := fun w h9 => List.mem_cons_of_mem _ (List.mem_append_right _ (h9))
  have lk1 := hts (Cond.fieldLink RX8 9 "BathBorderModel" "s" "[I") (List.mem_of_getElem? (i := 1) rfl)
  have hl := lv_entry ([.ref (a_t 0), .int p1, .int p2]) (n := 3) (Nat.le_of_ble_eq_true rfl)
  rw [lg_entry_eq]
  generalize (lg_sl ([.ref (a_t 0), .int p1, .int p2]) ++ List.replicate (3 - (lg_sl ([.ref (a_t 0), .int p1, .int p2])).length) Slot.unset).toArray = ls at hl ⊢
  have hl : lv_has ls 3 [(0, .ref (a_t 0)), (1, .int p1), (2, .int p2)] := hl
  unfold uX8_its at h
  refine bb_cap (fun WW toW ofW => ?_)
  refine lv_aload_n hx hb dX8_its_0 rfl (lv_at hl 0 rfl) ?_
  refine va_get (D := (dC, dI)) (ci := 7) (v := .ref (a_t 1)) (C := RX8) (T := TX8) (N := 20) hx hb hts iwX8 hown hK hP 0 rfl rfl 0 (by decide) lk1 (fun _ h9 => h9) rfl dX8_its_1 ?_
  refine lv_bipush (v := (105 : Int32)) hx hb dX8_its_4 (by decide) ?_
  refine lv_iconst (v := (5 : Int32)) hx hb dX8_its_6 (by decide) ?_
  refine lv_iload_n hx hb dX8_its_7 rfl (lv_at hl 1 rfl) ?_
  refine lv_imul hx hb dX8_its_8 ?_
  refine lv_iadd hx hb dX8_its_9 ?_
  refine lv_iload_n hx hb dX8_its_10 rfl (lv_at hl 2 rfl) ?_
  refine lv_iadd hx hb dX8_its_11 ?_
  obtain ⟨hi1, h⟩ := bb_ix_o h
  refine va_iald hx hb hK hP 1 0 rfl rfl hi1 dX8_its_12 ?_
  obtain rfl := bb_some1 h
  exact W.iret hx hb hr (fun t ht hW => ⟨_, rfl, rfl, ht⟩) (fun q hq => by cases hq) dX8_its_13
/-! X8_sets -/
def uX8_sets (p1 : Int32) (p2 : Int32) (p3 : Int32) (f_t_s : Nat → Int32) : Option ((Nat → Int32)) :=
  bb_ix (((105 : Int32) + ((5 : Int32) * p1)) + p2) 155 (some (upd f_t_s (((105 : Int32) + ((5 : Int32) * p1)) + p2).toNatClampNeg p3))
theorem kdX8_sets : yX8_sets.cls = RX8 ∧ yX8_sets.cls ≠ "java/lang/invoke/MethodHandle" ∧ yX8_sets.cls ≠ "java/lang/invoke/VarHandle" ∧ (parseMethodDescriptor yX8_sets.desc).map (fun d => d.parameters.length) = some 3 := by decide +kernel
set_option maxHeartbeats 4000000 in
set_option maxRecDepth 100000 in
theorem kX8_sets (l : Launch) (dC : Nat → ClassId) (dI : Nat → Nat → Nat) (cy : Nat → ClassId) (sz : Nat) (a_t : Nat → Nat) (p1 : Int32) (p2 : Int32) (p3 : Int32) (v_t_isKept : Int32) (v_t_bestPost : Int32) (v_t_mostSeen : Int32) (v_t_taped : Int32) (v_t_from : Int32) (v_t_to : Int32) (v_t_isWrong : Int32) (f_t_s : Nat → Int32) (f_t_s_o : Nat → Int32) (h : uX8_sets p1 p2 p3 f_t_s = some f_t_s_o) : Met l yX8_sets wsX8_sets ({ frames := 0, cells := 0, slots := 0, locals := 0 }) (va_Pc [.ref (a_t 0), .int p1, .int p2, .int p3] (fun U => U.heap.size = sz ∧ va_P (dC, dI) vwCl [((a_t 0), oX8 a_t v_t_isKept v_t_bestPost v_t_mostSeen v_t_taped v_t_from v_t_to v_t_isWrong), ((a_t 1), .inl (cy 0, 155, .inl f_t_s))] U.heap ∧ va_K (dC, dI) vwCl (tyX cy) U ∧ va_D (fun _ => True) [((a_t 0), oX8 a_t v_t_isKept v_t_bestPost v_t_mostSeen v_t_taped v_t_from v_t_to v_t_isWrong), ((a_t 1), .inl (cy 0, 155, .inl f_t_s))])) (va_Qv (fun (_ : Unit) => True) (fun _ t => va_P (dC, dI) vwCl [((a_t 0), oX8 a_t v_t_isKept v_t_bestPost v_t_mostSeen v_t_taped v_t_from v_t_to v_t_isWrong), ((a_t 1), .inl (cy 0, 155, .inl f_t_s_o))] t.heap ∧ va_K (dC, dI) vwCl (tyX cy) t ∧ va_D (va_A [((a_t 0), oX8 a_t v_t_isKept v_t_bestPost v_t_mostSeen v_t_taped v_t_from v_t_to v_t_isWrong), ((a_t 1), .inl (cy 0, 155, .inl f_t_s))] sz) [((a_t 0), oX8 a_t v_t_isKept v_t_bestPost v_t_mostSeen v_t_taped v_t_from v_t_to v_t_isWrong), ((a_t 1), .inl (cy 0, 155, .inl f_t_s_o))]) (va_A [((a_t 0), oX8 a_t v_t_isKept v_t_bestPost v_t_mostSeen v_t_taped v_t_from v_t_to v_t_isWrong), ((a_t 1), .inl (cy 0, 155, .inl f_t_s))] sz)) 0 0 (va_A [((a_t 0), oX8 a_t v_t_isKept v_t_bestPost v_t_mostSeen v_t_taped v_t_from v_t_to v_t_isWrong), ((a_t 1), .inl (cy 0, 155, .inl f_t_s))] sz) := by
  refine Met.ofW (cc := cX8_sets) (maxL := 4) (ret := none) (by decide) rfl ?_
  intro p e s m args below meth c s₁ B hml hv
  obtain ⟨rfl, hsz, hP, hK, hD0⟩ := hv
  have hx := B.exec
  have hb := B.bytes
  have hr := B.returns
  have hts := atoms_spec (ws := wsX8_sets) B.pre
  have hown : s.vm.findClass RX8 = some m.cls := findClass_of_methodNamed B.named
  have hlocks := B.notSynchronized
  have iwX8 : ∀ w ∈ wsX80, w ∈ wsX8_sets := fun w h9 => List.mem_cons_of_mem _ (List.mem_append_right _ (h9))
  have lk1 := hts (Cond.fieldLink RX8 9 "BathBorderModel" "s" "[I") (List.mem_of_getElem? (i := 1) rfl)
  subst hsz
  have hD := hD0.self (sz := s.heap.size)
  generalize hAe : va_A [((a_t 0), oX8 a_t v_t_isKept v_t_bestPost v_t_mostSeen v_t_taped v_t_from v_t_to v_t_isWrong), ((a_t 1), .inl (cy 0, 155, .inl f_t_s))] s.heap.size = A at hD ⊢
  have hA : ∀ q : Nat, s.heap.size ≤ q → A q := fun q h => by rw [← hAe]; exact Or.inr h
  have hS : va_S A s.heap s.heap [] := va_S.rf
  have hP : va_P (dC, dI) vwCl [((a_t 0), oX8 a_t v_t_isKept v_t_bestPost v_t_mostSeen v_t_taped v_t_from v_t_to v_t_isWrong), ((a_t 1), .inl (cy 0, 155, .inl f_t_s))] s.heap := hP
  have hl := lv_entry ([.ref (a_t 0), .int p1, .int p2, .int p3]) (n := 4) (Nat.le_of_ble_eq_true rfl)
  rw [lg_entry_eq]
  generalize (lg_sl ([.ref (a_t 0), .int p1, .int p2, .int p3]) ++ List.replicate (4 - (lg_sl ([.ref (a_t 0), .int p1, .int p2, .int p3])).length) Slot.unset).toArray = ls at hl ⊢
  have hl : lv_has ls 4 [(0, .ref (a_t 0)), (1, .int p1), (2, .int p2), (3, .int p3)] := hl
  unfold uX8_sets at h
  refine bb_cap (fun WW toW ofW => ?_)
  refine lv_aload_n hx hb dX8_sets_0 rfl (lv_at hl 0 rfl) ?_
  refine va_get (D := (dC, dI)) (ci := 7) (v := .ref (a_t 1)) (C := RX8) (T := TX8) (N := 20) hx hb hts iwX8 hown hK hP 0 rfl rfl 0 (by decide) lk1 (fun _ h9 => h9) rfl dX8_sets_1 ?_
  refine lv_bipush (v := (105 : Int32)) hx hb dX8_sets_4 (by decide) ?_
  refine lv_iconst (v := (5 : Int32)) hx hb dX8_sets_6 (by decide) ?_
  refine lv_iload_n hx hb dX8_sets_7 rfl (lv_at hl 1 rfl) ?_
  refine lv_imul hx hb dX8_sets_8 ?_
  refine lv_iadd hx hb dX8_sets_9 ?_
  refine lv_iload_n hx hb dX8_sets_10 rfl (lv_at hl 2 rfl) ?_
  refine lv_iadd hx hb dX8_sets_11 ?_
  refine lv_iload_n hx hb dX8_sets_12 rfl (lv_at hl 3 rfl) ?_
  obtain ⟨hi1, h⟩ := bb_ix_o h
  refine va_iast hx hb hK hP hD hS 1 0 rfl rfl hi1 dX8_sets_13 (fun H locs hP hD hS => ?_)
  have hP : va_P (dC, dI) vwCl [((a_t 0), oX8 a_t v_t_isKept v_t_bestPost v_t_mostSeen v_t_taped v_t_from v_t_to v_t_isWrong), ((a_t 1), .inl (cy 0, 155, .inl (upd f_t_s (((105 : Int32) + ((5 : Int32) * p1)) + p2).toNatClampNeg p3)))] H := hP
  have hD : va_D A [((a_t 0), oX8 a_t v_t_isKept v_t_bestPost v_t_mostSeen v_t_taped v_t_from v_t_to v_t_isWrong), ((a_t 1), .inl (cy 0, 155, .inl (upd f_t_s (((105 : Int32) + ((5 : Int32) * p1)) + p2).toNatClampNeg p3)))] := hD
  obtain rfl := bb_some1 h
  have hP9 := hP.sub (ws' := [((a_t 0), oX8 a_t v_t_isKept v_t_bestPost v_t_mostSeen v_t_taped v_t_from v_t_to v_t_isWrong), ((a_t 1), .inl (cy 0, 155, .inl (upd f_t_s (((105 : Int32) + ((5 : Int32) * p1)) + p2).toNatClampNeg p3)))]) [0, 1] rfl
  have hD9 := hD.sub (ws' := [((a_t 0), oX8 a_t v_t_isKept v_t_bestPost v_t_mostSeen v_t_taped v_t_from v_t_to v_t_isWrong), ((a_t 1), .inl (cy 0, 155, .inl (upd f_t_s (((105 : Int32) + ((5 : Int32) * p1)) + p2).toNatClampNeg p3)))]) [0, 1] (by decide) rfl
  exact W.vret hx hb hr (fun t ht hW => ⟨⟨(), rfl, trivial, by rw [ht]; exact hP9, va_K.moved hW.alike hK, hD9⟩, hS.F ht⟩) hS.2.2 dX8_sets_14
/-! X8_becomes -/
def uX8_becomes (p1 : Int32) (p2 : Int32) (f_t_s : Nat → Int32) : Option (Int32 × (Nat → Int32)) :=
  bb_ix p1 155 (bb_ix p1 155 (some (f_t_s p1.toNatClampNeg, upd f_t_s p1.toNatClampNeg p2)))
theorem kdX8_becomes : yX8_becomes.cls = RX8 ∧ yX8_becomes.cls ≠ "java/lang/invoke/MethodHandle" ∧ yX8_becomes.cls ≠ "java/lang/invoke/VarHandle" ∧ (parseMethodDescriptor yX8_becomes.desc).map (fun d => d.parameters.length) = some 2 := by decide +kernel
set_option maxHeartbeats 4000000 in
set_option maxRecDepth 100000 in
theorem kX8_becomes (l : Launch) (dC : Nat → ClassId) (dI : Nat → Nat → Nat) (cy : Nat → ClassId) (sz : Nat) (a_t : Nat → Nat) (p1 : Int32) (p2 : Int32) (v_t_isKept : Int32) (v_t_bestPost : Int32) (v_t_mostSeen : Int32) (v_t_taped : Int32) (v_t_from : Int32) (v_t_to : Int32) (v_t_isWrong : Int32) (f_t_s : Nat → Int32) (r : Int32) (f_t_s_o : Nat → Int32) (h : uX8_becomes p1 p2 f_t_s = some (r, f_t_s_o)) : Met l yX8_becomes wsX8_becomes ({ frames := 0, cells := 0, slots := 0, locals := 0 }) (va_Pc [.ref (a_t 0), .int p1, .int p2] (fun U => U.heap.size = sz ∧ va_P (dC, dI) vwCl [((a_t 0), oX8 a_t v_t_isKept v_t_bestPost v_t_mostSeen v_t_taped v_t_from v_t_to v_t_isWrong), ((a_t 1), .inl (cy 0, 155, .inl f_t_s))] U.heap ∧ va_K (dC, dI) vwCl (tyX cy) U ∧ va_D (fun _ => True) [((a_t 0), oX8 a_t v_t_isKept v_t_bestPost v_t_mostSeen v_t_taped v_t_from v_t_to v_t_isWrong), ((a_t 1), .inl (cy 0, 155, .inl f_t_s))])) (va_Qi (fun (r2 : Int32) (_ : Unit) => r = r2) (fun _ t => va_P (dC, dI) vwCl [((a_t 0), oX8 a_t v_t_isKept v_t_bestPost v_t_mostSeen v_t_taped v_t_from v_t_to v_t_isWrong), ((a_t 1), .inl (cy 0, 155, .inl f_t_s_o))] t.heap ∧ va_K (dC, dI) vwCl (tyX cy) t ∧ va_D (va_A [((a_t 0), oX8 a_t v_t_isKept v_t_bestPost v_t_mostSeen v_t_taped v_t_from v_t_to v_t_isWrong), ((a_t 1), .inl (cy 0, 155, .inl f_t_s))] sz) [((a_t 0), oX8 a_t v_t_isKept v_t_bestPost v_t_mostSeen v_t_taped v_t_from v_t_to v_t_isWrong), ((a_t 1), .inl (cy 0, 155, .inl f_t_s_o))]) (va_A [((a_t 0), oX8 a_t v_t_isKept v_t_bestPost v_t_mostSeen v_t_taped v_t_from v_t_to v_t_isWrong), ((a_t 1), .inl (cy 0, 155, .inl f_t_s))] sz)) 0 0 (va_A [((a_t 0), oX8 a_t v_t_isKept v_t_bestPost v_t_mostSeen v_t_taped v_t_from v_t_to v_t_isWrong), ((a_t 1), .inl (cy 0, 155, .inl f_t_s))] sz) := by
  refine Met.ofW (cc := cX8_becomes) (maxL := 4) (ret := (some .int)) (by decide) rfl ?_
  intro p e s m args below meth c s₁ B hml hv
  obtain ⟨rfl, hsz, hP, hK, hD0⟩ := hv
  have hx := B.exec
  have hb := B.bytes
  have hr := B.returns
  have hts := atoms_spec (ws := wsX8_becomes) B.pre
  have hown : s.vm.findClass RX8 = some m.cls := findClass_of_methodNamed B.named
  have hlocks := B.notSynchronized
  have iwX8 : ∀ w ∈ wsX80, w ∈ wsX8_becomes := fun w h9 => List.mem_cons_of_mem _ (List.mem_append_right _ (h9))
  have lk1 := hts (Cond.fieldLink RX8 9 "BathBorderModel" "s" "[I") (List.mem_of_getElem? (i := 1) rfl)
  subst hsz
  have hD := hD0.self (sz := s.heap.size)
  generalize hAe : va_A [((a_t 0), oX8 a_t v_t_isKept v_t_bestPost v_t_mostSeen v_t_taped v_t_from v_t_to v_t_isWrong), ((a_t 1), .inl (cy 0, 155, .inl f_t_s))] s.heap.size = A at hD ⊢
  have hA : ∀ q : Nat, s.heap.size ≤ q → A q := fun q h => by rw [← hAe]; exact Or.inr h
  have hS : va_S A s.heap s.heap [] := va_S.rf
  have hP : va_P (dC, dI) vwCl [((a_t 0), oX8 a_t v_t_isKept v_t_bestPost v_t_mostSeen v_t_taped v_t_from v_t_to v_t_isWrong), ((a_t 1), .inl (cy 0, 155, .inl f_t_s))] s.heap := hP
  have hl := lv_entry ([.ref (a_t 0), .int p1, .int p2]) (n := 4) (Nat.le_of_ble_eq_true rfl)
  rw [lg_entry_eq]
  generalize (lg_sl ([.ref (a_t 0), .int p1, .int p2]) ++ List.replicate (4 - (lg_sl ([.ref (a_t 0), .int p1, .int p2])).length) Slot.unset).toArray = ls at hl ⊢
  have hl : lv_has ls 4 [(0, .ref (a_t 0)), (1, .int p1), (2, .int p2)] := hl
  unfold uX8_becomes at h
  refine bb_cap (fun WW toW ofW => ?_)
  refine lv_aload_n hx hb dX8_becomes_0 rfl (lv_at hl 0 rfl) ?_
  refine va_get (D := (dC, dI)) (ci := 7) (v := .ref (a_t 1)) (C := RX8) (T := TX8) (N := 20) hx hb hts iwX8 hown hK hP 0 rfl rfl 0 (by decide) lk1 (fun _ h9 => h9) rfl dX8_becomes_1 ?_
  refine lv_iload_n hx hb dX8_becomes_4 rfl (lv_at hl 1 rfl) ?_
  obtain ⟨hi1, h⟩ := bb_ix_o h
  refine va_iald hx hb hK hP 1 0 rfl rfl hi1 dX8_becomes_5 ?_
  refine lv_istore_n (lv' := [(3, .int (f_t_s p1.toNatClampNeg)), (0, .ref (a_t 0)), (1, .int p1), (2, .int p2)]) hx hb dX8_becomes_6 rfl hl (by decide) rfl (fun ls hl => ?_)
  refine lv_aload_n hx hb dX8_becomes_7 rfl (lv_at hl 1 rfl) ?_
  refine va_get (D := (dC, dI)) (ci := 7) (v := .ref (a_t 1)) (C := RX8) (T := TX8) (N := 20) hx hb hts iwX8 hown hK hP 0 rfl rfl 0 (by decide) lk1 (fun _ h9 => h9) rfl dX8_becomes_8 ?_
  refine lv_iload_n hx hb dX8_becomes_11 rfl (lv_at hl 2 rfl) ?_
  refine lv_iload_n hx hb dX8_becomes_12 rfl (lv_at hl 3 rfl) ?_
  obtain ⟨hi2, h⟩ := bb_ix_o h
  refine va_iast hx hb hK hP hD hS 1 0 rfl rfl hi2 dX8_becomes_13 (fun H locs hP hD hS => ?_)
  have hP : va_P (dC, dI) vwCl [((a_t 0), oX8 a_t v_t_isKept v_t_bestPost v_t_mostSeen v_t_taped v_t_from v_t_to v_t_isWrong), ((a_t 1), .inl (cy 0, 155, .inl (upd f_t_s p1.toNatClampNeg p2)))] H := hP
  have hD : va_D A [((a_t 0), oX8 a_t v_t_isKept v_t_bestPost v_t_mostSeen v_t_taped v_t_from v_t_to v_t_isWrong), ((a_t 1), .inl (cy 0, 155, .inl (upd f_t_s p1.toNatClampNeg p2)))] := hD
  refine lv_iload_n hx hb dX8_becomes_14 rfl (lv_at hl 0 rfl) ?_
  obtain ⟨rfl, rfl⟩ := bb_some2 h
  have hP9 := hP.sub (ws' := [((a_t 0), oX8 a_t v_t_isKept v_t_bestPost v_t_mostSeen v_t_taped v_t_from v_t_to v_t_isWrong), ((a_t 1), .inl (cy 0, 155, .inl (upd f_t_s p1.toNatClampNeg p2)))]) [0, 1] rfl
  have hD9 := hD.sub (ws' := [((a_t 0), oX8 a_t v_t_isKept v_t_bestPost v_t_mostSeen v_t_taped v_t_from v_t_to v_t_isWrong), ((a_t 1), .inl (cy 0, 155, .inl (upd f_t_s p1.toNatClampNeg p2)))]) [0, 1] (by decide) rfl
  exact W.iret hx hb hr (fun t ht hW => ⟨⟨_, (), rfl, rfl, by rw [ht]; exact hP9, va_K.moved hW.alike hK, hD9⟩, hS.F ht⟩) hS.2.2 dX8_becomes_15
/-! X8_apart -/
def uX8_apart (p1 : Int32) (p2 : Int32) : Option (Int32) :=
  some ((if 0 ≤ ((p1 / (8 : Int32)) - (p2 / (8 : Int32))) then ((p1 / (8 : Int32)) - (p2 / (8 : Int32))) else 0 - ((p1 / (8 : Int32)) - (p2 / (8 : Int32)))) + (if 0 ≤ ((p1 - p1 / (8 : Int32) * (8 : Int32)) - (p2 - p2 / (8 : Int32) * (8 : Int32))) then ((p1 - p1 / (8 : Int32) * (8 : Int32)) - (p2 - p2 / (8 : Int32) * (8 : Int32))) else 0 - ((p1 - p1 / (8 : Int32) * (8 : Int32)) - (p2 - p2 / (8 : Int32) * (8 : Int32)))))
theorem kdX8_apart : yX8_apart.cls ≠ "java/lang/invoke/MethodHandle" ∧ yX8_apart.cls ≠ "java/lang/invoke/VarHandle" ∧ (parseMethodDescriptor yX8_apart.desc).map (fun d => d.parameters.length) = some 2 := by decide +kernel
set_option maxHeartbeats 4000000 in
set_option maxRecDepth 100000 in
theorem kX8_apart (l : Launch) (dC : Nat → ClassId) (dI : Nat → Nat → Nat) (cy : Nat → ClassId) (p1 : Int32) (p2 : Int32) (r : Int32) (h : uX8_apart p1 p2 = some r) : Met l yX8_apart wsX8_apart ({ frames := 1, cells := 0, slots := 0, locals := 21 }) (va_Pc [.int p1, .int p2] (fun U => va_P (dC, dI) vwCl [] U.heap ∧ va_K (dC, dI) vwCl (tyX cy) U)) (vp_Si (fun r2 => r = r2)) 0 0 (fun _ => False) := by
  refine Met.ofW (cc := cX8_apart) (maxL := 2) (ret := (some .int)) (by decide) rfl ?_
  intro p e s m args below meth c s₁ B hml hv
  obtain ⟨rfl, hP, hK⟩ := hv
  have hx := B.exec
  have hb := B.bytes
  have hr := B.returns
  have hts := atoms_spec (ws := wsX8_apart) B.pre
  have hown : s.vm.findClass RX8 = some m.cls := findClass_of_methodNamed B.named
  have hlocks := B.notSynchronized
  have lk1 := hts (Cond.methodLink RX8 64 Lib.Math.abs.name) (List.mem_of_getElem? (i := 1) rfl)
  have lk2 := hts (Cond.static Lib.Math.abs.name) (List.mem_of_getElem? (i := 2) rfl)
  have lk3 := hts (Cond.initialized "java/lang/Math") (List.mem_of_getElem? (i := 3) rfl)
  have lk4 := hts (Cond.code Lib.Math.abs.name Lib.Math.abs.code 1 (some .int)) (List.mem_of_getElem? (i := 4) rfl)
  have hl := lv_entry ([.int p1, .int p2]) (n := 2) (Nat.le_of_ble_eq_true rfl)
  rw [lg_entry_eq]
  generalize (lg_sl ([.int p1, .int p2]) ++ List.replicate (2 - (lg_sl ([.int p1, .int p2])).length) Slot.unset).toArray = ls at hl ⊢
  have hl : lv_has ls 2 [(0, .int p1), (1, .int p2)] := hl
  unfold uX8_apart at h
  refine bb_cap (fun WW toW ofW => ?_)
  refine lv_iload_n hx hb dX8_apart_0 rfl (lv_at hl 0 rfl) ?_
  refine lv_bipush (v := (8 : Int32)) hx hb dX8_apart_1 (by decide) ?_
  refine lv_idiv hx hb dX8_apart_3 (by decide) ?_
  refine lv_iload_n hx hb dX8_apart_4 rfl (lv_at hl 1 rfl) ?_
  refine lv_bipush (v := (8 : Int32)) hx hb dX8_apart_5 (by decide) ?_
  refine lv_idiv hx hb dX8_apart_7 (by decide) ?_
  refine lv_isub hx hb dX8_apart_8 ?_
  refine va_mabs hx hb (hml.trans hl.1.symm) hown lk1 lk2 lk3 lk4 (Nat.le_of_ble_eq_true rfl) (Nat.le_of_ble_eq_true rfl) (Nat.zero_le _) (Nat.zero_le _) dX8_apart_9 ?_
  refine lv_iload_n hx hb dX8_apart_12 rfl (lv_at hl 0 rfl) ?_
  refine lv_bipush (v := (8 : Int32)) hx hb dX8_apart_13 (by decide) ?_
  refine lv_irem hx hb dX8_apart_15 (by decide) ?_
  refine lv_iload_n hx hb dX8_apart_16 rfl (lv_at hl 1 rfl) ?_
  refine lv_bipush (v := (8 : Int32)) hx hb dX8_apart_17 (by decide) ?_
  refine lv_irem hx hb dX8_apart_19 (by decide) ?_
  refine lv_isub hx hb dX8_apart_20 ?_
  refine va_mabs hx hb (hml.trans hl.1.symm) hown lk1 lk2 lk3 lk4 (Nat.le_of_ble_eq_true rfl) (Nat.le_of_ble_eq_true rfl) (Nat.zero_le _) (Nat.zero_le _) dX8_apart_21 ?_
  refine lv_iadd hx hb dX8_apart_24 ?_
  obtain rfl := bb_some1 h
  exact W.iret hx hb hr (fun t ht hW => ⟨_, rfl, rfl, ht⟩) (fun q hq => by cases hq) dX8_apart_25
/-! X8_sees -/
def uX8_sees (p1 : Int32) (p2 : Int32) (f_t_s : Nat → Int32) : Option (Int32) :=
  (if p1 < 0 then some (0 : Int32) else bb_b1 (uX8_apart p1 p2) (fun (r2 : Int32) => bb_ix ((9 : Int32) + p2) 155 ((if ((f_t_s (2 : Int32).toNatClampNeg) - (f_t_s ((9 : Int32) + p2).toNatClampNeg)) < r2 then some (0 : Int32) else some (1 : Int32)))))
theorem kdX8_sees : yX8_sees.cls = RX8 ∧ yX8_sees.cls ≠ "java/lang/invoke/MethodHandle" ∧ yX8_sees.cls ≠ "java/lang/invoke/VarHandle" ∧ (parseMethodDescriptor yX8_sees.desc).map (fun d => d.parameters.length) = some 2 := by decide +kernel
set_option maxHeartbeats 4000000 in
set_option maxRecDepth 100000 in
theorem kX8_sees (l : Launch) (dC : Nat → ClassId) (dI : Nat → Nat → Nat) (cy : Nat → ClassId) (a_t : Nat → Nat) (p1 : Int32) (p2 : Int32) (v_t_isKept : Int32) (v_t_bestPost : Int32) (v_t_mostSeen : Int32) (v_t_taped : Int32) (v_t_from : Int32) (v_t_to : Int32) (v_t_isWrong : Int32) (f_t_s : Nat → Int32) (r : Int32) (h : uX8_sees p1 p2 f_t_s = some r) : Met l yX8_sees wsX8_sees ({ frames := 2, cells := 0, slots := 0, locals := 42 }) (va_Pc [.ref (a_t 0), .int p1, .int p2] (fun U => va_P (dC, dI) vwCl [((a_t 0), oX8 a_t v_t_isKept v_t_bestPost v_t_mostSeen v_t_taped v_t_from v_t_to v_t_isWrong), ((a_t 1), .inl (cy 0, 155, .inl f_t_s))] U.heap ∧ va_K (dC, dI) vwCl (tyX cy) U)) (vp_Si (fun r2 => r = r2 ∧ narrow .boolean (.int r2) = .int r2)) 0 0 (fun _ => False) := by
  refine Met.ofW (cc := cX8_sees) (maxL := 3) (ret := (some .boolean)) (by decide) rfl ?_
  intro p e s m args below meth c s₁ B hml hv
  obtain ⟨rfl, hP, hK⟩ := hv
  have hx := B.exec
  have hb := B.bytes
  have hr := B.returns
  have hts := atoms_spec (ws := wsX8_sees) B.pre
  have hown : s.vm.findClass RX8 = some m.cls := findClass_of_methodNamed B.named
  have hlocks := B.notSynchronized
  have iwX8 : ∀ w ∈ wsX80, w ∈ wsX8_sees := fun w h9 => List.mem_cons_of_mem _ (List.mem_append_right _ (h9))
  have lk1 := hts (Cond.fieldLink RX8 9 "BathBorderModel" "s" "[I") (List.mem_of_getElem? (i := 1) rfl)
  have hl := lv_entry ([.ref (a_t 0), .int p1, .int p2]) (n := 3) (Nat.le_of_ble_eq_true rfl)
  rw [lg_entry_eq]
  generalize (lg_sl ([.ref (a_t 0), .int p1, .int p2]) ++ List.replicate (3 - (lg_sl ([.ref (a_t 0), .int p1, .int p2])).length) Slot.unset).toArray = ls at hl ⊢
  have hl : lv_has ls 3 [(0, .ref (a_t 0)), (1, .int p1), (2, .int p2)] := hl
  unfold uX8_sees at h
  refine bb_cap (fun WW toW ofW => ?_)
  refine lv_iload_n hx hb dX8_sees_0 rfl (lv_at hl 1 rfl) ?_
  refine lv_if_lt (tgt := 32) hx hb dX8_sees_1 (by decide) (fun c1 => ?_) (fun c1 => ?_)
  · replace h := bb_ifp c1 h
    refine lv_iconst (v := (0 : Int32)) hx hb dX8_sees_32 (by decide) ?_
    obtain rfl := bb_some1 h
    exact W.zret hx hb hr (by decide) (fun t ht hW => ⟨_, rfl, ⟨rfl, (by decide)⟩, ht⟩) (fun q hq => by cases hq) dX8_sees_33
  · replace h := bb_ifn c1 h
    refine lv_iload_n hx hb dX8_sees_4 rfl (lv_at hl 1 rfl) ?_
    refine lv_iload_n hx hb dX8_sees_5 rfl (lv_at hl 2 rfl) ?_
    obtain ⟨r2, hc3, h⟩ := bb_b1_o h
    refine vp_callSi (W.runS (As := [.int p1, .int p2]) (rest := []) ⟨hx, hb, hml, hown, hts⟩ (kX8_apart l dC dI cy p1 p2 r2 hc3) (va_cwS 2 hts gX8_sees_X8_apart rfl rfl rfl kdX8_apart ⟨Nat.le_of_ble_eq_true rfl, Nat.le_of_ble_eq_true rfl⟩) (bb_preS (hP.sub (ws' := []) [] rfl) hK) rfl rfl hl.1 rfl (lv_room (Nat.le_of_ble_eq_true rfl)) dX8_sees_6 ⟨Nat.zero_le _, Nat.zero_le _⟩) (fun t4 et4 => ?_)
    obtain rfl := et4
    refine lv_aload_n hx hb dX8_sees_9 rfl (lv_at hl 0 rfl) ?_
    refine va_get (D := (dC, dI)) (ci := 7) (v := .ref (a_t 1)) (C := RX8) (T := TX8) (N := 20) hx hb hts iwX8 hown hK hP 0 rfl rfl 0 (by decide) lk1 (fun _ h9 => h9) rfl dX8_sees_10 ?_
    refine lv_iconst (v := (2 : Int32)) hx hb dX8_sees_13 (by decide) ?_
    refine va_iald hx hb hK hP 1 0 rfl rfl (bb_in (by decide)) dX8_sees_14 ?_
    refine lv_aload_n hx hb dX8_sees_15 rfl (lv_at hl 0 rfl) ?_
    refine va_get (D := (dC, dI)) (ci := 7) (v := .ref (a_t 1)) (C := RX8) (T := TX8) (N := 20) hx hb hts iwX8 hown hK hP 0 rfl rfl 0 (by decide) lk1 (fun _ h9 => h9) rfl dX8_sees_16 ?_
    refine lv_bipush (v := (9 : Int32)) hx hb dX8_sees_19 (by decide) ?_
    refine lv_iload_n hx hb dX8_sees_21 rfl (lv_at hl 2 rfl) ?_
    refine lv_iadd hx hb dX8_sees_22 ?_
    obtain ⟨hi5, h⟩ := bb_ix_o h
    refine va_iald hx hb hK hP 1 0 rfl rfl hi5 dX8_sees_23 ?_
    refine lv_isub hx hb dX8_sees_24 ?_
    refine lv_icmp_gt (tgt := 32) hx hb dX8_sees_25 (by decide) (fun c6 => ?_) (fun c6 => ?_)
    · replace h := bb_ifp c6 h
      refine lv_iconst (v := (0 : Int32)) hx hb dX8_sees_32 (by decide) ?_
      obtain rfl := bb_some1 h
      exact W.zret hx hb hr (by decide) (fun t ht hW => ⟨_, rfl, ⟨rfl, (by decide)⟩, ht⟩) (fun q hq => by cases hq) dX8_sees_33
    · replace h := bb_ifn c6 h
      refine lv_iconst (v := (1 : Int32)) hx hb dX8_sees_28 (by decide) ?_
      refine lv_goto (tgt := 33) hx hb dX8_sees_29 (by decide) ?_
      obtain rfl := bb_some1 h
      exact W.zret hx hb hr (by decide) (fun t ht hW => ⟨_, rfl, ⟨rfl, (by decide)⟩, ht⟩) (fun q hq => by cases hq) dX8_sees_33
/-! X8_seenBy -/
def uX8_seenBy_s4 (x1_3 : Int32) (f_t_s_4 : Nat → Int32) (rec5 : Int32 → Int32 → Option (Int32)) (x2_1 : Int32) (x3_2 : Int32) : Option (Int32) :=
  (if (4 : Int32) ≤ x3_2 then some x2_1 else bb_ix ((5 : Int32) + x3_2) 155 (bb_b1 (uX8_sees (f_t_s_4 ((5 : Int32) + x3_2).toNatClampNeg) x1_3 f_t_s_4) (fun (r10 : Int32) => bb_cut (fun (z14 : Int32) => rec5 (x2_1 ||| z14) (x3_2 + (1 : Int32))) (fun k15 => (if r10 = 0 then k15 (0 : Int32) else k15 ((1 : Int32) <<< (x3_2 &&& 31)))))))
def uX8_seenBy (nn : Nat) (p1 : Int32) (f_t_s : Nat → Int32) : Option (Int32) :=
  bb_loop2 (uX8_seenBy_s4 p1 f_t_s) nn (0 : Int32) (0 : Int32)
theorem kdX8_seenBy : yX8_seenBy.cls = RX8 ∧ yX8_seenBy.cls ≠ "java/lang/invoke/MethodHandle" ∧ yX8_seenBy.cls ≠ "java/lang/invoke/VarHandle" ∧ (parseMethodDescriptor yX8_seenBy.desc).map (fun d => d.parameters.length) = some 1 := by decide +kernel
set_option maxHeartbeats 4000000 in
set_option maxRecDepth 100000 in
theorem kX8_seenBy (l : Launch) (dC : Nat → ClassId) (dI : Nat → Nat → Nat) (cy : Nat → ClassId) (a_t : Nat → Nat) (p1 : Int32) (v_t_isKept : Int32) (v_t_bestPost : Int32) (v_t_mostSeen : Int32) (v_t_taped : Int32) (v_t_from : Int32) (v_t_to : Int32) (v_t_isWrong : Int32) (f_t_s : Nat → Int32) (nn : Nat) (r : Int32) (h : uX8_seenBy nn p1 f_t_s = some r) : Met l yX8_seenBy wsX8_seenBy ({ frames := 3, cells := 0, slots := 0, locals := 64 }) (va_Pc [.ref (a_t 0), .int p1] (fun U => va_P (dC, dI) vwCl [((a_t 0), oX8 a_t v_t_isKept v_t_bestPost v_t_mostSeen v_t_taped v_t_from v_t_to v_t_isWrong), ((a_t 1), .inl (cy 0, 155, .inl f_t_s))] U.heap ∧ va_K (dC, dI) vwCl (tyX cy) U)) (vp_Si (fun r2 => r = r2)) 0 0 (fun _ => False) := by
  refine Met.ofW (cc := cX8_seenBy) (maxL := 4) (ret := (some .int)) (by decide) rfl ?_
  intro p e s m args below meth c s₁ B hml hv
  obtain ⟨rfl, hP, hK⟩ := hv
  have hx := B.exec
  have hb := B.bytes
  have hr := B.returns
  have hts := atoms_spec (ws := wsX8_seenBy) B.pre
  have hown : s.vm.findClass RX8 = some m.cls := findClass_of_methodNamed B.named
  have hlocks := B.notSynchronized
  have iwX8 : ∀ w ∈ wsX80, w ∈ wsX8_seenBy := fun w h9 => List.mem_cons_of_mem _ (List.mem_append_right _ (h9))
  have lk1 := hts (Cond.fieldLink RX8 9 "BathBorderModel" "s" "[I") (List.mem_of_getElem? (i := 1) rfl)
  have hl := lv_entry ([.ref (a_t 0), .int p1]) (n := 4) (Nat.le_of_ble_eq_true rfl)
  rw [lg_entry_eq]
  generalize (lg_sl ([.ref (a_t 0), .int p1]) ++ List.replicate (4 - (lg_sl ([.ref (a_t 0), .int p1])).length) Slot.unset).toArray = ls at hl ⊢
  have hl : lv_has ls 4 [(0, .ref (a_t 0)), (1, .int p1)] := hl
  unfold uX8_seenBy at h
  refine bb_cap (fun WW toW ofW => ?_)
  refine lv_iconst (v := (0 : Int32)) hx hb dX8_seenBy_0 (by decide) ?_
  refine lv_istore_n (lv' := [(2, .int (0 : Int32)), (0, .ref (a_t 0)), (1, .int p1)]) hx hb dX8_seenBy_1 rfl hl (by decide) rfl (fun ls hl => ?_)
  refine lv_iconst (v := (0 : Int32)) hx hb dX8_seenBy_2 (by decide) ?_
  refine lv_istore_n (lv' := [(3, .int (0 : Int32)), (2, .int (0 : Int32)), (0, .ref (a_t 0)), (1, .int p1)]) hx hb dX8_seenBy_3 rfl hl (by decide) rfl (fun ls hl => ?_)
  have L6 : ∀ (n : Nat) (x2_1 : Int32) (x3_2 : Int32) (ls : Array Slot), bb_loop2 (uX8_seenBy_s4 p1 f_t_s) n x2_1 x3_2 = some r → lv_has ls 4 [(0, .ref (a_t 0)), (1, .int p1), (2, .int x2_1), (3, .int x3_2)] → WW s.heap [] (F0 m 4 ls []) := by
    intro n
    induction n with
    | zero => intro x2_1 x3_2 ls h; exact (bb_no h).elim
    | succ n ih7 =>
      intro x2_1 x3_2 ls h hl
      refine ofW _ _ _ ?_
      obtain ⟨rec5, erec5, h⟩ := bb_loop2_o h
      unfold uX8_seenBy_s4 at h
      refine lv_iload_n hx hb dX8_seenBy_4 rfl (lv_at hl 3 rfl) ?_
      refine lv_iconst (v := (4 : Int32)) hx hb dX8_seenBy_5 (by decide) ?_
      refine lv_icmp_ge (tgt := 41) hx hb dX8_seenBy_6 (by decide) (fun c8 => ?_) (fun c8 => ?_)
      · replace h := bb_ifp c8 h
        refine lv_iload_n hx hb dX8_seenBy_41 rfl (lv_at hl 2 rfl) ?_
        obtain rfl := bb_some1 h
        exact W.iret hx hb hr (fun t ht hW => ⟨_, rfl, rfl, ht⟩) (fun q hq => by cases hq) dX8_seenBy_42
      · replace h := bb_ifn c8 h
        refine lv_iload_n hx hb dX8_seenBy_9 rfl (lv_at hl 2 rfl) ?_
        refine lv_aload_n hx hb dX8_seenBy_10 rfl (lv_at hl 0 rfl) ?_
        refine lv_aload_n hx hb dX8_seenBy_11 rfl (lv_at hl 0 rfl) ?_
        refine va_get (D := (dC, dI)) (ci := 7) (v := .ref (a_t 1)) (C := RX8) (T := TX8) (N := 20) hx hb hts iwX8 hown hK hP 0 rfl rfl 0 (by decide) lk1 (fun _ h9 => h9) rfl dX8_seenBy_12 ?_
        refine lv_iconst (v := (5 : Int32)) hx hb dX8_seenBy_15 (by decide) ?_
        refine lv_iload_n hx hb dX8_seenBy_16 rfl (lv_at hl 3 rfl) ?_
        refine lv_iadd hx hb dX8_seenBy_17 ?_
        obtain ⟨hi9, h⟩ := bb_ix_o h
        refine va_iald hx hb hK hP 1 0 rfl rfl hi9 dX8_seenBy_18 ?_
        refine lv_iload_n hx hb dX8_seenBy_19 rfl (lv_at hl 1 rfl) ?_
        obtain ⟨r10, hc11, h⟩ := bb_b1_o h
        refine vp_callSi (W.runV (As := [.int (f_t_s ((5 : Int32) + x3_2).toNatClampNeg), .int p1]) (rest := [.int x2_1]) ⟨hx, hb, hml, hown, hts⟩ (kX8_sees l dC dI cy a_t (f_t_s ((5 : Int32) + x3_2).toNatClampNeg) p1 v_t_isKept v_t_bestPost v_t_mostSeen v_t_taped v_t_from v_t_to v_t_isWrong f_t_s r10 hc11) (cwV 2 hts gX8_seenBy_X8_sees rfl rfl rfl kdX8_sees ⟨Nat.le_of_ble_eq_true rfl, Nat.le_of_ble_eq_true rfl⟩) (bb_preV (va_recv hK hP (ci := 7) (q0 := 0) rfl rfl) hP hK) rfl rfl hl.1 rfl (lv_room (Nat.le_of_ble_eq_true rfl)) dX8_seenBy_20 ⟨Nat.zero_le _, Nat.zero_le _⟩) (fun t12 et12 => ?_)
        obtain ⟨rfl, hz13⟩ := et12
        obtain ⟨k15, ek15, h⟩ := bb_cut_o h
        have Jk15 : ∀ (z14 : Int32) (ls : Array Slot), k15 z14 = some r → lv_has ls 4 [(0, .ref (a_t 0)), (1, .int p1), (3, .int x3_2)] → WW s.heap [] (F0 m 33 ls [.int z14, .int x2_1]) := by
          intro z14 ls h hl
          refine ofW _ _ _ ?_
          subst ek15
          refine lv_ior hx hb dX8_seenBy_33 ?_
          refine lv_istore_n (lv' := [(2, .int (x2_1 ||| z14)), (0, .ref (a_t 0)), (1, .int p1), (3, .int x3_2)]) hx hb dX8_seenBy_34 rfl hl (by decide) rfl (fun ls hl => ?_)
          refine lv_iinc (v := x3_2 + (1 : Int32)) (lv' := [(3, .int (x3_2 + (1 : Int32))), (2, .int (x2_1 ||| z14)), (0, .ref (a_t 0)), (1, .int p1)]) hx hb dX8_seenBy_35 hl (k := 3) rfl rfl (by decide) rfl (fun ls hl => ?_)
          refine lv_goto (tgt := 4) hx hb dX8_seenBy_38 (by decide) ?_
          rw [erec5] at h
          exact toW _ _ _ (ih7 (x2_1 ||| z14) (x3_2 + (1 : Int32)) _ h (lv_sub hl [2, 3, 1, 0] rfl))
        refine lv_if_eq (tgt := 32) hx hb dX8_seenBy_23 (by decide) (fun c16 => ?_) (fun c16 => ?_)
        · replace h := bb_ifp c16 h
          refine lv_iconst (v := (0 : Int32)) hx hb dX8_seenBy_32 (by decide) ?_
          exact toW _ _ _ (Jk15 (0 : Int32) _ h (lv_sub hl [0, 1, 3] rfl))
        · replace h := bb_ifn c16 h
          refine lv_iconst (v := (1 : Int32)) hx hb dX8_seenBy_26 (by decide) ?_
          refine lv_iload_n hx hb dX8_seenBy_27 rfl (lv_at hl 3 rfl) ?_
          refine lv_ishl hx hb dX8_seenBy_28 ?_
          refine lv_goto (tgt := 33) hx hb dX8_seenBy_29 (by decide) ?_
          exact toW _ _ _ (Jk15 ((1 : Int32) <<< (x3_2 &&& 31)) _ h (lv_sub hl [0, 1, 3] rfl))
  exact toW _ _ _ (L6 nn (0 : Int32) (0 : Int32) _ h (lv_sub hl [2, 3, 1, 0] rfl))
/-! X8_isSeen -/
def uX8_isSeen (nn : Nat) (p1 : Int32) (f_t_s : Nat → Int32) : Option (Int32) :=
  bb_b1 (uX8_seenBy nn p1 f_t_s) (fun (r1 : Int32) => (if r1 = 0 then some (0 : Int32) else some (1 : Int32)))
theorem kdX8_isSeen : yX8_isSeen.cls = RX8 ∧ yX8_isSeen.cls ≠ "java/lang/invoke/MethodHandle" ∧ yX8_isSeen.cls ≠ "java/lang/invoke/VarHandle" ∧ (parseMethodDescriptor yX8_isSeen.desc).map (fun d => d.parameters.length) = some 1 := by decide +kernel
set_option maxHeartbeats 4000000 in
set_option maxRecDepth 100000 in
theorem kX8_isSeen (l : Launch) (dC : Nat → ClassId) (dI : Nat → Nat → Nat) (cy : Nat → ClassId) (a_t : Nat → Nat) (p1 : Int32) (v_t_isKept : Int32) (v_t_bestPost : Int32) (v_t_mostSeen : Int32) (v_t_taped : Int32) (v_t_from : Int32) (v_t_to : Int32) (v_t_isWrong : Int32) (f_t_s : Nat → Int32) (nn : Nat) (r : Int32) (h : uX8_isSeen nn p1 f_t_s = some r) : Met l yX8_isSeen wsX8_isSeen ({ frames := 4, cells := 0, slots := 0, locals := 87 }) (va_Pc [.ref (a_t 0), .int p1] (fun U => va_P (dC, dI) vwCl [((a_t 0), oX8 a_t v_t_isKept v_t_bestPost v_t_mostSeen v_t_taped v_t_from v_t_to v_t_isWrong), ((a_t 1), .inl (cy 0, 155, .inl f_t_s))] U.heap ∧ va_K (dC, dI) vwCl (tyX cy) U)) (vp_Si (fun r2 => r = r2 ∧ narrow .boolean (.int r2) = .int r2)) 0 0 (fun _ => False) := by
  refine Met.ofW (cc := cX8_isSeen) (maxL := 2) (ret := (some .boolean)) (by decide) rfl ?_
  intro p e s m args below meth c s₁ B hml hv
  obtain ⟨rfl, hP, hK⟩ := hv
  have hx := B.exec
  have hb := B.bytes
  have hr := B.returns
  have hts := atoms_spec (ws := wsX8_isSeen) B.pre
  have hown : s.vm.findClass RX8 = some m.cls := findClass_of_methodNamed B.named
  have hlocks := B.notSynchronized
  have hl := lv_entry ([.ref (a_t 0), .int p1]) (n := 2) (Nat.le_of_ble_eq_true rfl)
  rw [lg_entry_eq]
  generalize (lg_sl ([.ref (a_t 0), .int p1]) ++ List.replicate (2 - (lg_sl ([.ref (a_t 0), .int p1])).length) Slot.unset).toArray = ls at hl ⊢
  have hl : lv_has ls 2 [(0, .ref (a_t 0)), (1, .int p1)] := hl
  unfold uX8_isSeen at h
  refine bb_cap (fun WW toW ofW => ?_)
  refine lv_aload_n hx hb dX8_isSeen_0 rfl (lv_at hl 0 rfl) ?_
  refine lv_iload_n hx hb dX8_isSeen_1 rfl (lv_at hl 1 rfl) ?_
  obtain ⟨r1, hc2, h⟩ := bb_b1_o h
  refine vp_callSi (W.runV (As := [.int p1]) (rest := []) ⟨hx, hb, hml, hown, hts⟩ (kX8_seenBy l dC dI cy a_t p1 v_t_isKept v_t_bestPost v_t_mostSeen v_t_taped v_t_from v_t_to v_t_isWrong f_t_s nn r1 hc2) (cwV 1 hts gX8_isSeen_X8_seenBy rfl rfl rfl kdX8_seenBy ⟨Nat.le_of_ble_eq_true rfl, Nat.le_of_ble_eq_true rfl⟩) (bb_preV (va_recv hK hP (ci := 7) (q0 := 0) rfl rfl) hP hK) rfl rfl hl.1 rfl (lv_room (Nat.le_of_ble_eq_true rfl)) dX8_isSeen_2 ⟨Nat.zero_le _, Nat.zero_le _⟩) (fun t3 et3 => ?_)
  obtain rfl := et3
  refine lv_if_eq (tgt := 12) hx hb dX8_isSeen_5 (by decide) (fun c4 => ?_) (fun c4 => ?_)
  · replace h := bb_ifp c4 h
    refine lv_iconst (v := (0 : Int32)) hx hb dX8_isSeen_12 (by decide) ?_
    obtain rfl := bb_some1 h
    exact W.zret hx hb hr (by decide) (fun t ht hW => ⟨_, rfl, ⟨rfl, (by decide)⟩, ht⟩) (fun q hq => by cases hq) dX8_isSeen_13
  · replace h := bb_ifn c4 h
    refine lv_iconst (v := (1 : Int32)) hx hb dX8_isSeen_8 (by decide) ?_
    refine lv_goto (tgt := 13) hx hb dX8_isSeen_9 (by decide) ?_
    obtain rfl := bb_some1 h
    exact W.zret hx hb hr (by decide) (fun t ht hW => ⟨_, rfl, ⟨rfl, (by decide)⟩, ht⟩) (fun q hq => by cases hq) dX8_isSeen_13
/-! X8_beside -/
def uX8_beside (p1 : Int32) (p2 : Int32) : Option (Int32) :=
  bb_cut (fun (z1 : Int32) => bb_cut (fun (z3 : Int32) => bb_b1 (uX8_in (((p1 / (8 : Int32)) + z1).toInt64) (0 : Int64) (5 : Int64)) (fun (r5 : Int32) => (if r5 = 0 then some (-1 : Int32) else bb_b1 (uX8_in (((p1 - p1 / (8 : Int32) * (8 : Int32)) + z3).toInt64) (0 : Int64) (7 : Int64)) (fun (r10 : Int32) => (if r10 = 0 then some (-1 : Int32) else (if p2 ≤ 0 then some (-1 : Int32) else some (((8 : Int32) * ((p1 / (8 : Int32)) + z1)) + ((p1 - p1 / (8 : Int32) * (8 : Int32)) + z3)))))))) (fun k4 => (if p2 = (2 : Int32) then k4 (1 : Int32) else (if p2 = (4 : Int32) then k4 (-1 : Int32) else k4 (0 : Int32))))) (fun k2 => (if p2 = (3 : Int32) then k2 (1 : Int32) else (if p2 = (1 : Int32) then k2 (-1 : Int32) else k2 (0 : Int32))))
theorem kdX8_beside : yX8_beside.cls ≠ "java/lang/invoke/MethodHandle" ∧ yX8_beside.cls ≠ "java/lang/invoke/VarHandle" ∧ (parseMethodDescriptor yX8_beside.desc).map (fun d => d.parameters.length) = some 2 := by decide +kernel
set_option maxHeartbeats 4000000 in
set_option maxRecDepth 100000 in
theorem kX8_beside (l : Launch) (dC : Nat → ClassId) (dI : Nat → Nat → Nat) (cy : Nat → ClassId) (p1 : Int32) (p2 : Int32) (r : Int32) (h : uX8_beside p1 p2 = some r) : Met l yX8_beside wsX8_beside ({ frames := 1, cells := 0, slots := 0, locals := 25 }) (va_Pc [.int p1, .int p2] (fun U => va_P (dC, dI) vwCl [] U.heap ∧ va_K (dC, dI) vwCl (tyX cy) U)) (vp_Si (fun r2 => r = r2)) 0 0 (fun _ => False) := by
  refine Met.ofW (cc := cX8_beside) (maxL := 4) (ret := (some .int)) (by decide) rfl ?_
  intro p e s m args below meth c s₁ B hml hv
  obtain ⟨rfl, hP, hK⟩ := hv
  have hx := B.exec
  have hb := B.bytes
  have hr := B.returns
  have hts := atoms_spec (ws := wsX8_beside) B.pre
  have hown : s.vm.findClass RX8 = some m.cls := findClass_of_methodNamed B.named
  have hlocks := B.notSynchronized
  have lk1 := hts (Cond.constantLong RX8 81 (5)) (List.mem_of_getElem? (i := 1) rfl)
  have lk2 := hts (Cond.constantLong RX8 83 (7)) (List.mem_of_getElem? (i := 2) rfl)
  have hl := lv_entry ([.int p1, .int p2]) (n := 4) (Nat.le_of_ble_eq_true rfl)
  rw [lg_entry_eq]
  generalize (lg_sl ([.int p1, .int p2]) ++ List.replicate (4 - (lg_sl ([.int p1, .int p2])).length) Slot.unset).toArray = ls at hl ⊢
  have hl : lv_has ls 4 [(0, .int p1), (1, .int p2)] := hl
  unfold uX8_beside at h
  refine bb_cap (fun WW toW ofW => ?_)
  refine lv_iload_n hx hb dX8_beside_0 rfl (lv_at hl 0 rfl) ?_
  refine lv_bipush (v := (8 : Int32)) hx hb dX8_beside_1 (by decide) ?_
  refine lv_idiv hx hb dX8_beside_3 (by decide) ?_
  refine lv_iload_n hx hb dX8_beside_4 rfl (lv_at hl 1 rfl) ?_
  refine lv_iconst (v := (3 : Int32)) hx hb dX8_beside_5 (by decide) ?_
  obtain ⟨k2, ek2, h⟩ := bb_cut_o h
  have Jk2 : ∀ (z1 : Int32) (ls : Array Slot), k2 z1 = some r → lv_has ls 4 [(0, .int p1), (1, .int p2)] → WW s.heap [] (F0 m 23 ls [.int z1, .int (p1 / (8 : Int32))]) := by
    intro z1 ls h hl
    refine ofW _ _ _ ?_
    subst ek2
    refine lv_iadd hx hb dX8_beside_23 ?_
    refine lv_istore_n (lv' := [(2, .int ((p1 / (8 : Int32)) + z1)), (0, .int p1), (1, .int p2)]) hx hb dX8_beside_24 rfl hl (by decide) rfl (fun ls hl => ?_)
    refine lv_iload_n hx hb dX8_beside_25 rfl (lv_at hl 1 rfl) ?_
    refine lv_bipush (v := (8 : Int32)) hx hb dX8_beside_26 (by decide) ?_
    refine lv_irem hx hb dX8_beside_28 (by decide) ?_
    refine lv_iload_n hx hb dX8_beside_29 rfl (lv_at hl 2 rfl) ?_
    refine lv_iconst (v := (2 : Int32)) hx hb dX8_beside_30 (by decide) ?_
    obtain ⟨k4, ek4, h⟩ := bb_cut_o h
    have Jk4 : ∀ (z3 : Int32) (ls : Array Slot), k4 z3 = some r → lv_has ls 4 [(1, .int p2), (2, .int ((p1 / (8 : Int32)) + z1))] → WW s.heap [] (F0 m 48 ls [.int z3, .int (p1 - p1 / (8 : Int32) * (8 : Int32))]) := by
      intro z3 ls h hl
      refine ofW _ _ _ ?_
      subst ek4
      refine lv_iadd hx hb dX8_beside_48 ?_
      refine lv_istore_n (lv' := [(3, .int ((p1 - p1 / (8 : Int32) * (8 : Int32)) + z3)), (1, .int p2), (2, .int ((p1 / (8 : Int32)) + z1))]) hx hb dX8_beside_49 rfl hl (by decide) rfl (fun ls hl => ?_)
      refine lv_iload_n hx hb dX8_beside_50 rfl (lv_at hl 2 rfl) ?_
      refine lv_i2l hx hb dX8_beside_51 rfl ?_
      refine lv_lconst (v := (0 : Int64)) hx hb dX8_beside_52 (by decide) ?_
      refine lv_ldc2 (v := (5 : Int64)) hx hb hown lk1 dX8_beside_53 ?_
      obtain ⟨r5, hc6, h⟩ := bb_b1_o h
      refine vp_callSi (W.runS (As := [.long (((p1 / (8 : Int32)) + z1).toInt64), .long (0 : Int64), .long (5 : Int64)]) (rest := []) ⟨hx, hb, hml, hown, hts⟩ (kX8_in l dC dI cy (((p1 / (8 : Int32)) + z1).toInt64) (0 : Int64) (5 : Int64) r5 hc6) (va_cwS 3 hts gX8_beside_X8_in rfl rfl rfl kdX8_in ⟨Nat.le_of_ble_eq_true rfl, Nat.le_of_ble_eq_true rfl⟩) (bb_preS hP hK) rfl rfl hl.1 rfl (lv_room (Nat.le_of_ble_eq_true rfl)) dX8_beside_56 ⟨Nat.zero_le _, Nat.zero_le _⟩) (fun t7 et7 => ?_)
      obtain ⟨rfl, hz8⟩ := et7
      refine lv_if_eq (tgt := 87) hx hb dX8_beside_59 (by decide) (fun c9 => ?_) (fun c9 => ?_)
      · replace h := bb_ifp c9 h
        refine lv_iconst (v := (-1 : Int32)) hx hb dX8_beside_87 (by decide) ?_
        obtain rfl := bb_some1 h
        exact W.iret hx hb hr (fun t ht hW => ⟨_, rfl, rfl, ht⟩) (fun q hq => by cases hq) dX8_beside_88
      · replace h := bb_ifn c9 h
        refine lv_iload_n hx hb dX8_beside_62 rfl (lv_at hl 0 rfl) ?_
        refine lv_i2l hx hb dX8_beside_63 rfl ?_
        refine lv_lconst (v := (0 : Int64)) hx hb dX8_beside_64 (by decide) ?_
        refine lv_ldc2 (v := (7 : Int64)) hx hb hown lk2 dX8_beside_65 ?_
        obtain ⟨r10, hc11, h⟩ := bb_b1_o h
        refine vp_callSi (W.runS (As := [.long (((p1 - p1 / (8 : Int32) * (8 : Int32)) + z3).toInt64), .long (0 : Int64), .long (7 : Int64)]) (rest := []) ⟨hx, hb, hml, hown, hts⟩ (kX8_in l dC dI cy (((p1 - p1 / (8 : Int32) * (8 : Int32)) + z3).toInt64) (0 : Int64) (7 : Int64) r10 hc11) (va_cwS 3 hts gX8_beside_X8_in rfl rfl rfl kdX8_in ⟨Nat.le_of_ble_eq_true rfl, Nat.le_of_ble_eq_true rfl⟩) (bb_preS hP hK) rfl rfl hl.1 rfl (lv_room (Nat.le_of_ble_eq_true rfl)) dX8_beside_68 ⟨Nat.zero_le _, Nat.zero_le _⟩) (fun t12 et12 => ?_)
        obtain ⟨rfl, hz13⟩ := et12
        refine lv_if_eq (tgt := 87) hx hb dX8_beside_71 (by decide) (fun c14 => ?_) (fun c14 => ?_)
        · replace h := bb_ifp c14 h
          refine lv_iconst (v := (-1 : Int32)) hx hb dX8_beside_87 (by decide) ?_
          obtain rfl := bb_some1 h
          exact W.iret hx hb hr (fun t ht hW => ⟨_, rfl, rfl, ht⟩) (fun q hq => by cases hq) dX8_beside_88
        · replace h := bb_ifn c14 h
          refine lv_iload_n hx hb dX8_beside_74 rfl (lv_at hl 1 rfl) ?_
          refine lv_if_le (tgt := 87) hx hb dX8_beside_75 (by decide) (fun c15 => ?_) (fun c15 => ?_)
          · replace h := bb_ifp c15 h
            refine lv_iconst (v := (-1 : Int32)) hx hb dX8_beside_87 (by decide) ?_
            obtain rfl := bb_some1 h
            exact W.iret hx hb hr (fun t ht hW => ⟨_, rfl, rfl, ht⟩) (fun q hq => by cases hq) dX8_beside_88
          · replace h := bb_ifn c15 h
            refine lv_bipush (v := (8 : Int32)) hx hb dX8_beside_78 (by decide) ?_
            refine lv_iload_n hx hb dX8_beside_80 rfl (lv_at hl 2 rfl) ?_
            refine lv_imul hx hb dX8_beside_81 ?_
            refine lv_iload_n hx hb dX8_beside_82 rfl (lv_at hl 0 rfl) ?_
            refine lv_iadd hx hb dX8_beside_83 ?_
            refine lv_goto (tgt := 88) hx hb dX8_beside_84 (by decide) ?_
            obtain rfl := bb_some1 h
            exact W.iret hx hb hr (fun t ht hW => ⟨_, rfl, rfl, ht⟩) (fun q hq => by cases hq) dX8_beside_88
    refine lv_icmp_ne (tgt := 38) hx hb dX8_beside_31 (by decide) (fun c16 => ?_) (fun c16 => ?_)
    · replace h := bb_ifn c16 h
      refine lv_iload_n hx hb dX8_beside_38 rfl (lv_at hl 2 rfl) ?_
      refine lv_iconst (v := (4 : Int32)) hx hb dX8_beside_39 (by decide) ?_
      refine lv_icmp_ne (tgt := 47) hx hb dX8_beside_40 (by decide) (fun c17 => ?_) (fun c17 => ?_)
      · replace h := bb_ifn c17 h
        refine lv_iconst (v := (0 : Int32)) hx hb dX8_beside_47 (by decide) ?_
        exact toW _ _ _ (Jk4 (0 : Int32) _ h (lv_sub hl [2, 0] rfl))
      · replace h := bb_ifp c17 h
        refine lv_iconst (v := (-1 : Int32)) hx hb dX8_beside_43 (by decide) ?_
        refine lv_goto (tgt := 48) hx hb dX8_beside_44 (by decide) ?_
        exact toW _ _ _ (Jk4 (-1 : Int32) _ h (lv_sub hl [2, 0] rfl))
    · replace h := bb_ifp c16 h
      refine lv_iconst (v := (1 : Int32)) hx hb dX8_beside_34 (by decide) ?_
      refine lv_goto (tgt := 48) hx hb dX8_beside_35 (by decide) ?_
      exact toW _ _ _ (Jk4 (1 : Int32) _ h (lv_sub hl [2, 0] rfl))
  refine lv_icmp_ne (tgt := 13) hx hb dX8_beside_6 (by decide) (fun c18 => ?_) (fun c18 => ?_)
  · replace h := bb_ifn c18 h
    refine lv_iload_n hx hb dX8_beside_13 rfl (lv_at hl 1 rfl) ?_
    refine lv_iconst (v := (1 : Int32)) hx hb dX8_beside_14 (by decide) ?_
    refine lv_icmp_ne (tgt := 22) hx hb dX8_beside_15 (by decide) (fun c19 => ?_) (fun c19 => ?_)
    · replace h := bb_ifn c19 h
      refine lv_iconst (v := (0 : Int32)) hx hb dX8_beside_22 (by decide) ?_
      exact toW _ _ _ (Jk2 (0 : Int32) _ h (lv_sub hl [0, 1] rfl))
    · replace h := bb_ifp c19 h
      refine lv_iconst (v := (-1 : Int32)) hx hb dX8_beside_18 (by decide) ?_
      refine lv_goto (tgt := 23) hx hb dX8_beside_19 (by decide) ?_
      exact toW _ _ _ (Jk2 (-1 : Int32) _ h (lv_sub hl [0, 1] rfl))
  · replace h := bb_ifp c18 h
    refine lv_iconst (v := (1 : Int32)) hx hb dX8_beside_9 (by decide) ?_
    refine lv_goto (tgt := 23) hx hb dX8_beside_10 (by decide) ?_
    exact toW _ _ _ (Jk2 (1 : Int32) _ h (lv_sub hl [0, 1] rfl))
/-! X8_orOwn -/
def uX8_orOwn (p1 : Int32) (p2 : Int32) : Option (Int32) :=
  (if 0 ≤ p1 then some p1 else some p2)
theorem kdX8_orOwn : yX8_orOwn.cls ≠ "java/lang/invoke/MethodHandle" ∧ yX8_orOwn.cls ≠ "java/lang/invoke/VarHandle" ∧ (parseMethodDescriptor yX8_orOwn.desc).map (fun d => d.parameters.length) = some 2 := by decide +kernel
set_option maxHeartbeats 4000000 in
set_option maxRecDepth 100000 in
theorem kX8_orOwn (l : Launch) (dC : Nat → ClassId) (dI : Nat → Nat → Nat) (cy : Nat → ClassId) (p1 : Int32) (p2 : Int32) (r : Int32) (h : uX8_orOwn p1 p2 = some r) : Met l yX8_orOwn wsX8_orOwn ({ frames := 0, cells := 0, slots := 0, locals := 0 }) (va_Pc [.int p1, .int p2] (fun U => va_P (dC, dI) vwCl [] U.heap ∧ va_K (dC, dI) vwCl (tyX cy) U)) (vp_Si (fun r2 => r = r2)) 0 0 (fun _ => False) := by
  refine Met.ofW (cc := cX8_orOwn) (maxL := 2) (ret := (some .int)) (by decide) rfl ?_
  intro p e s m args below meth c s₁ B hml hv
  obtain ⟨rfl, hP, hK⟩ := hv
  have hx := B.exec
  have hb := B.bytes
  have hr := B.returns
  have hts := atoms_spec (ws := wsX8_orOwn) B.pre
  have hown : s.vm.findClass RX8 = some m.cls := findClass_of_methodNamed B.named
  have hlocks := B.notSynchronized
  have hl := lv_entry ([.int p1, .int p2]) (n := 2) (Nat.le_of_ble_eq_true rfl)
  rw [lg_entry_eq]
  generalize (lg_sl ([.int p1, .int p2]) ++ List.replicate (2 - (lg_sl ([.int p1, .int p2])).length) Slot.unset).toArray = ls at hl ⊢
  have hl : lv_has ls 2 [(0, .int p1), (1, .int p2)] := hl
  unfold uX8_orOwn at h
  refine bb_cap (fun WW toW ofW => ?_)
  refine lv_iload_n hx hb dX8_orOwn_0 rfl (lv_at hl 0 rfl) ?_
  refine lv_if_ge (tgt := 8) hx hb dX8_orOwn_1 (by decide) (fun c1 => ?_) (fun c1 => ?_)
  · replace h := bb_ifp c1 h
    refine lv_iload_n hx hb dX8_orOwn_8 rfl (lv_at hl 0 rfl) ?_
    obtain rfl := bb_some1 h
    exact W.iret hx hb hr (fun t ht hW => ⟨_, rfl, rfl, ht⟩) (fun q hq => by cases hq) dX8_orOwn_9
  · replace h := bb_ifn c1 h
    refine lv_iload_n hx hb dX8_orOwn_4 rfl (lv_at hl 1 rfl) ?_
    refine lv_goto (tgt := 9) hx hb dX8_orOwn_5 (by decide) ?_
    obtain rfl := bb_some1 h
    exact W.iret hx hb hr (fun t ht hW => ⟨_, rfl, rfl, ht⟩) (fun q hq => by cases hq) dX8_orOwn_9
/-! X8_fill -/
def uX8_fill (p1 : Int32) (p2 : Int32) (p3 : Int32) (f_t_found : Nat → Int32) (f_t_s : Nat → Int32) : Option (Int32 × (Nat → Int32) × (Nat → Int32)) :=
  bb_b1 (uX8_isCell p1) (fun (r1 : Int32) => (if r1 = 0 then bb_b2 (uX8_finds (0 : Int32) f_t_found) (fun (r6 : Int32) (w7 : Nat → Int32) => some (r6, w7, f_t_s)) else bb_b1 (uX8_in p2.toInt64 (0 : Int64) (1 : Int64)) (fun (r9 : Int32) => (if r9 = 0 then bb_b2 (uX8_finds (0 : Int32) f_t_found) (fun (r14 : Int32) (w15 : Nat → Int32) => some (r14, w15, f_t_s)) else bb_cut (fun (z17 : Int64) => bb_b1 (uX8_in p3.toInt64 (0 : Int64) z17) (fun (r19 : Int32) => (if r19 = 0 then bb_b2 (uX8_finds (0 : Int32) f_t_found) (fun (r31 : Int32) (w32 : Nat → Int32) => some (r31, w32, f_t_s)) else (if p2 = 0 then bb_b2 (uX8_becomes ((9 : Int32) + p1) p3 f_t_s) (fun (r28 : Int32) (w29 : Nat → Int32) => some (r28, f_t_found, w29)) else bb_b2 (uX8_becomes ((57 : Int32) + p1) p3 f_t_s) (fun (r25 : Int32) (w26 : Nat → Int32) => some (r25, f_t_found, w26)))))) (fun k18 => (if p2 = 0 then k18 (9 : Int64) else k18 (4 : Int64)))))))
theorem kdX8_fill : yX8_fill.cls = RX8 ∧ yX8_fill.cls ≠ "java/lang/invoke/MethodHandle" ∧ yX8_fill.cls ≠ "java/lang/invoke/VarHandle" ∧ (parseMethodDescriptor yX8_fill.desc).map (fun d => d.parameters.length) = some 3 := by decide +kernel
set_option maxHeartbeats 4000000 in
set_option maxRecDepth 100000 in
theorem kX8_fill (l : Launch) (dC : Nat → ClassId) (dI : Nat → Nat → Nat) (cy : Nat → ClassId) (sz : Nat) (a_t : Nat → Nat) (p1 : Int32) (p2 : Int32) (p3 : Int32) (v_t_isKept : Int32) (v_t_bestPost : Int32) (v_t_mostSeen : Int32) (v_t_taped : Int32) (v_t_from : Int32) (v_t_to : Int32) (v_t_isWrong : Int32) (f_t_found : Nat → Int32) (f_t_s : Nat → Int32) (r : Int32) (f_t_found_o : Nat → Int32) (f_t_s_o : Nat → Int32) (h : uX8_fill p1 p2 p3 f_t_found f_t_s = some (r, f_t_found_o, f_t_s_o)) : Met l yX8_fill wsX8_fill ({ frames := 2, cells := 0, slots := 0, locals := 45 }) (va_Pc [.ref (a_t 0), .int p1, .int p2, .int p3] (fun U => U.heap.size = sz ∧ va_P (dC, dI) vwCl [((a_t 0), oX8 a_t v_t_isKept v_t_bestPost v_t_mostSeen v_t_taped v_t_from v_t_to v_t_isWrong), ((a_t 5), .inl (cy 0, 7, .inl f_t_found)), ((a_t 1), .inl (cy 0, 155, .inl f_t_s))] U.heap ∧ va_K (dC, dI) vwCl (tyX cy) U ∧ va_D (fun _ => True) [((a_t 0), oX8 a_t v_t_isKept v_t_bestPost v_t_mostSeen v_t_taped v_t_from v_t_to v_t_isWrong), ((a_t 5), .inl (cy 0, 7, .inl f_t_found)), ((a_t 1), .inl (cy 0, 155, .inl f_t_s))])) (va_Qi (fun (r2 : Int32) (_ : Unit) => r = r2) (fun _ t => va_P (dC, dI) vwCl [((a_t 0), oX8 a_t v_t_isKept v_t_bestPost v_t_mostSeen v_t_taped v_t_from v_t_to v_t_isWrong), ((a_t 5), .inl (cy 0, 7, .inl f_t_found_o)), ((a_t 1), .inl (cy 0, 155, .inl f_t_s_o))] t.heap ∧ va_K (dC, dI) vwCl (tyX cy) t ∧ va_D (va_A [((a_t 0), oX8 a_t v_t_isKept v_t_bestPost v_t_mostSeen v_t_taped v_t_from v_t_to v_t_isWrong), ((a_t 5), .inl (cy 0, 7, .inl f_t_found)), ((a_t 1), .inl (cy 0, 155, .inl f_t_s))] sz) [((a_t 0), oX8 a_t v_t_isKept v_t_bestPost v_t_mostSeen v_t_taped v_t_from v_t_to v_t_isWrong), ((a_t 5), .inl (cy 0, 7, .inl f_t_found_o)), ((a_t 1), .inl (cy 0, 155, .inl f_t_s_o))]) (va_A [((a_t 0), oX8 a_t v_t_isKept v_t_bestPost v_t_mostSeen v_t_taped v_t_from v_t_to v_t_isWrong), ((a_t 5), .inl (cy 0, 7, .inl f_t_found)), ((a_t 1), .inl (cy 0, 155, .inl f_t_s))] sz)) 0 0 (va_A [((a_t 0), oX8 a_t v_t_isKept v_t_bestPost v_t_mostSeen v_t_taped v_t_from v_t_to v_t_isWrong), ((a_t 5), .inl (cy 0, 7, .inl f_t_found)), ((a_t 1), .inl (cy 0, 155, .inl f_t_s))] sz) := by
  refine Met.ofW (cc := cX8_fill) (maxL := 4) (ret := (some .int)) (by decide) rfl ?_
  intro p e s m args below meth c s₁ B hml hv
  obtain ⟨rfl, hsz, hP, hK, hD0⟩ := hv
  have hx := B.exec
  have hb := B.bytes
  have hr := B.returns
  have hts := atoms_spec (ws := wsX8_fill) B.pre
  have hown : s.vm.findClass RX8 = some m.cls := findClass_of_methodNamed B.named
  have hlocks := B.notSynchronized
  have lk1 := hts (Cond.constantLong RX8 89 (9)) (List.mem_of_getElem? (i := 1) rfl)
  have lk2 := hts (Cond.constantLong RX8 91 (4)) (List.mem_of_getElem? (i := 2) rfl)
  subst hsz
  have hD := hD0.self (sz := s.heap.size)
  generalize hAe : va_A [((a_t 0), oX8 a_t v_t_isKept v_t_bestPost v_t_mostSeen v_t_taped v_t_from v_t_to v_t_isWrong), ((a_t 5), .inl (cy 0, 7, .inl f_t_found)), ((a_t 1), .inl (cy 0, 155, .inl f_t_s))] s.heap.size = A at hD ⊢
  have hA : ∀ q : Nat, s.heap.size ≤ q → A q := fun q h => by rw [← hAe]; exact Or.inr h
  have hS : va_S A s.heap s.heap [] := va_S.rf
  have hP : va_P (dC, dI) vwCl [((a_t 0), oX8 a_t v_t_isKept v_t_bestPost v_t_mostSeen v_t_taped v_t_from v_t_to v_t_isWrong), ((a_t 5), .inl (cy 0, 7, .inl f_t_found)), ((a_t 1), .inl (cy 0, 155, .inl f_t_s))] s.heap := hP
  have hl := lv_entry ([.ref (a_t 0), .int p1, .int p2, .int p3]) (n := 4) (Nat.le_of_ble_eq_true rfl)
  rw [lg_entry_eq]
  generalize (lg_sl ([.ref (a_t 0), .int p1, .int p2, .int p3]) ++ List.replicate (4 - (lg_sl ([.ref (a_t 0), .int p1, .int p2, .int p3])).length) Slot.unset).toArray = ls at hl ⊢
  have hl : lv_has ls 4 [(0, .ref (a_t 0)), (1, .int p1), (2, .int p2), (3, .int p3)] := hl
  unfold uX8_fill at h
  refine bb_cap (fun WW toW ofW => ?_)
  refine lv_iload_n hx hb dX8_fill_0 rfl (lv_at hl 1 rfl) ?_
  obtain ⟨r1, hc2, h⟩ := bb_b1_o h
  refine vp_callSi (W.runS (As := [.int p1]) (rest := []) ⟨hx, hb, hml, hown, hts⟩ (kX8_isCell l dC dI cy p1 r1 hc2) (va_cwS 1 hts gX8_fill_X8_isCell rfl rfl rfl kdX8_isCell ⟨Nat.le_of_ble_eq_true rfl, Nat.le_of_ble_eq_true rfl⟩) (bb_preS (hP.sub (ws' := []) [] rfl) hK) rfl rfl hl.1 rfl (lv_room (Nat.le_of_ble_eq_true rfl)) dX8_fill_1 ⟨Nat.zero_le _, Nat.zero_le _⟩) (fun t3 et3 => ?_)
  obtain ⟨rfl, hz4⟩ := et3
  refine lv_if_eq (tgt := 39) hx hb dX8_fill_4 (by decide) (fun c5 => ?_) (fun c5 => ?_)
  · replace h := bb_ifp c5 h
    refine lv_aload_n hx hb dX8_fill_39 rfl (lv_at hl 0 rfl) ?_
    refine lv_iconst (v := (0 : Int32)) hx hb dX8_fill_40 (by decide) ?_
    obtain ⟨r6, w7, hc8, h⟩ := bb_b2_o h
    refine bb_cwi (wr := [((a_t 1), .inl (cy 0, 155, .inl f_t_s))]) (w1 := [((a_t 0), oX8 a_t v_t_isKept v_t_bestPost v_t_mostSeen v_t_taped v_t_from v_t_to v_t_isWrong), ((a_t 5), .inl (cy 0, 7, .inl w7))]) (va_runV (As := [.int (0 : Int32)]) (rest := []) ⟨hx, hb, hml, hown, hts⟩ (kX8_finds l dC dI cy s.heap.size a_t (0 : Int32) v_t_isKept v_t_bestPost v_t_mostSeen v_t_taped v_t_from v_t_to v_t_isWrong f_t_found r6 w7 hc8) (cwV 1 hts gX8_fill_X8_finds rfl rfl rfl kdX8_finds ⟨Nat.le_of_ble_eq_true rfl, Nat.le_of_ble_eq_true rfl⟩) (bb_preVw (va_recv hK hP (ci := 7) (q0 := 0) rfl rfl) (hP.sub (ws' := [((a_t 0), oX8 a_t v_t_isKept v_t_bestPost v_t_mostSeen v_t_taped v_t_from v_t_to v_t_isWrong), ((a_t 5), .inl (cy 0, 7, .inl f_t_found))]) [0, 1] rfl) hK (hD.sub (ws' := [((a_t 0), oX8 a_t v_t_isKept v_t_bestPost v_t_mostSeen v_t_taped v_t_from v_t_to v_t_isWrong), ((a_t 5), .inl (cy 0, 7, .inl f_t_found))]) [0, 1] (by decide) rfl)) rfl rfl hl.1 rfl (lv_room (Nat.le_of_ble_eq_true rfl)) dX8_fill_41 ⟨Nat.zero_le _, Nat.zero_le _⟩) hP hD hS hA [0, 1] [2] rfl rfl (by decide) (by decide) (fun H locs hP hD hS => ?_)
    have hP : va_P (dC, dI) vwCl [((a_t 1), .inl (cy 0, 155, .inl f_t_s)), ((a_t 0), oX8 a_t v_t_isKept v_t_bestPost v_t_mostSeen v_t_taped v_t_from v_t_to v_t_isWrong), ((a_t 5), .inl (cy 0, 7, .inl w7))] H := hP
    have hD : va_D A [((a_t 1), .inl (cy 0, 155, .inl f_t_s)), ((a_t 0), oX8 a_t v_t_isKept v_t_bestPost v_t_mostSeen v_t_taped v_t_from v_t_to v_t_isWrong), ((a_t 5), .inl (cy 0, 7, .inl w7))] := hD
    obtain ⟨rfl, rfl, rfl⟩ := bb_some3 h
    have hP9 := hP.sub (ws' := [((a_t 0), oX8 a_t v_t_isKept v_t_bestPost v_t_mostSeen v_t_taped v_t_from v_t_to v_t_isWrong), ((a_t 5), .inl (cy 0, 7, .inl w7)), ((a_t 1), .inl (cy 0, 155, .inl f_t_s))]) [1, 2, 0] rfl
    have hD9 := hD.sub (ws' := [((a_t 0), oX8 a_t v_t_isKept v_t_bestPost v_t_mostSeen v_t_taped v_t_from v_t_to v_t_isWrong), ((a_t 5), .inl (cy 0, 7, .inl w7)), ((a_t 1), .inl (cy 0, 155, .inl f_t_s))]) [1, 2, 0] (by decide) rfl
    exact W.iret hx hb hr (fun t ht hW => ⟨⟨_, (), rfl, rfl, by rw [ht]; exact hP9, va_K.moved hW.alike hK, hD9⟩, hS.F ht⟩) hS.2.2 dX8_fill_44
  · replace h := bb_ifn c5 h
    refine lv_iload_n hx hb dX8_fill_7 rfl (lv_at hl 2 rfl) ?_
    refine lv_i2l hx hb dX8_fill_8 rfl ?_
    refine lv_lconst (v := (0 : Int64)) hx hb dX8_fill_9 (by decide) ?_
    refine lv_lconst (v := (1 : Int64)) hx hb dX8_fill_10 (by decide) ?_
    obtain ⟨r9, hc10, h⟩ := bb_b1_o h
    refine vp_callSi (W.runS (As := [.long p2.toInt64, .long (0 : Int64), .long (1 : Int64)]) (rest := []) ⟨hx, hb, hml, hown, hts⟩ (kX8_in l dC dI cy p2.toInt64 (0 : Int64) (1 : Int64) r9 hc10) (va_cwS 3 hts gX8_fill_X8_in rfl rfl rfl kdX8_in ⟨Nat.le_of_ble_eq_true rfl, Nat.le_of_ble_eq_true rfl⟩) (bb_preS (hP.sub (ws' := []) [] rfl) hK) rfl rfl hl.1 rfl (lv_room (Nat.le_of_ble_eq_true rfl)) dX8_fill_11 ⟨Nat.zero_le _, Nat.zero_le _⟩) (fun t11 et11 => ?_)
    obtain ⟨rfl, hz12⟩ := et11
    refine lv_if_eq (tgt := 39) hx hb dX8_fill_14 (by decide) (fun c13 => ?_) (fun c13 => ?_)
    · replace h := bb_ifp c13 h
      refine lv_aload_n hx hb dX8_fill_39 rfl (lv_at hl 0 rfl) ?_
      refine lv_iconst (v := (0 : Int32)) hx hb dX8_fill_40 (by decide) ?_
      obtain ⟨r14, w15, hc16, h⟩ := bb_b2_o h
      refine bb_cwi (wr := [((a_t 1), .inl (cy 0, 155, .inl f_t_s))]) (w1 := [((a_t 0), oX8 a_t v_t_isKept v_t_bestPost v_t_mostSeen v_t_taped v_t_from v_t_to v_t_isWrong), ((a_t 5), .inl (cy 0, 7, .inl w15))]) (va_runV (As := [.int (0 : Int32)]) (rest := []) ⟨hx, hb, hml, hown, hts⟩ (kX8_finds l dC dI cy s.heap.size a_t (0 : Int32) v_t_isKept v_t_bestPost v_t_mostSeen v_t_taped v_t_from v_t_to v_t_isWrong f_t_found r14 w15 hc16) (cwV 1 hts gX8_fill_X8_finds rfl rfl rfl kdX8_finds ⟨Nat.le_of_ble_eq_true rfl, Nat.le_of_ble_eq_true rfl⟩) (bb_preVw (va_recv hK hP (ci := 7) (q0 := 0) rfl rfl) (hP.sub (ws' := [((a_t 0), oX8 a_t v_t_isKept v_t_bestPost v_t_mostSeen v_t_taped v_t_from v_t_to v_t_isWrong), ((a_t 5), .inl (cy 0, 7, .inl f_t_found))]) [0, 1] rfl) hK (hD.sub (ws' := [((a_t 0), oX8 a_t v_t_isKept v_t_bestPost v_t_mostSeen v_t_taped v_t_from v_t_to v_t_isWrong), ((a_t 5), .inl (cy 0, 7, .inl f_t_found))]) [0, 1] (by decide) rfl)) rfl rfl hl.1 rfl (lv_room (Nat.le_of_ble_eq_true rfl)) dX8_fill_41 ⟨Nat.zero_le _, Nat.zero_le _⟩) hP hD hS hA [0, 1] [2] rfl rfl (by decide) (by decide) (fun H locs hP hD hS => ?_)
      have hP : va_P (dC, dI) vwCl [((a_t 1), .inl (cy 0, 155, .inl f_t_s)), ((a_t 0), oX8 a_t v_t_isKept v_t_bestPost v_t_mostSeen v_t_taped v_t_from v_t_to v_t_isWrong), ((a_t 5), .inl (cy 0, 7, .inl w15))] H := hP
      have hD : va_D A [((a_t 1), .inl (cy 0, 155, .inl f_t_s)), ((a_t 0), oX8 a_t v_t_isKept v_t_bestPost v_t_mostSeen v_t_taped v_t_from v_t_to v_t_isWrong), ((a_t 5), .inl (cy 0, 7, .inl w15))] := hD
      obtain ⟨rfl, rfl, rfl⟩ := bb_some3 h
      have hP9 := hP.sub (ws' := [((a_t 0), oX8 a_t v_t_isKept v_t_bestPost v_t_mostSeen v_t_taped v_t_from v_t_to v_t_isWrong), ((a_t 5), .inl (cy 0, 7, .inl w15)), ((a_t 1), .inl (cy 0, 155, .inl f_t_s))]) [1, 2, 0] rfl
      have hD9 := hD.sub (ws' := [((a_t 0), oX8 a_t v_t_isKept v_t_bestPost v_t_mostSeen v_t_taped v_t_from v_t_to v_t_isWrong), ((a_t 5), .inl (cy 0, 7, .inl w15)), ((a_t 1), .inl (cy 0, 155, .inl f_t_s))]) [1, 2, 0] (by decide) rfl
      exact W.iret hx hb hr (fun t ht hW => ⟨⟨_, (), rfl, rfl, by rw [ht]; exact hP9, va_K.moved hW.alike hK, hD9⟩, hS.F ht⟩) hS.2.2 dX8_fill_44
    · replace h := bb_ifn c13 h
      refine lv_iload_n hx hb dX8_fill_17 rfl (lv_at hl 3 rfl) ?_
      refine lv_i2l hx hb dX8_fill_18 rfl ?_
      refine lv_lconst (v := (0 : Int64)) hx hb dX8_fill_19 (by decide) ?_
      refine lv_iload_n hx hb dX8_fill_20 rfl (lv_at hl 2 rfl) ?_
      obtain ⟨k18, ek18, h⟩ := bb_cut_o h
      have Jk18 : ∀ (z17 : Int64) (H : Heap) (locs : List Loc) (ls : Array Slot), k18 z17 = some (r, f_t_found_o, f_t_s_o) → va_P (dC, dI) vwCl [((a_t 0), oX8 a_t v_t_isKept v_t_bestPost v_t_mostSeen v_t_taped v_t_from v_t_to v_t_isWrong), ((a_t 5), .inl (cy 0, 7, .inl f_t_found)), ((a_t 1), .inl (cy 0, 155, .inl f_t_s))] H → va_D A [((a_t 0), oX8 a_t v_t_isKept v_t_bestPost v_t_mostSeen v_t_taped v_t_from v_t_to v_t_isWrong), ((a_t 5), .inl (cy 0, 7, .inl f_t_found)), ((a_t 1), .inl (cy 0, 155, .inl f_t_s))] → va_S A s.heap H locs → lv_has ls 4 [(0, .ref (a_t 0)), (1, .int p1), (2, .int p2), (3, .int p3)] → WW H locs (F0 m 33 ls [.long z17, .long (0 : Int64), .long p3.toInt64]) := by
        intro z17 H locs ls h hP hD hS hl
        refine ofW _ _ _ ?_
        subst ek18
        obtain ⟨r19, hc20, h⟩ := bb_b1_o h
        refine vp_callSi (W.runS (As := [.long p3.toInt64, .long (0 : Int64), .long z17]) (rest := []) ⟨hx, hb, hml, hown, hts⟩ (kX8_in l dC dI cy p3.toInt64 (0 : Int64) z17 r19 hc20) (va_cwS 3 hts gX8_fill_X8_in rfl rfl rfl kdX8_in ⟨Nat.le_of_ble_eq_true rfl, Nat.le_of_ble_eq_true rfl⟩) (bb_preS (hP.sub (ws' := []) [] rfl) hK) rfl rfl hl.1 rfl (lv_room (Nat.le_of_ble_eq_true rfl)) dX8_fill_33 ⟨Nat.zero_le _, Nat.zero_le _⟩) (fun t21 et21 => ?_)
        obtain ⟨rfl, hz22⟩ := et21
        refine lv_if_ne (tgt := 45) hx hb dX8_fill_36 (by decide) (fun c23 => ?_) (fun c23 => ?_)
        · replace h := bb_ifn c23 h
          refine lv_aload_n hx hb dX8_fill_45 rfl (lv_at hl 0 rfl) ?_
          refine lv_iload_n hx hb dX8_fill_46 rfl (lv_at hl 2 rfl) ?_
          refine lv_if_ne (tgt := 55) hx hb dX8_fill_47 (by decide) (fun c24 => ?_) (fun c24 => ?_)
          · replace h := bb_ifn c24 h
            refine lv_bipush (v := (57 : Int32)) hx hb dX8_fill_55 (by decide) ?_
            refine lv_iload_n hx hb dX8_fill_57 rfl (lv_at hl 1 rfl) ?_
            refine lv_iadd hx hb dX8_fill_58 ?_
            refine lv_iload_n hx hb dX8_fill_59 rfl (lv_at hl 3 rfl) ?_
            obtain ⟨r25, w26, hc27, h⟩ := bb_b2_o h
            refine bb_cwi (wr := [((a_t 5), .inl (cy 0, 7, .inl f_t_found))]) (w1 := [((a_t 0), oX8 a_t v_t_isKept v_t_bestPost v_t_mostSeen v_t_taped v_t_from v_t_to v_t_isWrong), ((a_t 1), .inl (cy 0, 155, .inl w26))]) (va_runV (As := [.int ((57 : Int32) + p1), .int p3]) (rest := []) ⟨hx, hb, hml, hown, hts⟩ (kX8_becomes l dC dI cy H.size a_t ((57 : Int32) + p1) p3 v_t_isKept v_t_bestPost v_t_mostSeen v_t_taped v_t_from v_t_to v_t_isWrong f_t_s r25 w26 hc27) (cwV 2 hts gX8_fill_X8_becomes rfl rfl rfl kdX8_becomes ⟨Nat.le_of_ble_eq_true rfl, Nat.le_of_ble_eq_true rfl⟩) (bb_preVw (va_recv hK hP (ci := 7) (q0 := 0) rfl rfl) (hP.sub (ws' := [((a_t 0), oX8 a_t v_t_isKept v_t_bestPost v_t_mostSeen v_t_taped v_t_from v_t_to v_t_isWrong), ((a_t 1), .inl (cy 0, 155, .inl f_t_s))]) [0, 2] rfl) hK (hD.sub (ws' := [((a_t 0), oX8 a_t v_t_isKept v_t_bestPost v_t_mostSeen v_t_taped v_t_from v_t_to v_t_isWrong), ((a_t 1), .inl (cy 0, 155, .inl f_t_s))]) [0, 2] (by decide) rfl)) rfl rfl hl.1 rfl (lv_room (Nat.le_of_ble_eq_true rfl)) dX8_fill_60 ⟨Nat.zero_le _, Nat.zero_le _⟩) hP hD hS hA [0, 2] [1] rfl rfl (by decide) (by decide) (fun H locs hP hD hS => ?_)
            have hP : va_P (dC, dI) vwCl [((a_t 5), .inl (cy 0, 7, .inl f_t_found)), ((a_t 0), oX8 a_t v_t_isKept v_t_bestPost v_t_mostSeen v_t_taped v_t_from v_t_to v_t_isWrong), ((a_t 1), .inl (cy 0, 155, .inl w26))] H := hP
            have hD : va_D A [((a_t 5), .inl (cy 0, 7, .inl f_t_found)), ((a_t 0), oX8 a_t v_t_isKept v_t_bestPost v_t_mostSeen v_t_taped v_t_from v_t_to v_t_isWrong), ((a_t 1), .inl (cy 0, 155, .inl w26))] := hD
            obtain ⟨rfl, rfl, rfl⟩ := bb_some3 h
            have hP9 := hP.sub (ws' := [((a_t 0), oX8 a_t v_t_isKept v_t_bestPost v_t_mostSeen v_t_taped v_t_from v_t_to v_t_isWrong), ((a_t 5), .inl (cy 0, 7, .inl f_t_found)), ((a_t 1), .inl (cy 0, 155, .inl w26))]) [1, 0, 2] rfl
            have hD9 := hD.sub (ws' := [((a_t 0), oX8 a_t v_t_isKept v_t_bestPost v_t_mostSeen v_t_taped v_t_from v_t_to v_t_isWrong), ((a_t 5), .inl (cy 0, 7, .inl f_t_found)), ((a_t 1), .inl (cy 0, 155, .inl w26))]) [1, 0, 2] (by decide) rfl
            exact W.iret hx hb hr (fun t ht hW => ⟨⟨_, (), rfl, rfl, by rw [ht]; exact hP9, va_K.moved hW.alike hK, hD9⟩, hS.F ht⟩) hS.2.2 dX8_fill_63
          · replace h := bb_ifp c24 h
            refine lv_bipush (v := (9 : Int32)) hx hb dX8_fill_50 (by decide) ?_
            refine lv_goto (tgt := 57) hx hb dX8_fill_52 (by decide) ?_
            refine lv_iload_n hx hb dX8_fill_57 rfl (lv_at hl 1 rfl) ?_
            refine lv_iadd hx hb dX8_fill_58 ?_
            refine lv_iload_n hx hb dX8_fill_59 rfl (lv_at hl 3 rfl) ?_
            obtain ⟨r28, w29, hc30, h⟩ := bb_b2_o h
            refine bb_cwi (wr := [((a_t 5), .inl (cy 0, 7, .inl f_t_found))]) (w1 := [((a_t 0), oX8 a_t v_t_isKept v_t_bestPost v_t_mostSeen v_t_taped v_t_from v_t_to v_t_isWrong), ((a_t 1), .inl (cy 0, 155, .inl w29))]) (va_runV (As := [.int ((9 : Int32) + p1), .int p3]) (rest := []) ⟨hx, hb, hml, hown, hts⟩ (kX8_becomes l dC dI cy H.size a_t ((9 : Int32) + p1) p3 v_t_isKept v_t_bestPost v_t_mostSeen v_t_taped v_t_from v_t_to v_t_isWrong f_t_s r28 w29 hc30) (cwV 2 hts gX8_fill_X8_becomes rfl rfl rfl kdX8_becomes ⟨Nat.le_of_ble_eq_true rfl, Nat.le_of_ble_eq_true rfl⟩) (bb_preVw (va_recv hK hP (ci := 7) (q0 := 0) rfl rfl) (hP.sub (ws' := [((a_t 0), oX8 a_t v_t_isKept v_t_bestPost v_t_mostSeen v_t_taped v_t_from v_t_to v_t_isWrong), ((a_t 1), .inl (cy 0, 155, .inl f_t_s))]) [0, 2] rfl) hK (hD.sub (ws' := [((a_t 0), oX8 a_t v_t_isKept v_t_bestPost v_t_mostSeen v_t_taped v_t_from v_t_to v_t_isWrong), ((a_t 1), .inl (cy 0, 155, .inl f_t_s))]) [0, 2] (by decide) rfl)) rfl rfl hl.1 rfl (lv_room (Nat.le_of_ble_eq_true rfl)) dX8_fill_60 ⟨Nat.zero_le _, Nat.zero_le _⟩) hP hD hS hA [0, 2] [1] rfl rfl (by decide) (by decide) (fun H locs hP hD hS => ?_)
            have hP : va_P (dC, dI) vwCl [((a_t 5), .inl (cy 0, 7, .inl f_t_found)), ((a_t 0), oX8 a_t v_t_isKept v_t_bestPost v_t_mostSeen v_t_taped v_t_from v_t_to v_t_isWrong), ((a_t 1), .inl (cy 0, 155, .inl w29))] H := hP
            have hD : va_D A [((a_t 5), .inl (cy 0, 7, .inl f_t_found)), ((a_t 0), oX8 a_t v_t_isKept v_t_bestPost v_t_mostSeen v_t_taped v_t_from v_t_to v_t_isWrong), ((a_t 1), .inl (cy 0, 155, .inl w29))] := hD
            obtain ⟨rfl, rfl, rfl⟩ := bb_some3 h
            have hP9 := hP.sub (ws' := [((a_t 0), oX8 a_t v_t_isKept v_t_bestPost v_t_mostSeen v_t_taped v_t_from v_t_to v_t_isWrong), ((a_t 5), .inl (cy 0, 7, .inl f_t_found)), ((a_t 1), .inl (cy 0, 155, .inl w29))]) [1, 0, 2] rfl
            have hD9 := hD.sub (ws' := [((a_t 0), oX8 a_t v_t_isKept v_t_bestPost v_t_mostSeen v_t_taped v_t_from v_t_to v_t_isWrong), ((a_t 5), .inl (cy 0, 7, .inl f_t_found)), ((a_t 1), .inl (cy 0, 155, .inl w29))]) [1, 0, 2] (by decide) rfl
            exact W.iret hx hb hr (fun t ht hW => ⟨⟨_, (), rfl, rfl, by rw [ht]; exact hP9, va_K.moved hW.alike hK, hD9⟩, hS.F ht⟩) hS.2.2 dX8_fill_63
        · replace h := bb_ifp c23 h
          refine lv_aload_n hx hb dX8_fill_39 rfl (lv_at hl 0 rfl) ?_
          refine lv_iconst (v := (0 : Int32)) hx hb dX8_fill_40 (by decide) ?_
          obtain ⟨r31, w32, hc33, h⟩ := bb_b2_o h
          refine bb_cwi (wr := [((a_t 1), .inl (cy 0, 155, .inl f_t_s))]) (w1 := [((a_t 0), oX8 a_t v_t_isKept v_t_bestPost v_t_mostSeen v_t_taped v_t_from v_t_to v_t_isWrong), ((a_t 5), .inl (cy 0, 7, .inl w32))]) (va_runV (As := [.int (0 : Int32)]) (rest := []) ⟨hx, hb, hml, hown, hts⟩ (kX8_finds l dC dI cy H.size a_t (0 : Int32) v_t_isKept v_t_bestPost v_t_mostSeen v_t_taped v_t_from v_t_to v_t_isWrong f_t_found r31 w32 hc33) (cwV 1 hts gX8_fill_X8_finds rfl rfl rfl kdX8_finds ⟨Nat.le_of_ble_eq_true rfl, Nat.le_of_ble_eq_true rfl⟩) (bb_preVw (va_recv hK hP (ci := 7) (q0 := 0) rfl rfl) (hP.sub (ws' := [((a_t 0), oX8 a_t v_t_isKept v_t_bestPost v_t_mostSeen v_t_taped v_t_from v_t_to v_t_isWrong), ((a_t 5), .inl (cy 0, 7, .inl f_t_found))]) [0, 1] rfl) hK (hD.sub (ws' := [((a_t 0), oX8 a_t v_t_isKept v_t_bestPost v_t_mostSeen v_t_taped v_t_from v_t_to v_t_isWrong), ((a_t 5), .inl (cy 0, 7, .inl f_t_found))]) [0, 1] (by decide) rfl)) rfl rfl hl.1 rfl (lv_room (Nat.le_of_ble_eq_true rfl)) dX8_fill_41 ⟨Nat.zero_le _, Nat.zero_le _⟩) hP hD hS hA [0, 1] [2] rfl rfl (by decide) (by decide) (fun H locs hP hD hS => ?_)
          have hP : va_P (dC, dI) vwCl [((a_t 1), .inl (cy 0, 155, .inl f_t_s)), ((a_t 0), oX8 a_t v_t_isKept v_t_bestPost v_t_mostSeen v_t_taped v_t_from v_t_to v_t_isWrong), ((a_t 5), .inl (cy 0, 7, .inl w32))] H := hP
          have hD : va_D A [((a_t 1), .inl (cy 0, 155, .inl f_t_s)), ((a_t 0), oX8 a_t v_t_isKept v_t_bestPost v_t_mostSeen v_t_taped v_t_from v_t_to v_t_isWrong), ((a_t 5), .inl (cy 0, 7, .inl w32))] := hD
          obtain ⟨rfl, rfl, rfl⟩ := bb_some3 h
          have hP9 := hP.sub (ws' := [((a_t 0), oX8 a_t v_t_isKept v_t_bestPost v_t_mostSeen v_t_taped v_t_from v_t_to v_t_isWrong), ((a_t 5), .inl (cy 0, 7, .inl w32)), ((a_t 1), .inl (cy 0, 155, .inl f_t_s))]) [1, 2, 0] rfl
          have hD9 := hD.sub (ws' := [((a_t 0), oX8 a_t v_t_isKept v_t_bestPost v_t_mostSeen v_t_taped v_t_from v_t_to v_t_isWrong), ((a_t 5), .inl (cy 0, 7, .inl w32)), ((a_t 1), .inl (cy 0, 155, .inl f_t_s))]) [1, 2, 0] (by decide) rfl
          exact W.iret hx hb hr (fun t ht hW => ⟨⟨_, (), rfl, rfl, by rw [ht]; exact hP9, va_K.moved hW.alike hK, hD9⟩, hS.F ht⟩) hS.2.2 dX8_fill_44
      refine lv_if_ne (tgt := 30) hx hb dX8_fill_21 (by decide) (fun c34 => ?_) (fun c34 => ?_)
      · replace h := bb_ifn c34 h
        refine lv_ldc2 (v := (4 : Int64)) hx hb hown lk2 dX8_fill_30 ?_
        exact toW _ _ _ (Jk18 (4 : Int64) _ _ _ h hP hD hS (lv_sub hl [0, 1, 2, 3] rfl))
      · replace h := bb_ifp c34 h
        refine lv_ldc2 (v := (9 : Int64)) hx hb hown lk1 dX8_fill_24 ?_
        refine lv_goto (tgt := 33) hx hb dX8_fill_27 (by decide) ?_
        exact toW _ _ _ (Jk18 (9 : Int64) _ _ _ h hP hD hS (lv_sub hl [0, 1, 2, 3] rfl))
/-! X8_manyAt -/
def uX8_manyAt_s4 (x1_3 : Int32) (f_t_s_4 : Nat → Int32) (rec5 : Int32 → Int32 → Option (Int32)) (x2_1 : Int32) (x3_2 : Int32) : Option (Int32) :=
  (if (f_t_s_4 (1 : Int32).toNatClampNeg) ≤ x3_2 then some x2_1 else bb_b1 (uX8_its x3_2 (1 : Int32) f_t_s_4) (fun (r9 : Int32) => bb_cut (fun (z12 : Int32) => rec5 (x2_1 + z12) (x3_2 + (1 : Int32))) (fun k13 => (if r9 = x1_3 then k13 (1 : Int32) else k13 (0 : Int32)))))
def uX8_manyAt (nn : Nat) (p1 : Int32) (f_t_s : Nat → Int32) : Option (Int32) :=
  bb_loop2 (uX8_manyAt_s4 p1 f_t_s) nn (0 : Int32) (0 : Int32)
theorem kdX8_manyAt : yX8_manyAt.cls = RX8 ∧ yX8_manyAt.cls ≠ "java/lang/invoke/MethodHandle" ∧ yX8_manyAt.cls ≠ "java/lang/invoke/VarHandle" ∧ (parseMethodDescriptor yX8_manyAt.desc).map (fun d => d.parameters.length) = some 1 := by decide +kernel
set_option maxHeartbeats 4000000 in
set_option maxRecDepth 100000 in
theorem kX8_manyAt (l : Launch) (dC : Nat → ClassId) (dI : Nat → Nat → Nat) (cy : Nat → ClassId) (a_t : Nat → Nat) (p1 : Int32) (v_t_isKept : Int32) (v_t_bestPost : Int32) (v_t_mostSeen : Int32) (v_t_taped : Int32) (v_t_from : Int32) (v_t_to : Int32) (v_t_isWrong : Int32) (f_t_s : Nat → Int32) (nn : Nat) (r : Int32) (h : uX8_manyAt nn p1 f_t_s = some r) : Met l yX8_manyAt wsX8_manyAt ({ frames := 1, cells := 0, slots := 0, locals := 22 }) (va_Pc [.ref (a_t 0), .int p1] (fun U => va_P (dC, dI) vwCl [((a_t 0), oX8 a_t v_t_isKept v_t_bestPost v_t_mostSeen v_t_taped v_t_from v_t_to v_t_isWrong), ((a_t 1), .inl (cy 0, 155, .inl f_t_s))] U.heap ∧ va_K (dC, dI) vwCl (tyX cy) U)) (vp_Si (fun r2 => r = r2)) 0 0 (fun _ => False) := by
  refine Met.ofW (cc := cX8_manyAt) (maxL := 4) (ret := (some .int)) (by decide) rfl ?_
  intro p e s m args below meth c s₁ B hml hv
  obtain ⟨rfl, hP, hK⟩ := hv
  have hx := B.exec
  have hb := B.bytes
  have hr := B.returns
  have hts := atoms_spec (ws := wsX8_manyAt) B.pre
  have hown : s.vm.findClass RX8 = some m.cls := findClass_of_methodNamed B.named
  have hlocks := B.notSynchronized
  have iwX8 : ∀ w ∈ wsX80, w ∈ wsX8_manyAt := fun w h9 => List.mem_cons_of_mem _ (List.mem_append_right _ (h9))
  have lk1 := hts (Cond.fieldLink RX8 9 "BathBorderModel" "s" "[I") (List.mem_of_getElem? (i := 1) rfl)
  have hl := lv_entry ([.ref (a_t 0), .int p1]) (n := 4) (Nat.le_of_ble_eq_true rfl)
  rw [lg_entry_eq]
  generalize (lg_sl ([.ref (a_t 0), .int p1]) ++ List.replicate (4 - (lg_sl ([.ref (a_t 0), .int p1])).length) Slot.unset).toArray = ls at hl ⊢
  have hl : lv_has ls 4 [(0, .ref (a_t 0)), (1, .int p1)] := hl
  unfold uX8_manyAt at h
  refine bb_cap (fun WW toW ofW => ?_)
  refine lv_iconst (v := (0 : Int32)) hx hb dX8_manyAt_0 (by decide) ?_
  refine lv_istore_n (lv' := [(2, .int (0 : Int32)), (0, .ref (a_t 0)), (1, .int p1)]) hx hb dX8_manyAt_1 rfl hl (by decide) rfl (fun ls hl => ?_)
  refine lv_iconst (v := (0 : Int32)) hx hb dX8_manyAt_2 (by decide) ?_
  refine lv_istore_n (lv' := [(3, .int (0 : Int32)), (2, .int (0 : Int32)), (0, .ref (a_t 0)), (1, .int p1)]) hx hb dX8_manyAt_3 rfl hl (by decide) rfl (fun ls hl => ?_)
  have L6 : ∀ (n : Nat) (x2_1 : Int32) (x3_2 : Int32) (ls : Array Slot), bb_loop2 (uX8_manyAt_s4 p1 f_t_s) n x2_1 x3_2 = some r → lv_has ls 4 [(0, .ref (a_t 0)), (1, .int p1), (2, .int x2_1), (3, .int x3_2)] → WW s.heap [] (F0 m 4 ls []) := by
    intro n
    induction n with
    | zero => intro x2_1 x3_2 ls h; exact (bb_no h).elim
    | succ n ih7 =>
      intro x2_1 x3_2 ls h hl
      refine ofW _ _ _ ?_
      obtain ⟨rec5, erec5, h⟩ := bb_loop2_o h
      unfold uX8_manyAt_s4 at h
      refine lv_iload_n hx hb dX8_manyAt_4 rfl (lv_at hl 3 rfl) ?_
      refine lv_aload_n hx hb dX8_manyAt_5 rfl (lv_at hl 0 rfl) ?_
      refine va_get (D := (dC, dI)) (ci := 7) (v := .ref (a_t 1)) (C := RX8) (T := TX8) (N := 20) hx hb hts iwX8 hown hK hP 0 rfl rfl 0 (by decide) lk1 (fun _ h9 => h9) rfl dX8_manyAt_6 ?_
      refine lv_iconst (v := (1 : Int32)) hx hb dX8_manyAt_9 (by decide) ?_
      refine va_iald hx hb hK hP 1 0 rfl rfl (bb_in (by decide)) dX8_manyAt_10 ?_
      refine lv_icmp_ge (tgt := 38) hx hb dX8_manyAt_11 (by decide) (fun c8 => ?_) (fun c8 => ?_)
      · replace h := bb_ifp c8 h
        refine lv_iload_n hx hb dX8_manyAt_38 rfl (lv_at hl 2 rfl) ?_
        obtain rfl := bb_some1 h
        exact W.iret hx hb hr (fun t ht hW => ⟨_, rfl, rfl, ht⟩) (fun q hq => by cases hq) dX8_manyAt_39
      · replace h := bb_ifn c8 h
        refine lv_iload_n hx hb dX8_manyAt_14 rfl (lv_at hl 2 rfl) ?_
        refine lv_aload_n hx hb dX8_manyAt_15 rfl (lv_at hl 0 rfl) ?_
        refine lv_iload_n hx hb dX8_manyAt_16 rfl (lv_at hl 3 rfl) ?_
        refine lv_iconst (v := (1 : Int32)) hx hb dX8_manyAt_17 (by decide) ?_
        obtain ⟨r9, hc10, h⟩ := bb_b1_o h
        refine vp_callSi (W.runV (As := [.int x3_2, .int (1 : Int32)]) (rest := [.int x2_1]) ⟨hx, hb, hml, hown, hts⟩ (kX8_its l dC dI cy a_t x3_2 (1 : Int32) v_t_isKept v_t_bestPost v_t_mostSeen v_t_taped v_t_from v_t_to v_t_isWrong f_t_s r9 hc10) (cwV 2 hts gX8_manyAt_X8_its rfl rfl rfl kdX8_its ⟨Nat.le_of_ble_eq_true rfl, Nat.le_of_ble_eq_true rfl⟩) (bb_preV (va_recv hK hP (ci := 7) (q0 := 0) rfl rfl) hP hK) rfl rfl hl.1 rfl (lv_room (Nat.le_of_ble_eq_true rfl)) dX8_manyAt_18 ⟨Nat.zero_le _, Nat.zero_le _⟩) (fun t11 et11 => ?_)
        obtain rfl := et11
        refine lv_iload_n hx hb dX8_manyAt_21 rfl (lv_at hl 1 rfl) ?_
        obtain ⟨k13, ek13, h⟩ := bb_cut_o h
        have Jk13 : ∀ (z12 : Int32) (ls : Array Slot), k13 z12 = some r → lv_has ls 4 [(0, .ref (a_t 0)), (1, .int p1), (3, .int x3_2)] → WW s.heap [] (F0 m 30 ls [.int z12, .int x2_1]) := by
          intro z12 ls h hl
          refine ofW _ _ _ ?_
          subst ek13
          refine lv_iadd hx hb dX8_manyAt_30 ?_
          refine lv_istore_n (lv' := [(2, .int (x2_1 + z12)), (0, .ref (a_t 0)), (1, .int p1), (3, .int x3_2)]) hx hb dX8_manyAt_31 rfl hl (by decide) rfl (fun ls hl => ?_)
          refine lv_iinc (v := x3_2 + (1 : Int32)) (lv' := [(3, .int (x3_2 + (1 : Int32))), (2, .int (x2_1 + z12)), (0, .ref (a_t 0)), (1, .int p1)]) hx hb dX8_manyAt_32 hl (k := 3) rfl rfl (by decide) rfl (fun ls hl => ?_)
          refine lv_goto (tgt := 4) hx hb dX8_manyAt_35 (by decide) ?_
          rw [erec5] at h
          exact toW _ _ _ (ih7 (x2_1 + z12) (x3_2 + (1 : Int32)) _ h (lv_sub hl [2, 3, 1, 0] rfl))
        refine lv_icmp_ne (tgt := 29) hx hb dX8_manyAt_22 (by decide) (fun c14 => ?_) (fun c14 => ?_)
        · replace h := bb_ifn c14 h
          refine lv_iconst (v := (0 : Int32)) hx hb dX8_manyAt_29 (by decide) ?_
          exact toW _ _ _ (Jk13 (0 : Int32) _ h (lv_sub hl [0, 1, 3] rfl))
        · replace h := bb_ifp c14 h
          refine lv_iconst (v := (1 : Int32)) hx hb dX8_manyAt_25 (by decide) ?_
          refine lv_goto (tgt := 30) hx hb dX8_manyAt_26 (by decide) ?_
          exact toW _ _ _ (Jk13 (1 : Int32) _ h (lv_sub hl [0, 1, 3] rfl))
  exact toW _ _ _ (L6 nn (0 : Int32) (0 : Int32) _ h (lv_sub hl [2, 3, 1, 0] rfl))
/-! X8_cell -/
def uX8_cell (nn : Nat) (p1 : Int32) (p2 : Int32) (f_t_found : Nat → Int32) (f_t_s : Nat → Int32) : Option (Int32 × (Nat → Int32)) :=
  bb_b1 (uX8_isCell p1) (fun (r1 : Int32) => (if r1 = 0 then bb_b2 (uX8_finds (0 : Int32) f_t_found) (fun (r6 : Int32) (w7 : Nat → Int32) => some (r6, w7)) else bb_b1 (uX8_in p2.toInt64 (0 : Int64) (3 : Int64)) (fun (r9 : Int32) => (if r9 = 0 then bb_b2 (uX8_finds (0 : Int32) f_t_found) (fun (r25 : Int32) (w26 : Nat → Int32) => some (r25, w26)) else (if p2 = 0 then bb_ix ((9 : Int32) + p1) 155 (some (f_t_s ((9 : Int32) + p1).toNatClampNeg, f_t_found)) else (if p2 = (1 : Int32) then bb_ix ((57 : Int32) + p1) 155 (some (f_t_s ((57 : Int32) + p1).toNatClampNeg, f_t_found)) else (if p2 = (2 : Int32) then bb_b1 (uX8_seenBy nn p1 f_t_s) (fun (r20 : Int32) => some (r20, f_t_found)) else bb_b1 (uX8_manyAt nn p1 f_t_s) (fun (r17 : Int32) => some (r17, f_t_found)))))))))
theorem kdX8_cell : yX8_cell.cls = RX8 ∧ yX8_cell.cls ≠ "java/lang/invoke/MethodHandle" ∧ yX8_cell.cls ≠ "java/lang/invoke/VarHandle" ∧ (parseMethodDescriptor yX8_cell.desc).map (fun d => d.parameters.length) = some 2 := by decide +kernel
set_option maxHeartbeats 4000000 in
set_option maxRecDepth 100000 in
theorem kX8_cell (l : Launch) (dC : Nat → ClassId) (dI : Nat → Nat → Nat) (cy : Nat → ClassId) (sz : Nat) (a_t : Nat → Nat) (p1 : Int32) (p2 : Int32) (v_t_isKept : Int32) (v_t_bestPost : Int32) (v_t_mostSeen : Int32) (v_t_taped : Int32) (v_t_from : Int32) (v_t_to : Int32) (v_t_isWrong : Int32) (f_t_found : Nat → Int32) (f_t_s : Nat → Int32) (nn : Nat) (r : Int32) (f_t_found_o : Nat → Int32) (h : uX8_cell nn p1 p2 f_t_found f_t_s = some (r, f_t_found_o)) : Met l yX8_cell wsX8_cell ({ frames := 4, cells := 0, slots := 0, locals := 87 }) (va_Pc [.ref (a_t 0), .int p1, .int p2] (fun U => U.heap.size = sz ∧ va_P (dC, dI) vwCl [((a_t 0), oX8 a_t v_t_isKept v_t_bestPost v_t_mostSeen v_t_taped v_t_from v_t_to v_t_isWrong), ((a_t 5), .inl (cy 0, 7, .inl f_t_found)), ((a_t 1), .inl (cy 0, 155, .inl f_t_s))] U.heap ∧ va_K (dC, dI) vwCl (tyX cy) U ∧ va_D (fun _ => True) [((a_t 0), oX8 a_t v_t_isKept v_t_bestPost v_t_mostSeen v_t_taped v_t_from v_t_to v_t_isWrong), ((a_t 5), .inl (cy 0, 7, .inl f_t_found)), ((a_t 1), .inl (cy 0, 155, .inl f_t_s))])) (va_Qi (fun (r2 : Int32) (_ : Unit) => r = r2) (fun _ t => va_P (dC, dI) vwCl [((a_t 0), oX8 a_t v_t_isKept v_t_bestPost v_t_mostSeen v_t_taped v_t_from v_t_to v_t_isWrong), ((a_t 5), .inl (cy 0, 7, .inl f_t_found_o)), ((a_t 1), .inl (cy 0, 155, .inl f_t_s))] t.heap ∧ va_K (dC, dI) vwCl (tyX cy) t ∧ va_D (va_A [((a_t 0), oX8 a_t v_t_isKept v_t_bestPost v_t_mostSeen v_t_taped v_t_from v_t_to v_t_isWrong), ((a_t 5), .inl (cy 0, 7, .inl f_t_found)), ((a_t 1), .inl (cy 0, 155, .inl f_t_s))] sz) [((a_t 0), oX8 a_t v_t_isKept v_t_bestPost v_t_mostSeen v_t_taped v_t_from v_t_to v_t_isWrong), ((a_t 5), .inl (cy 0, 7, .inl f_t_found_o)), ((a_t 1), .inl (cy 0, 155, .inl f_t_s))]) (va_A [((a_t 0), oX8 a_t v_t_isKept v_t_bestPost v_t_mostSeen v_t_taped v_t_from v_t_to v_t_isWrong), ((a_t 5), .inl (cy 0, 7, .inl f_t_found)), ((a_t 1), .inl (cy 0, 155, .inl f_t_s))] sz)) 0 0 (va_A [((a_t 0), oX8 a_t v_t_isKept v_t_bestPost v_t_mostSeen v_t_taped v_t_from v_t_to v_t_isWrong), ((a_t 5), .inl (cy 0, 7, .inl f_t_found)), ((a_t 1), .inl (cy 0, 155, .inl f_t_s))] sz) := by
  refine Met.ofW (cc := cX8_cell) (maxL := 3) (ret := (some .int)) (by decide) rfl ?_
  intro p e s m args below meth c s₁ B hml hv
  obtain ⟨rfl, hsz, hP, hK, hD0⟩ := hv
  have hx := B.exec
  have hb := B.bytes
  have hr := B.returns
  have hts := atoms_spec (ws := wsX8_cell) B.pre
  have hown : s.vm.findClass RX8 = some m.cls := findClass_of_methodNamed B.named
  have hlocks := B.notSynchronized
  have iwX8 : ∀ w ∈ wsX80, w ∈ wsX8_cell := fun w h9 => List.mem_cons_of_mem _ (List.mem_append_right _ (h9))
  have lk1 := hts (Cond.constantLong RX8 62 (3)) (List.mem_of_getElem? (i := 1) rfl)
  have lk2 := hts (Cond.fieldLink RX8 9 "BathBorderModel" "s" "[I") (List.mem_of_getElem? (i := 2) rfl)
  subst hsz
  have hD := hD0.self (sz := s.heap.size)
  generalize hAe : va_A [((a_t 0), oX8 a_t v_t_isKept v_t_bestPost v_t_mostSeen v_t_taped v_t_from v_t_to v_t_isWrong), ((a_t 5), .inl (cy 0, 7, .inl f_t_found)), ((a_t 1), .inl (cy 0, 155, .inl f_t_s))] s.heap.size = A at hD ⊢
  have hA : ∀ q : Nat, s.heap.size ≤ q → A q := fun q h => by rw [← hAe]; exact Or.inr h
  have hS : va_S A s.heap s.heap [] := va_S.rf
  have hP : va_P (dC, dI) vwCl [((a_t 0), oX8 a_t v_t_isKept v_t_bestPost v_t_mostSeen v_t_taped v_t_from v_t_to v_t_isWrong), ((a_t 5), .inl (cy 0, 7, .inl f_t_found)), ((a_t 1), .inl (cy 0, 155, .inl f_t_s))] s.heap := hP
  have hl := lv_entry ([.ref (a_t 0), .int p1, .int p2]) (n := 3) (Nat.le_of_ble_eq_true rfl)
  rw [lg_entry_eq]
  generalize (lg_sl ([.ref (a_t 0), .int p1, .int p2]) ++ List.replicate (3 - (lg_sl ([.ref (a_t 0), .int p1, .int p2])).length) Slot.unset).toArray = ls at hl ⊢
  have hl : lv_has ls 3 [(0, .ref (a_t 0)), (1, .int p1), (2, .int p2)] := hl
  unfold uX8_cell at h
  refine bb_cap (fun WW toW ofW => ?_)
  refine lv_iload_n hx hb dX8_cell_0 rfl (lv_at hl 1 rfl) ?_
  obtain ⟨r1, hc2, h⟩ := bb_b1_o h
  refine vp_callSi (W.runS (As := [.int p1]) (rest := []) ⟨hx, hb, hml, hown, hts⟩ (kX8_isCell l dC dI cy p1 r1 hc2) (va_cwS 1 hts gX8_cell_X8_isCell rfl rfl rfl kdX8_isCell ⟨Nat.le_of_ble_eq_true rfl, Nat.le_of_ble_eq_true rfl⟩) (bb_preS (hP.sub (ws' := []) [] rfl) hK) rfl rfl hl.1 rfl (lv_room (Nat.le_of_ble_eq_true rfl)) dX8_cell_1 ⟨Nat.zero_le _, Nat.zero_le _⟩) (fun t3 et3 => ?_)
  obtain ⟨rfl, hz4⟩ := et3
  refine lv_if_eq (tgt := 19) hx hb dX8_cell_4 (by decide) (fun c5 => ?_) (fun c5 => ?_)
  · replace h := bb_ifp c5 h
    refine lv_aload_n hx hb dX8_cell_19 rfl (lv_at hl 0 rfl) ?_
    refine lv_iconst (v := (0 : Int32)) hx hb dX8_cell_20 (by decide) ?_
    obtain ⟨r6, w7, hc8, h⟩ := bb_b2_o h
    refine bb_cwi (wr := [((a_t 1), .inl (cy 0, 155, .inl f_t_s))]) (w1 := [((a_t 0), oX8 a_t v_t_isKept v_t_bestPost v_t_mostSeen v_t_taped v_t_from v_t_to v_t_isWrong), ((a_t 5), .inl (cy 0, 7, .inl w7))]) (va_runV (As := [.int (0 : Int32)]) (rest := []) ⟨hx, hb, hml, hown, hts⟩ (kX8_finds l dC dI cy s.heap.size a_t (0 : Int32) v_t_isKept v_t_bestPost v_t_mostSeen v_t_taped v_t_from v_t_to v_t_isWrong f_t_found r6 w7 hc8) (cwV 1 hts gX8_cell_X8_finds rfl rfl rfl kdX8_finds ⟨Nat.le_of_ble_eq_true rfl, Nat.le_of_ble_eq_true rfl⟩) (bb_preVw (va_recv hK hP (ci := 7) (q0 := 0) rfl rfl) (hP.sub (ws' := [((a_t 0), oX8 a_t v_t_isKept v_t_bestPost v_t_mostSeen v_t_taped v_t_from v_t_to v_t_isWrong), ((a_t 5), .inl (cy 0, 7, .inl f_t_found))]) [0, 1] rfl) hK (hD.sub (ws' := [((a_t 0), oX8 a_t v_t_isKept v_t_bestPost v_t_mostSeen v_t_taped v_t_from v_t_to v_t_isWrong), ((a_t 5), .inl (cy 0, 7, .inl f_t_found))]) [0, 1] (by decide) rfl)) rfl rfl hl.1 rfl (lv_room (Nat.le_of_ble_eq_true rfl)) dX8_cell_21 ⟨Nat.zero_le _, Nat.zero_le _⟩) hP hD hS hA [0, 1] [2] rfl rfl (by decide) (by decide) (fun H locs hP hD hS => ?_)
    have hP : va_P (dC, dI) vwCl [((a_t 1), .inl (cy 0, 155, .inl f_t_s)), ((a_t 0), oX8 a_t v_t_isKept v_t_bestPost v_t_mostSeen v_t_taped v_t_from v_t_to v_t_isWrong), ((a_t 5), .inl (cy 0, 7, .inl w7))] H := hP
    have hD : va_D A [((a_t 1), .inl (cy 0, 155, .inl f_t_s)), ((a_t 0), oX8 a_t v_t_isKept v_t_bestPost v_t_mostSeen v_t_taped v_t_from v_t_to v_t_isWrong), ((a_t 5), .inl (cy 0, 7, .inl w7))] := hD
    obtain ⟨rfl, rfl⟩ := bb_some2 h
    have hP9 := hP.sub (ws' := [((a_t 0), oX8 a_t v_t_isKept v_t_bestPost v_t_mostSeen v_t_taped v_t_from v_t_to v_t_isWrong), ((a_t 5), .inl (cy 0, 7, .inl w7)), ((a_t 1), .inl (cy 0, 155, .inl f_t_s))]) [1, 2, 0] rfl
    have hD9 := hD.sub (ws' := [((a_t 0), oX8 a_t v_t_isKept v_t_bestPost v_t_mostSeen v_t_taped v_t_from v_t_to v_t_isWrong), ((a_t 5), .inl (cy 0, 7, .inl w7)), ((a_t 1), .inl (cy 0, 155, .inl f_t_s))]) [1, 2, 0] (by decide) rfl
    exact W.iret hx hb hr (fun t ht hW => ⟨⟨_, (), rfl, rfl, by rw [ht]; exact hP9, va_K.moved hW.alike hK, hD9⟩, hS.F ht⟩) hS.2.2 dX8_cell_24
  · replace h := bb_ifn c5 h
    refine lv_iload_n hx hb dX8_cell_7 rfl (lv_at hl 2 rfl) ?_
    refine lv_i2l hx hb dX8_cell_8 rfl ?_
    refine lv_lconst (v := (0 : Int64)) hx hb dX8_cell_9 (by decide) ?_
    refine lv_ldc2 (v := (3 : Int64)) hx hb hown lk1 dX8_cell_10 ?_
    obtain ⟨r9, hc10, h⟩ := bb_b1_o h
    refine vp_callSi (W.runS (As := [.long p2.toInt64, .long (0 : Int64), .long (3 : Int64)]) (rest := []) ⟨hx, hb, hml, hown, hts⟩ (kX8_in l dC dI cy p2.toInt64 (0 : Int64) (3 : Int64) r9 hc10) (va_cwS 3 hts gX8_cell_X8_in rfl rfl rfl kdX8_in ⟨Nat.le_of_ble_eq_true rfl, Nat.le_of_ble_eq_true rfl⟩) (bb_preS (hP.sub (ws' := []) [] rfl) hK) rfl rfl hl.1 rfl (lv_room (Nat.le_of_ble_eq_true rfl)) dX8_cell_13 ⟨Nat.zero_le _, Nat.zero_le _⟩) (fun t11 et11 => ?_)
    obtain ⟨rfl, hz12⟩ := et11
    refine lv_if_ne (tgt := 25) hx hb dX8_cell_16 (by decide) (fun c13 => ?_) (fun c13 => ?_)
    · replace h := bb_ifn c13 h
      refine lv_iload_n hx hb dX8_cell_25 rfl (lv_at hl 2 rfl) ?_
      refine lv_if_ne (tgt := 41) hx hb dX8_cell_26 (by decide) (fun c14 => ?_) (fun c14 => ?_)
      · replace h := bb_ifn c14 h
        refine lv_iload_n hx hb dX8_cell_41 rfl (lv_at hl 2 rfl) ?_
        refine lv_iconst (v := (1 : Int32)) hx hb dX8_cell_42 (by decide) ?_
        refine lv_icmp_ne (tgt := 58) hx hb dX8_cell_43 (by decide) (fun c15 => ?_) (fun c15 => ?_)
        · replace h := bb_ifn c15 h
          refine lv_iload_n hx hb dX8_cell_58 rfl (lv_at hl 2 rfl) ?_
          refine lv_iconst (v := (2 : Int32)) hx hb dX8_cell_59 (by decide) ?_
          refine lv_icmp_ne (tgt := 71) hx hb dX8_cell_60 (by decide) (fun c16 => ?_) (fun c16 => ?_)
          · replace h := bb_ifn c16 h
            refine lv_aload_n hx hb dX8_cell_71 rfl (lv_at hl 0 rfl) ?_
            refine lv_iload_n hx hb dX8_cell_72 rfl (lv_at hl 1 rfl) ?_
            obtain ⟨r17, hc18, h⟩ := bb_b1_o h
            refine vp_callSi (W.runV (As := [.int p1]) (rest := []) ⟨hx, hb, hml, hown, hts⟩ (kX8_manyAt l dC dI cy a_t p1 v_t_isKept v_t_bestPost v_t_mostSeen v_t_taped v_t_from v_t_to v_t_isWrong f_t_s nn r17 hc18) (cwV 1 hts gX8_cell_X8_manyAt rfl rfl rfl kdX8_manyAt ⟨Nat.le_of_ble_eq_true rfl, Nat.le_of_ble_eq_true rfl⟩) (bb_preV (va_recv hK hP (ci := 7) (q0 := 0) rfl rfl) (hP.sub (ws' := [((a_t 0), oX8 a_t v_t_isKept v_t_bestPost v_t_mostSeen v_t_taped v_t_from v_t_to v_t_isWrong), ((a_t 1), .inl (cy 0, 155, .inl f_t_s))]) [0, 2] rfl) hK) rfl rfl hl.1 rfl (lv_room (Nat.le_of_ble_eq_true rfl)) dX8_cell_73 ⟨Nat.zero_le _, Nat.zero_le _⟩) (fun t19 et19 => ?_)
            obtain rfl := et19
            obtain ⟨rfl, rfl⟩ := bb_some2 h
            have hP9 := hP.sub (ws' := [((a_t 0), oX8 a_t v_t_isKept v_t_bestPost v_t_mostSeen v_t_taped v_t_from v_t_to v_t_isWrong), ((a_t 5), .inl (cy 0, 7, .inl f_t_found)), ((a_t 1), .inl (cy 0, 155, .inl f_t_s))]) [0, 1, 2] rfl
            have hD9 := hD.sub (ws' := [((a_t 0), oX8 a_t v_t_isKept v_t_bestPost v_t_mostSeen v_t_taped v_t_from v_t_to v_t_isWrong), ((a_t 5), .inl (cy 0, 7, .inl f_t_found)), ((a_t 1), .inl (cy 0, 155, .inl f_t_s))]) [0, 1, 2] (by decide) rfl
            exact W.iret hx hb hr (fun t ht hW => ⟨⟨_, (), rfl, rfl, by rw [ht]; exact hP9, va_K.moved hW.alike hK, hD9⟩, hS.F ht⟩) hS.2.2 dX8_cell_76
          · replace h := bb_ifp c16 h
            refine lv_aload_n hx hb dX8_cell_63 rfl (lv_at hl 0 rfl) ?_
            refine lv_iload_n hx hb dX8_cell_64 rfl (lv_at hl 1 rfl) ?_
            obtain ⟨r20, hc21, h⟩ := bb_b1_o h
            refine vp_callSi (W.runV (As := [.int p1]) (rest := []) ⟨hx, hb, hml, hown, hts⟩ (kX8_seenBy l dC dI cy a_t p1 v_t_isKept v_t_bestPost v_t_mostSeen v_t_taped v_t_from v_t_to v_t_isWrong f_t_s nn r20 hc21) (cwV 1 hts gX8_cell_X8_seenBy rfl rfl rfl kdX8_seenBy ⟨Nat.le_of_ble_eq_true rfl, Nat.le_of_ble_eq_true rfl⟩) (bb_preV (va_recv hK hP (ci := 7) (q0 := 0) rfl rfl) (hP.sub (ws' := [((a_t 0), oX8 a_t v_t_isKept v_t_bestPost v_t_mostSeen v_t_taped v_t_from v_t_to v_t_isWrong), ((a_t 1), .inl (cy 0, 155, .inl f_t_s))]) [0, 2] rfl) hK) rfl rfl hl.1 rfl (lv_room (Nat.le_of_ble_eq_true rfl)) dX8_cell_65 ⟨Nat.zero_le _, Nat.zero_le _⟩) (fun t22 et22 => ?_)
            obtain rfl := et22
            refine lv_goto (tgt := 76) hx hb dX8_cell_68 (by decide) ?_
            obtain ⟨rfl, rfl⟩ := bb_some2 h
            have hP9 := hP.sub (ws' := [((a_t 0), oX8 a_t v_t_isKept v_t_bestPost v_t_mostSeen v_t_taped v_t_from v_t_to v_t_isWrong), ((a_t 5), .inl (cy 0, 7, .inl f_t_found)), ((a_t 1), .inl (cy 0, 155, .inl f_t_s))]) [0, 1, 2] rfl
            have hD9 := hD.sub (ws' := [((a_t 0), oX8 a_t v_t_isKept v_t_bestPost v_t_mostSeen v_t_taped v_t_from v_t_to v_t_isWrong), ((a_t 5), .inl (cy 0, 7, .inl f_t_found)), ((a_t 1), .inl (cy 0, 155, .inl f_t_s))]) [0, 1, 2] (by decide) rfl
            exact W.iret hx hb hr (fun t ht hW => ⟨⟨_, (), rfl, rfl, by rw [ht]; exact hP9, va_K.moved hW.alike hK, hD9⟩, hS.F ht⟩) hS.2.2 dX8_cell_76
        · replace h := bb_ifp c15 h
          refine lv_aload_n hx hb dX8_cell_46 rfl (lv_at hl 0 rfl) ?_
          refine va_get (D := (dC, dI)) (ci := 7) (v := .ref (a_t 1)) (C := RX8) (T := TX8) (N := 20) hx hb hts iwX8 hown hK hP 0 rfl rfl 0 (by decide) lk2 (fun _ h9 => h9) rfl dX8_cell_47 ?_
          refine lv_bipush (v := (57 : Int32)) hx hb dX8_cell_50 (by decide) ?_
          refine lv_iload_n hx hb dX8_cell_52 rfl (lv_at hl 1 rfl) ?_
          refine lv_iadd hx hb dX8_cell_53 ?_
          obtain ⟨hi23, h⟩ := bb_ix_o h
          refine va_iald hx hb hK hP 2 0 rfl rfl hi23 dX8_cell_54 ?_
          refine lv_goto (tgt := 76) hx hb dX8_cell_55 (by decide) ?_
          obtain ⟨rfl, rfl⟩ := bb_some2 h
          have hP9 := hP.sub (ws' := [((a_t 0), oX8 a_t v_t_isKept v_t_bestPost v_t_mostSeen v_t_taped v_t_from v_t_to v_t_isWrong), ((a_t 5), .inl (cy 0, 7, .inl f_t_found)), ((a_t 1), .inl (cy 0, 155, .inl f_t_s))]) [0, 1, 2] rfl
          have hD9 := hD.sub (ws' := [((a_t 0), oX8 a_t v_t_isKept v_t_bestPost v_t_mostSeen v_t_taped v_t_from v_t_to v_t_isWrong), ((a_t 5), .inl (cy 0, 7, .inl f_t_found)), ((a_t 1), .inl (cy 0, 155, .inl f_t_s))]) [0, 1, 2] (by decide) rfl
          exact W.iret hx hb hr (fun t ht hW => ⟨⟨_, (), rfl, rfl, by rw [ht]; exact hP9, va_K.moved hW.alike hK, hD9⟩, hS.F ht⟩) hS.2.2 dX8_cell_76
      · replace h := bb_ifp c14 h
        refine lv_aload_n hx hb dX8_cell_29 rfl (lv_at hl 0 rfl) ?_
        refine va_get (D := (dC, dI)) (ci := 7) (v := .ref (a_t 1)) (C := RX8) (T := TX8) (N := 20) hx hb hts iwX8 hown hK hP 0 rfl rfl 0 (by decide) lk2 (fun _ h9 => h9) rfl dX8_cell_30 ?_
        refine lv_bipush (v := (9 : Int32)) hx hb dX8_cell_33 (by decide) ?_
        refine lv_iload_n hx hb dX8_cell_35 rfl (lv_at hl 1 rfl) ?_
        refine lv_iadd hx hb dX8_cell_36 ?_
        obtain ⟨hi24, h⟩ := bb_ix_o h
        refine va_iald hx hb hK hP 2 0 rfl rfl hi24 dX8_cell_37 ?_
        refine lv_goto (tgt := 76) hx hb dX8_cell_38 (by decide) ?_
        obtain ⟨rfl, rfl⟩ := bb_some2 h
        have hP9 := hP.sub (ws' := [((a_t 0), oX8 a_t v_t_isKept v_t_bestPost v_t_mostSeen v_t_taped v_t_from v_t_to v_t_isWrong), ((a_t 5), .inl (cy 0, 7, .inl f_t_found)), ((a_t 1), .inl (cy 0, 155, .inl f_t_s))]) [0, 1, 2] rfl
        have hD9 := hD.sub (ws' := [((a_t 0), oX8 a_t v_t_isKept v_t_bestPost v_t_mostSeen v_t_taped v_t_from v_t_to v_t_isWrong), ((a_t 5), .inl (cy 0, 7, .inl f_t_found)), ((a_t 1), .inl (cy 0, 155, .inl f_t_s))]) [0, 1, 2] (by decide) rfl
        exact W.iret hx hb hr (fun t ht hW => ⟨⟨_, (), rfl, rfl, by rw [ht]; exact hP9, va_K.moved hW.alike hK, hD9⟩, hS.F ht⟩) hS.2.2 dX8_cell_76
    · replace h := bb_ifp c13 h
      refine lv_aload_n hx hb dX8_cell_19 rfl (lv_at hl 0 rfl) ?_
      refine lv_iconst (v := (0 : Int32)) hx hb dX8_cell_20 (by decide) ?_
      obtain ⟨r25, w26, hc27, h⟩ := bb_b2_o h
      refine bb_cwi (wr := [((a_t 1), .inl (cy 0, 155, .inl f_t_s))]) (w1 := [((a_t 0), oX8 a_t v_t_isKept v_t_bestPost v_t_mostSeen v_t_taped v_t_from v_t_to v_t_isWrong), ((a_t 5), .inl (cy 0, 7, .inl w26))]) (va_runV (As := [.int (0 : Int32)]) (rest := []) ⟨hx, hb, hml, hown, hts⟩ (kX8_finds l dC dI cy s.heap.size a_t (0 : Int32) v_t_isKept v_t_bestPost v_t_mostSeen v_t_taped v_t_from v_t_to v_t_isWrong f_t_found r25 w26 hc27) (cwV 1 hts gX8_cell_X8_finds rfl rfl rfl kdX8_finds ⟨Nat.le_of_ble_eq_true rfl, Nat.le_of_ble_eq_true rfl⟩) (bb_preVw (va_recv hK hP (ci := 7) (q0 := 0) rfl rfl) (hP.sub (ws' := [((a_t 0), oX8 a_t v_t_isKept v_t_bestPost v_t_mostSeen v_t_taped v_t_from v_t_to v_t_isWrong), ((a_t 5), .inl (cy 0, 7, .inl f_t_found))]) [0, 1] rfl) hK (hD.sub (ws' := [((a_t 0), oX8 a_t v_t_isKept v_t_bestPost v_t_mostSeen v_t_taped v_t_from v_t_to v_t_isWrong), ((a_t 5), .inl (cy 0, 7, .inl f_t_found))]) [0, 1] (by decide) rfl)) rfl rfl hl.1 rfl (lv_room (Nat.le_of_ble_eq_true rfl)) dX8_cell_21 ⟨Nat.zero_le _, Nat.zero_le _⟩) hP hD hS hA [0, 1] [2] rfl rfl (by decide) (by decide) (fun H locs hP hD hS => ?_)
      have hP : va_P (dC, dI) vwCl [((a_t 1), .inl (cy 0, 155, .inl f_t_s)), ((a_t 0), oX8 a_t v_t_isKept v_t_bestPost v_t_mostSeen v_t_taped v_t_from v_t_to v_t_isWrong), ((a_t 5), .inl (cy 0, 7, .inl w26))] H := hP
      have hD : va_D A [((a_t 1), .inl (cy 0, 155, .inl f_t_s)), ((a_t 0), oX8 a_t v_t_isKept v_t_bestPost v_t_mostSeen v_t_taped v_t_from v_t_to v_t_isWrong), ((a_t 5), .inl (cy 0, 7, .inl w26))] := hD
      obtain ⟨rfl, rfl⟩ := bb_some2 h
      have hP9 := hP.sub (ws' := [((a_t 0), oX8 a_t v_t_isKept v_t_bestPost v_t_mostSeen v_t_taped v_t_from v_t_to v_t_isWrong), ((a_t 5), .inl (cy 0, 7, .inl w26)), ((a_t 1), .inl (cy 0, 155, .inl f_t_s))]) [1, 2, 0] rfl
      have hD9 := hD.sub (ws' := [((a_t 0), oX8 a_t v_t_isKept v_t_bestPost v_t_mostSeen v_t_taped v_t_from v_t_to v_t_isWrong), ((a_t 5), .inl (cy 0, 7, .inl w26)), ((a_t 1), .inl (cy 0, 155, .inl f_t_s))]) [1, 2, 0] (by decide) rfl
      exact W.iret hx hb hr (fun t ht hW => ⟨⟨_, (), rfl, rfl, by rw [ht]; exact hP9, va_K.moved hW.alike hK, hD9⟩, hS.F ht⟩) hS.2.2 dX8_cell_24
/-! X8_guard -/
def uX8_guard (p1 : Int32) (p2 : Int32) (f_t_found : Nat → Int32) (f_t_s : Nat → Int32) : Option (Int32 × (Nat → Int32) × (Nat → Int32)) :=
  bb_b1 (uX8_isGuard p1) (fun (r1 : Int32) => (if r1 = 0 then bb_b2 (uX8_finds (0 : Int32) f_t_found) (fun (r6 : Int32) (w7 : Nat → Int32) => some (r6, w7, f_t_s)) else bb_b1 (uX8_in p2.toInt64 (-1 : Int64) (47 : Int64)) (fun (r9 : Int32) => (if r9 = 0 then bb_b2 (uX8_finds (0 : Int32) f_t_found) (fun (r14 : Int32) (w15 : Nat → Int32) => some (r14, w15, f_t_s)) else bb_b2 (uX8_becomes ((5 : Int32) + p1) p2 f_t_s) (fun (r17 : Int32) (w18 : Nat → Int32) => some (r17, f_t_found, w18))))))
theorem kdX8_guard : yX8_guard.cls = RX8 ∧ yX8_guard.cls ≠ "java/lang/invoke/MethodHandle" ∧ yX8_guard.cls ≠ "java/lang/invoke/VarHandle" ∧ (parseMethodDescriptor yX8_guard.desc).map (fun d => d.parameters.length) = some 2 := by decide +kernel
set_option maxHeartbeats 4000000 in
set_option maxRecDepth 100000 in
theorem kX8_guard (l : Launch) (dC : Nat → ClassId) (dI : Nat → Nat → Nat) (cy : Nat → ClassId) (sz : Nat) (a_t : Nat → Nat) (p1 : Int32) (p2 : Int32) (v_t_isKept : Int32) (v_t_bestPost : Int32) (v_t_mostSeen : Int32) (v_t_taped : Int32) (v_t_from : Int32) (v_t_to : Int32) (v_t_isWrong : Int32) (f_t_found : Nat → Int32) (f_t_s : Nat → Int32) (r : Int32) (f_t_found_o : Nat → Int32) (f_t_s_o : Nat → Int32) (h : uX8_guard p1 p2 f_t_found f_t_s = some (r, f_t_found_o, f_t_s_o)) : Met l yX8_guard wsX8_guard ({ frames := 2, cells := 0, slots := 0, locals := 45 }) (va_Pc [.ref (a_t 0), .int p1, .int p2] (fun U => U.heap.size = sz ∧ va_P (dC, dI) vwCl [((a_t 0), oX8 a_t v_t_isKept v_t_bestPost v_t_mostSeen v_t_taped v_t_from v_t_to v_t_isWrong), ((a_t 5), .inl (cy 0, 7, .inl f_t_found)), ((a_t 1), .inl (cy 0, 155, .inl f_t_s))] U.heap ∧ va_K (dC, dI) vwCl (tyX cy) U ∧ va_D (fun _ => True) [((a_t 0), oX8 a_t v_t_isKept v_t_bestPost v_t_mostSeen v_t_taped v_t_from v_t_to v_t_isWrong), ((a_t 5), .inl (cy 0, 7, .inl f_t_found)), ((a_t 1), .inl (cy 0, 155, .inl f_t_s))])) (va_Qi (fun (r2 : Int32) (_ : Unit) => r = r2) (fun _ t => va_P (dC, dI) vwCl [((a_t 0), oX8 a_t v_t_isKept v_t_bestPost v_t_mostSeen v_t_taped v_t_from v_t_to v_t_isWrong), ((a_t 5), .inl (cy 0, 7, .inl f_t_found_o)), ((a_t 1), .inl (cy 0, 155, .inl f_t_s_o))] t.heap ∧ va_K (dC, dI) vwCl (tyX cy) t ∧ va_D (va_A [((a_t 0), oX8 a_t v_t_isKept v_t_bestPost v_t_mostSeen v_t_taped v_t_from v_t_to v_t_isWrong), ((a_t 5), .inl (cy 0, 7, .inl f_t_found)), ((a_t 1), .inl (cy 0, 155, .inl f_t_s))] sz) [((a_t 0), oX8 a_t v_t_isKept v_t_bestPost v_t_mostSeen v_t_taped v_t_from v_t_to v_t_isWrong), ((a_t 5), .inl (cy 0, 7, .inl f_t_found_o)), ((a_t 1), .inl (cy 0, 155, .inl f_t_s_o))]) (va_A [((a_t 0), oX8 a_t v_t_isKept v_t_bestPost v_t_mostSeen v_t_taped v_t_from v_t_to v_t_isWrong), ((a_t 5), .inl (cy 0, 7, .inl f_t_found)), ((a_t 1), .inl (cy 0, 155, .inl f_t_s))] sz)) 0 0 (va_A [((a_t 0), oX8 a_t v_t_isKept v_t_bestPost v_t_mostSeen v_t_taped v_t_from v_t_to v_t_isWrong), ((a_t 5), .inl (cy 0, 7, .inl f_t_found)), ((a_t 1), .inl (cy 0, 155, .inl f_t_s))] sz) := by
  refine Met.ofW (cc := cX8_guard) (maxL := 3) (ret := (some .int)) (by decide) rfl ?_
  intro p e s m args below meth c s₁ B hml hv
  obtain ⟨rfl, hsz, hP, hK, hD0⟩ := hv
  have hx := B.exec
  have hb := B.bytes
  have hr := B.returns
  have hts := atoms_spec (ws := wsX8_guard) B.pre
  have hown : s.vm.findClass RX8 = some m.cls := findClass_of_methodNamed B.named
  have hlocks := B.notSynchronized
  have lk1 := hts (Cond.constantLong RX8 108 (-1)) (List.mem_of_getElem? (i := 1) rfl)
  have lk2 := hts (Cond.constantLong RX8 56 (47)) (List.mem_of_getElem? (i := 2) rfl)
  subst hsz
  have hD := hD0.self (sz := s.heap.size)
  generalize hAe : va_A [((a_t 0), oX8 a_t v_t_isKept v_t_bestPost v_t_mostSeen v_t_taped v_t_from v_t_to v_t_isWrong), ((a_t 5), .inl (cy 0, 7, .inl f_t_found)), ((a_t 1), .inl (cy 0, 155, .inl f_t_s))] s.heap.size = A at hD ⊢
  have hA : ∀ q : Nat, s.heap.size ≤ q → A q := fun q h => by rw [← hAe]; exact Or.inr h
  have hS : va_S A s.heap s.heap [] := va_S.rf
  have hP : va_P (dC, dI) vwCl [((a_t 0), oX8 a_t v_t_isKept v_t_bestPost v_t_mostSeen v_t_taped v_t_from v_t_to v_t_isWrong), ((a_t 5), .inl (cy 0, 7, .inl f_t_found)), ((a_t 1), .inl (cy 0, 155, .inl f_t_s))] s.heap := hP
  have hl := lv_entry ([.ref (a_t 0), .int p1, .int p2]) (n := 3) (Nat.le_of_ble_eq_true rfl)
  rw [lg_entry_eq]
  generalize (lg_sl ([.ref (a_t 0), .int p1, .int p2]) ++ List.replicate (3 - (lg_sl ([.ref (a_t 0), .int p1, .int p2])).length) Slot.unset).toArray = ls at hl ⊢
  have hl : lv_has ls 3 [(0, .ref (a_t 0)), (1, .int p1), (2, .int p2)] := hl
  unfold uX8_guard at h
  refine bb_cap (fun WW toW ofW => ?_)
  refine lv_iload_n hx hb dX8_guard_0 rfl (lv_at hl 1 rfl) ?_
  obtain ⟨r1, hc2, h⟩ := bb_b1_o h
  refine vp_callSi (W.runS (As := [.int p1]) (rest := []) ⟨hx, hb, hml, hown, hts⟩ (kX8_isGuard l dC dI cy p1 r1 hc2) (va_cwS 1 hts gX8_guard_X8_isGuard rfl rfl rfl kdX8_isGuard ⟨Nat.le_of_ble_eq_true rfl, Nat.le_of_ble_eq_true rfl⟩) (bb_preS (hP.sub (ws' := []) [] rfl) hK) rfl rfl hl.1 rfl (lv_room (Nat.le_of_ble_eq_true rfl)) dX8_guard_1 ⟨Nat.zero_le _, Nat.zero_le _⟩) (fun t3 et3 => ?_)
  obtain ⟨rfl, hz4⟩ := et3
  refine lv_if_eq (tgt := 32) hx hb dX8_guard_4 (by decide) (fun c5 => ?_) (fun c5 => ?_)
  · replace h := bb_ifp c5 h
    refine lv_aload_n hx hb dX8_guard_32 rfl (lv_at hl 0 rfl) ?_
    refine lv_iconst (v := (0 : Int32)) hx hb dX8_guard_33 (by decide) ?_
    obtain ⟨r6, w7, hc8, h⟩ := bb_b2_o h
    refine bb_cwi (wr := [((a_t 1), .inl (cy 0, 155, .inl f_t_s))]) (w1 := [((a_t 0), oX8 a_t v_t_isKept v_t_bestPost v_t_mostSeen v_t_taped v_t_from v_t_to v_t_isWrong), ((a_t 5), .inl (cy 0, 7, .inl w7))]) (va_runV (As := [.int (0 : Int32)]) (rest := []) ⟨hx, hb, hml, hown, hts⟩ (kX8_finds l dC dI cy s.heap.size a_t (0 : Int32) v_t_isKept v_t_bestPost v_t_mostSeen v_t_taped v_t_from v_t_to v_t_isWrong f_t_found r6 w7 hc8) (cwV 1 hts gX8_guard_X8_finds rfl rfl rfl kdX8_finds ⟨Nat.le_of_ble_eq_true rfl, Nat.le_of_ble_eq_true rfl⟩) (bb_preVw (va_recv hK hP (ci := 7) (q0 := 0) rfl rfl) (hP.sub (ws' := [((a_t 0), oX8 a_t v_t_isKept v_t_bestPost v_t_mostSeen v_t_taped v_t_from v_t_to v_t_isWrong), ((a_t 5), .inl (cy 0, 7, .inl f_t_found))]) [0, 1] rfl) hK (hD.sub (ws' := [((a_t 0), oX8 a_t v_t_isKept v_t_bestPost v_t_mostSeen v_t_taped v_t_from v_t_to v_t_isWrong), ((a_t 5), .inl (cy 0, 7, .inl f_t_found))]) [0, 1] (by decide) rfl)) rfl rfl hl.1 rfl (lv_room (Nat.le_of_ble_eq_true rfl)) dX8_guard_34 ⟨Nat.zero_le _, Nat.zero_le _⟩) hP hD hS hA [0, 1] [2] rfl rfl (by decide) (by decide) (fun H locs hP hD hS => ?_)
    have hP : va_P (dC, dI) vwCl [((a_t 1), .inl (cy 0, 155, .inl f_t_s)), ((a_t 0), oX8 a_t v_t_isKept v_t_bestPost v_t_mostSeen v_t_taped v_t_from v_t_to v_t_isWrong), ((a_t 5), .inl (cy 0, 7, .inl w7))] H := hP
    have hD : va_D A [((a_t 1), .inl (cy 0, 155, .inl f_t_s)), ((a_t 0), oX8 a_t v_t_isKept v_t_bestPost v_t_mostSeen v_t_taped v_t_from v_t_to v_t_isWrong), ((a_t 5), .inl (cy 0, 7, .inl w7))] := hD
    obtain ⟨rfl, rfl, rfl⟩ := bb_some3 h
    have hP9 := hP.sub (ws' := [((a_t 0), oX8 a_t v_t_isKept v_t_bestPost v_t_mostSeen v_t_taped v_t_from v_t_to v_t_isWrong), ((a_t 5), .inl (cy 0, 7, .inl w7)), ((a_t 1), .inl (cy 0, 155, .inl f_t_s))]) [1, 2, 0] rfl
    have hD9 := hD.sub (ws' := [((a_t 0), oX8 a_t v_t_isKept v_t_bestPost v_t_mostSeen v_t_taped v_t_from v_t_to v_t_isWrong), ((a_t 5), .inl (cy 0, 7, .inl w7)), ((a_t 1), .inl (cy 0, 155, .inl f_t_s))]) [1, 2, 0] (by decide) rfl
    exact W.iret hx hb hr (fun t ht hW => ⟨⟨_, (), rfl, rfl, by rw [ht]; exact hP9, va_K.moved hW.alike hK, hD9⟩, hS.F ht⟩) hS.2.2 dX8_guard_37
  · replace h := bb_ifn c5 h
    refine lv_iload_n hx hb dX8_guard_7 rfl (lv_at hl 2 rfl) ?_
    refine lv_i2l hx hb dX8_guard_8 rfl ?_
    refine lv_ldc2 (v := (-1 : Int64)) hx hb hown lk1 dX8_guard_9 ?_
    refine lv_ldc2 (v := (47 : Int64)) hx hb hown lk2 dX8_guard_12 ?_
    obtain ⟨r9, hc10, h⟩ := bb_b1_o h
    refine vp_callSi (W.runS (As := [.long p2.toInt64, .long (-1 : Int64), .long (47 : Int64)]) (rest := []) ⟨hx, hb, hml, hown, hts⟩ (kX8_in l dC dI cy p2.toInt64 (-1 : Int64) (47 : Int64) r9 hc10) (va_cwS 3 hts gX8_guard_X8_in rfl rfl rfl kdX8_in ⟨Nat.le_of_ble_eq_true rfl, Nat.le_of_ble_eq_true rfl⟩) (bb_preS (hP.sub (ws' := []) [] rfl) hK) rfl rfl hl.1 rfl (lv_room (Nat.le_of_ble_eq_true rfl)) dX8_guard_15 ⟨Nat.zero_le _, Nat.zero_le _⟩) (fun t11 et11 => ?_)
    obtain ⟨rfl, hz12⟩ := et11
    refine lv_if_eq (tgt := 32) hx hb dX8_guard_18 (by decide) (fun c13 => ?_) (fun c13 => ?_)
    · replace h := bb_ifp c13 h
      refine lv_aload_n hx hb dX8_guard_32 rfl (lv_at hl 0 rfl) ?_
      refine lv_iconst (v := (0 : Int32)) hx hb dX8_guard_33 (by decide) ?_
      obtain ⟨r14, w15, hc16, h⟩ := bb_b2_o h
      refine bb_cwi (wr := [((a_t 1), .inl (cy 0, 155, .inl f_t_s))]) (w1 := [((a_t 0), oX8 a_t v_t_isKept v_t_bestPost v_t_mostSeen v_t_taped v_t_from v_t_to v_t_isWrong), ((a_t 5), .inl (cy 0, 7, .inl w15))]) (va_runV (As := [.int (0 : Int32)]) (rest := []) ⟨hx, hb, hml, hown, hts⟩ (kX8_finds l dC dI cy s.heap.size a_t (0 : Int32) v_t_isKept v_t_bestPost v_t_mostSeen v_t_taped v_t_from v_t_to v_t_isWrong f_t_found r14 w15 hc16) (cwV 1 hts gX8_guard_X8_finds rfl rfl rfl kdX8_finds ⟨Nat.le_of_ble_eq_true rfl, Nat.le_of_ble_eq_true rfl⟩) (bb_preVw (va_recv hK hP (ci := 7) (q0 := 0) rfl rfl) (hP.sub (ws' := [((a_t 0), oX8 a_t v_t_isKept v_t_bestPost v_t_mostSeen v_t_taped v_t_from v_t_to v_t_isWrong), ((a_t 5), .inl (cy 0, 7, .inl f_t_found))]) [0, 1] rfl) hK (hD.sub (ws' := [((a_t 0), oX8 a_t v_t_isKept v_t_bestPost v_t_mostSeen v_t_taped v_t_from v_t_to v_t_isWrong), ((a_t 5), .inl (cy 0, 7, .inl f_t_found))]) [0, 1] (by decide) rfl)) rfl rfl hl.1 rfl (lv_room (Nat.le_of_ble_eq_true rfl)) dX8_guard_34 ⟨Nat.zero_le _, Nat.zero_le _⟩) hP hD hS hA [0, 1] [2] rfl rfl (by decide) (by decide) (fun H locs hP hD hS => ?_)
      have hP : va_P (dC, dI) vwCl [((a_t 1), .inl (cy 0, 155, .inl f_t_s)), ((a_t 0), oX8 a_t v_t_isKept v_t_bestPost v_t_mostSeen v_t_taped v_t_from v_t_to v_t_isWrong), ((a_t 5), .inl (cy 0, 7, .inl w15))] H := hP
      have hD : va_D A [((a_t 1), .inl (cy 0, 155, .inl f_t_s)), ((a_t 0), oX8 a_t v_t_isKept v_t_bestPost v_t_mostSeen v_t_taped v_t_from v_t_to v_t_isWrong), ((a_t 5), .inl (cy 0, 7, .inl w15))] := hD
      obtain ⟨rfl, rfl, rfl⟩ := bb_some3 h
      have hP9 := hP.sub (ws' := [((a_t 0), oX8 a_t v_t_isKept v_t_bestPost v_t_mostSeen v_t_taped v_t_from v_t_to v_t_isWrong), ((a_t 5), .inl (cy 0, 7, .inl w15)), ((a_t 1), .inl (cy 0, 155, .inl f_t_s))]) [1, 2, 0] rfl
      have hD9 := hD.sub (ws' := [((a_t 0), oX8 a_t v_t_isKept v_t_bestPost v_t_mostSeen v_t_taped v_t_from v_t_to v_t_isWrong), ((a_t 5), .inl (cy 0, 7, .inl w15)), ((a_t 1), .inl (cy 0, 155, .inl f_t_s))]) [1, 2, 0] (by decide) rfl
      exact W.iret hx hb hr (fun t ht hW => ⟨⟨_, (), rfl, rfl, by rw [ht]; exact hP9, va_K.moved hW.alike hK, hD9⟩, hS.F ht⟩) hS.2.2 dX8_guard_37
    · replace h := bb_ifn c13 h
      refine lv_aload_n hx hb dX8_guard_21 rfl (lv_at hl 0 rfl) ?_
      refine lv_iconst (v := (5 : Int32)) hx hb dX8_guard_22 (by decide) ?_
      refine lv_iload_n hx hb dX8_guard_23 rfl (lv_at hl 1 rfl) ?_
      refine lv_iadd hx hb dX8_guard_24 ?_
      refine lv_iload_n hx hb dX8_guard_25 rfl (lv_at hl 2 rfl) ?_
      obtain ⟨r17, w18, hc19, h⟩ := bb_b2_o h
      refine bb_cwi (wr := [((a_t 5), .inl (cy 0, 7, .inl f_t_found))]) (w1 := [((a_t 0), oX8 a_t v_t_isKept v_t_bestPost v_t_mostSeen v_t_taped v_t_from v_t_to v_t_isWrong), ((a_t 1), .inl (cy 0, 155, .inl w18))]) (va_runV (As := [.int ((5 : Int32) + p1), .int p2]) (rest := []) ⟨hx, hb, hml, hown, hts⟩ (kX8_becomes l dC dI cy s.heap.size a_t ((5 : Int32) + p1) p2 v_t_isKept v_t_bestPost v_t_mostSeen v_t_taped v_t_from v_t_to v_t_isWrong f_t_s r17 w18 hc19) (cwV 2 hts gX8_guard_X8_becomes rfl rfl rfl kdX8_becomes ⟨Nat.le_of_ble_eq_true rfl, Nat.le_of_ble_eq_true rfl⟩) (bb_preVw (va_recv hK hP (ci := 7) (q0 := 0) rfl rfl) (hP.sub (ws' := [((a_t 0), oX8 a_t v_t_isKept v_t_bestPost v_t_mostSeen v_t_taped v_t_from v_t_to v_t_isWrong), ((a_t 1), .inl (cy 0, 155, .inl f_t_s))]) [0, 2] rfl) hK (hD.sub (ws' := [((a_t 0), oX8 a_t v_t_isKept v_t_bestPost v_t_mostSeen v_t_taped v_t_from v_t_to v_t_isWrong), ((a_t 1), .inl (cy 0, 155, .inl f_t_s))]) [0, 2] (by decide) rfl)) rfl rfl hl.1 rfl (lv_room (Nat.le_of_ble_eq_true rfl)) dX8_guard_26 ⟨Nat.zero_le _, Nat.zero_le _⟩) hP hD hS hA [0, 2] [1] rfl rfl (by decide) (by decide) (fun H locs hP hD hS => ?_)
      have hP : va_P (dC, dI) vwCl [((a_t 5), .inl (cy 0, 7, .inl f_t_found)), ((a_t 0), oX8 a_t v_t_isKept v_t_bestPost v_t_mostSeen v_t_taped v_t_from v_t_to v_t_isWrong), ((a_t 1), .inl (cy 0, 155, .inl w18))] H := hP
      have hD : va_D A [((a_t 5), .inl (cy 0, 7, .inl f_t_found)), ((a_t 0), oX8 a_t v_t_isKept v_t_bestPost v_t_mostSeen v_t_taped v_t_from v_t_to v_t_isWrong), ((a_t 1), .inl (cy 0, 155, .inl w18))] := hD
      refine lv_goto (tgt := 37) hx hb dX8_guard_29 (by decide) ?_
      obtain ⟨rfl, rfl, rfl⟩ := bb_some3 h
      have hP9 := hP.sub (ws' := [((a_t 0), oX8 a_t v_t_isKept v_t_bestPost v_t_mostSeen v_t_taped v_t_from v_t_to v_t_isWrong), ((a_t 5), .inl (cy 0, 7, .inl f_t_found)), ((a_t 1), .inl (cy 0, 155, .inl w18))]) [1, 0, 2] rfl
      have hD9 := hD.sub (ws' := [((a_t 0), oX8 a_t v_t_isKept v_t_bestPost v_t_mostSeen v_t_taped v_t_from v_t_to v_t_isWrong), ((a_t 5), .inl (cy 0, 7, .inl f_t_found)), ((a_t 1), .inl (cy 0, 155, .inl w18))]) [1, 0, 2] (by decide) rfl
      exact W.iret hx hb hr (fun t ht hW => ⟨⟨_, (), rfl, rfl, by rw [ht]; exact hP9, va_K.moved hW.alike hK, hD9⟩, hS.F ht⟩) hS.2.2 dX8_guard_37
/-! X8_sight -/
def uX8_sight (p1 : Int32) (f_t_found : Nat → Int32) (f_t_s : Nat → Int32) : Option (Int32 × (Nat → Int32) × (Nat → Int32)) :=
  bb_b1 (uX8_in p1.toInt64 (0 : Int64) (12 : Int64)) (fun (r1 : Int32) => (if r1 = 0 then bb_b2 (uX8_finds (0 : Int32) f_t_found) (fun (r6 : Int32) (w7 : Nat → Int32) => some (r6, w7, f_t_s)) else bb_b2 (uX8_becomes (2 : Int32) p1 f_t_s) (fun (r9 : Int32) (w10 : Nat → Int32) => some (r9, f_t_found, w10))))
theorem kdX8_sight : yX8_sight.cls = RX8 ∧ yX8_sight.cls ≠ "java/lang/invoke/MethodHandle" ∧ yX8_sight.cls ≠ "java/lang/invoke/VarHandle" ∧ (parseMethodDescriptor yX8_sight.desc).map (fun d => d.parameters.length) = some 1 := by decide +kernel
set_option maxHeartbeats 4000000 in
set_option maxRecDepth 100000 in
theorem kX8_sight (l : Launch) (dC : Nat → ClassId) (dI : Nat → Nat → Nat) (cy : Nat → ClassId) (sz : Nat) (a_t : Nat → Nat) (p1 : Int32) (v_t_isKept : Int32) (v_t_bestPost : Int32) (v_t_mostSeen : Int32) (v_t_taped : Int32) (v_t_from : Int32) (v_t_to : Int32) (v_t_isWrong : Int32) (f_t_found : Nat → Int32) (f_t_s : Nat → Int32) (r : Int32) (f_t_found_o : Nat → Int32) (f_t_s_o : Nat → Int32) (h : uX8_sight p1 f_t_found f_t_s = some (r, f_t_found_o, f_t_s_o)) : Met l yX8_sight wsX8_sight ({ frames := 1, cells := 0, slots := 0, locals := 25 }) (va_Pc [.ref (a_t 0), .int p1] (fun U => U.heap.size = sz ∧ va_P (dC, dI) vwCl [((a_t 0), oX8 a_t v_t_isKept v_t_bestPost v_t_mostSeen v_t_taped v_t_from v_t_to v_t_isWrong), ((a_t 5), .inl (cy 0, 7, .inl f_t_found)), ((a_t 1), .inl (cy 0, 155, .inl f_t_s))] U.heap ∧ va_K (dC, dI) vwCl (tyX cy) U ∧ va_D (fun _ => True) [((a_t 0), oX8 a_t v_t_isKept v_t_bestPost v_t_mostSeen v_t_taped v_t_from v_t_to v_t_isWrong), ((a_t 5), .inl (cy 0, 7, .inl f_t_found)), ((a_t 1), .inl (cy 0, 155, .inl f_t_s))])) (va_Qi (fun (r2 : Int32) (_ : Unit) => r = r2) (fun _ t => va_P (dC, dI) vwCl [((a_t 0), oX8 a_t v_t_isKept v_t_bestPost v_t_mostSeen v_t_taped v_t_from v_t_to v_t_isWrong), ((a_t 5), .inl (cy 0, 7, .inl f_t_found_o)), ((a_t 1), .inl (cy 0, 155, .inl f_t_s_o))] t.heap ∧ va_K (dC, dI) vwCl (tyX cy) t ∧ va_D (va_A [((a_t 0), oX8 a_t v_t_isKept v_t_bestPost v_t_mostSeen v_t_taped v_t_from v_t_to v_t_isWrong), ((a_t 5), .inl (cy 0, 7, .inl f_t_found)), ((a_t 1), .inl (cy 0, 155, .inl f_t_s))] sz) [((a_t 0), oX8 a_t v_t_isKept v_t_bestPost v_t_mostSeen v_t_taped v_t_from v_t_to v_t_isWrong), ((a_t 5), .inl (cy 0, 7, .inl f_t_found_o)), ((a_t 1), .inl (cy 0, 155, .inl f_t_s_o))]) (va_A [((a_t 0), oX8 a_t v_t_isKept v_t_bestPost v_t_mostSeen v_t_taped v_t_from v_t_to v_t_isWrong), ((a_t 5), .inl (cy 0, 7, .inl f_t_found)), ((a_t 1), .inl (cy 0, 155, .inl f_t_s))] sz)) 0 0 (va_A [((a_t 0), oX8 a_t v_t_isKept v_t_bestPost v_t_mostSeen v_t_taped v_t_from v_t_to v_t_isWrong), ((a_t 5), .inl (cy 0, 7, .inl f_t_found)), ((a_t 1), .inl (cy 0, 155, .inl f_t_s))] sz) := by
  refine Met.ofW (cc := cX8_sight) (maxL := 2) (ret := (some .int)) (by decide) rfl ?_
  intro p e s m args below meth c s₁ B hml hv
  obtain ⟨rfl, hsz, hP, hK, hD0⟩ := hv
  have hx := B.exec
  have hb := B.bytes
  have hr := B.returns
  have hts := atoms_spec (ws := wsX8_sight) B.pre
  have hown : s.vm.findClass RX8 = some m.cls := findClass_of_methodNamed B.named
  have hlocks := B.notSynchronized
  have lk1 := hts (Cond.constantLong RX8 110 (12)) (List.mem_of_getElem? (i := 1) rfl)
  subst hsz
  have hD := hD0.self (sz := s.heap.size)
  generalize hAe : va_A [((a_t 0), oX8 a_t v_t_isKept v_t_bestPost v_t_mostSeen v_t_taped v_t_from v_t_to v_t_isWrong), ((a_t 5), .inl (cy 0, 7, .inl f_t_found)), ((a_t 1), .inl (cy 0, 155, .inl f_t_s))] s.heap.size = A at hD ⊢
  have hA : ∀ q : Nat, s.heap.size ≤ q → A q := fun q h => by rw [← hAe]; exact Or.inr h
  have hS : va_S A s.heap s.heap [] := va_S.rf
  have hP : va_P (dC, dI) vwCl [((a_t 0), oX8 a_t v_t_isKept v_t_bestPost v_t_mostSeen v_t_taped v_t_from v_t_to v_t_isWrong), ((a_t 5), .inl (cy 0, 7, .inl f_t_found)), ((a_t 1), .inl (cy 0, 155, .inl f_t_s))] s.heap := hP
  have hl := lv_entry ([.ref (a_t 0), .int p1]) (n := 2) (Nat.le_of_ble_eq_true rfl)
  rw [lg_entry_eq]
  generalize (lg_sl ([.ref (a_t 0), .int p1]) ++ List.replicate (2 - (lg_sl ([.ref (a_t 0), .int p1])).length) Slot.unset).toArray = ls at hl ⊢
  have hl : lv_has ls 2 [(0, .ref (a_t 0)), (1, .int p1)] := hl
  unfold uX8_sight at h
  refine bb_cap (fun WW toW ofW => ?_)
  refine lv_iload_n hx hb dX8_sight_0 rfl (lv_at hl 1 rfl) ?_
  refine lv_i2l hx hb dX8_sight_1 rfl ?_
  refine lv_lconst (v := (0 : Int64)) hx hb dX8_sight_2 (by decide) ?_
  refine lv_ldc2 (v := (12 : Int64)) hx hb hown lk1 dX8_sight_3 ?_
  obtain ⟨r1, hc2, h⟩ := bb_b1_o h
  refine vp_callSi (W.runS (As := [.long p1.toInt64, .long (0 : Int64), .long (12 : Int64)]) (rest := []) ⟨hx, hb, hml, hown, hts⟩ (kX8_in l dC dI cy p1.toInt64 (0 : Int64) (12 : Int64) r1 hc2) (va_cwS 3 hts gX8_sight_X8_in rfl rfl rfl kdX8_in ⟨Nat.le_of_ble_eq_true rfl, Nat.le_of_ble_eq_true rfl⟩) (bb_preS (hP.sub (ws' := []) [] rfl) hK) rfl rfl hl.1 rfl (lv_room (Nat.le_of_ble_eq_true rfl)) dX8_sight_6 ⟨Nat.zero_le _, Nat.zero_le _⟩) (fun t3 et3 => ?_)
  obtain ⟨rfl, hz4⟩ := et3
  refine lv_if_eq (tgt := 21) hx hb dX8_sight_9 (by decide) (fun c5 => ?_) (fun c5 => ?_)
  · replace h := bb_ifp c5 h
    refine lv_aload_n hx hb dX8_sight_21 rfl (lv_at hl 0 rfl) ?_
    refine lv_iconst (v := (0 : Int32)) hx hb dX8_sight_22 (by decide) ?_
    obtain ⟨r6, w7, hc8, h⟩ := bb_b2_o h
    refine bb_cwi (wr := [((a_t 1), .inl (cy 0, 155, .inl f_t_s))]) (w1 := [((a_t 0), oX8 a_t v_t_isKept v_t_bestPost v_t_mostSeen v_t_taped v_t_from v_t_to v_t_isWrong), ((a_t 5), .inl (cy 0, 7, .inl w7))]) (va_runV (As := [.int (0 : Int32)]) (rest := []) ⟨hx, hb, hml, hown, hts⟩ (kX8_finds l dC dI cy s.heap.size a_t (0 : Int32) v_t_isKept v_t_bestPost v_t_mostSeen v_t_taped v_t_from v_t_to v_t_isWrong f_t_found r6 w7 hc8) (cwV 1 hts gX8_sight_X8_finds rfl rfl rfl kdX8_finds ⟨Nat.le_of_ble_eq_true rfl, Nat.le_of_ble_eq_true rfl⟩) (bb_preVw (va_recv hK hP (ci := 7) (q0 := 0) rfl rfl) (hP.sub (ws' := [((a_t 0), oX8 a_t v_t_isKept v_t_bestPost v_t_mostSeen v_t_taped v_t_from v_t_to v_t_isWrong), ((a_t 5), .inl (cy 0, 7, .inl f_t_found))]) [0, 1] rfl) hK (hD.sub (ws' := [((a_t 0), oX8 a_t v_t_isKept v_t_bestPost v_t_mostSeen v_t_taped v_t_from v_t_to v_t_isWrong), ((a_t 5), .inl (cy 0, 7, .inl f_t_found))]) [0, 1] (by decide) rfl)) rfl rfl hl.1 rfl (lv_room (Nat.le_of_ble_eq_true rfl)) dX8_sight_23 ⟨Nat.zero_le _, Nat.zero_le _⟩) hP hD hS hA [0, 1] [2] rfl rfl (by decide) (by decide) (fun H locs hP hD hS => ?_)
    have hP : va_P (dC, dI) vwCl [((a_t 1), .inl (cy 0, 155, .inl f_t_s)), ((a_t 0), oX8 a_t v_t_isKept v_t_bestPost v_t_mostSeen v_t_taped v_t_from v_t_to v_t_isWrong), ((a_t 5), .inl (cy 0, 7, .inl w7))] H := hP
    have hD : va_D A [((a_t 1), .inl (cy 0, 155, .inl f_t_s)), ((a_t 0), oX8 a_t v_t_isKept v_t_bestPost v_t_mostSeen v_t_taped v_t_from v_t_to v_t_isWrong), ((a_t 5), .inl (cy 0, 7, .inl w7))] := hD
    obtain ⟨rfl, rfl, rfl⟩ := bb_some3 h
    have hP9 := hP.sub (ws' := [((a_t 0), oX8 a_t v_t_isKept v_t_bestPost v_t_mostSeen v_t_taped v_t_from v_t_to v_t_isWrong), ((a_t 5), .inl (cy 0, 7, .inl w7)), ((a_t 1), .inl (cy 0, 155, .inl f_t_s))]) [1, 2, 0] rfl
    have hD9 := hD.sub (ws' := [((a_t 0), oX8 a_t v_t_isKept v_t_bestPost v_t_mostSeen v_t_taped v_t_from v_t_to v_t_isWrong), ((a_t 5), .inl (cy 0, 7, .inl w7)), ((a_t 1), .inl (cy 0, 155, .inl f_t_s))]) [1, 2, 0] (by decide) rfl
    exact W.iret hx hb hr (fun t ht hW => ⟨⟨_, (), rfl, rfl, by rw [ht]; exact hP9, va_K.moved hW.alike hK, hD9⟩, hS.F ht⟩) hS.2.2 dX8_sight_26
  · replace h := bb_ifn c5 h
    refine lv_aload_n hx hb dX8_sight_12 rfl (lv_at hl 0 rfl) ?_
    refine lv_iconst (v := (2 : Int32)) hx hb dX8_sight_13 (by decide) ?_
    refine lv_iload_n hx hb dX8_sight_14 rfl (lv_at hl 1 rfl) ?_
    obtain ⟨r9, w10, hc11, h⟩ := bb_b2_o h
    refine bb_cwi (wr := [((a_t 5), .inl (cy 0, 7, .inl f_t_found))]) (w1 := [((a_t 0), oX8 a_t v_t_isKept v_t_bestPost v_t_mostSeen v_t_taped v_t_from v_t_to v_t_isWrong), ((a_t 1), .inl (cy 0, 155, .inl w10))]) (va_runV (As := [.int (2 : Int32), .int p1]) (rest := []) ⟨hx, hb, hml, hown, hts⟩ (kX8_becomes l dC dI cy s.heap.size a_t (2 : Int32) p1 v_t_isKept v_t_bestPost v_t_mostSeen v_t_taped v_t_from v_t_to v_t_isWrong f_t_s r9 w10 hc11) (cwV 2 hts gX8_sight_X8_becomes rfl rfl rfl kdX8_becomes ⟨Nat.le_of_ble_eq_true rfl, Nat.le_of_ble_eq_true rfl⟩) (bb_preVw (va_recv hK hP (ci := 7) (q0 := 0) rfl rfl) (hP.sub (ws' := [((a_t 0), oX8 a_t v_t_isKept v_t_bestPost v_t_mostSeen v_t_taped v_t_from v_t_to v_t_isWrong), ((a_t 1), .inl (cy 0, 155, .inl f_t_s))]) [0, 2] rfl) hK (hD.sub (ws' := [((a_t 0), oX8 a_t v_t_isKept v_t_bestPost v_t_mostSeen v_t_taped v_t_from v_t_to v_t_isWrong), ((a_t 1), .inl (cy 0, 155, .inl f_t_s))]) [0, 2] (by decide) rfl)) rfl rfl hl.1 rfl (lv_room (Nat.le_of_ble_eq_true rfl)) dX8_sight_15 ⟨Nat.zero_le _, Nat.zero_le _⟩) hP hD hS hA [0, 2] [1] rfl rfl (by decide) (by decide) (fun H locs hP hD hS => ?_)
    have hP : va_P (dC, dI) vwCl [((a_t 5), .inl (cy 0, 7, .inl f_t_found)), ((a_t 0), oX8 a_t v_t_isKept v_t_bestPost v_t_mostSeen v_t_taped v_t_from v_t_to v_t_isWrong), ((a_t 1), .inl (cy 0, 155, .inl w10))] H := hP
    have hD : va_D A [((a_t 5), .inl (cy 0, 7, .inl f_t_found)), ((a_t 0), oX8 a_t v_t_isKept v_t_bestPost v_t_mostSeen v_t_taped v_t_from v_t_to v_t_isWrong), ((a_t 1), .inl (cy 0, 155, .inl w10))] := hD
    refine lv_goto (tgt := 26) hx hb dX8_sight_18 (by decide) ?_
    obtain ⟨rfl, rfl, rfl⟩ := bb_some3 h
    have hP9 := hP.sub (ws' := [((a_t 0), oX8 a_t v_t_isKept v_t_bestPost v_t_mostSeen v_t_taped v_t_from v_t_to v_t_isWrong), ((a_t 5), .inl (cy 0, 7, .inl f_t_found)), ((a_t 1), .inl (cy 0, 155, .inl w10))]) [1, 0, 2] rfl
    have hD9 := hD.sub (ws' := [((a_t 0), oX8 a_t v_t_isKept v_t_bestPost v_t_mostSeen v_t_taped v_t_from v_t_to v_t_isWrong), ((a_t 5), .inl (cy 0, 7, .inl f_t_found)), ((a_t 1), .inl (cy 0, 155, .inl w10))]) [1, 0, 2] (by decide) rfl
    exact W.iret hx hb hr (fun t ht hW => ⟨⟨_, (), rfl, rfl, by rw [ht]; exact hP9, va_K.moved hW.alike hK, hD9⟩, hS.F ht⟩) hS.2.2 dX8_sight_26
/-! X8_aboveOf -/
def uX8_aboveOf (p1 : Int32) : Option (Int32) :=
  (if p1 = (3 : Int32) then some (2 : Int32) else (if p1 = (4 : Int32) then some (3 : Int32) else (if p1 = (6 : Int32) then some (1 : Int32) else some (0 : Int32))))
theorem kdX8_aboveOf : yX8_aboveOf.cls ≠ "java/lang/invoke/MethodHandle" ∧ yX8_aboveOf.cls ≠ "java/lang/invoke/VarHandle" ∧ (parseMethodDescriptor yX8_aboveOf.desc).map (fun d => d.parameters.length) = some 1 := by decide +kernel
set_option maxHeartbeats 4000000 in
set_option maxRecDepth 100000 in
theorem kX8_aboveOf (l : Launch) (dC : Nat → ClassId) (dI : Nat → Nat → Nat) (cy : Nat → ClassId) (p1 : Int32) (r : Int32) (h : uX8_aboveOf p1 = some r) : Met l yX8_aboveOf wsX8_aboveOf ({ frames := 0, cells := 0, slots := 0, locals := 0 }) (va_Pc [.int p1] (fun U => va_P (dC, dI) vwCl [] U.heap ∧ va_K (dC, dI) vwCl (tyX cy) U)) (vp_Si (fun r2 => r = r2)) 0 0 (fun _ => False) := by
  refine Met.ofW (cc := cX8_aboveOf) (maxL := 1) (ret := (some .int)) (by decide) rfl ?_
  intro p e s m args below meth c s₁ B hml hv
  obtain ⟨rfl, hP, hK⟩ := hv
  have hx := B.exec
  have hb := B.bytes
  have hr := B.returns
  have hts := atoms_spec (ws := wsX8_aboveOf) B.pre
  have hown : s.vm.findClass RX8 = some m.cls := findClass_of_methodNamed B.named
  have hlocks := B.notSynchronized
  have hl := lv_entry ([.int p1]) (n := 1) (Nat.le_of_ble_eq_true rfl)
  rw [lg_entry_eq]
  generalize (lg_sl ([.int p1]) ++ List.replicate (1 - (lg_sl ([.int p1])).length) Slot.unset).toArray = ls at hl ⊢
  have hl : lv_has ls 1 [(0, .int p1)] := hl
  unfold uX8_aboveOf at h
  refine bb_cap (fun WW toW ofW => ?_)
  refine lv_iload_n hx hb dX8_aboveOf_0 rfl (lv_at hl 0 rfl) ?_
  refine lv_iconst (v := (3 : Int32)) hx hb dX8_aboveOf_1 (by decide) ?_
  refine lv_icmp_ne (tgt := 9) hx hb dX8_aboveOf_2 (by decide) (fun c1 => ?_) (fun c1 => ?_)
  · replace h := bb_ifn c1 h
    refine lv_iload_n hx hb dX8_aboveOf_9 rfl (lv_at hl 0 rfl) ?_
    refine lv_iconst (v := (4 : Int32)) hx hb dX8_aboveOf_10 (by decide) ?_
    refine lv_icmp_ne (tgt := 18) hx hb dX8_aboveOf_11 (by decide) (fun c2 => ?_) (fun c2 => ?_)
    · replace h := bb_ifn c2 h
      refine lv_iload_n hx hb dX8_aboveOf_18 rfl (lv_at hl 0 rfl) ?_
      refine lv_bipush (v := (6 : Int32)) hx hb dX8_aboveOf_19 (by decide) ?_
      refine lv_icmp_ne (tgt := 28) hx hb dX8_aboveOf_21 (by decide) (fun c3 => ?_) (fun c3 => ?_)
      · replace h := bb_ifn c3 h
        refine lv_iconst (v := (0 : Int32)) hx hb dX8_aboveOf_28 (by decide) ?_
        obtain rfl := bb_some1 h
        exact W.iret hx hb hr (fun t ht hW => ⟨_, rfl, rfl, ht⟩) (fun q hq => by cases hq) dX8_aboveOf_29
      · replace h := bb_ifp c3 h
        refine lv_iconst (v := (1 : Int32)) hx hb dX8_aboveOf_24 (by decide) ?_
        refine lv_goto (tgt := 29) hx hb dX8_aboveOf_25 (by decide) ?_
        obtain rfl := bb_some1 h
        exact W.iret hx hb hr (fun t ht hW => ⟨_, rfl, rfl, ht⟩) (fun q hq => by cases hq) dX8_aboveOf_29
    · replace h := bb_ifp c2 h
      refine lv_iconst (v := (3 : Int32)) hx hb dX8_aboveOf_14 (by decide) ?_
      refine lv_goto (tgt := 29) hx hb dX8_aboveOf_15 (by decide) ?_
      obtain rfl := bb_some1 h
      exact W.iret hx hb hr (fun t ht hW => ⟨_, rfl, rfl, ht⟩) (fun q hq => by cases hq) dX8_aboveOf_29
  · replace h := bb_ifp c1 h
    refine lv_iconst (v := (2 : Int32)) hx hb dX8_aboveOf_5 (by decide) ?_
    refine lv_goto (tgt := 29) hx hb dX8_aboveOf_6 (by decide) ?_
    obtain rfl := bb_some1 h
    exact W.iret hx hb hr (fun t ht hW => ⟨_, rfl, rfl, ht⟩) (fun q hq => by cases hq) dX8_aboveOf_29
/-! X8_isUnder -/
def uX8_isUnder_s2 (x1_5 : Int32) (k_19 : Int32 → Option (Int32)) (rec6 : Int32 → Option (Int32)) (x2_4 : Int32) : Option (Int32) :=
  (if x2_4 = 0 then k_19 x2_4 else (if x2_4 = x1_5 then k_19 x2_4 else bb_b1 (uX8_aboveOf x2_4) (fun (r11 : Int32) => rec6 r11)))
def uX8_isUnder (nn : Nat) (p1 : Int32) (p2 : Int32) : Option (Int32) :=
  bb_cut (fun (x2_1 : Int32) => (if x2_1 = p2 then some (1 : Int32) else some (0 : Int32))) (fun k2 => bb_loop1 (uX8_isUnder_s2 p2 k2) nn p1)
theorem kdX8_isUnder : yX8_isUnder.cls ≠ "java/lang/invoke/MethodHandle" ∧ yX8_isUnder.cls ≠ "java/lang/invoke/VarHandle" ∧ (parseMethodDescriptor yX8_isUnder.desc).map (fun d => d.parameters.length) = some 2 := by decide +kernel
set_option maxHeartbeats 4000000 in
set_option maxRecDepth 100000 in
theorem kX8_isUnder (l : Launch) (dC : Nat → ClassId) (dI : Nat → Nat → Nat) (cy : Nat → ClassId) (p1 : Int32) (p2 : Int32) (nn : Nat) (r : Int32) (h : uX8_isUnder nn p1 p2 = some r) : Met l yX8_isUnder wsX8_isUnder ({ frames := 1, cells := 0, slots := 0, locals := 20 }) (va_Pc [.int p1, .int p2] (fun U => va_P (dC, dI) vwCl [] U.heap ∧ va_K (dC, dI) vwCl (tyX cy) U)) (vp_Si (fun r2 => r = r2 ∧ narrow .boolean (.int r2) = .int r2)) 0 0 (fun _ => False) := by
  refine Met.ofW (cc := cX8_isUnder) (maxL := 3) (ret := (some .boolean)) (by decide) rfl ?_
  intro p e s m args below meth c s₁ B hml hv
  obtain ⟨rfl, hP, hK⟩ := hv
  have hx := B.exec
  have hb := B.bytes
  have hr := B.returns
  have hts := atoms_spec (ws := wsX8_isUnder) B.pre
  have hown : s.vm.findClass RX8 = some m.cls := findClass_of_methodNamed B.named
  have hlocks := B.notSynchronized
  have hl := lv_entry ([.int p1, .int p2]) (n := 3) (Nat.le_of_ble_eq_true rfl)
  rw [lg_entry_eq]
  generalize (lg_sl ([.int p1, .int p2]) ++ List.replicate (3 - (lg_sl ([.int p1, .int p2])).length) Slot.unset).toArray = ls at hl ⊢
  have hl : lv_has ls 3 [(0, .int p1), (1, .int p2)] := hl
  unfold uX8_isUnder at h
  refine bb_cap (fun WW toW ofW => ?_)
  refine lv_iload_n hx hb dX8_isUnder_0 rfl (lv_at hl 0 rfl) ?_
  refine lv_istore_n (lv' := [(2, .int p1), (0, .int p1), (1, .int p2)]) hx hb dX8_isUnder_1 rfl hl (by decide) rfl (fun ls hl => ?_)
  obtain ⟨k2, ek2, h⟩ := bb_cut_o h
  have Jk2 : ∀ (x2_1 : Int32) (ls : Array Slot), k2 x2_1 = some r → lv_has ls 3 [(1, .int p2), (2, .int x2_1)] → WW s.heap [] (F0 m 19 ls []) := by
    intro x2_1 ls h hl
    refine ofW _ _ _ ?_
    subst ek2
    refine lv_iload_n hx hb dX8_isUnder_19 rfl (lv_at hl 1 rfl) ?_
    refine lv_iload_n hx hb dX8_isUnder_20 rfl (lv_at hl 0 rfl) ?_
    refine lv_icmp_ne (tgt := 28) hx hb dX8_isUnder_21 (by decide) (fun c3 => ?_) (fun c3 => ?_)
    · replace h := bb_ifn c3 h
      refine lv_iconst (v := (0 : Int32)) hx hb dX8_isUnder_28 (by decide) ?_
      obtain rfl := bb_some1 h
      exact W.zret hx hb hr (by decide) (fun t ht hW => ⟨_, rfl, ⟨rfl, (by decide)⟩, ht⟩) (fun q hq => by cases hq) dX8_isUnder_29
    · replace h := bb_ifp c3 h
      refine lv_iconst (v := (1 : Int32)) hx hb dX8_isUnder_24 (by decide) ?_
      refine lv_goto (tgt := 29) hx hb dX8_isUnder_25 (by decide) ?_
      obtain rfl := bb_some1 h
      exact W.zret hx hb hr (by decide) (fun t ht hW => ⟨_, rfl, ⟨rfl, (by decide)⟩, ht⟩) (fun q hq => by cases hq) dX8_isUnder_29
  have L7 : ∀ (n : Nat) (x2_4 : Int32) (ls : Array Slot), bb_loop1 (uX8_isUnder_s2 p2 k2) n x2_4 = some r → lv_has ls 3 [(1, .int p2), (2, .int x2_4)] → WW s.heap [] (F0 m 2 ls []) := by
    intro n
    induction n with
    | zero => intro x2_4 ls h; exact (bb_no h).elim
    | succ n ih8 =>
      intro x2_4 ls h hl
      refine ofW _ _ _ ?_
      obtain ⟨rec6, erec6, h⟩ := bb_loop1_o h
      unfold uX8_isUnder_s2 at h
      refine lv_iload_n hx hb dX8_isUnder_2 rfl (lv_at hl 1 rfl) ?_
      refine lv_if_eq (tgt := 19) hx hb dX8_isUnder_3 (by decide) (fun c9 => ?_) (fun c9 => ?_)
      · replace h := bb_ifp c9 h
        exact toW _ _ _ (Jk2 x2_4 _ h (lv_sub hl [0, 1] rfl))
      · replace h := bb_ifn c9 h
        refine lv_iload_n hx hb dX8_isUnder_6 rfl (lv_at hl 1 rfl) ?_
        refine lv_iload_n hx hb dX8_isUnder_7 rfl (lv_at hl 0 rfl) ?_
        refine lv_icmp_eq (tgt := 19) hx hb dX8_isUnder_8 (by decide) (fun c10 => ?_) (fun c10 => ?_)
        · replace h := bb_ifp c10 h
          exact toW _ _ _ (Jk2 x2_4 _ h (lv_sub hl [0, 1] rfl))
        · replace h := bb_ifn c10 h
          refine lv_iload_n hx hb dX8_isUnder_11 rfl (lv_at hl 1 rfl) ?_
          obtain ⟨r11, hc12, h⟩ := bb_b1_o h
          refine vp_callSi (W.runS (As := [.int x2_4]) (rest := []) ⟨hx, hb, hml, hown, hts⟩ (kX8_aboveOf l dC dI cy x2_4 r11 hc12) (va_cwS 1 hts gX8_isUnder_X8_aboveOf rfl rfl rfl kdX8_aboveOf ⟨Nat.le_of_ble_eq_true rfl, Nat.le_of_ble_eq_true rfl⟩) (bb_preS hP hK) rfl rfl hl.1 rfl (lv_room (Nat.le_of_ble_eq_true rfl)) dX8_isUnder_12 ⟨Nat.zero_le _, Nat.zero_le _⟩) (fun t13 et13 => ?_)
          obtain rfl := et13
          refine lv_istore_n (lv' := [(2, .int r11), (1, .int p2)]) hx hb dX8_isUnder_15 rfl hl (by decide) rfl (fun ls hl => ?_)
          refine lv_goto (tgt := 2) hx hb dX8_isUnder_16 (by decide) ?_
          rw [erec6] at h
          exact toW _ _ _ (ih8 r11 _ h (lv_sub hl [1, 0] rfl))
  exact toW _ _ _ (L7 nn p1 _ h (lv_sub hl [2, 0] rfl))
/-! X8_isKind -/
def uX8_isKind (p1 : Int32) : Option (Int32) :=
  bb_b1 (uX8_in p1.toInt64 (0 : Int64) (6 : Int64)) (fun (r1 : Int32) => some r1)
theorem kdX8_isKind : yX8_isKind.cls ≠ "java/lang/invoke/MethodHandle" ∧ yX8_isKind.cls ≠ "java/lang/invoke/VarHandle" ∧ (parseMethodDescriptor yX8_isKind.desc).map (fun d => d.parameters.length) = some 1 := by decide +kernel
set_option maxHeartbeats 4000000 in
set_option maxRecDepth 100000 in
theorem kX8_isKind (l : Launch) (dC : Nat → ClassId) (dI : Nat → Nat → Nat) (cy : Nat → ClassId) (p1 : Int32) (r : Int32) (h : uX8_isKind p1 = some r) : Met l yX8_isKind wsX8_isKind ({ frames := 1, cells := 0, slots := 0, locals := 25 }) (va_Pc [.int p1] (fun U => va_P (dC, dI) vwCl [] U.heap ∧ va_K (dC, dI) vwCl (tyX cy) U)) (vp_Si (fun r2 => r = r2 ∧ narrow .boolean (.int r2) = .int r2)) 0 0 (fun _ => False) := by
  refine Met.ofW (cc := cX8_isKind) (maxL := 1) (ret := (some .boolean)) (by decide) rfl ?_
  intro p e s m args below meth c s₁ B hml hv
  obtain ⟨rfl, hP, hK⟩ := hv
  have hx := B.exec
  have hb := B.bytes
  have hr := B.returns
  have hts := atoms_spec (ws := wsX8_isKind) B.pre
  have hown : s.vm.findClass RX8 = some m.cls := findClass_of_methodNamed B.named
  have hlocks := B.notSynchronized
  have lk1 := hts (Cond.constantLong RX8 115 (6)) (List.mem_of_getElem? (i := 1) rfl)
  have hl := lv_entry ([.int p1]) (n := 1) (Nat.le_of_ble_eq_true rfl)
  rw [lg_entry_eq]
  generalize (lg_sl ([.int p1]) ++ List.replicate (1 - (lg_sl ([.int p1])).length) Slot.unset).toArray = ls at hl ⊢
  have hl : lv_has ls 1 [(0, .int p1)] := hl
  unfold uX8_isKind at h
  refine bb_cap (fun WW toW ofW => ?_)
  refine lv_iload_n hx hb dX8_isKind_0 rfl (lv_at hl 0 rfl) ?_
  refine lv_i2l hx hb dX8_isKind_1 rfl ?_
  refine lv_lconst (v := (0 : Int64)) hx hb dX8_isKind_2 (by decide) ?_
  refine lv_ldc2 (v := (6 : Int64)) hx hb hown lk1 dX8_isKind_3 ?_
  obtain ⟨r1, hc2, h⟩ := bb_b1_o h
  refine vp_callSi (W.runS (As := [.long p1.toInt64, .long (0 : Int64), .long (6 : Int64)]) (rest := []) ⟨hx, hb, hml, hown, hts⟩ (kX8_in l dC dI cy p1.toInt64 (0 : Int64) (6 : Int64) r1 hc2) (va_cwS 3 hts gX8_isKind_X8_in rfl rfl rfl kdX8_in ⟨Nat.le_of_ble_eq_true rfl, Nat.le_of_ble_eq_true rfl⟩) (bb_preS hP hK) rfl rfl hl.1 rfl (lv_room (Nat.le_of_ble_eq_true rfl)) dX8_isKind_6 ⟨Nat.zero_le _, Nat.zero_le _⟩) (fun t3 et3 => ?_)
  obtain ⟨rfl, hz4⟩ := et3
  obtain rfl := bb_some1 h
  exact W.zret hx hb hr hz4 (fun t ht hW => ⟨_, rfl, ⟨rfl, hz4⟩, ht⟩) (fun q hq => by cases hq) dX8_isKind_9
