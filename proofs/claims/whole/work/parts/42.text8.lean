/-! X8_isWord -/
def uX8_isWord_s31 (x1_5 : Nat) (v_t_from_6 : Int32) (f_t_tape_9 : Nat → Int32) (rec10 : Int32 → Int32 → Option (Int32)) (x2_3 : Int32) (x3_4 : Int32) : Option (Int32) :=
  (if x2_3 = 0 then bb_z x2_3 (some x2_3) else bb_st x1_5 (bb_b1 (uJ0_length_8abf5 x1_5) (fun (r16 : Int32) => (if r16 ≤ x3_4 then bb_z x2_3 (some x2_3) else bb_ix (v_t_from_6 + x3_4) 120 (bb_st x1_5 (bb_b1 (uJ0_charAt_5068e x1_5 x3_4) (fun (r23 : Int32) => bb_cut (fun (z27 : Int32) => rec10 z27 (x3_4 + (1 : Int32))) (fun k28 => (if (f_t_tape_9 (v_t_from_6 + x3_4).toNatClampNeg) = r23 then k28 (1 : Int32) else k28 (0 : Int32))))))))))
def uX8_isWord (nn : Nat) (p1 : Nat) (v_t_from : Int32) (v_t_to : Int32) (v_t_isWrong : Int32) (f_t_tape : Nat → Int32) : Option (Int32) :=
  bb_cut (fun (z1 : Int32) => bb_loop2 (uX8_isWord_s31 p1 v_t_from f_t_tape) nn z1 (0 : Int32)) (fun k2 => bb_cut (fun (u30 : Unit) => k2 (0 : Int32)) (fun k31 => (if v_t_isWrong = 0 then bb_st p1 (bb_b1 (uJ0_length_8abf5 p1) (fun (r34 : Int32) => (if (v_t_to - v_t_from) = r34 then k2 (1 : Int32) else k31 ()))) else k31 ())))
theorem kdX8_isWord : yX8_isWord.cls = RX8 ∧ yX8_isWord.cls ≠ "java/lang/invoke/MethodHandle" ∧ yX8_isWord.cls ≠ "java/lang/invoke/VarHandle" ∧ (parseMethodDescriptor yX8_isWord.desc).map (fun d => d.parameters.length) = some 1 := by decide +kernel
set_option maxHeartbeats 4000000 in
set_option maxRecDepth 100000 in
theorem kX8_isWord (l : Launch) (dC : Nat → ClassId) (dI : Nat → Nat → Nat) (cy : Nat → ClassId) (aK aV : Nat → Nat) (aT : Nat) (a_t : Nat → Nat) (p1 : Nat) (v_t_isKept : Int32) (v_t_bestPost : Int32) (v_t_mostSeen : Int32) (v_t_taped : Int32) (v_t_from : Int32) (v_t_to : Int32) (v_t_isWrong : Int32) (f_t_tape : Nat → Int32) (nn : Nat) (r : Int32) (h : uX8_isWord nn p1 v_t_from v_t_to v_t_isWrong f_t_tape = some r) : Met l yX8_isWord wsX8_isWord ({ frames := 4, cells := 0, slots := 0, locals := 85 }) (va_Pc [.ref (a_t 0), .ref (aK p1)] (fun U => va_P (dC, dI) vwCl [((a_t 0), oX8 a_t v_t_isKept v_t_bestPost v_t_mostSeen v_t_taped v_t_from v_t_to v_t_isWrong), ((a_t 12), .inl (cy 0, 120, .inl f_t_tape))] U.heap ∧ va_K (dC, dI) vwCl (tyX cy) U ∧ EV aK aV aT (fun _ => False) U U.heap)) (vp_Si (fun r2 => r = r2 ∧ narrow .boolean (.int r2) = .int r2)) 0 0 (fun _ => False) := by
  refine Met.ofW (cc := cX8_isWord) (maxL := 4) (ret := (some .boolean)) (by decide) rfl ?_
  intro p e s m args below meth c s₁ B hml hv
  obtain ⟨rfl, hP, hK, hE⟩ := hv
  have hx := B.exec
  have hb := B.bytes
  have hr := B.returns
  have hts := atoms_spec (ws := wsX8_isWord) B.pre
  have hown : s.vm.findClass RX8 = some m.cls := findClass_of_methodNamed B.named
  have hlocks := B.notSynchronized
  have iwX8 : ∀ w ∈ wsX80, w ∈ wsX8_isWord := fun w h9 => List.mem_cons_of_mem _ (List.mem_append_right _ (h9))
  have lk1 := hts (Cond.fieldLink RX8 277 "BathBorderModel" "isWrong" "Z") (List.mem_of_getElem? (i := 1) rfl)
  have lk2 := hts (Cond.fieldLink RX8 268 "BathBorderModel" "to" "I") (List.mem_of_getElem? (i := 2) rfl)
  have lk3 := hts (Cond.fieldLink RX8 271 "BathBorderModel" "from" "I") (List.mem_of_getElem? (i := 3) rfl)
  have lk4 := hts (Cond.fieldLink RX8 36 "BathBorderModel" "tape" "[I") (List.mem_of_getElem? (i := 4) rfl)
  have hS : va_S (fun _ => False) s.heap s.heap [] := va_S.rf
  have hl := lv_entry ([.ref (a_t 0), .ref (aK p1)]) (n := 4) (Nat.le_of_ble_eq_true rfl)
  rw [lg_entry_eq]
  generalize (lg_sl ([.ref (a_t 0), .ref (aK p1)]) ++ List.replicate (4 - (lg_sl ([.ref (a_t 0), .ref (aK p1)])).length) Slot.unset).toArray = ls at hl ⊢
  have hl : lv_has ls 4 [(0, .ref (a_t 0)), (1, .ref (aK p1))] := hl
  unfold uX8_isWord at h
  refine bb_cap (fun WW toW ofW => ?_)
  refine lv_aload_n hx hb dX8_isWord_0 rfl (lv_at hl 0 rfl) ?_
  refine va_get (D := (dC, dI)) (ci := 7) (v := .int v_t_isWrong) (C := RX8) (T := TX8) (N := 20) hx hb hts iwX8 hown hK hP 0 rfl rfl 15 (by decide) lk1 (fun _ h9 => h9) rfl dX8_isWord_1 ?_
  obtain ⟨k2, ek2, h⟩ := bb_cut_o h
  have Jk2 : ∀ (z1 : Int32) (ls : Array Slot), k2 z1 = some r → lv_has ls 4 [(0, .ref (a_t 0)), (1, .ref (aK p1))] → WW s.heap [] (F0 m 28 ls [.int z1]) := by
    intro z1 ls h hl
    refine ofW _ _ _ ?_
    subst ek2
    refine lv_istore_n (lv' := [(2, .int z1), (0, .ref (a_t 0)), (1, .ref (aK p1))]) hx hb dX8_isWord_28 rfl hl (by decide) rfl (fun ls hl => ?_)
    refine lv_iconst (v := (0 : Int32)) hx hb dX8_isWord_29 (by decide) ?_
    refine lv_istore_n (lv' := [(3, .int (0 : Int32)), (2, .int z1), (0, .ref (a_t 0)), (1, .ref (aK p1))]) hx hb dX8_isWord_30 rfl hl (by decide) rfl (fun ls hl => ?_)
    have L11 : ∀ (n : Nat) (x2_3 : Int32) (x3_4 : Int32) (ls : Array Slot), bb_loop2 (uX8_isWord_s31 p1 v_t_from f_t_tape) n x2_3 x3_4 = some r → lv_has ls 4 [(0, .ref (a_t 0)), (1, .ref (aK p1)), (2, .int x2_3), (3, .int x3_4)] → WW s.heap [] (F0 m 31 ls []) := by
      intro n
      induction n with
      | zero => intro x2_3 x3_4 ls h; exact (bb_no h).elim
      | succ n ih12 =>
        intro x2_3 x3_4 ls h hl
        refine ofW _ _ _ ?_
        obtain ⟨rec10, erec10, h⟩ := bb_loop2_o h
        unfold uX8_isWord_s31 at h
        refine lv_iload_n hx hb dX8_isWord_31 rfl (lv_at hl 2 rfl) ?_
        refine lv_if_eq (tgt := 74) hx hb dX8_isWord_32 (by decide) (fun c13 => ?_) (fun c13 => ?_)
        · replace h := bb_ifp c13 h
          refine lv_iload_n hx hb dX8_isWord_74 rfl (lv_at hl 2 rfl) ?_
          obtain ⟨hz14, h⟩ := bb_z_o h
          obtain rfl := bb_some1 h
          exact W.zret hx hb hr hz14 (fun t ht hW => ⟨_, rfl, ⟨rfl, hz14⟩, ht⟩) (fun q hq => by cases hq) dX8_isWord_75
        · replace h := bb_ifn c13 h
          refine lv_iload_n hx hb dX8_isWord_35 rfl (lv_at hl 3 rfl) ?_
          refine lv_aload_n hx hb dX8_isWord_36 rfl (lv_at hl 1 rfl) ?_
          obtain ⟨hi15, h⟩ := bb_st_o h
          obtain ⟨r16, hc17, h⟩ := bb_b1_o h
          refine vp_callSi (W.runV (As := []) (rest := [.int x3_4]) ⟨hx, hb, hml, hown, hts⟩ (kJ0_length_8abf5 l dC dI cy aK aV aT p1 r16 hc17) (cwV 0 hts gX8_isWord_J0_length_8abf5 rfl rfl rfl kdJ0_length_8abf5 ⟨Nat.le_of_ble_eq_true rfl, Nat.le_of_ble_eq_true rfl⟩) (bb_preVe (EV.recv hE p1 hi15 hS) (hP.sub (ws' := []) [] rfl) hK hE hS) rfl rfl hl.1 rfl (lv_room (Nat.le_of_ble_eq_true rfl)) dX8_isWord_37 ⟨Nat.zero_le _, Nat.zero_le _⟩) (fun t18 et18 => ?_)
          obtain rfl := et18
          refine lv_icmp_ge (tgt := 74) hx hb dX8_isWord_40 (by decide) (fun c19 => ?_) (fun c19 => ?_)
          · replace h := bb_ifp c19 h
            refine lv_iload_n hx hb dX8_isWord_74 rfl (lv_at hl 2 rfl) ?_
            obtain ⟨hz20, h⟩ := bb_z_o h
            obtain rfl := bb_some1 h
            exact W.zret hx hb hr hz20 (fun t ht hW => ⟨_, rfl, ⟨rfl, hz20⟩, ht⟩) (fun q hq => by cases hq) dX8_isWord_75
          · replace h := bb_ifn c19 h
            refine lv_aload_n hx hb dX8_isWord_43 rfl (lv_at hl 0 rfl) ?_
            refine va_get (D := (dC, dI)) (ci := 7) (v := .ref (a_t 12)) (C := RX8) (T := TX8) (N := 20) hx hb hts iwX8 hown hK hP 0 rfl rfl 11 (by decide) lk4 (fun _ h9 => h9) rfl dX8_isWord_44 ?_
            refine lv_aload_n hx hb dX8_isWord_47 rfl (lv_at hl 0 rfl) ?_
            refine va_get (D := (dC, dI)) (ci := 7) (v := .int v_t_from) (C := RX8) (T := TX8) (N := 20) hx hb hts iwX8 hown hK hP 0 rfl rfl 13 (by decide) lk3 (fun _ h9 => h9) rfl dX8_isWord_48 ?_
            refine lv_iload_n hx hb dX8_isWord_51 rfl (lv_at hl 3 rfl) ?_
            refine lv_iadd hx hb dX8_isWord_52 ?_
            obtain ⟨hi21, h⟩ := bb_ix_o h
            refine va_iald hx hb hK hP 1 0 rfl rfl hi21 dX8_isWord_53 ?_
            refine lv_aload_n hx hb dX8_isWord_54 rfl (lv_at hl 1 rfl) ?_
            refine lv_iload_n hx hb dX8_isWord_55 rfl (lv_at hl 3 rfl) ?_
            obtain ⟨hi22, h⟩ := bb_st_o h
            obtain ⟨r23, hc24, h⟩ := bb_b1_o h
            refine vp_callSi (W.runV (As := [.int x3_4]) (rest := [.int (f_t_tape (v_t_from + x3_4).toNatClampNeg)]) ⟨hx, hb, hml, hown, hts⟩ (kJ0_charAt_5068e l dC dI cy aK aV aT p1 x3_4 r23 hc24) (cwV 1 hts gX8_isWord_J0_charAt_5068e rfl rfl rfl kdJ0_charAt_5068e ⟨Nat.le_of_ble_eq_true rfl, Nat.le_of_ble_eq_true rfl⟩) (bb_preVe (EV.recv hE p1 hi22 hS) (hP.sub (ws' := []) [] rfl) hK hE hS) rfl rfl hl.1 rfl (lv_room (Nat.le_of_ble_eq_true rfl)) dX8_isWord_56 ⟨Nat.zero_le _, Nat.zero_le _⟩) (fun t25 et25 => ?_)
            obtain ⟨rfl, hz26⟩ := et25
            obtain ⟨k28, ek28, h⟩ := bb_cut_o h
            have Jk28 : ∀ (z27 : Int32) (ls : Array Slot), k28 z27 = some r → lv_has ls 4 [(0, .ref (a_t 0)), (1, .ref (aK p1)), (3, .int x3_4)] → WW s.heap [] (F0 m 67 ls [.int z27]) := by
              intro z27 ls h hl
              refine ofW _ _ _ ?_
              subst ek28
              refine lv_istore_n (lv' := [(2, .int z27), (0, .ref (a_t 0)), (1, .ref (aK p1)), (3, .int x3_4)]) hx hb dX8_isWord_67 rfl hl (by decide) rfl (fun ls hl => ?_)
              refine lv_iinc (v := x3_4 + (1 : Int32)) (lv' := [(3, .int (x3_4 + (1 : Int32))), (2, .int z27), (0, .ref (a_t 0)), (1, .ref (aK p1))]) hx hb dX8_isWord_68 hl (k := 3) rfl rfl (by decide) rfl (fun ls hl => ?_)
              refine lv_goto (tgt := 31) hx hb dX8_isWord_71 (by decide) ?_
              rw [erec10] at h
              exact toW _ _ _ (ih12 z27 (x3_4 + (1 : Int32)) _ h (lv_sub hl [2, 3, 1, 0] rfl))
            refine lv_icmp_ne (tgt := 66) hx hb dX8_isWord_59 (by decide) (fun c29 => ?_) (fun c29 => ?_)
            · replace h := bb_ifn c29 h
              refine lv_iconst (v := (0 : Int32)) hx hb dX8_isWord_66 (by decide) ?_
              exact toW _ _ _ (Jk28 (0 : Int32) _ h (lv_sub hl [0, 1, 3] rfl))
            · replace h := bb_ifp c29 h
              refine lv_iconst (v := (1 : Int32)) hx hb dX8_isWord_62 (by decide) ?_
              refine lv_goto (tgt := 67) hx hb dX8_isWord_63 (by decide) ?_
              exact toW _ _ _ (Jk28 (1 : Int32) _ h (lv_sub hl [0, 1, 3] rfl))
    exact toW _ _ _ (L11 nn z1 (0 : Int32) _ h (lv_sub hl [2, 3, 1, 0] rfl))
  obtain ⟨k31, ek31, h⟩ := bb_cut_o h
  have Jk31 : ∀ (u30 : Unit) (ls : Array Slot), k31 u30 = some r → lv_has ls 4 [(0, .ref (a_t 0)), (1, .ref (aK p1))] → WW s.heap [] (F0 m 27 ls []) := by
    intro u30 ls h hl
    refine ofW _ _ _ ?_
    subst ek31
    refine lv_iconst (v := (0 : Int32)) hx hb dX8_isWord_27 (by decide) ?_
    exact toW _ _ _ (Jk2 (0 : Int32) _ h (lv_sub hl [0, 1] rfl))
  refine lv_if_ne (tgt := 27) hx hb dX8_isWord_4 (by decide) (fun c32 => ?_) (fun c32 => ?_)
  · replace h := bb_ifn c32 h
    exact toW _ _ _ (Jk31 () _ h (lv_sub hl [0, 1] rfl))
  · replace h := bb_ifp c32 h
    refine lv_aload_n hx hb dX8_isWord_7 rfl (lv_at hl 0 rfl) ?_
    refine va_get (D := (dC, dI)) (ci := 7) (v := .int v_t_to) (C := RX8) (T := TX8) (N := 20) hx hb hts iwX8 hown hK hP 0 rfl rfl 14 (by decide) lk2 (fun _ h9 => h9) rfl dX8_isWord_8 ?_
    refine lv_aload_n hx hb dX8_isWord_11 rfl (lv_at hl 0 rfl) ?_
    refine va_get (D := (dC, dI)) (ci := 7) (v := .int v_t_from) (C := RX8) (T := TX8) (N := 20) hx hb hts iwX8 hown hK hP 0 rfl rfl 13 (by decide) lk3 (fun _ h9 => h9) rfl dX8_isWord_12 ?_
    refine lv_isub hx hb dX8_isWord_15 ?_
    refine lv_aload_n hx hb dX8_isWord_16 rfl (lv_at hl 1 rfl) ?_
    obtain ⟨hi33, h⟩ := bb_st_o h
    obtain ⟨r34, hc35, h⟩ := bb_b1_o h
    refine vp_callSi (W.runV (As := []) (rest := [.int (v_t_to - v_t_from)]) ⟨hx, hb, hml, hown, hts⟩ (kJ0_length_8abf5 l dC dI cy aK aV aT p1 r34 hc35) (cwV 0 hts gX8_isWord_J0_length_8abf5 rfl rfl rfl kdJ0_length_8abf5 ⟨Nat.le_of_ble_eq_true rfl, Nat.le_of_ble_eq_true rfl⟩) (bb_preVe (EV.recv hE p1 hi33 hS) (hP.sub (ws' := []) [] rfl) hK hE hS) rfl rfl hl.1 rfl (lv_room (Nat.le_of_ble_eq_true rfl)) dX8_isWord_17 ⟨Nat.zero_le _, Nat.zero_le _⟩) (fun t36 et36 => ?_)
    obtain rfl := et36
    refine lv_icmp_ne (tgt := 27) hx hb dX8_isWord_20 (by decide) (fun c37 => ?_) (fun c37 => ?_)
    · replace h := bb_ifn c37 h
      exact toW _ _ _ (Jk31 () _ h (lv_sub hl [0, 1] rfl))
    · replace h := bb_ifp c37 h
      refine lv_iconst (v := (1 : Int32)) hx hb dX8_isWord_23 (by decide) ?_
      refine lv_goto (tgt := 28) hx hb dX8_isWord_24 (by decide) ?_
      exact toW _ _ _ (Jk2 (1 : Int32) _ h (lv_sub hl [0, 1] rfl))
/-! X8_takes -/
def uX8_takes (nn : Nat) (p1 : Nat) (v_t_taped : Int32) (v_t_from : Int32) (v_t_to : Int32) (v_t_isWrong : Int32) (f_t_tape : Nat → Int32) : Option (Int32 × (Int32) × (Int32)) :=
  bb_b1 (uX8_isWord nn p1 v_t_from v_t_to v_t_isWrong f_t_tape) (fun (r1 : Int32) => (if r1 = 0 then some (r1, v_t_from, v_t_to) else bb_b2 (uX8_next_ nn v_t_taped v_t_from v_t_to f_t_tape) (fun (w6 : Int32) (w7 : Int32) => some (r1, w6, w7))))
theorem kdX8_takes : yX8_takes.cls = RX8 ∧ yX8_takes.cls ≠ "java/lang/invoke/MethodHandle" ∧ yX8_takes.cls ≠ "java/lang/invoke/VarHandle" ∧ (parseMethodDescriptor yX8_takes.desc).map (fun d => d.parameters.length) = some 1 := by decide +kernel
set_option maxHeartbeats 4000000 in
set_option maxRecDepth 100000 in
theorem kX8_takes (l : Launch) (dC : Nat → ClassId) (dI : Nat → Nat → Nat) (cy : Nat → ClassId) (aK aV : Nat → Nat) (aT : Nat) (sz : Nat) (a_t : Nat → Nat) (p1 : Nat) (v_t_isKept : Int32) (v_t_bestPost : Int32) (v_t_mostSeen : Int32) (v_t_taped : Int32) (v_t_from : Int32) (v_t_to : Int32) (v_t_isWrong : Int32) (f_t_tape : Nat → Int32) (nn : Nat) (r : Int32) (v_t_from_o : Int32) (v_t_to_o : Int32) (h : uX8_takes nn p1 v_t_taped v_t_from v_t_to v_t_isWrong f_t_tape = some (r, v_t_from_o, v_t_to_o)) : Met l yX8_takes wsX8_takes ({ frames := 5, cells := 0, slots := 0, locals := 108 }) (va_Pc [.ref (a_t 0), .ref (aK p1)] (fun U => U.heap.size = sz ∧ va_P (dC, dI) vwCl [((a_t 0), oX8 a_t v_t_isKept v_t_bestPost v_t_mostSeen v_t_taped v_t_from v_t_to v_t_isWrong), ((a_t 12), .inl (cy 0, 120, .inl f_t_tape))] U.heap ∧ va_K (dC, dI) vwCl (tyX cy) U ∧ va_D (fun _ => True) [((a_t 0), oX8 a_t v_t_isKept v_t_bestPost v_t_mostSeen v_t_taped v_t_from v_t_to v_t_isWrong), ((a_t 12), .inl (cy 0, 120, .inl f_t_tape))] ∧ EV aK aV aT (va_A [((a_t 0), oX8 a_t v_t_isKept v_t_bestPost v_t_mostSeen v_t_taped v_t_from v_t_to v_t_isWrong), ((a_t 12), .inl (cy 0, 120, .inl f_t_tape))] sz) U U.heap)) (va_Qi (fun (r2 : Int32) (_ : Unit) => r = r2 ∧ narrow .boolean (.int r2) = .int r2) (fun _ t => va_P (dC, dI) vwCl [((a_t 0), oX8 a_t v_t_isKept v_t_bestPost v_t_mostSeen v_t_taped v_t_from_o v_t_to_o v_t_isWrong), ((a_t 12), .inl (cy 0, 120, .inl f_t_tape))] t.heap ∧ va_K (dC, dI) vwCl (tyX cy) t ∧ va_D (va_A [((a_t 0), oX8 a_t v_t_isKept v_t_bestPost v_t_mostSeen v_t_taped v_t_from v_t_to v_t_isWrong), ((a_t 12), .inl (cy 0, 120, .inl f_t_tape))] sz) [((a_t 0), oX8 a_t v_t_isKept v_t_bestPost v_t_mostSeen v_t_taped v_t_from_o v_t_to_o v_t_isWrong), ((a_t 12), .inl (cy 0, 120, .inl f_t_tape))]) (va_A [((a_t 0), oX8 a_t v_t_isKept v_t_bestPost v_t_mostSeen v_t_taped v_t_from v_t_to v_t_isWrong), ((a_t 12), .inl (cy 0, 120, .inl f_t_tape))] sz)) 0 0 (va_A [((a_t 0), oX8 a_t v_t_isKept v_t_bestPost v_t_mostSeen v_t_taped v_t_from v_t_to v_t_isWrong), ((a_t 12), .inl (cy 0, 120, .inl f_t_tape))] sz) := by
  refine Met.ofW (cc := cX8_takes) (maxL := 3) (ret := (some .boolean)) (by decide) rfl ?_
  intro p e s m args below meth c s₁ B hml hv
  obtain ⟨rfl, hsz, hP, hK, hD0, hE⟩ := hv
  have hx := B.exec
  have hb := B.bytes
  have hr := B.returns
  have hts := atoms_spec (ws := wsX8_takes) B.pre
  have hown : s.vm.findClass RX8 = some m.cls := findClass_of_methodNamed B.named
  have hlocks := B.notSynchronized
  subst hsz
  have hD := hD0.self (sz := s.heap.size)
  generalize hAe : va_A [((a_t 0), oX8 a_t v_t_isKept v_t_bestPost v_t_mostSeen v_t_taped v_t_from v_t_to v_t_isWrong), ((a_t 12), .inl (cy 0, 120, .inl f_t_tape))] s.heap.size = A at hD hE ⊢
  have hA : ∀ q : Nat, s.heap.size ≤ q → A q := fun q h => by rw [← hAe]; exact Or.inr h
  have hS : va_S A s.heap s.heap [] := va_S.rf
  have hP : va_P (dC, dI) vwCl [((a_t 0), oX8 a_t v_t_isKept v_t_bestPost v_t_mostSeen v_t_taped v_t_from v_t_to v_t_isWrong), ((a_t 12), .inl (cy 0, 120, .inl f_t_tape))] s.heap := hP
  have hl := lv_entry ([.ref (a_t 0), .ref (aK p1)]) (n := 3) (Nat.le_of_ble_eq_true rfl)
  rw [lg_entry_eq]
  generalize (lg_sl ([.ref (a_t 0), .ref (aK p1)]) ++ List.replicate (3 - (lg_sl ([.ref (a_t 0), .ref (aK p1)])).length) Slot.unset).toArray = ls at hl ⊢
  have hl : lv_has ls 3 [(0, .ref (a_t 0)), (1, .ref (aK p1))] := hl
  unfold uX8_takes at h
  refine bb_cap (fun WW toW ofW => ?_)
  refine lv_aload_n hx hb dX8_takes_0 rfl (lv_at hl 0 rfl) ?_
  refine lv_aload_n hx hb dX8_takes_1 rfl (lv_at hl 1 rfl) ?_
  obtain ⟨r1, hc2, h⟩ := bb_b1_o h
  refine vp_callSi (W.runV (As := [.ref (aK p1)]) (rest := []) ⟨hx, hb, hml, hown, hts⟩ (kX8_isWord l dC dI cy aK aV aT a_t p1 v_t_isKept v_t_bestPost v_t_mostSeen v_t_taped v_t_from v_t_to v_t_isWrong f_t_tape nn r1 hc2) (cwV 1 hts gX8_takes_X8_isWord rfl rfl rfl kdX8_isWord ⟨Nat.le_of_ble_eq_true rfl, Nat.le_of_ble_eq_true rfl⟩) (bb_preVe (va_recv hK hP (ci := 7) (q0 := 0) rfl rfl) hP hK hE hS) rfl rfl hl.1 rfl (lv_room (Nat.le_of_ble_eq_true rfl)) dX8_takes_2 ⟨Nat.zero_le _, Nat.zero_le _⟩) (fun t3 et3 => ?_)
  obtain ⟨rfl, hz4⟩ := et3
  refine lv_istore_n (lv' := [(2, .int r1), (0, .ref (a_t 0)), (1, .ref (aK p1))]) hx hb dX8_takes_5 rfl hl (by decide) rfl (fun ls hl => ?_)
  refine lv_iload_n hx hb dX8_takes_6 rfl (lv_at hl 0 rfl) ?_
  refine lv_if_eq (tgt := 14) hx hb dX8_takes_7 (by decide) (fun c5 => ?_) (fun c5 => ?_)
  · replace h := bb_ifp c5 h
    refine lv_iload_n hx hb dX8_takes_14 rfl (lv_at hl 0 rfl) ?_
    obtain ⟨rfl, rfl, rfl⟩ := bb_some3 h
    have hP9 := hP.sub (ws' := [((a_t 0), oX8 a_t v_t_isKept v_t_bestPost v_t_mostSeen v_t_taped v_t_from v_t_to v_t_isWrong), ((a_t 12), .inl (cy 0, 120, .inl f_t_tape))]) [0, 1] rfl
    have hD9 := hD.sub (ws' := [((a_t 0), oX8 a_t v_t_isKept v_t_bestPost v_t_mostSeen v_t_taped v_t_from v_t_to v_t_isWrong), ((a_t 12), .inl (cy 0, 120, .inl f_t_tape))]) [0, 1] (by decide) rfl
    exact W.zret hx hb hr hz4 (fun t ht hW => ⟨⟨_, (), rfl, ⟨rfl, hz4⟩, by rw [ht]; exact hP9, va_K.moved hW.alike hK, hD9⟩, hS.F ht⟩) hS.2.2 dX8_takes_15
  · replace h := bb_ifn c5 h
    refine lv_aload_n hx hb dX8_takes_10 rfl (lv_at hl 1 rfl) ?_
    obtain ⟨w6, w7, hc8, h⟩ := bb_b2_o h
    refine bb_cwv (wr := []) (w1 := [((a_t 0), oX8 a_t v_t_isKept v_t_bestPost v_t_mostSeen v_t_taped w6 w7 v_t_isWrong), ((a_t 12), .inl (cy 0, 120, .inl f_t_tape))]) (va_runV (As := []) (rest := []) ⟨hx, hb, hml, hown, hts⟩ (kX8_next_ l dC dI cy s.heap.size a_t v_t_isKept v_t_bestPost v_t_mostSeen v_t_taped v_t_from v_t_to v_t_isWrong f_t_tape nn w6 w7 hc8) (cwV 0 hts gX8_takes_X8_next_ rfl rfl rfl kdX8_next_ ⟨Nat.le_of_ble_eq_true rfl, Nat.le_of_ble_eq_true rfl⟩) (bb_preVw (va_recv hK hP (ci := 7) (q0 := 0) rfl rfl) hP hK (hD.sub (ws' := [((a_t 0), oX8 a_t v_t_isKept v_t_bestPost v_t_mostSeen v_t_taped v_t_from v_t_to v_t_isWrong), ((a_t 12), .inl (cy 0, 120, .inl f_t_tape))]) [0, 1] (by decide) rfl)) rfl rfl hl.1 rfl (lv_room (Nat.le_of_ble_eq_true rfl)) dX8_takes_11 ⟨Nat.zero_le _, Nat.zero_le _⟩) hP hD hS hA [0, 1] [] rfl rfl (by decide) (by decide) (fun H locs hP hD hS => ?_)
    have hP : va_P (dC, dI) vwCl [((a_t 0), oX8 a_t v_t_isKept v_t_bestPost v_t_mostSeen v_t_taped w6 w7 v_t_isWrong), ((a_t 12), .inl (cy 0, 120, .inl f_t_tape))] H := hP
    have hD : va_D A [((a_t 0), oX8 a_t v_t_isKept v_t_bestPost v_t_mostSeen v_t_taped w6 w7 v_t_isWrong), ((a_t 12), .inl (cy 0, 120, .inl f_t_tape))] := hD
    refine lv_iload_n hx hb dX8_takes_14 rfl (lv_at hl 0 rfl) ?_
    obtain ⟨rfl, rfl, rfl⟩ := bb_some3 h
    have hP9 := hP.sub (ws' := [((a_t 0), oX8 a_t v_t_isKept v_t_bestPost v_t_mostSeen v_t_taped w6 w7 v_t_isWrong), ((a_t 12), .inl (cy 0, 120, .inl f_t_tape))]) [0, 1] rfl
    have hD9 := hD.sub (ws' := [((a_t 0), oX8 a_t v_t_isKept v_t_bestPost v_t_mostSeen v_t_taped w6 w7 v_t_isWrong), ((a_t 12), .inl (cy 0, 120, .inl f_t_tape))]) [0, 1] (by decide) rfl
    exact W.zret hx hb hr hz4 (fun t ht hW => ⟨⟨_, (), rfl, ⟨rfl, hz4⟩, by rw [ht]; exact hP9, va_K.moved hW.alike hK, hD9⟩, hS.F ht⟩) hS.2.2 dX8_takes_15
/-! X8_kindHere -/
def uX8_kindHere (nn : Nat) (v_t_from : Int32) (v_t_to : Int32) (v_t_isWrong : Int32) (f_t_tape : Nat → Int32) : Option (Int32) :=
  bb_b1 (uX8_isWord nn 6 v_t_from v_t_to v_t_isWrong f_t_tape) (fun (r1 : Int32) => bb_cut (fun (z5 : Int32) => bb_b1 (uX8_isWord nn 2 v_t_from v_t_to v_t_isWrong f_t_tape) (fun (r7 : Int32) => bb_cut (fun (z11 : Int32) => (if z5 < 0 then (if z11 < 0 then bb_b1 (uX8_isWord nn 5 v_t_from v_t_to v_t_isWrong f_t_tape) (fun (r15 : Int32) => (if r15 = 0 then some (-1 : Int32) else some (6 : Int32))) else some z11) else some z5)) (fun k12 => (if r7 = 0 then bb_b1 (uX8_isWord nn 3 v_t_from v_t_to v_t_isWrong f_t_tape) (fun (r21 : Int32) => (if r21 = 0 then bb_b1 (uX8_isWord nn 4 v_t_from v_t_to v_t_isWrong f_t_tape) (fun (r26 : Int32) => (if r26 = 0 then k12 (-1 : Int32) else k12 (5 : Int32))) else k12 (4 : Int32))) else k12 (3 : Int32))))) (fun k6 => (if r1 = 0 then bb_b1 (uX8_isWord nn 0 v_t_from v_t_to v_t_isWrong f_t_tape) (fun (r32 : Int32) => (if r32 = 0 then bb_b1 (uX8_isWord nn 1 v_t_from v_t_to v_t_isWrong f_t_tape) (fun (r37 : Int32) => (if r37 = 0 then k6 (-1 : Int32) else k6 (2 : Int32))) else k6 (1 : Int32))) else k6 (0 : Int32))))
theorem kdX8_kindHere : yX8_kindHere.cls = RX8 ∧ yX8_kindHere.cls ≠ "java/lang/invoke/MethodHandle" ∧ yX8_kindHere.cls ≠ "java/lang/invoke/VarHandle" ∧ (parseMethodDescriptor yX8_kindHere.desc).map (fun d => d.parameters.length) = some 0 := by decide +kernel
set_option maxHeartbeats 4000000 in
set_option maxRecDepth 100000 in
theorem kX8_kindHere (l : Launch) (dC : Nat → ClassId) (dI : Nat → Nat → Nat) (cy : Nat → ClassId) (aK aV : Nat → Nat) (aT : Nat) (a_t : Nat → Nat) (v_t_isKept : Int32) (v_t_bestPost : Int32) (v_t_mostSeen : Int32) (v_t_taped : Int32) (v_t_from : Int32) (v_t_to : Int32) (v_t_isWrong : Int32) (f_t_tape : Nat → Int32) (nn : Nat) (r : Int32) (h : uX8_kindHere nn v_t_from v_t_to v_t_isWrong f_t_tape = some r) : Met l yX8_kindHere wsX8_kindHere ({ frames := 5, cells := 0, slots := 0, locals := 108 }) (va_Pc [.ref (a_t 0)] (fun U => va_P (dC, dI) vwCl [((a_t 0), oX8 a_t v_t_isKept v_t_bestPost v_t_mostSeen v_t_taped v_t_from v_t_to v_t_isWrong), ((a_t 12), .inl (cy 0, 120, .inl f_t_tape))] U.heap ∧ va_K (dC, dI) vwCl (tyX cy) U ∧ EV aK aV aT (fun _ => False) U U.heap)) (vp_Si (fun r2 => r = r2)) 0 0 (fun _ => False) := by
  refine Met.ofW (cc := cX8_kindHere) (maxL := 3) (ret := (some .int)) (by decide) rfl ?_
  intro p e s m args below meth c s₁ B hml hv
  obtain ⟨rfl, hP, hK, hE⟩ := hv
  have hx := B.exec
  have hb := B.bytes
  have hr := B.returns
  have hts := atoms_spec (ws := wsX8_kindHere) B.pre
  have hown : s.vm.findClass RX8 = some m.cls := findClass_of_methodNamed B.named
  have hlocks := B.notSynchronized
  have hS : va_S (fun _ => False) s.heap s.heap [] := va_S.rf
  have hl := lv_entry ([.ref (a_t 0)]) (n := 3) (Nat.le_of_ble_eq_true rfl)
  rw [lg_entry_eq]
  generalize (lg_sl ([.ref (a_t 0)]) ++ List.replicate (3 - (lg_sl ([.ref (a_t 0)])).length) Slot.unset).toArray = ls at hl ⊢
  have hl : lv_has ls 3 [(0, .ref (a_t 0))] := hl
  unfold uX8_kindHere at h
  refine bb_cap (fun WW toW ofW => ?_)
  refine lv_aload_n hx hb dX8_kindHere_0 rfl (lv_at hl 0 rfl) ?_
  refine bb_ldcwS hx hb hown (EV.con hE ("BathBorderModel", 300, "bather", 6) (by decide)) dX8_kindHere_1 ?_
  obtain ⟨r1, hc2, h⟩ := bb_b1_o h
  refine vp_callSi (W.runV (As := [.ref (aK 6)]) (rest := []) ⟨hx, hb, hml, hown, hts⟩ (kX8_isWord l dC dI cy aK aV aT a_t 6 v_t_isKept v_t_bestPost v_t_mostSeen v_t_taped v_t_from v_t_to v_t_isWrong f_t_tape nn r1 hc2) (cwV 1 hts gX8_kindHere_X8_isWord rfl rfl rfl kdX8_isWord ⟨Nat.le_of_ble_eq_true rfl, Nat.le_of_ble_eq_true rfl⟩) (bb_preVe (va_recv hK hP (ci := 7) (q0 := 0) rfl rfl) hP hK hE hS) rfl rfl hl.1 rfl (lv_room (Nat.le_of_ble_eq_true rfl)) dX8_kindHere_4 ⟨Nat.zero_le _, Nat.zero_le _⟩) (fun t3 et3 => ?_)
  obtain ⟨rfl, hz4⟩ := et3
  obtain ⟨k6, ek6, h⟩ := bb_cut_o h
  have Jk6 : ∀ (z5 : Int32) (ls : Array Slot), k6 z5 = some r → lv_has ls 3 [(0, .ref (a_t 0))] → WW s.heap [] (F0 m 43 ls [.int z5]) := by
    intro z5 ls h hl
    refine ofW _ _ _ ?_
    subst ek6
    refine lv_istore_n (lv' := [(1, .int z5), (0, .ref (a_t 0))]) hx hb dX8_kindHere_43 rfl hl (by decide) rfl (fun ls hl => ?_)
    refine lv_aload_n hx hb dX8_kindHere_44 rfl (lv_at hl 1 rfl) ?_
    refine bb_ldcwS hx hb hown (EV.con hE ("BathBorderModel", 306, "lover", 2) (by decide)) dX8_kindHere_45 ?_
    obtain ⟨r7, hc8, h⟩ := bb_b1_o h
    refine vp_callSi (W.runV (As := [.ref (aK 2)]) (rest := []) ⟨hx, hb, hml, hown, hts⟩ (kX8_isWord l dC dI cy aK aV aT a_t 2 v_t_isKept v_t_bestPost v_t_mostSeen v_t_taped v_t_from v_t_to v_t_isWrong f_t_tape nn r7 hc8) (cwV 1 hts gX8_kindHere_X8_isWord rfl rfl rfl kdX8_isWord ⟨Nat.le_of_ble_eq_true rfl, Nat.le_of_ble_eq_true rfl⟩) (bb_preVe (va_recv hK hP (ci := 7) (q0 := 0) rfl rfl) hP hK hE hS) rfl rfl hl.1 rfl (lv_room (Nat.le_of_ble_eq_true rfl)) dX8_kindHere_48 ⟨Nat.zero_le _, Nat.zero_le _⟩) (fun t9 et9 => ?_)
    obtain ⟨rfl, hz10⟩ := et9
    obtain ⟨k12, ek12, h⟩ := bb_cut_o h
    have Jk12 : ∀ (z11 : Int32) (ls : Array Slot), k12 z11 = some r → lv_has ls 3 [(0, .ref (a_t 0)), (1, .int z5)] → WW s.heap [] (F0 m 87 ls [.int z11]) := by
      intro z11 ls h hl
      refine ofW _ _ _ ?_
      subst ek12
      refine lv_istore_n (lv' := [(2, .int z11), (0, .ref (a_t 0)), (1, .int z5)]) hx hb dX8_kindHere_87 rfl hl (by decide) rfl (fun ls hl => ?_)
      refine lv_iload_n hx hb dX8_kindHere_88 rfl (lv_at hl 2 rfl) ?_
      refine lv_if_lt (tgt := 96) hx hb dX8_kindHere_89 (by decide) (fun c13 => ?_) (fun c13 => ?_)
      · replace h := bb_ifp c13 h
        refine lv_iload_n hx hb dX8_kindHere_96 rfl (lv_at hl 0 rfl) ?_
        refine lv_if_lt (tgt := 104) hx hb dX8_kindHere_97 (by decide) (fun c14 => ?_) (fun c14 => ?_)
        · replace h := bb_ifp c14 h
          refine lv_aload_n hx hb dX8_kindHere_104 rfl (lv_at hl 1 rfl) ?_
          refine bb_ldcwS hx hb hown (EV.con hE ("BathBorderModel", 312, "general", 5) (by decide)) dX8_kindHere_105 ?_
          obtain ⟨r15, hc16, h⟩ := bb_b1_o h
          refine vp_callSi (W.runV (As := [.ref (aK 5)]) (rest := []) ⟨hx, hb, hml, hown, hts⟩ (kX8_isWord l dC dI cy aK aV aT a_t 5 v_t_isKept v_t_bestPost v_t_mostSeen v_t_taped v_t_from v_t_to v_t_isWrong f_t_tape nn r15 hc16) (cwV 1 hts gX8_kindHere_X8_isWord rfl rfl rfl kdX8_isWord ⟨Nat.le_of_ble_eq_true rfl, Nat.le_of_ble_eq_true rfl⟩) (bb_preVe (va_recv hK hP (ci := 7) (q0 := 0) rfl rfl) hP hK hE hS) rfl rfl hl.1 rfl (lv_room (Nat.le_of_ble_eq_true rfl)) dX8_kindHere_108 ⟨Nat.zero_le _, Nat.zero_le _⟩) (fun t17 et17 => ?_)
          obtain ⟨rfl, hz18⟩ := et17
          refine lv_if_eq (tgt := 119) hx hb dX8_kindHere_111 (by decide) (fun c19 => ?_) (fun c19 => ?_)
          · replace h := bb_ifp c19 h
            refine lv_iconst (v := (-1 : Int32)) hx hb dX8_kindHere_119 (by decide) ?_
            obtain rfl := bb_some1 h
            exact W.iret hx hb hr (fun t ht hW => ⟨_, rfl, rfl, ht⟩) (fun q hq => by cases hq) dX8_kindHere_120
          · replace h := bb_ifn c19 h
            refine lv_bipush (v := (6 : Int32)) hx hb dX8_kindHere_114 (by decide) ?_
            refine lv_goto (tgt := 120) hx hb dX8_kindHere_116 (by decide) ?_
            obtain rfl := bb_some1 h
            exact W.iret hx hb hr (fun t ht hW => ⟨_, rfl, rfl, ht⟩) (fun q hq => by cases hq) dX8_kindHere_120
        · replace h := bb_ifn c14 h
          refine lv_iload_n hx hb dX8_kindHere_100 rfl (lv_at hl 0 rfl) ?_
          refine lv_goto (tgt := 120) hx hb dX8_kindHere_101 (by decide) ?_
          obtain rfl := bb_some1 h
          exact W.iret hx hb hr (fun t ht hW => ⟨_, rfl, rfl, ht⟩) (fun q hq => by cases hq) dX8_kindHere_120
      · replace h := bb_ifn c13 h
        refine lv_iload_n hx hb dX8_kindHere_92 rfl (lv_at hl 2 rfl) ?_
        refine lv_goto (tgt := 120) hx hb dX8_kindHere_93 (by decide) ?_
        obtain rfl := bb_some1 h
        exact W.iret hx hb hr (fun t ht hW => ⟨_, rfl, rfl, ht⟩) (fun q hq => by cases hq) dX8_kindHere_120
    refine lv_if_eq (tgt := 58) hx hb dX8_kindHere_51 (by decide) (fun c20 => ?_) (fun c20 => ?_)
    · replace h := bb_ifp c20 h
      refine lv_aload_n hx hb dX8_kindHere_58 rfl (lv_at hl 1 rfl) ?_
      refine bb_ldcwS hx hb hown (EV.con hE ("BathBorderModel", 308, "stayer", 3) (by decide)) dX8_kindHere_59 ?_
      obtain ⟨r21, hc22, h⟩ := bb_b1_o h
      refine vp_callSi (W.runV (As := [.ref (aK 3)]) (rest := []) ⟨hx, hb, hml, hown, hts⟩ (kX8_isWord l dC dI cy aK aV aT a_t 3 v_t_isKept v_t_bestPost v_t_mostSeen v_t_taped v_t_from v_t_to v_t_isWrong f_t_tape nn r21 hc22) (cwV 1 hts gX8_kindHere_X8_isWord rfl rfl rfl kdX8_isWord ⟨Nat.le_of_ble_eq_true rfl, Nat.le_of_ble_eq_true rfl⟩) (bb_preVe (va_recv hK hP (ci := 7) (q0 := 0) rfl rfl) hP hK hE hS) rfl rfl hl.1 rfl (lv_room (Nat.le_of_ble_eq_true rfl)) dX8_kindHere_62 ⟨Nat.zero_le _, Nat.zero_le _⟩) (fun t23 et23 => ?_)
      obtain ⟨rfl, hz24⟩ := et23
      refine lv_if_eq (tgt := 72) hx hb dX8_kindHere_65 (by decide) (fun c25 => ?_) (fun c25 => ?_)
      · replace h := bb_ifp c25 h
        refine lv_aload_n hx hb dX8_kindHere_72 rfl (lv_at hl 1 rfl) ?_
        refine bb_ldcwS hx hb hown (EV.con hE ("BathBorderModel", 310, "child", 4) (by decide)) dX8_kindHere_73 ?_
        obtain ⟨r26, hc27, h⟩ := bb_b1_o h
        refine vp_callSi (W.runV (As := [.ref (aK 4)]) (rest := []) ⟨hx, hb, hml, hown, hts⟩ (kX8_isWord l dC dI cy aK aV aT a_t 4 v_t_isKept v_t_bestPost v_t_mostSeen v_t_taped v_t_from v_t_to v_t_isWrong f_t_tape nn r26 hc27) (cwV 1 hts gX8_kindHere_X8_isWord rfl rfl rfl kdX8_isWord ⟨Nat.le_of_ble_eq_true rfl, Nat.le_of_ble_eq_true rfl⟩) (bb_preVe (va_recv hK hP (ci := 7) (q0 := 0) rfl rfl) hP hK hE hS) rfl rfl hl.1 rfl (lv_room (Nat.le_of_ble_eq_true rfl)) dX8_kindHere_76 ⟨Nat.zero_le _, Nat.zero_le _⟩) (fun t28 et28 => ?_)
        obtain ⟨rfl, hz29⟩ := et28
        refine lv_if_eq (tgt := 86) hx hb dX8_kindHere_79 (by decide) (fun c30 => ?_) (fun c30 => ?_)
        · replace h := bb_ifp c30 h
          refine lv_iconst (v := (-1 : Int32)) hx hb dX8_kindHere_86 (by decide) ?_
          exact toW _ _ _ (Jk12 (-1 : Int32) _ h (lv_sub hl [1, 0] rfl))
        · replace h := bb_ifn c30 h
          refine lv_iconst (v := (5 : Int32)) hx hb dX8_kindHere_82 (by decide) ?_
          refine lv_goto (tgt := 87) hx hb dX8_kindHere_83 (by decide) ?_
          exact toW _ _ _ (Jk12 (5 : Int32) _ h (lv_sub hl [1, 0] rfl))
      · replace h := bb_ifn c25 h
        refine lv_iconst (v := (4 : Int32)) hx hb dX8_kindHere_68 (by decide) ?_
        refine lv_goto (tgt := 87) hx hb dX8_kindHere_69 (by decide) ?_
        exact toW _ _ _ (Jk12 (4 : Int32) _ h (lv_sub hl [1, 0] rfl))
    · replace h := bb_ifn c20 h
      refine lv_iconst (v := (3 : Int32)) hx hb dX8_kindHere_54 (by decide) ?_
      refine lv_goto (tgt := 87) hx hb dX8_kindHere_55 (by decide) ?_
      exact toW _ _ _ (Jk12 (3 : Int32) _ h (lv_sub hl [1, 0] rfl))
  refine lv_if_eq (tgt := 14) hx hb dX8_kindHere_7 (by decide) (fun c31 => ?_) (fun c31 => ?_)
  · replace h := bb_ifp c31 h
    refine lv_aload_n hx hb dX8_kindHere_14 rfl (lv_at hl 0 rfl) ?_
    refine bb_ldcwS hx hb hown (EV.con hE ("BathBorderModel", 302, "spy", 0) (by decide)) dX8_kindHere_15 ?_
    obtain ⟨r32, hc33, h⟩ := bb_b1_o h
    refine vp_callSi (W.runV (As := [.ref (aK 0)]) (rest := []) ⟨hx, hb, hml, hown, hts⟩ (kX8_isWord l dC dI cy aK aV aT a_t 0 v_t_isKept v_t_bestPost v_t_mostSeen v_t_taped v_t_from v_t_to v_t_isWrong f_t_tape nn r32 hc33) (cwV 1 hts gX8_kindHere_X8_isWord rfl rfl rfl kdX8_isWord ⟨Nat.le_of_ble_eq_true rfl, Nat.le_of_ble_eq_true rfl⟩) (bb_preVe (va_recv hK hP (ci := 7) (q0 := 0) rfl rfl) hP hK hE hS) rfl rfl hl.1 rfl (lv_room (Nat.le_of_ble_eq_true rfl)) dX8_kindHere_18 ⟨Nat.zero_le _, Nat.zero_le _⟩) (fun t34 et34 => ?_)
    obtain ⟨rfl, hz35⟩ := et34
    refine lv_if_eq (tgt := 28) hx hb dX8_kindHere_21 (by decide) (fun c36 => ?_) (fun c36 => ?_)
    · replace h := bb_ifp c36 h
      refine lv_aload_n hx hb dX8_kindHere_28 rfl (lv_at hl 0 rfl) ?_
      refine bb_ldcwS hx hb hown (EV.con hE ("BathBorderModel", 304, "floater", 1) (by decide)) dX8_kindHere_29 ?_
      obtain ⟨r37, hc38, h⟩ := bb_b1_o h
      refine vp_callSi (W.runV (As := [.ref (aK 1)]) (rest := []) ⟨hx, hb, hml, hown, hts⟩ (kX8_isWord l dC dI cy aK aV aT a_t 1 v_t_isKept v_t_bestPost v_t_mostSeen v_t_taped v_t_from v_t_to v_t_isWrong f_t_tape nn r37 hc38) (cwV 1 hts gX8_kindHere_X8_isWord rfl rfl rfl kdX8_isWord ⟨Nat.le_of_ble_eq_true rfl, Nat.le_of_ble_eq_true rfl⟩) (bb_preVe (va_recv hK hP (ci := 7) (q0 := 0) rfl rfl) hP hK hE hS) rfl rfl hl.1 rfl (lv_room (Nat.le_of_ble_eq_true rfl)) dX8_kindHere_32 ⟨Nat.zero_le _, Nat.zero_le _⟩) (fun t39 et39 => ?_)
      obtain ⟨rfl, hz40⟩ := et39
      refine lv_if_eq (tgt := 42) hx hb dX8_kindHere_35 (by decide) (fun c41 => ?_) (fun c41 => ?_)
      · replace h := bb_ifp c41 h
        refine lv_iconst (v := (-1 : Int32)) hx hb dX8_kindHere_42 (by decide) ?_
        exact toW _ _ _ (Jk6 (-1 : Int32) _ h (lv_sub hl [0] rfl))
      · replace h := bb_ifn c41 h
        refine lv_iconst (v := (2 : Int32)) hx hb dX8_kindHere_38 (by decide) ?_
        refine lv_goto (tgt := 43) hx hb dX8_kindHere_39 (by decide) ?_
        exact toW _ _ _ (Jk6 (2 : Int32) _ h (lv_sub hl [0] rfl))
    · replace h := bb_ifn c36 h
      refine lv_iconst (v := (1 : Int32)) hx hb dX8_kindHere_24 (by decide) ?_
      refine lv_goto (tgt := 43) hx hb dX8_kindHere_25 (by decide) ?_
      exact toW _ _ _ (Jk6 (1 : Int32) _ h (lv_sub hl [0] rfl))
  · replace h := bb_ifn c31 h
    refine lv_iconst (v := (0 : Int32)) hx hb dX8_kindHere_10 (by decide) ?_
    refine lv_goto (tgt := 43) hx hb dX8_kindHere_11 (by decide) ?_
    exact toW _ _ _ (Jk6 (0 : Int32) _ h (lv_sub hl [0] rfl))
/-! X8_batherTold -/
def uX8_batherTold (nn : Nat) (p1 : Int32) (v_t_taped : Int32) (v_t_from : Int32) (v_t_to : Int32) (v_t_isWrong : Int32) (f_t_s : Nat → Int32) (f_t_tape : Nat → Int32) : Option ((Int32) × (Int32) × (Int32) × (Nat → Int32)) :=
  bb_cut (fun (z1 : Int32) => bb_b3 (uX8_must nn z1 v_t_taped v_t_from v_t_to v_t_isWrong f_t_tape) (fun (w3 : Int32) (w4 : Int32) (w5 : Int32) => (if w5 = 0 then bb_b2 (uX8_adds p1 (0 : Int32) f_t_s) (fun (r8 : Int32) (w9 : Nat → Int32) => bb_b3 (uX8_takes nn 7 v_t_taped w3 w4 w5 f_t_tape) (fun (r11 : Int32) (w12 : Int32) (w13 : Int32) => bb_cut (fun (v_t_from_16 : Int32) (v_t_to_17 : Int32) (v_t_isWrong_18 : Int32) (f_t_s_19 : Nat → Int32) => bb_b3 (uX8_takes nn 8 v_t_taped v_t_from_16 v_t_to_17 v_t_isWrong_18 f_t_tape) (fun (r21 : Int32) (w22 : Int32) (w23 : Int32) => bb_cut (fun (v_t_from_26 : Int32) (v_t_to_27 : Int32) (v_t_isWrong_28 : Int32) (f_t_s_29 : Nat → Int32) => bb_b3 (uX8_takes nn 9 v_t_taped v_t_from_26 v_t_to_27 v_t_isWrong_28 f_t_tape) (fun (r31 : Int32) (w32 : Int32) (w33 : Int32) => (if r31 = 0 then some (w32, w33, v_t_isWrong_28, f_t_s_29) else bb_b4 (uX8_numberRead nn (0 : Int32) (99 : Int32) v_t_taped w32 w33 v_t_isWrong_28 f_t_tape) (fun (r37 : Int32) (w38 : Int32) (w39 : Int32) (w40 : Int32) => bb_b1 (uX8_sets r8 (3 : Int32) r37 f_t_s_29) (fun (w42 : Nat → Int32) => some (w38, w39, w40, w42)))))) (fun k30 => (if r21 = 0 then k30 w22 w23 v_t_isWrong_18 f_t_s_19 else bb_b4 (uX8_numberRead nn (0 : Int32) (1 : Int32) v_t_taped w22 w23 v_t_isWrong_18 f_t_tape) (fun (r45 : Int32) (w46 : Int32) (w47 : Int32) (w48 : Int32) => bb_b1 (uX8_sets r8 (2 : Int32) r45 f_t_s_19) (fun (w50 : Nat → Int32) => k30 w46 w47 w48 w50)))))) (fun k20 => (if r11 = 0 then k20 w12 w13 w5 w9 else bb_b4 (uX8_numberRead nn (0 : Int32) (47 : Int32) v_t_taped w12 w13 w5 f_t_tape) (fun (r53 : Int32) (w54 : Int32) (w55 : Int32) (w56 : Int32) => bb_b1 (uX8_sets r8 (1 : Int32) r53 w9) (fun (w58 : Nat → Int32) => k20 w54 w55 w56 w58)))))) else some (w3, w4, w5, f_t_s)))) (fun k2 => (if (8 : Int32) ≤ (f_t_s (1 : Int32).toNatClampNeg) then k2 (0 : Int32) else k2 (1 : Int32)))
theorem kdX8_batherTold : yX8_batherTold.cls = RX8 ∧ yX8_batherTold.cls ≠ "java/lang/invoke/MethodHandle" ∧ yX8_batherTold.cls ≠ "java/lang/invoke/VarHandle" ∧ (parseMethodDescriptor yX8_batherTold.desc).map (fun d => d.parameters.length) = some 1 := by decide +kernel
set_option maxHeartbeats 4000000 in
set_option maxRecDepth 100000 in
theorem kX8_batherTold (l : Launch) (dC : Nat → ClassId) (dI : Nat → Nat → Nat) (cy : Nat → ClassId) (aK aV : Nat → Nat) (aT : Nat) (sz : Nat) (a_t : Nat → Nat) (p1 : Int32) (v_t_isKept : Int32) (v_t_bestPost : Int32) (v_t_mostSeen : Int32) (v_t_taped : Int32) (v_t_from : Int32) (v_t_to : Int32) (v_t_isWrong : Int32) (f_t_s : Nat → Int32) (f_t_tape : Nat → Int32) (nn : Nat) (v_t_from_o : Int32) (v_t_to_o : Int32) (v_t_isWrong_o : Int32) (f_t_s_o : Nat → Int32) (h : uX8_batherTold nn p1 v_t_taped v_t_from v_t_to v_t_isWrong f_t_s f_t_tape = some (v_t_from_o, v_t_to_o, v_t_isWrong_o, f_t_s_o)) : Met l yX8_batherTold wsX8_batherTold ({ frames := 6, cells := 0, slots := 0, locals := 130 }) (va_Pc [.ref (a_t 0), .int p1] (fun U => U.heap.size = sz ∧ va_P (dC, dI) vwCl [((a_t 0), oX8 a_t v_t_isKept v_t_bestPost v_t_mostSeen v_t_taped v_t_from v_t_to v_t_isWrong), ((a_t 1), .inl (cy 0, 155, .inl f_t_s)), ((a_t 12), .inl (cy 0, 120, .inl f_t_tape))] U.heap ∧ va_K (dC, dI) vwCl (tyX cy) U ∧ va_D (fun _ => True) [((a_t 0), oX8 a_t v_t_isKept v_t_bestPost v_t_mostSeen v_t_taped v_t_from v_t_to v_t_isWrong), ((a_t 1), .inl (cy 0, 155, .inl f_t_s)), ((a_t 12), .inl (cy 0, 120, .inl f_t_tape))] ∧ EV aK aV aT (va_A [((a_t 0), oX8 a_t v_t_isKept v_t_bestPost v_t_mostSeen v_t_taped v_t_from v_t_to v_t_isWrong), ((a_t 1), .inl (cy 0, 155, .inl f_t_s)), ((a_t 12), .inl (cy 0, 120, .inl f_t_tape))] sz) U U.heap)) (va_Qv (fun (_ : Unit) => True) (fun _ t => va_P (dC, dI) vwCl [((a_t 0), oX8 a_t v_t_isKept v_t_bestPost v_t_mostSeen v_t_taped v_t_from_o v_t_to_o v_t_isWrong_o), ((a_t 1), .inl (cy 0, 155, .inl f_t_s_o)), ((a_t 12), .inl (cy 0, 120, .inl f_t_tape))] t.heap ∧ va_K (dC, dI) vwCl (tyX cy) t ∧ va_D (va_A [((a_t 0), oX8 a_t v_t_isKept v_t_bestPost v_t_mostSeen v_t_taped v_t_from v_t_to v_t_isWrong), ((a_t 1), .inl (cy 0, 155, .inl f_t_s)), ((a_t 12), .inl (cy 0, 120, .inl f_t_tape))] sz) [((a_t 0), oX8 a_t v_t_isKept v_t_bestPost v_t_mostSeen v_t_taped v_t_from_o v_t_to_o v_t_isWrong_o), ((a_t 1), .inl (cy 0, 155, .inl f_t_s_o)), ((a_t 12), .inl (cy 0, 120, .inl f_t_tape))]) (va_A [((a_t 0), oX8 a_t v_t_isKept v_t_bestPost v_t_mostSeen v_t_taped v_t_from v_t_to v_t_isWrong), ((a_t 1), .inl (cy 0, 155, .inl f_t_s)), ((a_t 12), .inl (cy 0, 120, .inl f_t_tape))] sz)) 0 0 (va_A [((a_t 0), oX8 a_t v_t_isKept v_t_bestPost v_t_mostSeen v_t_taped v_t_from v_t_to v_t_isWrong), ((a_t 1), .inl (cy 0, 155, .inl f_t_s)), ((a_t 12), .inl (cy 0, 120, .inl f_t_tape))] sz) := by
  refine Met.ofW (cc := cX8_batherTold) (maxL := 3) (ret := none) (by decide) rfl ?_
  intro p e s m args below meth c s₁ B hml hv
  obtain ⟨rfl, hsz, hP, hK, hD0, hE⟩ := hv
  have hx := B.exec
  have hb := B.bytes
  have hr := B.returns
  have hts := atoms_spec (ws := wsX8_batherTold) B.pre
  have hown : s.vm.findClass RX8 = some m.cls := findClass_of_methodNamed B.named
  have hlocks := B.notSynchronized
  have iwX8 : ∀ w ∈ wsX80, w ∈ wsX8_batherTold := fun w h9 => List.mem_cons_of_mem _ (List.mem_append_right _ (h9))
  have lk1 := hts (Cond.fieldLink RX8 9 "BathBorderModel" "s" "[I") (List.mem_of_getElem? (i := 1) rfl)
  have lk2 := hts (Cond.fieldLink RX8 277 "BathBorderModel" "isWrong" "Z") (List.mem_of_getElem? (i := 2) rfl)
  subst hsz
  have hD := hD0.self (sz := s.heap.size)
  generalize hAe : va_A [((a_t 0), oX8 a_t v_t_isKept v_t_bestPost v_t_mostSeen v_t_taped v_t_from v_t_to v_t_isWrong), ((a_t 1), .inl (cy 0, 155, .inl f_t_s)), ((a_t 12), .inl (cy 0, 120, .inl f_t_tape))] s.heap.size = A at hD hE ⊢
  have hA : ∀ q : Nat, s.heap.size ≤ q → A q := fun q h => by rw [← hAe]; exact Or.inr h
  have hS : va_S A s.heap s.heap [] := va_S.rf
  have hP : va_P (dC, dI) vwCl [((a_t 0), oX8 a_t v_t_isKept v_t_bestPost v_t_mostSeen v_t_taped v_t_from v_t_to v_t_isWrong), ((a_t 1), .inl (cy 0, 155, .inl f_t_s)), ((a_t 12), .inl (cy 0, 120, .inl f_t_tape))] s.heap := hP
  have hl := lv_entry ([.ref (a_t 0), .int p1]) (n := 3) (Nat.le_of_ble_eq_true rfl)
  rw [lg_entry_eq]
  generalize (lg_sl ([.ref (a_t 0), .int p1]) ++ List.replicate (3 - (lg_sl ([.ref (a_t 0), .int p1])).length) Slot.unset).toArray = ls at hl ⊢
  have hl : lv_has ls 3 [(0, .ref (a_t 0)), (1, .int p1)] := hl
  unfold uX8_batherTold at h
  refine bb_cap (fun WW toW ofW => ?_)
  refine lv_aload_n hx hb dX8_batherTold_0 rfl (lv_at hl 0 rfl) ?_
  refine lv_aload_n hx hb dX8_batherTold_1 rfl (lv_at hl 0 rfl) ?_
  refine va_get (D := (dC, dI)) (ci := 7) (v := .ref (a_t 1)) (C := RX8) (T := TX8) (N := 20) hx hb hts iwX8 hown hK hP 0 rfl rfl 0 (by decide) lk1 (fun _ h9 => h9) rfl dX8_batherTold_2 ?_
  refine lv_iconst (v := (1 : Int32)) hx hb dX8_batherTold_5 (by decide) ?_
  refine va_iald hx hb hK hP 1 0 rfl rfl (bb_in (by decide)) dX8_batherTold_6 ?_
  refine lv_bipush (v := (8 : Int32)) hx hb dX8_batherTold_7 (by decide) ?_
  obtain ⟨k2, ek2, h⟩ := bb_cut_o h
  have Jk2 : ∀ (z1 : Int32) (H : Heap) (locs : List Loc) (ls : Array Slot), k2 z1 = some (v_t_from_o, v_t_to_o, v_t_isWrong_o, f_t_s_o) → va_P (dC, dI) vwCl [((a_t 0), oX8 a_t v_t_isKept v_t_bestPost v_t_mostSeen v_t_taped v_t_from v_t_to v_t_isWrong), ((a_t 1), .inl (cy 0, 155, .inl f_t_s)), ((a_t 12), .inl (cy 0, 120, .inl f_t_tape))] H → va_D A [((a_t 0), oX8 a_t v_t_isKept v_t_bestPost v_t_mostSeen v_t_taped v_t_from v_t_to v_t_isWrong), ((a_t 1), .inl (cy 0, 155, .inl f_t_s)), ((a_t 12), .inl (cy 0, 120, .inl f_t_tape))] → va_S A s.heap H locs → lv_has ls 3 [(0, .ref (a_t 0)), (1, .int p1)] → WW H locs (F0 m 17 ls [.int z1, .ref (a_t 0)]) := by
    intro z1 H locs ls h hP hD hS hl
    refine ofW _ _ _ ?_
    subst ek2
    obtain ⟨w3, w4, w5, hc6, h⟩ := bb_b3_o h
    refine bb_cwv (wr := [((a_t 1), .inl (cy 0, 155, .inl f_t_s))]) (w1 := [((a_t 0), oX8 a_t v_t_isKept v_t_bestPost v_t_mostSeen v_t_taped w3 w4 w5), ((a_t 12), .inl (cy 0, 120, .inl f_t_tape))]) (va_runV (As := [.int z1]) (rest := []) ⟨hx, hb, hml, hown, hts⟩ (kX8_must l dC dI cy H.size a_t z1 v_t_isKept v_t_bestPost v_t_mostSeen v_t_taped v_t_from v_t_to v_t_isWrong f_t_tape nn w3 w4 w5 hc6) (cwV 1 hts gX8_batherTold_X8_must rfl rfl rfl kdX8_must ⟨Nat.le_of_ble_eq_true rfl, Nat.le_of_ble_eq_true rfl⟩) (bb_preVw (va_recv hK hP (ci := 7) (q0 := 0) rfl rfl) (hP.sub (ws' := [((a_t 0), oX8 a_t v_t_isKept v_t_bestPost v_t_mostSeen v_t_taped v_t_from v_t_to v_t_isWrong), ((a_t 12), .inl (cy 0, 120, .inl f_t_tape))]) [0, 2] rfl) hK (hD.sub (ws' := [((a_t 0), oX8 a_t v_t_isKept v_t_bestPost v_t_mostSeen v_t_taped v_t_from v_t_to v_t_isWrong), ((a_t 12), .inl (cy 0, 120, .inl f_t_tape))]) [0, 2] (by decide) rfl)) rfl rfl hl.1 rfl (lv_room (Nat.le_of_ble_eq_true rfl)) dX8_batherTold_17 ⟨Nat.zero_le _, Nat.zero_le _⟩) hP hD hS hA [0, 2] [1] rfl rfl (by decide) (by decide) (fun H locs hP hD hS => ?_)
    have hP : va_P (dC, dI) vwCl [((a_t 1), .inl (cy 0, 155, .inl f_t_s)), ((a_t 0), oX8 a_t v_t_isKept v_t_bestPost v_t_mostSeen v_t_taped w3 w4 w5), ((a_t 12), .inl (cy 0, 120, .inl f_t_tape))] H := hP
    have hD : va_D A [((a_t 1), .inl (cy 0, 155, .inl f_t_s)), ((a_t 0), oX8 a_t v_t_isKept v_t_bestPost v_t_mostSeen v_t_taped w3 w4 w5), ((a_t 12), .inl (cy 0, 120, .inl f_t_tape))] := hD
    refine lv_aload_n hx hb dX8_batherTold_20 rfl (lv_at hl 0 rfl) ?_
    refine va_get (D := (dC, dI)) (ci := 7) (v := .int w5) (C := RX8) (T := TX8) (N := 20) hx hb hts iwX8 hown hK hP 1 rfl rfl 15 (by decide) lk2 (fun _ h9 => h9) rfl dX8_batherTold_21 ?_
    refine lv_if_eq (tgt := 28) hx hb dX8_batherTold_24 (by decide) (fun c7 => ?_) (fun c7 => ?_)
    · replace h := bb_ifp c7 h
      refine lv_aload_n hx hb dX8_batherTold_28 rfl (lv_at hl 0 rfl) ?_
      refine lv_iload_n hx hb dX8_batherTold_29 rfl (lv_at hl 1 rfl) ?_
      refine lv_iconst (v := (0 : Int32)) hx hb dX8_batherTold_30 (by decide) ?_
      obtain ⟨r8, w9, hc10, h⟩ := bb_b2_o h
      refine bb_cwi (wr := [((a_t 12), .inl (cy 0, 120, .inl f_t_tape))]) (w1 := [((a_t 0), oX8 a_t v_t_isKept v_t_bestPost v_t_mostSeen v_t_taped w3 w4 w5), ((a_t 1), .inl (cy 0, 155, .inl w9))]) (va_runV (As := [.int p1, .int (0 : Int32)]) (rest := []) ⟨hx, hb, hml, hown, hts⟩ (kX8_adds l dC dI cy H.size a_t p1 (0 : Int32) v_t_isKept v_t_bestPost v_t_mostSeen v_t_taped w3 w4 w5 f_t_s r8 w9 hc10) (cwV 2 hts gX8_batherTold_X8_adds rfl rfl rfl kdX8_adds ⟨Nat.le_of_ble_eq_true rfl, Nat.le_of_ble_eq_true rfl⟩) (bb_preVw (va_recv hK hP (ci := 7) (q0 := 1) rfl rfl) (hP.sub (ws' := [((a_t 0), oX8 a_t v_t_isKept v_t_bestPost v_t_mostSeen v_t_taped w3 w4 w5), ((a_t 1), .inl (cy 0, 155, .inl f_t_s))]) [1, 0] rfl) hK (hD.sub (ws' := [((a_t 0), oX8 a_t v_t_isKept v_t_bestPost v_t_mostSeen v_t_taped w3 w4 w5), ((a_t 1), .inl (cy 0, 155, .inl f_t_s))]) [1, 0] (by decide) rfl)) rfl rfl hl.1 rfl (lv_room (Nat.le_of_ble_eq_true rfl)) dX8_batherTold_31 ⟨Nat.zero_le _, Nat.zero_le _⟩) hP hD hS hA [1, 0] [2] rfl rfl (by decide) (by decide) (fun H locs hP hD hS => ?_)
      have hP : va_P (dC, dI) vwCl [((a_t 12), .inl (cy 0, 120, .inl f_t_tape)), ((a_t 0), oX8 a_t v_t_isKept v_t_bestPost v_t_mostSeen v_t_taped w3 w4 w5), ((a_t 1), .inl (cy 0, 155, .inl w9))] H := hP
      have hD : va_D A [((a_t 12), .inl (cy 0, 120, .inl f_t_tape)), ((a_t 0), oX8 a_t v_t_isKept v_t_bestPost v_t_mostSeen v_t_taped w3 w4 w5), ((a_t 1), .inl (cy 0, 155, .inl w9))] := hD
      refine lv_istore_n (lv' := [(2, .int r8), (0, .ref (a_t 0)), (1, .int p1)]) hx hb dX8_batherTold_34 rfl hl (by decide) rfl (fun ls hl => ?_)
      refine lv_aload_n hx hb dX8_batherTold_35 rfl (lv_at hl 1 rfl) ?_
      refine bb_ldcwS hx hb hown (EV.con hE ("BathBorderModel", 313, "at", 7) (by decide)) dX8_batherTold_36 ?_
      obtain ⟨r11, w12, w13, hc14, h⟩ := bb_b3_o h
      refine bb_cwz (wr := [((a_t 1), .inl (cy 0, 155, .inl w9))]) (w1 := [((a_t 0), oX8 a_t v_t_isKept v_t_bestPost v_t_mostSeen v_t_taped w12 w13 w5), ((a_t 12), .inl (cy 0, 120, .inl f_t_tape))]) (va_runV (As := [.ref (aK 7)]) (rest := []) ⟨hx, hb, hml, hown, hts⟩ (kX8_takes l dC dI cy aK aV aT H.size a_t 7 v_t_isKept v_t_bestPost v_t_mostSeen v_t_taped w3 w4 w5 f_t_tape nn r11 w12 w13 hc14) (cwV 1 hts gX8_batherTold_X8_takes rfl rfl rfl kdX8_takes ⟨Nat.le_of_ble_eq_true rfl, Nat.le_of_ble_eq_true rfl⟩) (bb_preVwe (va_recv hK hP (ci := 7) (q0 := 1) rfl rfl) (hP.sub (ws' := [((a_t 0), oX8 a_t v_t_isKept v_t_bestPost v_t_mostSeen v_t_taped w3 w4 w5), ((a_t 12), .inl (cy 0, 120, .inl f_t_tape))]) [1, 0] rfl) hK (hD.sub (ws' := [((a_t 0), oX8 a_t v_t_isKept v_t_bestPost v_t_mostSeen v_t_taped w3 w4 w5), ((a_t 12), .inl (cy 0, 120, .inl f_t_tape))]) [1, 0] (by decide) rfl) hE hS (va_free (wc := [((a_t 0), oX8 a_t v_t_isKept v_t_bestPost v_t_mostSeen v_t_taped w3 w4 w5), ((a_t 12), .inl (cy 0, 120, .inl f_t_tape))]) hD hS hA [1, 0] rfl)) rfl rfl hl.1 rfl (lv_room (Nat.le_of_ble_eq_true rfl)) dX8_batherTold_39 ⟨Nat.zero_le _, Nat.zero_le _⟩) hP hD hS hA [1, 0] [2] rfl rfl (by decide) (by decide) (fun hz15 H locs hP hD hS => ?_)
      have hP : va_P (dC, dI) vwCl [((a_t 1), .inl (cy 0, 155, .inl w9)), ((a_t 0), oX8 a_t v_t_isKept v_t_bestPost v_t_mostSeen v_t_taped w12 w13 w5), ((a_t 12), .inl (cy 0, 120, .inl f_t_tape))] H := hP
      have hD : va_D A [((a_t 1), .inl (cy 0, 155, .inl w9)), ((a_t 0), oX8 a_t v_t_isKept v_t_bestPost v_t_mostSeen v_t_taped w12 w13 w5), ((a_t 12), .inl (cy 0, 120, .inl f_t_tape))] := hD
      obtain ⟨k20, ek20, h⟩ := bb_cut_o h
      have Jk20 : ∀ (v_t_from_16 : Int32) (v_t_to_17 : Int32) (v_t_isWrong_18 : Int32) (f_t_s_19 : Nat → Int32) (H : Heap) (locs : List Loc) (ls : Array Slot), k20 v_t_from_16 v_t_to_17 v_t_isWrong_18 f_t_s_19 = some (v_t_from_o, v_t_to_o, v_t_isWrong_o, f_t_s_o) → va_P (dC, dI) vwCl [((a_t 0), oX8 a_t v_t_isKept v_t_bestPost v_t_mostSeen v_t_taped v_t_from_16 v_t_to_17 v_t_isWrong_18), ((a_t 1), .inl (cy 0, 155, .inl f_t_s_19)), ((a_t 12), .inl (cy 0, 120, .inl f_t_tape))] H → va_D A [((a_t 0), oX8 a_t v_t_isKept v_t_bestPost v_t_mostSeen v_t_taped v_t_from_16 v_t_to_17 v_t_isWrong_18), ((a_t 1), .inl (cy 0, 155, .inl f_t_s_19)), ((a_t 12), .inl (cy 0, 120, .inl f_t_tape))] → va_S A s.heap H locs → lv_has ls 3 [(0, .ref (a_t 0)), (2, .int r8)] → WW H locs (F0 m 58 ls []) := by
        intro v_t_from_16 v_t_to_17 v_t_isWrong_18 f_t_s_19 H locs ls h hP hD hS hl
        refine ofW _ _ _ ?_
        subst ek20
        refine lv_aload_n hx hb dX8_batherTold_58 rfl (lv_at hl 0 rfl) ?_
        refine bb_ldcwS hx hb hown (EV.con hE ("BathBorderModel", 321, "wish", 8) (by decide)) dX8_batherTold_59 ?_
        obtain ⟨r21, w22, w23, hc24, h⟩ := bb_b3_o h
        refine bb_cwz (wr := [((a_t 1), .inl (cy 0, 155, .inl f_t_s_19))]) (w1 := [((a_t 0), oX8 a_t v_t_isKept v_t_bestPost v_t_mostSeen v_t_taped w22 w23 v_t_isWrong_18), ((a_t 12), .inl (cy 0, 120, .inl f_t_tape))]) (va_runV (As := [.ref (aK 8)]) (rest := []) ⟨hx, hb, hml, hown, hts⟩ (kX8_takes l dC dI cy aK aV aT H.size a_t 8 v_t_isKept v_t_bestPost v_t_mostSeen v_t_taped v_t_from_16 v_t_to_17 v_t_isWrong_18 f_t_tape nn r21 w22 w23 hc24) (cwV 1 hts gX8_batherTold_X8_takes rfl rfl rfl kdX8_takes ⟨Nat.le_of_ble_eq_true rfl, Nat.le_of_ble_eq_true rfl⟩) (bb_preVwe (va_recv hK hP (ci := 7) (q0 := 0) rfl rfl) (hP.sub (ws' := [((a_t 0), oX8 a_t v_t_isKept v_t_bestPost v_t_mostSeen v_t_taped v_t_from_16 v_t_to_17 v_t_isWrong_18), ((a_t 12), .inl (cy 0, 120, .inl f_t_tape))]) [0, 2] rfl) hK (hD.sub (ws' := [((a_t 0), oX8 a_t v_t_isKept v_t_bestPost v_t_mostSeen v_t_taped v_t_from_16 v_t_to_17 v_t_isWrong_18), ((a_t 12), .inl (cy 0, 120, .inl f_t_tape))]) [0, 2] (by decide) rfl) hE hS (va_free (wc := [((a_t 0), oX8 a_t v_t_isKept v_t_bestPost v_t_mostSeen v_t_taped v_t_from_16 v_t_to_17 v_t_isWrong_18), ((a_t 12), .inl (cy 0, 120, .inl f_t_tape))]) hD hS hA [0, 2] rfl)) rfl rfl hl.1 rfl (lv_room (Nat.le_of_ble_eq_true rfl)) dX8_batherTold_62 ⟨Nat.zero_le _, Nat.zero_le _⟩) hP hD hS hA [0, 2] [1] rfl rfl (by decide) (by decide) (fun hz25 H locs hP hD hS => ?_)
        have hP : va_P (dC, dI) vwCl [((a_t 1), .inl (cy 0, 155, .inl f_t_s_19)), ((a_t 0), oX8 a_t v_t_isKept v_t_bestPost v_t_mostSeen v_t_taped w22 w23 v_t_isWrong_18), ((a_t 12), .inl (cy 0, 120, .inl f_t_tape))] H := hP
        have hD : va_D A [((a_t 1), .inl (cy 0, 155, .inl f_t_s_19)), ((a_t 0), oX8 a_t v_t_isKept v_t_bestPost v_t_mostSeen v_t_taped w22 w23 v_t_isWrong_18), ((a_t 12), .inl (cy 0, 120, .inl f_t_tape))] := hD
        obtain ⟨k30, ek30, h⟩ := bb_cut_o h
        have Jk30 : ∀ (v_t_from_26 : Int32) (v_t_to_27 : Int32) (v_t_isWrong_28 : Int32) (f_t_s_29 : Nat → Int32) (H : Heap) (locs : List Loc) (ls : Array Slot), k30 v_t_from_26 v_t_to_27 v_t_isWrong_28 f_t_s_29 = some (v_t_from_o, v_t_to_o, v_t_isWrong_o, f_t_s_o) → va_P (dC, dI) vwCl [((a_t 0), oX8 a_t v_t_isKept v_t_bestPost v_t_mostSeen v_t_taped v_t_from_26 v_t_to_27 v_t_isWrong_28), ((a_t 1), .inl (cy 0, 155, .inl f_t_s_29)), ((a_t 12), .inl (cy 0, 120, .inl f_t_tape))] H → va_D A [((a_t 0), oX8 a_t v_t_isKept v_t_bestPost v_t_mostSeen v_t_taped v_t_from_26 v_t_to_27 v_t_isWrong_28), ((a_t 1), .inl (cy 0, 155, .inl f_t_s_29)), ((a_t 12), .inl (cy 0, 120, .inl f_t_tape))] → va_S A s.heap H locs → lv_has ls 3 [(0, .ref (a_t 0)), (2, .int r8)] → WW H locs (F0 m 80 ls []) := by
          intro v_t_from_26 v_t_to_27 v_t_isWrong_28 f_t_s_29 H locs ls h hP hD hS hl
          refine ofW _ _ _ ?_
          subst ek30
          refine lv_aload_n hx hb dX8_batherTold_80 rfl (lv_at hl 0 rfl) ?_
          refine bb_ldcwS hx hb hown (EV.con hE ("BathBorderModel", 323, "wrinkles", 9) (by decide)) dX8_batherTold_81 ?_
          obtain ⟨r31, w32, w33, hc34, h⟩ := bb_b3_o h
          refine bb_cwz (wr := [((a_t 1), .inl (cy 0, 155, .inl f_t_s_29))]) (w1 := [((a_t 0), oX8 a_t v_t_isKept v_t_bestPost v_t_mostSeen v_t_taped w32 w33 v_t_isWrong_28), ((a_t 12), .inl (cy 0, 120, .inl f_t_tape))]) (va_runV (As := [.ref (aK 9)]) (rest := []) ⟨hx, hb, hml, hown, hts⟩ (kX8_takes l dC dI cy aK aV aT H.size a_t 9 v_t_isKept v_t_bestPost v_t_mostSeen v_t_taped v_t_from_26 v_t_to_27 v_t_isWrong_28 f_t_tape nn r31 w32 w33 hc34) (cwV 1 hts gX8_batherTold_X8_takes rfl rfl rfl kdX8_takes ⟨Nat.le_of_ble_eq_true rfl, Nat.le_of_ble_eq_true rfl⟩) (bb_preVwe (va_recv hK hP (ci := 7) (q0 := 0) rfl rfl) (hP.sub (ws' := [((a_t 0), oX8 a_t v_t_isKept v_t_bestPost v_t_mostSeen v_t_taped v_t_from_26 v_t_to_27 v_t_isWrong_28), ((a_t 12), .inl (cy 0, 120, .inl f_t_tape))]) [0, 2] rfl) hK (hD.sub (ws' := [((a_t 0), oX8 a_t v_t_isKept v_t_bestPost v_t_mostSeen v_t_taped v_t_from_26 v_t_to_27 v_t_isWrong_28), ((a_t 12), .inl (cy 0, 120, .inl f_t_tape))]) [0, 2] (by decide) rfl) hE hS (va_free (wc := [((a_t 0), oX8 a_t v_t_isKept v_t_bestPost v_t_mostSeen v_t_taped v_t_from_26 v_t_to_27 v_t_isWrong_28), ((a_t 12), .inl (cy 0, 120, .inl f_t_tape))]) hD hS hA [0, 2] rfl)) rfl rfl hl.1 rfl (lv_room (Nat.le_of_ble_eq_true rfl)) dX8_batherTold_84 ⟨Nat.zero_le _, Nat.zero_le _⟩) hP hD hS hA [0, 2] [1] rfl rfl (by decide) (by decide) (fun hz35 H locs hP hD hS => ?_)
          have hP : va_P (dC, dI) vwCl [((a_t 1), .inl (cy 0, 155, .inl f_t_s_29)), ((a_t 0), oX8 a_t v_t_isKept v_t_bestPost v_t_mostSeen v_t_taped w32 w33 v_t_isWrong_28), ((a_t 12), .inl (cy 0, 120, .inl f_t_tape))] H := hP
          have hD : va_D A [((a_t 1), .inl (cy 0, 155, .inl f_t_s_29)), ((a_t 0), oX8 a_t v_t_isKept v_t_bestPost v_t_mostSeen v_t_taped w32 w33 v_t_isWrong_28), ((a_t 12), .inl (cy 0, 120, .inl f_t_tape))] := hD
          refine lv_if_eq (tgt := 103) hx hb dX8_batherTold_87 (by decide) (fun c36 => ?_) (fun c36 => ?_)
          · replace h := bb_ifp c36 h
            obtain ⟨rfl, rfl, rfl, rfl⟩ := bb_some4 h
            have hP9 := hP.sub (ws' := [((a_t 0), oX8 a_t v_t_isKept v_t_bestPost v_t_mostSeen v_t_taped w32 w33 v_t_isWrong_28), ((a_t 1), .inl (cy 0, 155, .inl f_t_s_29)), ((a_t 12), .inl (cy 0, 120, .inl f_t_tape))]) [1, 0, 2] rfl
            have hD9 := hD.sub (ws' := [((a_t 0), oX8 a_t v_t_isKept v_t_bestPost v_t_mostSeen v_t_taped w32 w33 v_t_isWrong_28), ((a_t 1), .inl (cy 0, 155, .inl f_t_s_29)), ((a_t 12), .inl (cy 0, 120, .inl f_t_tape))]) [1, 0, 2] (by decide) rfl
            exact W.vret hx hb hr (fun t ht hW => ⟨⟨(), rfl, trivial, by rw [ht]; exact hP9, va_K.moved hW.alike hK, hD9⟩, hS.F ht⟩) hS.2.2 dX8_batherTold_103
          · replace h := bb_ifn c36 h
            refine lv_aload_n hx hb dX8_batherTold_90 rfl (lv_at hl 0 rfl) ?_
            refine lv_iload_n hx hb dX8_batherTold_91 rfl (lv_at hl 1 rfl) ?_
            refine lv_iconst (v := (3 : Int32)) hx hb dX8_batherTold_92 (by decide) ?_
            refine lv_aload_n hx hb dX8_batherTold_93 rfl (lv_at hl 0 rfl) ?_
            refine lv_iconst (v := (0 : Int32)) hx hb dX8_batherTold_94 (by decide) ?_
            refine lv_bipush (v := (99 : Int32)) hx hb dX8_batherTold_95 (by decide) ?_
            obtain ⟨r37, w38, w39, w40, hc41, h⟩ := bb_b4_o h
            refine bb_cwi (wr := [((a_t 1), .inl (cy 0, 155, .inl f_t_s_29))]) (w1 := [((a_t 0), oX8 a_t v_t_isKept v_t_bestPost v_t_mostSeen v_t_taped w38 w39 w40), ((a_t 12), .inl (cy 0, 120, .inl f_t_tape))]) (va_runV (As := [.int (0 : Int32), .int (99 : Int32)]) (rest := [.int (3 : Int32), .int r8, .ref (a_t 0)]) ⟨hx, hb, hml, hown, hts⟩ (kX8_numberRead l dC dI cy H.size a_t (0 : Int32) (99 : Int32) v_t_isKept v_t_bestPost v_t_mostSeen v_t_taped w32 w33 v_t_isWrong_28 f_t_tape nn r37 w38 w39 w40 hc41) (cwV 2 hts gX8_batherTold_X8_numberRead rfl rfl rfl kdX8_numberRead ⟨Nat.le_of_ble_eq_true rfl, Nat.le_of_ble_eq_true rfl⟩) (bb_preVw (va_recv hK hP (ci := 7) (q0 := 1) rfl rfl) (hP.sub (ws' := [((a_t 0), oX8 a_t v_t_isKept v_t_bestPost v_t_mostSeen v_t_taped w32 w33 v_t_isWrong_28), ((a_t 12), .inl (cy 0, 120, .inl f_t_tape))]) [1, 2] rfl) hK (hD.sub (ws' := [((a_t 0), oX8 a_t v_t_isKept v_t_bestPost v_t_mostSeen v_t_taped w32 w33 v_t_isWrong_28), ((a_t 12), .inl (cy 0, 120, .inl f_t_tape))]) [1, 2] (by decide) rfl)) rfl rfl hl.1 rfl (lv_room (Nat.le_of_ble_eq_true rfl)) dX8_batherTold_97 ⟨Nat.zero_le _, Nat.zero_le _⟩) hP hD hS hA [1, 2] [0] rfl rfl (by decide) (by decide) (fun H locs hP hD hS => ?_)
            have hP : va_P (dC, dI) vwCl [((a_t 1), .inl (cy 0, 155, .inl f_t_s_29)), ((a_t 0), oX8 a_t v_t_isKept v_t_bestPost v_t_mostSeen v_t_taped w38 w39 w40), ((a_t 12), .inl (cy 0, 120, .inl f_t_tape))] H := hP
            have hD : va_D A [((a_t 1), .inl (cy 0, 155, .inl f_t_s_29)), ((a_t 0), oX8 a_t v_t_isKept v_t_bestPost v_t_mostSeen v_t_taped w38 w39 w40), ((a_t 12), .inl (cy 0, 120, .inl f_t_tape))] := hD
            obtain ⟨w42, hc43, h⟩ := bb_b1_o h
            refine bb_cwv (wr := [((a_t 12), .inl (cy 0, 120, .inl f_t_tape))]) (w1 := [((a_t 0), oX8 a_t v_t_isKept v_t_bestPost v_t_mostSeen v_t_taped w38 w39 w40), ((a_t 1), .inl (cy 0, 155, .inl w42))]) (va_runV (As := [.int r8, .int (3 : Int32), .int r37]) (rest := []) ⟨hx, hb, hml, hown, hts⟩ (kX8_sets l dC dI cy H.size a_t r8 (3 : Int32) r37 v_t_isKept v_t_bestPost v_t_mostSeen v_t_taped w38 w39 w40 f_t_s_29 w42 hc43) (cwV 3 hts gX8_batherTold_X8_sets rfl rfl rfl kdX8_sets ⟨Nat.le_of_ble_eq_true rfl, Nat.le_of_ble_eq_true rfl⟩) (bb_preVw (va_recv hK hP (ci := 7) (q0 := 1) rfl rfl) (hP.sub (ws' := [((a_t 0), oX8 a_t v_t_isKept v_t_bestPost v_t_mostSeen v_t_taped w38 w39 w40), ((a_t 1), .inl (cy 0, 155, .inl f_t_s_29))]) [1, 0] rfl) hK (hD.sub (ws' := [((a_t 0), oX8 a_t v_t_isKept v_t_bestPost v_t_mostSeen v_t_taped w38 w39 w40), ((a_t 1), .inl (cy 0, 155, .inl f_t_s_29))]) [1, 0] (by decide) rfl)) rfl rfl hl.1 rfl (lv_room (Nat.le_of_ble_eq_true rfl)) dX8_batherTold_100 ⟨Nat.zero_le _, Nat.zero_le _⟩) hP hD hS hA [1, 0] [2] rfl rfl (by decide) (by decide) (fun H locs hP hD hS => ?_)
            have hP : va_P (dC, dI) vwCl [((a_t 12), .inl (cy 0, 120, .inl f_t_tape)), ((a_t 0), oX8 a_t v_t_isKept v_t_bestPost v_t_mostSeen v_t_taped w38 w39 w40), ((a_t 1), .inl (cy 0, 155, .inl w42))] H := hP
            have hD : va_D A [((a_t 12), .inl (cy 0, 120, .inl f_t_tape)), ((a_t 0), oX8 a_t v_t_isKept v_t_bestPost v_t_mostSeen v_t_taped w38 w39 w40), ((a_t 1), .inl (cy 0, 155, .inl w42))] := hD
            obtain ⟨rfl, rfl, rfl, rfl⟩ := bb_some4 h
            have hP9 := hP.sub (ws' := [((a_t 0), oX8 a_t v_t_isKept v_t_bestPost v_t_mostSeen v_t_taped w38 w39 w40), ((a_t 1), .inl (cy 0, 155, .inl w42)), ((a_t 12), .inl (cy 0, 120, .inl f_t_tape))]) [1, 2, 0] rfl
            have hD9 := hD.sub (ws' := [((a_t 0), oX8 a_t v_t_isKept v_t_bestPost v_t_mostSeen v_t_taped w38 w39 w40), ((a_t 1), .inl (cy 0, 155, .inl w42)), ((a_t 12), .inl (cy 0, 120, .inl f_t_tape))]) [1, 2, 0] (by decide) rfl
            exact W.vret hx hb hr (fun t ht hW => ⟨⟨(), rfl, trivial, by rw [ht]; exact hP9, va_K.moved hW.alike hK, hD9⟩, hS.F ht⟩) hS.2.2 dX8_batherTold_103
        refine lv_if_eq (tgt := 80) hx hb dX8_batherTold_65 (by decide) (fun c44 => ?_) (fun c44 => ?_)
        · replace h := bb_ifp c44 h
          exact toW _ _ _ (Jk30 w22 w23 v_t_isWrong_18 f_t_s_19 _ _ _ h (hP.sub [1, 0, 2] rfl) (hD.sub [1, 0, 2] (by decide) rfl) hS (lv_sub hl [0, 1] rfl))
        · replace h := bb_ifn c44 h
          refine lv_aload_n hx hb dX8_batherTold_68 rfl (lv_at hl 0 rfl) ?_
          refine lv_iload_n hx hb dX8_batherTold_69 rfl (lv_at hl 1 rfl) ?_
          refine lv_iconst (v := (2 : Int32)) hx hb dX8_batherTold_70 (by decide) ?_
          refine lv_aload_n hx hb dX8_batherTold_71 rfl (lv_at hl 0 rfl) ?_
          refine lv_iconst (v := (0 : Int32)) hx hb dX8_batherTold_72 (by decide) ?_
          refine lv_iconst (v := (1 : Int32)) hx hb dX8_batherTold_73 (by decide) ?_
          obtain ⟨r45, w46, w47, w48, hc49, h⟩ := bb_b4_o h
          refine bb_cwi (wr := [((a_t 1), .inl (cy 0, 155, .inl f_t_s_19))]) (w1 := [((a_t 0), oX8 a_t v_t_isKept v_t_bestPost v_t_mostSeen v_t_taped w46 w47 w48), ((a_t 12), .inl (cy 0, 120, .inl f_t_tape))]) (va_runV (As := [.int (0 : Int32), .int (1 : Int32)]) (rest := [.int (2 : Int32), .int r8, .ref (a_t 0)]) ⟨hx, hb, hml, hown, hts⟩ (kX8_numberRead l dC dI cy H.size a_t (0 : Int32) (1 : Int32) v_t_isKept v_t_bestPost v_t_mostSeen v_t_taped w22 w23 v_t_isWrong_18 f_t_tape nn r45 w46 w47 w48 hc49) (cwV 2 hts gX8_batherTold_X8_numberRead rfl rfl rfl kdX8_numberRead ⟨Nat.le_of_ble_eq_true rfl, Nat.le_of_ble_eq_true rfl⟩) (bb_preVw (va_recv hK hP (ci := 7) (q0 := 1) rfl rfl) (hP.sub (ws' := [((a_t 0), oX8 a_t v_t_isKept v_t_bestPost v_t_mostSeen v_t_taped w22 w23 v_t_isWrong_18), ((a_t 12), .inl (cy 0, 120, .inl f_t_tape))]) [1, 2] rfl) hK (hD.sub (ws' := [((a_t 0), oX8 a_t v_t_isKept v_t_bestPost v_t_mostSeen v_t_taped w22 w23 v_t_isWrong_18), ((a_t 12), .inl (cy 0, 120, .inl f_t_tape))]) [1, 2] (by decide) rfl)) rfl rfl hl.1 rfl (lv_room (Nat.le_of_ble_eq_true rfl)) dX8_batherTold_74 ⟨Nat.zero_le _, Nat.zero_le _⟩) hP hD hS hA [1, 2] [0] rfl rfl (by decide) (by decide) (fun H locs hP hD hS => ?_)
          have hP : va_P (dC, dI) vwCl [((a_t 1), .inl (cy 0, 155, .inl f_t_s_19)), ((a_t 0), oX8 a_t v_t_isKept v_t_bestPost v_t_mostSeen v_t_taped w46 w47 w48), ((a_t 12), .inl (cy 0, 120, .inl f_t_tape))] H := hP
          have hD : va_D A [((a_t 1), .inl (cy 0, 155, .inl f_t_s_19)), ((a_t 0), oX8 a_t v_t_isKept v_t_bestPost v_t_mostSeen v_t_taped w46 w47 w48), ((a_t 12), .inl (cy 0, 120, .inl f_t_tape))] := hD
          obtain ⟨w50, hc51, h⟩ := bb_b1_o h
          refine bb_cwv (wr := [((a_t 12), .inl (cy 0, 120, .inl f_t_tape))]) (w1 := [((a_t 0), oX8 a_t v_t_isKept v_t_bestPost v_t_mostSeen v_t_taped w46 w47 w48), ((a_t 1), .inl (cy 0, 155, .inl w50))]) (va_runV (As := [.int r8, .int (2 : Int32), .int r45]) (rest := []) ⟨hx, hb, hml, hown, hts⟩ (kX8_sets l dC dI cy H.size a_t r8 (2 : Int32) r45 v_t_isKept v_t_bestPost v_t_mostSeen v_t_taped w46 w47 w48 f_t_s_19 w50 hc51) (cwV 3 hts gX8_batherTold_X8_sets rfl rfl rfl kdX8_sets ⟨Nat.le_of_ble_eq_true rfl, Nat.le_of_ble_eq_true rfl⟩) (bb_preVw (va_recv hK hP (ci := 7) (q0 := 1) rfl rfl) (hP.sub (ws' := [((a_t 0), oX8 a_t v_t_isKept v_t_bestPost v_t_mostSeen v_t_taped w46 w47 w48), ((a_t 1), .inl (cy 0, 155, .inl f_t_s_19))]) [1, 0] rfl) hK (hD.sub (ws' := [((a_t 0), oX8 a_t v_t_isKept v_t_bestPost v_t_mostSeen v_t_taped w46 w47 w48), ((a_t 1), .inl (cy 0, 155, .inl f_t_s_19))]) [1, 0] (by decide) rfl)) rfl rfl hl.1 rfl (lv_room (Nat.le_of_ble_eq_true rfl)) dX8_batherTold_77 ⟨Nat.zero_le _, Nat.zero_le _⟩) hP hD hS hA [1, 0] [2] rfl rfl (by decide) (by decide) (fun H locs hP hD hS => ?_)
          have hP : va_P (dC, dI) vwCl [((a_t 12), .inl (cy 0, 120, .inl f_t_tape)), ((a_t 0), oX8 a_t v_t_isKept v_t_bestPost v_t_mostSeen v_t_taped w46 w47 w48), ((a_t 1), .inl (cy 0, 155, .inl w50))] H := hP
          have hD : va_D A [((a_t 12), .inl (cy 0, 120, .inl f_t_tape)), ((a_t 0), oX8 a_t v_t_isKept v_t_bestPost v_t_mostSeen v_t_taped w46 w47 w48), ((a_t 1), .inl (cy 0, 155, .inl w50))] := hD
          exact toW _ _ _ (Jk30 w46 w47 w48 w50 _ _ _ h (hP.sub [1, 2, 0] rfl) (hD.sub [1, 2, 0] (by decide) rfl) hS (lv_sub hl [0, 1] rfl))
      refine lv_if_eq (tgt := 58) hx hb dX8_batherTold_42 (by decide) (fun c52 => ?_) (fun c52 => ?_)
      · replace h := bb_ifp c52 h
        exact toW _ _ _ (Jk20 w12 w13 w5 w9 _ _ _ h (hP.sub [1, 0, 2] rfl) (hD.sub [1, 0, 2] (by decide) rfl) hS (lv_sub hl [1, 0] rfl))
      · replace h := bb_ifn c52 h
        refine lv_aload_n hx hb dX8_batherTold_45 rfl (lv_at hl 1 rfl) ?_
        refine lv_iload_n hx hb dX8_batherTold_46 rfl (lv_at hl 0 rfl) ?_
        refine lv_iconst (v := (1 : Int32)) hx hb dX8_batherTold_47 (by decide) ?_
        refine lv_aload_n hx hb dX8_batherTold_48 rfl (lv_at hl 1 rfl) ?_
        refine lv_iconst (v := (0 : Int32)) hx hb dX8_batherTold_49 (by decide) ?_
        refine lv_bipush (v := (47 : Int32)) hx hb dX8_batherTold_50 (by decide) ?_
        obtain ⟨r53, w54, w55, w56, hc57, h⟩ := bb_b4_o h
        refine bb_cwi (wr := [((a_t 1), .inl (cy 0, 155, .inl w9))]) (w1 := [((a_t 0), oX8 a_t v_t_isKept v_t_bestPost v_t_mostSeen v_t_taped w54 w55 w56), ((a_t 12), .inl (cy 0, 120, .inl f_t_tape))]) (va_runV (As := [.int (0 : Int32), .int (47 : Int32)]) (rest := [.int (1 : Int32), .int r8, .ref (a_t 0)]) ⟨hx, hb, hml, hown, hts⟩ (kX8_numberRead l dC dI cy H.size a_t (0 : Int32) (47 : Int32) v_t_isKept v_t_bestPost v_t_mostSeen v_t_taped w12 w13 w5 f_t_tape nn r53 w54 w55 w56 hc57) (cwV 2 hts gX8_batherTold_X8_numberRead rfl rfl rfl kdX8_numberRead ⟨Nat.le_of_ble_eq_true rfl, Nat.le_of_ble_eq_true rfl⟩) (bb_preVw (va_recv hK hP (ci := 7) (q0 := 1) rfl rfl) (hP.sub (ws' := [((a_t 0), oX8 a_t v_t_isKept v_t_bestPost v_t_mostSeen v_t_taped w12 w13 w5), ((a_t 12), .inl (cy 0, 120, .inl f_t_tape))]) [1, 2] rfl) hK (hD.sub (ws' := [((a_t 0), oX8 a_t v_t_isKept v_t_bestPost v_t_mostSeen v_t_taped w12 w13 w5), ((a_t 12), .inl (cy 0, 120, .inl f_t_tape))]) [1, 2] (by decide) rfl)) rfl rfl hl.1 rfl (lv_room (Nat.le_of_ble_eq_true rfl)) dX8_batherTold_52 ⟨Nat.zero_le _, Nat.zero_le _⟩) hP hD hS hA [1, 2] [0] rfl rfl (by decide) (by decide) (fun H locs hP hD hS => ?_)
        have hP : va_P (dC, dI) vwCl [((a_t 1), .inl (cy 0, 155, .inl w9)), ((a_t 0), oX8 a_t v_t_isKept v_t_bestPost v_t_mostSeen v_t_taped w54 w55 w56), ((a_t 12), .inl (cy 0, 120, .inl f_t_tape))] H := hP
        have hD : va_D A [((a_t 1), .inl (cy 0, 155, .inl w9)), ((a_t 0), oX8 a_t v_t_isKept v_t_bestPost v_t_mostSeen v_t_taped w54 w55 w56), ((a_t 12), .inl (cy 0, 120, .inl f_t_tape))] := hD
        obtain ⟨w58, hc59, h⟩ := bb_b1_o h
        refine bb_cwv (wr := [((a_t 12), .inl (cy 0, 120, .inl f_t_tape))]) (w1 := [((a_t 0), oX8 a_t v_t_isKept v_t_bestPost v_t_mostSeen v_t_taped w54 w55 w56), ((a_t 1), .inl (cy 0, 155, .inl w58))]) (va_runV (As := [.int r8, .int (1 : Int32), .int r53]) (rest := []) ⟨hx, hb, hml, hown, hts⟩ (kX8_sets l dC dI cy H.size a_t r8 (1 : Int32) r53 v_t_isKept v_t_bestPost v_t_mostSeen v_t_taped w54 w55 w56 w9 w58 hc59) (cwV 3 hts gX8_batherTold_X8_sets rfl rfl rfl kdX8_sets ⟨Nat.le_of_ble_eq_true rfl, Nat.le_of_ble_eq_true rfl⟩) (bb_preVw (va_recv hK hP (ci := 7) (q0 := 1) rfl rfl) (hP.sub (ws' := [((a_t 0), oX8 a_t v_t_isKept v_t_bestPost v_t_mostSeen v_t_taped w54 w55 w56), ((a_t 1), .inl (cy 0, 155, .inl w9))]) [1, 0] rfl) hK (hD.sub (ws' := [((a_t 0), oX8 a_t v_t_isKept v_t_bestPost v_t_mostSeen v_t_taped w54 w55 w56), ((a_t 1), .inl (cy 0, 155, .inl w9))]) [1, 0] (by decide) rfl)) rfl rfl hl.1 rfl (lv_room (Nat.le_of_ble_eq_true rfl)) dX8_batherTold_55 ⟨Nat.zero_le _, Nat.zero_le _⟩) hP hD hS hA [1, 0] [2] rfl rfl (by decide) (by decide) (fun H locs hP hD hS => ?_)
        have hP : va_P (dC, dI) vwCl [((a_t 12), .inl (cy 0, 120, .inl f_t_tape)), ((a_t 0), oX8 a_t v_t_isKept v_t_bestPost v_t_mostSeen v_t_taped w54 w55 w56), ((a_t 1), .inl (cy 0, 155, .inl w58))] H := hP
        have hD : va_D A [((a_t 12), .inl (cy 0, 120, .inl f_t_tape)), ((a_t 0), oX8 a_t v_t_isKept v_t_bestPost v_t_mostSeen v_t_taped w54 w55 w56), ((a_t 1), .inl (cy 0, 155, .inl w58))] := hD
        exact toW _ _ _ (Jk20 w54 w55 w56 w58 _ _ _ h (hP.sub [1, 2, 0] rfl) (hD.sub [1, 2, 0] (by decide) rfl) hS (lv_sub hl [1, 0] rfl))
    · replace h := bb_ifn c7 h
      obtain ⟨rfl, rfl, rfl, rfl⟩ := bb_some4 h
      have hP9 := hP.sub (ws' := [((a_t 0), oX8 a_t v_t_isKept v_t_bestPost v_t_mostSeen v_t_taped w3 w4 w5), ((a_t 1), .inl (cy 0, 155, .inl f_t_s)), ((a_t 12), .inl (cy 0, 120, .inl f_t_tape))]) [1, 0, 2] rfl
      have hD9 := hD.sub (ws' := [((a_t 0), oX8 a_t v_t_isKept v_t_bestPost v_t_mostSeen v_t_taped w3 w4 w5), ((a_t 1), .inl (cy 0, 155, .inl f_t_s)), ((a_t 12), .inl (cy 0, 120, .inl f_t_tape))]) [1, 0, 2] (by decide) rfl
      exact W.vret hx hb hr (fun t ht hW => ⟨⟨(), rfl, trivial, by rw [ht]; exact hP9, va_K.moved hW.alike hK, hD9⟩, hS.F ht⟩) hS.2.2 dX8_batherTold_27
  refine lv_icmp_ge (tgt := 16) hx hb dX8_batherTold_9 (by decide) (fun c60 => ?_) (fun c60 => ?_)
  · replace h := bb_ifp c60 h
    refine lv_iconst (v := (0 : Int32)) hx hb dX8_batherTold_16 (by decide) ?_
    exact toW _ _ _ (Jk2 (0 : Int32) _ _ _ h hP hD hS (lv_sub hl [0, 1] rfl))
  · replace h := bb_ifn c60 h
    refine lv_iconst (v := (1 : Int32)) hx hb dX8_batherTold_12 (by decide) ?_
    refine lv_goto (tgt := 17) hx hb dX8_batherTold_13 (by decide) ?_
    exact toW _ _ _ (Jk2 (1 : Int32) _ _ _ h hP hD hS (lv_sub hl [0, 1] rfl))
/-! X8_guardTold -/
def uX8_guardTold (nn : Nat) (v_t_taped : Int32) (v_t_from : Int32) (v_t_to : Int32) (v_t_isWrong : Int32) (f_t_s : Nat → Int32) (f_t_tape : Nat → Int32) : Option ((Int32) × (Int32) × (Int32) × (Nat → Int32)) :=
  bb_b4 (uX8_numberRead nn (0 : Int32) (3 : Int32) v_t_taped v_t_from v_t_to v_t_isWrong f_t_tape) (fun (r1 : Int32) (w2 : Int32) (w3 : Int32) (w4 : Int32) => bb_b3 (uX8_takes nn 7 v_t_taped w2 w3 w4 f_t_tape) (fun (r6 : Int32) (w7 : Int32) (w8 : Int32) => bb_cut (fun (v_t_from_11 : Int32) (v_t_to_12 : Int32) (v_t_isWrong_13 : Int32) (z14 : Int32) => (if v_t_isWrong_13 = 0 then bb_ix ((5 : Int32) + r1) 155 (some (v_t_from_11, v_t_to_12, v_t_isWrong_13, upd f_t_s ((5 : Int32) + r1).toNatClampNeg z14)) else some (v_t_from_11, v_t_to_12, v_t_isWrong_13, f_t_s))) (fun k15 => (if r6 = 0 then k15 w7 w8 w4 (-1 : Int32) else bb_b4 (uX8_numberRead nn (0 : Int32) (47 : Int32) v_t_taped w7 w8 w4 f_t_tape) (fun (r19 : Int32) (w20 : Int32) (w21 : Int32) (w22 : Int32) => k15 w20 w21 w22 r19)))))
theorem kdX8_guardTold : yX8_guardTold.cls = RX8 ∧ yX8_guardTold.cls ≠ "java/lang/invoke/MethodHandle" ∧ yX8_guardTold.cls ≠ "java/lang/invoke/VarHandle" ∧ (parseMethodDescriptor yX8_guardTold.desc).map (fun d => d.parameters.length) = some 0 := by decide +kernel
set_option maxHeartbeats 4000000 in
set_option maxRecDepth 100000 in
theorem kX8_guardTold (l : Launch) (dC : Nat → ClassId) (dI : Nat → Nat → Nat) (cy : Nat → ClassId) (aK aV : Nat → Nat) (aT : Nat) (sz : Nat) (a_t : Nat → Nat) (v_t_isKept : Int32) (v_t_bestPost : Int32) (v_t_mostSeen : Int32) (v_t_taped : Int32) (v_t_from : Int32) (v_t_to : Int32) (v_t_isWrong : Int32) (f_t_s : Nat → Int32) (f_t_tape : Nat → Int32) (nn : Nat) (v_t_from_o : Int32) (v_t_to_o : Int32) (v_t_isWrong_o : Int32) (f_t_s_o : Nat → Int32) (h : uX8_guardTold nn v_t_taped v_t_from v_t_to v_t_isWrong f_t_s f_t_tape = some (v_t_from_o, v_t_to_o, v_t_isWrong_o, f_t_s_o)) : Met l yX8_guardTold wsX8_guardTold ({ frames := 6, cells := 0, slots := 0, locals := 130 }) (va_Pc [.ref (a_t 0)] (fun U => U.heap.size = sz ∧ va_P (dC, dI) vwCl [((a_t 0), oX8 a_t v_t_isKept v_t_bestPost v_t_mostSeen v_t_taped v_t_from v_t_to v_t_isWrong), ((a_t 1), .inl (cy 0, 155, .inl f_t_s)), ((a_t 12), .inl (cy 0, 120, .inl f_t_tape))] U.heap ∧ va_K (dC, dI) vwCl (tyX cy) U ∧ va_D (fun _ => True) [((a_t 0), oX8 a_t v_t_isKept v_t_bestPost v_t_mostSeen v_t_taped v_t_from v_t_to v_t_isWrong), ((a_t 1), .inl (cy 0, 155, .inl f_t_s)), ((a_t 12), .inl (cy 0, 120, .inl f_t_tape))] ∧ EV aK aV aT (va_A [((a_t 0), oX8 a_t v_t_isKept v_t_bestPost v_t_mostSeen v_t_taped v_t_from v_t_to v_t_isWrong), ((a_t 1), .inl (cy 0, 155, .inl f_t_s)), ((a_t 12), .inl (cy 0, 120, .inl f_t_tape))] sz) U U.heap)) (va_Qv (fun (_ : Unit) => True) (fun _ t => va_P (dC, dI) vwCl [((a_t 0), oX8 a_t v_t_isKept v_t_bestPost v_t_mostSeen v_t_taped v_t_from_o v_t_to_o v_t_isWrong_o), ((a_t 1), .inl (cy 0, 155, .inl f_t_s_o)), ((a_t 12), .inl (cy 0, 120, .inl f_t_tape))] t.heap ∧ va_K (dC, dI) vwCl (tyX cy) t ∧ va_D (va_A [((a_t 0), oX8 a_t v_t_isKept v_t_bestPost v_t_mostSeen v_t_taped v_t_from v_t_to v_t_isWrong), ((a_t 1), .inl (cy 0, 155, .inl f_t_s)), ((a_t 12), .inl (cy 0, 120, .inl f_t_tape))] sz) [((a_t 0), oX8 a_t v_t_isKept v_t_bestPost v_t_mostSeen v_t_taped v_t_from_o v_t_to_o v_t_isWrong_o), ((a_t 1), .inl (cy 0, 155, .inl f_t_s_o)), ((a_t 12), .inl (cy 0, 120, .inl f_t_tape))]) (va_A [((a_t 0), oX8 a_t v_t_isKept v_t_bestPost v_t_mostSeen v_t_taped v_t_from v_t_to v_t_isWrong), ((a_t 1), .inl (cy 0, 155, .inl f_t_s)), ((a_t 12), .inl (cy 0, 120, .inl f_t_tape))] sz)) 0 0 (va_A [((a_t 0), oX8 a_t v_t_isKept v_t_bestPost v_t_mostSeen v_t_taped v_t_from v_t_to v_t_isWrong), ((a_t 1), .inl (cy 0, 155, .inl f_t_s)), ((a_t 12), .inl (cy 0, 120, .inl f_t_tape))] sz) := by
  refine Met.ofW (cc := cX8_guardTold) (maxL := 3) (ret := none) (by decide) rfl ?_
  intro p e s m args below meth c s₁ B hml hv
  obtain ⟨rfl, hsz, hP, hK, hD0, hE⟩ := hv
  have hx := B.exec
  have hb := B.bytes
  have hr := B.returns
  have hts := atoms_spec (ws := wsX8_guardTold) B.pre
  have hown : s.vm.findClass RX8 = some m.cls := findClass_of_methodNamed B.named
  have hlocks := B.notSynchronized
  have iwX8 : ∀ w ∈ wsX80, w ∈ wsX8_guardTold := fun w h9 => List.mem_cons_of_mem _ (List.mem_append_right _ (h9))
  have lk1 := hts (Cond.fieldLink RX8 277 "BathBorderModel" "isWrong" "Z") (List.mem_of_getElem? (i := 1) rfl)
  have lk2 := hts (Cond.fieldLink RX8 9 "BathBorderModel" "s" "[I") (List.mem_of_getElem? (i := 2) rfl)
  subst hsz
  have hD := hD0.self (sz := s.heap.size)
  generalize hAe : va_A [((a_t 0), oX8 a_t v_t_isKept v_t_bestPost v_t_mostSeen v_t_taped v_t_from v_t_to v_t_isWrong), ((a_t 1), .inl (cy 0, 155, .inl f_t_s)), ((a_t 12), .inl (cy 0, 120, .inl f_t_tape))] s.heap.size = A at hD hE ⊢
  have hA : ∀ q : Nat, s.heap.size ≤ q → A q := fun q h => by rw [← hAe]; exact Or.inr h
  have hS : va_S A s.heap s.heap [] := va_S.rf
  have hP : va_P (dC, dI) vwCl [((a_t 0), oX8 a_t v_t_isKept v_t_bestPost v_t_mostSeen v_t_taped v_t_from v_t_to v_t_isWrong), ((a_t 1), .inl (cy 0, 155, .inl f_t_s)), ((a_t 12), .inl (cy 0, 120, .inl f_t_tape))] s.heap := hP
  have hl := lv_entry ([.ref (a_t 0)]) (n := 3) (Nat.le_of_ble_eq_true rfl)
  rw [lg_entry_eq]
  generalize (lg_sl ([.ref (a_t 0)]) ++ List.replicate (3 - (lg_sl ([.ref (a_t 0)])).length) Slot.unset).toArray = ls at hl ⊢
  have hl : lv_has ls 3 [(0, .ref (a_t 0))] := hl
  unfold uX8_guardTold at h
  refine bb_cap (fun WW toW ofW => ?_)
  refine lv_aload_n hx hb dX8_guardTold_0 rfl (lv_at hl 0 rfl) ?_
  refine lv_iconst (v := (0 : Int32)) hx hb dX8_guardTold_1 (by decide) ?_
  refine lv_iconst (v := (3 : Int32)) hx hb dX8_guardTold_2 (by decide) ?_
  obtain ⟨r1, w2, w3, w4, hc5, h⟩ := bb_b4_o h
  refine bb_cwi (wr := [((a_t 1), .inl (cy 0, 155, .inl f_t_s))]) (w1 := [((a_t 0), oX8 a_t v_t_isKept v_t_bestPost v_t_mostSeen v_t_taped w2 w3 w4), ((a_t 12), .inl (cy 0, 120, .inl f_t_tape))]) (va_runV (As := [.int (0 : Int32), .int (3 : Int32)]) (rest := []) ⟨hx, hb, hml, hown, hts⟩ (kX8_numberRead l dC dI cy s.heap.size a_t (0 : Int32) (3 : Int32) v_t_isKept v_t_bestPost v_t_mostSeen v_t_taped v_t_from v_t_to v_t_isWrong f_t_tape nn r1 w2 w3 w4 hc5) (cwV 2 hts gX8_guardTold_X8_numberRead rfl rfl rfl kdX8_numberRead ⟨Nat.le_of_ble_eq_true rfl, Nat.le_of_ble_eq_true rfl⟩) (bb_preVw (va_recv hK hP (ci := 7) (q0 := 0) rfl rfl) (hP.sub (ws' := [((a_t 0), oX8 a_t v_t_isKept v_t_bestPost v_t_mostSeen v_t_taped v_t_from v_t_to v_t_isWrong), ((a_t 12), .inl (cy 0, 120, .inl f_t_tape))]) [0, 2] rfl) hK (hD.sub (ws' := [((a_t 0), oX8 a_t v_t_isKept v_t_bestPost v_t_mostSeen v_t_taped v_t_from v_t_to v_t_isWrong), ((a_t 12), .inl (cy 0, 120, .inl f_t_tape))]) [0, 2] (by decide) rfl)) rfl rfl hl.1 rfl (lv_room (Nat.le_of_ble_eq_true rfl)) dX8_guardTold_3 ⟨Nat.zero_le _, Nat.zero_le _⟩) hP hD hS hA [0, 2] [1] rfl rfl (by decide) (by decide) (fun H locs hP hD hS => ?_)
  have hP : va_P (dC, dI) vwCl [((a_t 1), .inl (cy 0, 155, .inl f_t_s)), ((a_t 0), oX8 a_t v_t_isKept v_t_bestPost v_t_mostSeen v_t_taped w2 w3 w4), ((a_t 12), .inl (cy 0, 120, .inl f_t_tape))] H := hP
  have hD : va_D A [((a_t 1), .inl (cy 0, 155, .inl f_t_s)), ((a_t 0), oX8 a_t v_t_isKept v_t_bestPost v_t_mostSeen v_t_taped w2 w3 w4), ((a_t 12), .inl (cy 0, 120, .inl f_t_tape))] := hD
  refine lv_istore_n (lv' := [(1, .int r1), (0, .ref (a_t 0))]) hx hb dX8_guardTold_6 rfl hl (by decide) rfl (fun ls hl => ?_)
  refine lv_aload_n hx hb dX8_guardTold_7 rfl (lv_at hl 1 rfl) ?_
  refine bb_ldcwS hx hb hown (EV.con hE ("BathBorderModel", 313, "at", 7) (by decide)) dX8_guardTold_8 ?_
  obtain ⟨r6, w7, w8, hc9, h⟩ := bb_b3_o h
  refine bb_cwz (wr := [((a_t 1), .inl (cy 0, 155, .inl f_t_s))]) (w1 := [((a_t 0), oX8 a_t v_t_isKept v_t_bestPost v_t_mostSeen v_t_taped w7 w8 w4), ((a_t 12), .inl (cy 0, 120, .inl f_t_tape))]) (va_runV (As := [.ref (aK 7)]) (rest := []) ⟨hx, hb, hml, hown, hts⟩ (kX8_takes l dC dI cy aK aV aT H.size a_t 7 v_t_isKept v_t_bestPost v_t_mostSeen v_t_taped w2 w3 w4 f_t_tape nn r6 w7 w8 hc9) (cwV 1 hts gX8_guardTold_X8_takes rfl rfl rfl kdX8_takes ⟨Nat.le_of_ble_eq_true rfl, Nat.le_of_ble_eq_true rfl⟩) (bb_preVwe (va_recv hK hP (ci := 7) (q0 := 1) rfl rfl) (hP.sub (ws' := [((a_t 0), oX8 a_t v_t_isKept v_t_bestPost v_t_mostSeen v_t_taped w2 w3 w4), ((a_t 12), .inl (cy 0, 120, .inl f_t_tape))]) [1, 2] rfl) hK (hD.sub (ws' := [((a_t 0), oX8 a_t v_t_isKept v_t_bestPost v_t_mostSeen v_t_taped w2 w3 w4), ((a_t 12), .inl (cy 0, 120, .inl f_t_tape))]) [1, 2] (by decide) rfl) hE hS (va_free (wc := [((a_t 0), oX8 a_t v_t_isKept v_t_bestPost v_t_mostSeen v_t_taped w2 w3 w4), ((a_t 12), .inl (cy 0, 120, .inl f_t_tape))]) hD hS hA [1, 2] rfl)) rfl rfl hl.1 rfl (lv_room (Nat.le_of_ble_eq_true rfl)) dX8_guardTold_11 ⟨Nat.zero_le _, Nat.zero_le _⟩) hP hD hS hA [1, 2] [0] rfl rfl (by decide) (by decide) (fun hz10 H locs hP hD hS => ?_)
  have hP : va_P (dC, dI) vwCl [((a_t 1), .inl (cy 0, 155, .inl f_t_s)), ((a_t 0), oX8 a_t v_t_isKept v_t_bestPost v_t_mostSeen v_t_taped w7 w8 w4), ((a_t 12), .inl (cy 0, 120, .inl f_t_tape))] H := hP
  have hD : va_D A [((a_t 1), .inl (cy 0, 155, .inl f_t_s)), ((a_t 0), oX8 a_t v_t_isKept v_t_bestPost v_t_mostSeen v_t_taped w7 w8 w4), ((a_t 12), .inl (cy 0, 120, .inl f_t_tape))] := hD
  obtain ⟨k15, ek15, h⟩ := bb_cut_o h
  have Jk15 : ∀ (v_t_from_11 : Int32) (v_t_to_12 : Int32) (v_t_isWrong_13 : Int32) (z14 : Int32) (H : Heap) (locs : List Loc) (ls : Array Slot), k15 v_t_from_11 v_t_to_12 v_t_isWrong_13 z14 = some (v_t_from_o, v_t_to_o, v_t_isWrong_o, f_t_s_o) → va_P (dC, dI) vwCl [((a_t 0), oX8 a_t v_t_isKept v_t_bestPost v_t_mostSeen v_t_taped v_t_from_11 v_t_to_12 v_t_isWrong_13), ((a_t 1), .inl (cy 0, 155, .inl f_t_s)), ((a_t 12), .inl (cy 0, 120, .inl f_t_tape))] H → va_D A [((a_t 0), oX8 a_t v_t_isKept v_t_bestPost v_t_mostSeen v_t_taped v_t_from_11 v_t_to_12 v_t_isWrong_13), ((a_t 1), .inl (cy 0, 155, .inl f_t_s)), ((a_t 12), .inl (cy 0, 120, .inl f_t_tape))] → va_S A s.heap H locs → lv_has ls 3 [(0, .ref (a_t 0)), (1, .int r1)] → WW H locs (F0 m 28 ls [.int z14]) := by
    intro v_t_from_11 v_t_to_12 v_t_isWrong_13 z14 H locs ls h hP hD hS hl
    refine ofW _ _ _ ?_
    subst ek15
    refine lv_istore_n (lv' := [(2, .int z14), (0, .ref (a_t 0)), (1, .int r1)]) hx hb dX8_guardTold_28 rfl hl (by decide) rfl (fun ls hl => ?_)
    refine lv_aload_n hx hb dX8_guardTold_29 rfl (lv_at hl 1 rfl) ?_
    refine va_get (D := (dC, dI)) (ci := 7) (v := .int v_t_isWrong_13) (C := RX8) (T := TX8) (N := 20) hx hb hts iwX8 hown hK hP 0 rfl rfl 15 (by decide) lk1 (fun _ h9 => h9) rfl dX8_guardTold_30 ?_
    refine lv_if_ne (tgt := 45) hx hb dX8_guardTold_33 (by decide) (fun c16 => ?_) (fun c16 => ?_)
    · replace h := bb_ifn c16 h
      obtain ⟨rfl, rfl, rfl, rfl⟩ := bb_some4 h
      have hP9 := hP.sub (ws' := [((a_t 0), oX8 a_t v_t_isKept v_t_bestPost v_t_mostSeen v_t_taped v_t_from_11 v_t_to_12 v_t_isWrong_13), ((a_t 1), .inl (cy 0, 155, .inl f_t_s)), ((a_t 12), .inl (cy 0, 120, .inl f_t_tape))]) [0, 1, 2] rfl
      have hD9 := hD.sub (ws' := [((a_t 0), oX8 a_t v_t_isKept v_t_bestPost v_t_mostSeen v_t_taped v_t_from_11 v_t_to_12 v_t_isWrong_13), ((a_t 1), .inl (cy 0, 155, .inl f_t_s)), ((a_t 12), .inl (cy 0, 120, .inl f_t_tape))]) [0, 1, 2] (by decide) rfl
      exact W.vret hx hb hr (fun t ht hW => ⟨⟨(), rfl, trivial, by rw [ht]; exact hP9, va_K.moved hW.alike hK, hD9⟩, hS.F ht⟩) hS.2.2 dX8_guardTold_45
    · replace h := bb_ifp c16 h
      refine lv_aload_n hx hb dX8_guardTold_36 rfl (lv_at hl 1 rfl) ?_
      refine va_get (D := (dC, dI)) (ci := 7) (v := .ref (a_t 1)) (C := RX8) (T := TX8) (N := 20) hx hb hts iwX8 hown hK hP 0 rfl rfl 0 (by decide) lk2 (fun _ h9 => h9) rfl dX8_guardTold_37 ?_
      refine lv_iconst (v := (5 : Int32)) hx hb dX8_guardTold_40 (by decide) ?_
      refine lv_iload_n hx hb dX8_guardTold_41 rfl (lv_at hl 2 rfl) ?_
      refine lv_iadd hx hb dX8_guardTold_42 ?_
      refine lv_iload_n hx hb dX8_guardTold_43 rfl (lv_at hl 0 rfl) ?_
      obtain ⟨hi17, h⟩ := bb_ix_o h
      refine va_iast hx hb hK hP hD hS 1 0 rfl rfl hi17 dX8_guardTold_44 (fun H locs hP hD hS => ?_)
      have hP : va_P (dC, dI) vwCl [((a_t 0), oX8 a_t v_t_isKept v_t_bestPost v_t_mostSeen v_t_taped v_t_from_11 v_t_to_12 v_t_isWrong_13), ((a_t 1), .inl (cy 0, 155, .inl (upd f_t_s ((5 : Int32) + r1).toNatClampNeg z14))), ((a_t 12), .inl (cy 0, 120, .inl f_t_tape))] H := hP
      have hD : va_D A [((a_t 0), oX8 a_t v_t_isKept v_t_bestPost v_t_mostSeen v_t_taped v_t_from_11 v_t_to_12 v_t_isWrong_13), ((a_t 1), .inl (cy 0, 155, .inl (upd f_t_s ((5 : Int32) + r1).toNatClampNeg z14))), ((a_t 12), .inl (cy 0, 120, .inl f_t_tape))] := hD
      obtain ⟨rfl, rfl, rfl, rfl⟩ := bb_some4 h
      have hP9 := hP.sub (ws' := [((a_t 0), oX8 a_t v_t_isKept v_t_bestPost v_t_mostSeen v_t_taped v_t_from_11 v_t_to_12 v_t_isWrong_13), ((a_t 1), .inl (cy 0, 155, .inl (upd f_t_s ((5 : Int32) + r1).toNatClampNeg z14))), ((a_t 12), .inl (cy 0, 120, .inl f_t_tape))]) [0, 1, 2] rfl
      have hD9 := hD.sub (ws' := [((a_t 0), oX8 a_t v_t_isKept v_t_bestPost v_t_mostSeen v_t_taped v_t_from_11 v_t_to_12 v_t_isWrong_13), ((a_t 1), .inl (cy 0, 155, .inl (upd f_t_s ((5 : Int32) + r1).toNatClampNeg z14))), ((a_t 12), .inl (cy 0, 120, .inl f_t_tape))]) [0, 1, 2] (by decide) rfl
      exact W.vret hx hb hr (fun t ht hW => ⟨⟨(), rfl, trivial, by rw [ht]; exact hP9, va_K.moved hW.alike hK, hD9⟩, hS.F ht⟩) hS.2.2 dX8_guardTold_45
  refine lv_if_eq (tgt := 27) hx hb dX8_guardTold_14 (by decide) (fun c18 => ?_) (fun c18 => ?_)
  · replace h := bb_ifp c18 h
    refine lv_iconst (v := (-1 : Int32)) hx hb dX8_guardTold_27 (by decide) ?_
    exact toW _ _ _ (Jk15 w7 w8 w4 (-1 : Int32) _ _ _ h (hP.sub [1, 0, 2] rfl) (hD.sub [1, 0, 2] (by decide) rfl) hS (lv_sub hl [1, 0] rfl))
  · replace h := bb_ifn c18 h
    refine lv_aload_n hx hb dX8_guardTold_17 rfl (lv_at hl 1 rfl) ?_
    refine lv_iconst (v := (0 : Int32)) hx hb dX8_guardTold_18 (by decide) ?_
    refine lv_bipush (v := (47 : Int32)) hx hb dX8_guardTold_19 (by decide) ?_
    obtain ⟨r19, w20, w21, w22, hc23, h⟩ := bb_b4_o h
    refine bb_cwi (wr := [((a_t 1), .inl (cy 0, 155, .inl f_t_s))]) (w1 := [((a_t 0), oX8 a_t v_t_isKept v_t_bestPost v_t_mostSeen v_t_taped w20 w21 w22), ((a_t 12), .inl (cy 0, 120, .inl f_t_tape))]) (va_runV (As := [.int (0 : Int32), .int (47 : Int32)]) (rest := []) ⟨hx, hb, hml, hown, hts⟩ (kX8_numberRead l dC dI cy H.size a_t (0 : Int32) (47 : Int32) v_t_isKept v_t_bestPost v_t_mostSeen v_t_taped w7 w8 w4 f_t_tape nn r19 w20 w21 w22 hc23) (cwV 2 hts gX8_guardTold_X8_numberRead rfl rfl rfl kdX8_numberRead ⟨Nat.le_of_ble_eq_true rfl, Nat.le_of_ble_eq_true rfl⟩) (bb_preVw (va_recv hK hP (ci := 7) (q0 := 1) rfl rfl) (hP.sub (ws' := [((a_t 0), oX8 a_t v_t_isKept v_t_bestPost v_t_mostSeen v_t_taped w7 w8 w4), ((a_t 12), .inl (cy 0, 120, .inl f_t_tape))]) [1, 2] rfl) hK (hD.sub (ws' := [((a_t 0), oX8 a_t v_t_isKept v_t_bestPost v_t_mostSeen v_t_taped w7 w8 w4), ((a_t 12), .inl (cy 0, 120, .inl f_t_tape))]) [1, 2] (by decide) rfl)) rfl rfl hl.1 rfl (lv_room (Nat.le_of_ble_eq_true rfl)) dX8_guardTold_21 ⟨Nat.zero_le _, Nat.zero_le _⟩) hP hD hS hA [1, 2] [0] rfl rfl (by decide) (by decide) (fun H locs hP hD hS => ?_)
    have hP : va_P (dC, dI) vwCl [((a_t 1), .inl (cy 0, 155, .inl f_t_s)), ((a_t 0), oX8 a_t v_t_isKept v_t_bestPost v_t_mostSeen v_t_taped w20 w21 w22), ((a_t 12), .inl (cy 0, 120, .inl f_t_tape))] H := hP
    have hD : va_D A [((a_t 1), .inl (cy 0, 155, .inl f_t_s)), ((a_t 0), oX8 a_t v_t_isKept v_t_bestPost v_t_mostSeen v_t_taped w20 w21 w22), ((a_t 12), .inl (cy 0, 120, .inl f_t_tape))] := hD
    refine lv_goto (tgt := 28) hx hb dX8_guardTold_24 (by decide) ?_
    exact toW _ _ _ (Jk15 w20 w21 w22 r19 _ _ _ h (hP.sub [1, 0, 2] rfl) (hD.sub [1, 0, 2] (by decide) rfl) hS (lv_sub hl [1, 0] rfl))
/-! X8_item -/
def uX8_item (nn : Nat) (v_t_taped : Int32) (v_t_from : Int32) (v_t_to : Int32) (v_t_isWrong : Int32) (f_t_s : Nat → Int32) (f_t_tape : Nat → Int32) : Option ((Int32) × (Int32) × (Int32) × (Nat → Int32)) :=
  bb_b1 (uX8_kindHere nn v_t_from v_t_to v_t_isWrong f_t_tape) (fun (r1 : Int32) => (if r1 < 0 then bb_b3 (uX8_takes nn 10 v_t_taped v_t_from v_t_to v_t_isWrong f_t_tape) (fun (r5 : Int32) (w6 : Int32) (w7 : Int32) => (if r5 = 0 then bb_b3 (uX8_takes nn 11 v_t_taped w6 w7 v_t_isWrong f_t_tape) (fun (r11 : Int32) (w12 : Int32) (w13 : Int32) => (if r11 = 0 then bb_b3 (uX8_takes nn 12 v_t_taped w12 w13 v_t_isWrong f_t_tape) (fun (r17 : Int32) (w18 : Int32) (w19 : Int32) => (if r17 = 0 then bb_b1 (uX8_isWord nn 13 w18 w19 v_t_isWrong f_t_tape) (fun (r23 : Int32) => bb_b3 (uX8_must nn r23 v_t_taped w18 w19 v_t_isWrong f_t_tape) (fun (w27 : Int32) (w28 : Int32) (w29 : Int32) => bb_b4 (uX8_numberRead nn (0 : Int32) (12 : Int32) v_t_taped w27 w28 w29 f_t_tape) (fun (r31 : Int32) (w32 : Int32) (w33 : Int32) (w34 : Int32) => some (w32, w33, w34, upd f_t_s (2 : Int32).toNatClampNeg r31)))) else bb_b4 (uX8_guardTold nn v_t_taped w18 w19 v_t_isWrong f_t_s f_t_tape) (fun (w36 : Int32) (w37 : Int32) (w38 : Int32) (w39 : Nat → Int32) => some (w36, w37, w38, w39)))) else bb_b4 (uX8_cellTold nn (57 : Int32) (4 : Int32) v_t_taped w12 w13 v_t_isWrong f_t_s f_t_tape) (fun (w41 : Int32) (w42 : Int32) (w43 : Int32) (w44 : Nat → Int32) => some (w41, w42, w43, w44)))) else bb_b4 (uX8_cellTold nn (9 : Int32) (9 : Int32) v_t_taped w6 w7 v_t_isWrong f_t_s f_t_tape) (fun (w46 : Int32) (w47 : Int32) (w48 : Int32) (w49 : Nat → Int32) => some (w46, w47, w48, w49)))) else bb_b4 (uX8_batherTold nn r1 v_t_taped v_t_from v_t_to v_t_isWrong f_t_s f_t_tape) (fun (w51 : Int32) (w52 : Int32) (w53 : Int32) (w54 : Nat → Int32) => some (w51, w52, w53, w54))))
theorem kdX8_item : yX8_item.cls = RX8 ∧ yX8_item.cls ≠ "java/lang/invoke/MethodHandle" ∧ yX8_item.cls ≠ "java/lang/invoke/VarHandle" ∧ (parseMethodDescriptor yX8_item.desc).map (fun d => d.parameters.length) = some 0 := by decide +kernel
set_option maxHeartbeats 4000000 in
set_option maxRecDepth 100000 in
theorem kX8_item (l : Launch) (dC : Nat → ClassId) (dI : Nat → Nat → Nat) (cy : Nat → ClassId) (aK aV : Nat → Nat) (aT : Nat) (sz : Nat) (a_t : Nat → Nat) (v_t_isKept : Int32) (v_t_bestPost : Int32) (v_t_mostSeen : Int32) (v_t_taped : Int32) (v_t_from : Int32) (v_t_to : Int32) (v_t_isWrong : Int32) (f_t_s : Nat → Int32) (f_t_tape : Nat → Int32) (nn : Nat) (v_t_from_o : Int32) (v_t_to_o : Int32) (v_t_isWrong_o : Int32) (f_t_s_o : Nat → Int32) (h : uX8_item nn v_t_taped v_t_from v_t_to v_t_isWrong f_t_s f_t_tape = some (v_t_from_o, v_t_to_o, v_t_isWrong_o, f_t_s_o)) : Met l yX8_item wsX8_item ({ frames := 7, cells := 0, slots := 0, locals := 152 }) (va_Pc [.ref (a_t 0)] (fun U => U.heap.size = sz ∧ va_P (dC, dI) vwCl [((a_t 0), oX8 a_t v_t_isKept v_t_bestPost v_t_mostSeen v_t_taped v_t_from v_t_to v_t_isWrong), ((a_t 1), .inl (cy 0, 155, .inl f_t_s)), ((a_t 12), .inl (cy 0, 120, .inl f_t_tape))] U.heap ∧ va_K (dC, dI) vwCl (tyX cy) U ∧ va_D (fun _ => True) [((a_t 0), oX8 a_t v_t_isKept v_t_bestPost v_t_mostSeen v_t_taped v_t_from v_t_to v_t_isWrong), ((a_t 1), .inl (cy 0, 155, .inl f_t_s)), ((a_t 12), .inl (cy 0, 120, .inl f_t_tape))] ∧ EV aK aV aT (va_A [((a_t 0), oX8 a_t v_t_isKept v_t_bestPost v_t_mostSeen v_t_taped v_t_from v_t_to v_t_isWrong), ((a_t 1), .inl (cy 0, 155, .inl f_t_s)), ((a_t 12), .inl (cy 0, 120, .inl f_t_tape))] sz) U U.heap)) (va_Qv (fun (_ : Unit) => True) (fun _ t => va_P (dC, dI) vwCl [((a_t 0), oX8 a_t v_t_isKept v_t_bestPost v_t_mostSeen v_t_taped v_t_from_o v_t_to_o v_t_isWrong_o), ((a_t 1), .inl (cy 0, 155, .inl f_t_s_o)), ((a_t 12), .inl (cy 0, 120, .inl f_t_tape))] t.heap ∧ va_K (dC, dI) vwCl (tyX cy) t ∧ va_D (va_A [((a_t 0), oX8 a_t v_t_isKept v_t_bestPost v_t_mostSeen v_t_taped v_t_from v_t_to v_t_isWrong), ((a_t 1), .inl (cy 0, 155, .inl f_t_s)), ((a_t 12), .inl (cy 0, 120, .inl f_t_tape))] sz) [((a_t 0), oX8 a_t v_t_isKept v_t_bestPost v_t_mostSeen v_t_taped v_t_from_o v_t_to_o v_t_isWrong_o), ((a_t 1), .inl (cy 0, 155, .inl f_t_s_o)), ((a_t 12), .inl (cy 0, 120, .inl f_t_tape))]) (va_A [((a_t 0), oX8 a_t v_t_isKept v_t_bestPost v_t_mostSeen v_t_taped v_t_from v_t_to v_t_isWrong), ((a_t 1), .inl (cy 0, 155, .inl f_t_s)), ((a_t 12), .inl (cy 0, 120, .inl f_t_tape))] sz)) 0 0 (va_A [((a_t 0), oX8 a_t v_t_isKept v_t_bestPost v_t_mostSeen v_t_taped v_t_from v_t_to v_t_isWrong), ((a_t 1), .inl (cy 0, 155, .inl f_t_s)), ((a_t 12), .inl (cy 0, 120, .inl f_t_tape))] sz) := by
  refine Met.ofW (cc := cX8_item) (maxL := 2) (ret := none) (by decide) rfl ?_
  intro p e s m args below meth c s₁ B hml hv
  obtain ⟨rfl, hsz, hP, hK, hD0, hE⟩ := hv
  have hx := B.exec
  have hb := B.bytes
  have hr := B.returns
  have hts := atoms_spec (ws := wsX8_item) B.pre
  have hown : s.vm.findClass RX8 = some m.cls := findClass_of_methodNamed B.named
  have hlocks := B.notSynchronized
  have iwX8 : ∀ w ∈ wsX80, w ∈ wsX8_item := fun w h9 => List.mem_cons_of_mem _ (List.mem_append_right _ (h9))
  have lk1 := hts (Cond.fieldLink RX8 9 "BathBorderModel" "s" "[I") (List.mem_of_getElem? (i := 1) rfl)
  subst hsz
  have hD := hD0.self (sz := s.heap.size)
  generalize hAe : va_A [((a_t 0), oX8 a_t v_t_isKept v_t_bestPost v_t_mostSeen v_t_taped v_t_from v_t_to v_t_isWrong), ((a_t 1), .inl (cy 0, 155, .inl f_t_s)), ((a_t 12), .inl (cy 0, 120, .inl f_t_tape))] s.heap.size = A at hD hE ⊢
  have hA : ∀ q : Nat, s.heap.size ≤ q → A q := fun q h => by rw [← hAe]; exact Or.inr h
  have hS : va_S A s.heap s.heap [] := va_S.rf
  have hP : va_P (dC, dI) vwCl [((a_t 0), oX8 a_t v_t_isKept v_t_bestPost v_t_mostSeen v_t_taped v_t_from v_t_to v_t_isWrong), ((a_t 1), .inl (cy 0, 155, .inl f_t_s)), ((a_t 12), .inl (cy 0, 120, .inl f_t_tape))] s.heap := hP
  have hl := lv_entry ([.ref (a_t 0)]) (n := 2) (Nat.le_of_ble_eq_true rfl)
  rw [lg_entry_eq]
  generalize (lg_sl ([.ref (a_t 0)]) ++ List.replicate (2 - (lg_sl ([.ref (a_t 0)])).length) Slot.unset).toArray = ls at hl ⊢
  have hl : lv_has ls 2 [(0, .ref (a_t 0))] := hl
  unfold uX8_item at h
  refine bb_cap (fun WW toW ofW => ?_)
  refine lv_aload_n hx hb dX8_item_0 rfl (lv_at hl 0 rfl) ?_
  obtain ⟨r1, hc2, h⟩ := bb_b1_o h
  refine vp_callSi (W.runV (As := []) (rest := []) ⟨hx, hb, hml, hown, hts⟩ (kX8_kindHere l dC dI cy aK aV aT a_t v_t_isKept v_t_bestPost v_t_mostSeen v_t_taped v_t_from v_t_to v_t_isWrong f_t_tape nn r1 hc2) (cwV 0 hts gX8_item_X8_kindHere rfl rfl rfl kdX8_kindHere ⟨Nat.le_of_ble_eq_true rfl, Nat.le_of_ble_eq_true rfl⟩) (bb_preVe (va_recv hK hP (ci := 7) (q0 := 0) rfl rfl) (hP.sub (ws' := [((a_t 0), oX8 a_t v_t_isKept v_t_bestPost v_t_mostSeen v_t_taped v_t_from v_t_to v_t_isWrong), ((a_t 12), .inl (cy 0, 120, .inl f_t_tape))]) [0, 2] rfl) hK hE hS) rfl rfl hl.1 rfl (lv_room (Nat.le_of_ble_eq_true rfl)) dX8_item_1 ⟨Nat.zero_le _, Nat.zero_le _⟩) (fun t3 et3 => ?_)
  obtain rfl := et3
  refine lv_istore_n (lv' := [(1, .int r1), (0, .ref (a_t 0))]) hx hb dX8_item_4 rfl hl (by decide) rfl (fun ls hl => ?_)
  refine lv_iload_n hx hb dX8_item_5 rfl (lv_at hl 0 rfl) ?_
  refine lv_if_lt (tgt := 17) hx hb dX8_item_6 (by decide) (fun c4 => ?_) (fun c4 => ?_)
  · replace h := bb_ifp c4 h
    refine lv_aload_n hx hb dX8_item_17 rfl (lv_at hl 1 rfl) ?_
    refine bb_ldcwS hx hb hown (EV.con hE ("BathBorderModel", 331, "steam", 10) (by decide)) dX8_item_18 ?_
    obtain ⟨r5, w6, w7, hc8, h⟩ := bb_b3_o h
    refine bb_cwz (wr := [((a_t 1), .inl (cy 0, 155, .inl f_t_s))]) (w1 := [((a_t 0), oX8 a_t v_t_isKept v_t_bestPost v_t_mostSeen v_t_taped w6 w7 v_t_isWrong), ((a_t 12), .inl (cy 0, 120, .inl f_t_tape))]) (va_runV (As := [.ref (aK 10)]) (rest := []) ⟨hx, hb, hml, hown, hts⟩ (kX8_takes l dC dI cy aK aV aT s.heap.size a_t 10 v_t_isKept v_t_bestPost v_t_mostSeen v_t_taped v_t_from v_t_to v_t_isWrong f_t_tape nn r5 w6 w7 hc8) (cwV 1 hts gX8_item_X8_takes rfl rfl rfl kdX8_takes ⟨Nat.le_of_ble_eq_true rfl, Nat.le_of_ble_eq_true rfl⟩) (bb_preVwe (va_recv hK hP (ci := 7) (q0 := 0) rfl rfl) (hP.sub (ws' := [((a_t 0), oX8 a_t v_t_isKept v_t_bestPost v_t_mostSeen v_t_taped v_t_from v_t_to v_t_isWrong), ((a_t 12), .inl (cy 0, 120, .inl f_t_tape))]) [0, 2] rfl) hK (hD.sub (ws' := [((a_t 0), oX8 a_t v_t_isKept v_t_bestPost v_t_mostSeen v_t_taped v_t_from v_t_to v_t_isWrong), ((a_t 12), .inl (cy 0, 120, .inl f_t_tape))]) [0, 2] (by decide) rfl) hE hS (va_free (wc := [((a_t 0), oX8 a_t v_t_isKept v_t_bestPost v_t_mostSeen v_t_taped v_t_from v_t_to v_t_isWrong), ((a_t 12), .inl (cy 0, 120, .inl f_t_tape))]) hD hS hA [0, 2] rfl)) rfl rfl hl.1 rfl (lv_room (Nat.le_of_ble_eq_true rfl)) dX8_item_21 ⟨Nat.zero_le _, Nat.zero_le _⟩) hP hD hS hA [0, 2] [1] rfl rfl (by decide) (by decide) (fun hz9 H locs hP hD hS => ?_)
    have hP : va_P (dC, dI) vwCl [((a_t 1), .inl (cy 0, 155, .inl f_t_s)), ((a_t 0), oX8 a_t v_t_isKept v_t_bestPost v_t_mostSeen v_t_taped w6 w7 v_t_isWrong), ((a_t 12), .inl (cy 0, 120, .inl f_t_tape))] H := hP
    have hD : va_D A [((a_t 1), .inl (cy 0, 155, .inl f_t_s)), ((a_t 0), oX8 a_t v_t_isKept v_t_bestPost v_t_mostSeen v_t_taped w6 w7 v_t_isWrong), ((a_t 12), .inl (cy 0, 120, .inl f_t_tape))] := hD
    refine lv_if_eq (tgt := 38) hx hb dX8_item_24 (by decide) (fun c10 => ?_) (fun c10 => ?_)
    · replace h := bb_ifp c10 h
      refine lv_aload_n hx hb dX8_item_38 rfl (lv_at hl 1 rfl) ?_
      refine bb_ldcwS hx hb hown (EV.con hE ("BathBorderModel", 337, "current", 11) (by decide)) dX8_item_39 ?_
      obtain ⟨r11, w12, w13, hc14, h⟩ := bb_b3_o h
      refine bb_cwz (wr := [((a_t 1), .inl (cy 0, 155, .inl f_t_s))]) (w1 := [((a_t 0), oX8 a_t v_t_isKept v_t_bestPost v_t_mostSeen v_t_taped w12 w13 v_t_isWrong), ((a_t 12), .inl (cy 0, 120, .inl f_t_tape))]) (va_runV (As := [.ref (aK 11)]) (rest := []) ⟨hx, hb, hml, hown, hts⟩ (kX8_takes l dC dI cy aK aV aT H.size a_t 11 v_t_isKept v_t_bestPost v_t_mostSeen v_t_taped w6 w7 v_t_isWrong f_t_tape nn r11 w12 w13 hc14) (cwV 1 hts gX8_item_X8_takes rfl rfl rfl kdX8_takes ⟨Nat.le_of_ble_eq_true rfl, Nat.le_of_ble_eq_true rfl⟩) (bb_preVwe (va_recv hK hP (ci := 7) (q0 := 1) rfl rfl) (hP.sub (ws' := [((a_t 0), oX8 a_t v_t_isKept v_t_bestPost v_t_mostSeen v_t_taped w6 w7 v_t_isWrong), ((a_t 12), .inl (cy 0, 120, .inl f_t_tape))]) [1, 2] rfl) hK (hD.sub (ws' := [((a_t 0), oX8 a_t v_t_isKept v_t_bestPost v_t_mostSeen v_t_taped w6 w7 v_t_isWrong), ((a_t 12), .inl (cy 0, 120, .inl f_t_tape))]) [1, 2] (by decide) rfl) hE hS (va_free (wc := [((a_t 0), oX8 a_t v_t_isKept v_t_bestPost v_t_mostSeen v_t_taped w6 w7 v_t_isWrong), ((a_t 12), .inl (cy 0, 120, .inl f_t_tape))]) hD hS hA [1, 2] rfl)) rfl rfl hl.1 rfl (lv_room (Nat.le_of_ble_eq_true rfl)) dX8_item_42 ⟨Nat.zero_le _, Nat.zero_le _⟩) hP hD hS hA [1, 2] [0] rfl rfl (by decide) (by decide) (fun hz15 H locs hP hD hS => ?_)
      have hP : va_P (dC, dI) vwCl [((a_t 1), .inl (cy 0, 155, .inl f_t_s)), ((a_t 0), oX8 a_t v_t_isKept v_t_bestPost v_t_mostSeen v_t_taped w12 w13 v_t_isWrong), ((a_t 12), .inl (cy 0, 120, .inl f_t_tape))] H := hP
      have hD : va_D A [((a_t 1), .inl (cy 0, 155, .inl f_t_s)), ((a_t 0), oX8 a_t v_t_isKept v_t_bestPost v_t_mostSeen v_t_taped w12 w13 v_t_isWrong), ((a_t 12), .inl (cy 0, 120, .inl f_t_tape))] := hD
      refine lv_if_eq (tgt := 58) hx hb dX8_item_45 (by decide) (fun c16 => ?_) (fun c16 => ?_)
      · replace h := bb_ifp c16 h
        refine lv_aload_n hx hb dX8_item_58 rfl (lv_at hl 1 rfl) ?_
        refine bb_ldcwS hx hb hown (EV.con hE ("BathBorderModel", 339, "guard", 12) (by decide)) dX8_item_59 ?_
        obtain ⟨r17, w18, w19, hc20, h⟩ := bb_b3_o h
        refine bb_cwz (wr := [((a_t 1), .inl (cy 0, 155, .inl f_t_s))]) (w1 := [((a_t 0), oX8 a_t v_t_isKept v_t_bestPost v_t_mostSeen v_t_taped w18 w19 v_t_isWrong), ((a_t 12), .inl (cy 0, 120, .inl f_t_tape))]) (va_runV (As := [.ref (aK 12)]) (rest := []) ⟨hx, hb, hml, hown, hts⟩ (kX8_takes l dC dI cy aK aV aT H.size a_t 12 v_t_isKept v_t_bestPost v_t_mostSeen v_t_taped w12 w13 v_t_isWrong f_t_tape nn r17 w18 w19 hc20) (cwV 1 hts gX8_item_X8_takes rfl rfl rfl kdX8_takes ⟨Nat.le_of_ble_eq_true rfl, Nat.le_of_ble_eq_true rfl⟩) (bb_preVwe (va_recv hK hP (ci := 7) (q0 := 1) rfl rfl) (hP.sub (ws' := [((a_t 0), oX8 a_t v_t_isKept v_t_bestPost v_t_mostSeen v_t_taped w12 w13 v_t_isWrong), ((a_t 12), .inl (cy 0, 120, .inl f_t_tape))]) [1, 2] rfl) hK (hD.sub (ws' := [((a_t 0), oX8 a_t v_t_isKept v_t_bestPost v_t_mostSeen v_t_taped w12 w13 v_t_isWrong), ((a_t 12), .inl (cy 0, 120, .inl f_t_tape))]) [1, 2] (by decide) rfl) hE hS (va_free (wc := [((a_t 0), oX8 a_t v_t_isKept v_t_bestPost v_t_mostSeen v_t_taped w12 w13 v_t_isWrong), ((a_t 12), .inl (cy 0, 120, .inl f_t_tape))]) hD hS hA [1, 2] rfl)) rfl rfl hl.1 rfl (lv_room (Nat.le_of_ble_eq_true rfl)) dX8_item_62 ⟨Nat.zero_le _, Nat.zero_le _⟩) hP hD hS hA [1, 2] [0] rfl rfl (by decide) (by decide) (fun hz21 H locs hP hD hS => ?_)
        have hP : va_P (dC, dI) vwCl [((a_t 1), .inl (cy 0, 155, .inl f_t_s)), ((a_t 0), oX8 a_t v_t_isKept v_t_bestPost v_t_mostSeen v_t_taped w18 w19 v_t_isWrong), ((a_t 12), .inl (cy 0, 120, .inl f_t_tape))] H := hP
        have hD : va_D A [((a_t 1), .inl (cy 0, 155, .inl f_t_s)), ((a_t 0), oX8 a_t v_t_isKept v_t_bestPost v_t_mostSeen v_t_taped w18 w19 v_t_isWrong), ((a_t 12), .inl (cy 0, 120, .inl f_t_tape))] := hD
        refine lv_if_eq (tgt := 75) hx hb dX8_item_65 (by decide) (fun c22 => ?_) (fun c22 => ?_)
        · replace h := bb_ifp c22 h
          refine lv_aload_n hx hb dX8_item_75 rfl (lv_at hl 1 rfl) ?_
          refine lv_aload_n hx hb dX8_item_76 rfl (lv_at hl 1 rfl) ?_
          refine bb_ldcwS hx hb hown (EV.con hE ("BathBorderModel", 344, "sight", 13) (by decide)) dX8_item_77 ?_
          obtain ⟨r23, hc24, h⟩ := bb_b1_o h
          refine vp_callSi (W.runV (As := [.ref (aK 13)]) (rest := [.ref (a_t 0)]) ⟨hx, hb, hml, hown, hts⟩ (kX8_isWord l dC dI cy aK aV aT a_t 13 v_t_isKept v_t_bestPost v_t_mostSeen v_t_taped w18 w19 v_t_isWrong f_t_tape nn r23 hc24) (cwV 1 hts gX8_item_X8_isWord rfl rfl rfl kdX8_isWord ⟨Nat.le_of_ble_eq_true rfl, Nat.le_of_ble_eq_true rfl⟩) (bb_preVe (va_recv hK hP (ci := 7) (q0 := 1) rfl rfl) (hP.sub (ws' := [((a_t 0), oX8 a_t v_t_isKept v_t_bestPost v_t_mostSeen v_t_taped w18 w19 v_t_isWrong), ((a_t 12), .inl (cy 0, 120, .inl f_t_tape))]) [1, 2] rfl) hK hE hS) rfl rfl hl.1 rfl (lv_room (Nat.le_of_ble_eq_true rfl)) dX8_item_80 ⟨Nat.zero_le _, Nat.zero_le _⟩) (fun t25 et25 => ?_)
          obtain ⟨rfl, hz26⟩ := et25
          obtain ⟨w27, w28, w29, hc30, h⟩ := bb_b3_o h
          refine bb_cwv (wr := [((a_t 1), .inl (cy 0, 155, .inl f_t_s))]) (w1 := [((a_t 0), oX8 a_t v_t_isKept v_t_bestPost v_t_mostSeen v_t_taped w27 w28 w29), ((a_t 12), .inl (cy 0, 120, .inl f_t_tape))]) (va_runV (As := [.int r23]) (rest := []) ⟨hx, hb, hml, hown, hts⟩ (kX8_must l dC dI cy H.size a_t r23 v_t_isKept v_t_bestPost v_t_mostSeen v_t_taped w18 w19 v_t_isWrong f_t_tape nn w27 w28 w29 hc30) (cwV 1 hts gX8_item_X8_must rfl rfl rfl kdX8_must ⟨Nat.le_of_ble_eq_true rfl, Nat.le_of_ble_eq_true rfl⟩) (bb_preVw (va_recv hK hP (ci := 7) (q0 := 1) rfl rfl) (hP.sub (ws' := [((a_t 0), oX8 a_t v_t_isKept v_t_bestPost v_t_mostSeen v_t_taped w18 w19 v_t_isWrong), ((a_t 12), .inl (cy 0, 120, .inl f_t_tape))]) [1, 2] rfl) hK (hD.sub (ws' := [((a_t 0), oX8 a_t v_t_isKept v_t_bestPost v_t_mostSeen v_t_taped w18 w19 v_t_isWrong), ((a_t 12), .inl (cy 0, 120, .inl f_t_tape))]) [1, 2] (by decide) rfl)) rfl rfl hl.1 rfl (lv_room (Nat.le_of_ble_eq_true rfl)) dX8_item_83 ⟨Nat.zero_le _, Nat.zero_le _⟩) hP hD hS hA [1, 2] [0] rfl rfl (by decide) (by decide) (fun H locs hP hD hS => ?_)
          have hP : va_P (dC, dI) vwCl [((a_t 1), .inl (cy 0, 155, .inl f_t_s)), ((a_t 0), oX8 a_t v_t_isKept v_t_bestPost v_t_mostSeen v_t_taped w27 w28 w29), ((a_t 12), .inl (cy 0, 120, .inl f_t_tape))] H := hP
          have hD : va_D A [((a_t 1), .inl (cy 0, 155, .inl f_t_s)), ((a_t 0), oX8 a_t v_t_isKept v_t_bestPost v_t_mostSeen v_t_taped w27 w28 w29), ((a_t 12), .inl (cy 0, 120, .inl f_t_tape))] := hD
          refine lv_aload_n hx hb dX8_item_86 rfl (lv_at hl 1 rfl) ?_
          refine va_get (D := (dC, dI)) (ci := 7) (v := .ref (a_t 1)) (C := RX8) (T := TX8) (N := 20) hx hb hts iwX8 hown hK hP 1 rfl rfl 0 (by decide) lk1 (fun _ h9 => h9) rfl dX8_item_87 ?_
          refine lv_iconst (v := (2 : Int32)) hx hb dX8_item_90 (by decide) ?_
          refine lv_aload_n hx hb dX8_item_91 rfl (lv_at hl 1 rfl) ?_
          refine lv_iconst (v := (0 : Int32)) hx hb dX8_item_92 (by decide) ?_
          refine lv_bipush (v := (12 : Int32)) hx hb dX8_item_93 (by decide) ?_
          obtain ⟨r31, w32, w33, w34, hc35, h⟩ := bb_b4_o h
          refine bb_cwi (wr := [((a_t 1), .inl (cy 0, 155, .inl f_t_s))]) (w1 := [((a_t 0), oX8 a_t v_t_isKept v_t_bestPost v_t_mostSeen v_t_taped w32 w33 w34), ((a_t 12), .inl (cy 0, 120, .inl f_t_tape))]) (va_runV (As := [.int (0 : Int32), .int (12 : Int32)]) (rest := [.int (2 : Int32), .ref (a_t 1)]) ⟨hx, hb, hml, hown, hts⟩ (kX8_numberRead l dC dI cy H.size a_t (0 : Int32) (12 : Int32) v_t_isKept v_t_bestPost v_t_mostSeen v_t_taped w27 w28 w29 f_t_tape nn r31 w32 w33 w34 hc35) (cwV 2 hts gX8_item_X8_numberRead rfl rfl rfl kdX8_numberRead ⟨Nat.le_of_ble_eq_true rfl, Nat.le_of_ble_eq_true rfl⟩) (bb_preVw (va_recv hK hP (ci := 7) (q0 := 1) rfl rfl) (hP.sub (ws' := [((a_t 0), oX8 a_t v_t_isKept v_t_bestPost v_t_mostSeen v_t_taped w27 w28 w29), ((a_t 12), .inl (cy 0, 120, .inl f_t_tape))]) [1, 2] rfl) hK (hD.sub (ws' := [((a_t 0), oX8 a_t v_t_isKept v_t_bestPost v_t_mostSeen v_t_taped w27 w28 w29), ((a_t 12), .inl (cy 0, 120, .inl f_t_tape))]) [1, 2] (by decide) rfl)) rfl rfl hl.1 rfl (lv_room (Nat.le_of_ble_eq_true rfl)) dX8_item_95 ⟨Nat.zero_le _, Nat.zero_le _⟩) hP hD hS hA [1, 2] [0] rfl rfl (by decide) (by decide) (fun H locs hP hD hS => ?_)
          have hP : va_P (dC, dI) vwCl [((a_t 1), .inl (cy 0, 155, .inl f_t_s)), ((a_t 0), oX8 a_t v_t_isKept v_t_bestPost v_t_mostSeen v_t_taped w32 w33 w34), ((a_t 12), .inl (cy 0, 120, .inl f_t_tape))] H := hP
          have hD : va_D A [((a_t 1), .inl (cy 0, 155, .inl f_t_s)), ((a_t 0), oX8 a_t v_t_isKept v_t_bestPost v_t_mostSeen v_t_taped w32 w33 w34), ((a_t 12), .inl (cy 0, 120, .inl f_t_tape))] := hD
          refine va_iast hx hb hK hP hD hS 0 0 rfl rfl (bb_in (by decide)) dX8_item_98 (fun H locs hP hD hS => ?_)
          have hP : va_P (dC, dI) vwCl [((a_t 1), .inl (cy 0, 155, .inl (upd f_t_s (2 : Int32).toNatClampNeg r31))), ((a_t 0), oX8 a_t v_t_isKept v_t_bestPost v_t_mostSeen v_t_taped w32 w33 w34), ((a_t 12), .inl (cy 0, 120, .inl f_t_tape))] H := hP
          have hD : va_D A [((a_t 1), .inl (cy 0, 155, .inl (upd f_t_s (2 : Int32).toNatClampNeg r31))), ((a_t 0), oX8 a_t v_t_isKept v_t_bestPost v_t_mostSeen v_t_taped w32 w33 w34), ((a_t 12), .inl (cy 0, 120, .inl f_t_tape))] := hD
          obtain ⟨rfl, rfl, rfl, rfl⟩ := bb_some4 h
          have hP9 := hP.sub (ws' := [((a_t 0), oX8 a_t v_t_isKept v_t_bestPost v_t_mostSeen v_t_taped w32 w33 w34), ((a_t 1), .inl (cy 0, 155, .inl (upd f_t_s (2 : Int32).toNatClampNeg r31))), ((a_t 12), .inl (cy 0, 120, .inl f_t_tape))]) [1, 0, 2] rfl
          have hD9 := hD.sub (ws' := [((a_t 0), oX8 a_t v_t_isKept v_t_bestPost v_t_mostSeen v_t_taped w32 w33 w34), ((a_t 1), .inl (cy 0, 155, .inl (upd f_t_s (2 : Int32).toNatClampNeg r31))), ((a_t 12), .inl (cy 0, 120, .inl f_t_tape))]) [1, 0, 2] (by decide) rfl
          exact W.vret hx hb hr (fun t ht hW => ⟨⟨(), rfl, trivial, by rw [ht]; exact hP9, va_K.moved hW.alike hK, hD9⟩, hS.F ht⟩) hS.2.2 dX8_item_99
        · replace h := bb_ifn c22 h
          refine lv_aload_n hx hb dX8_item_68 rfl (lv_at hl 1 rfl) ?_
          obtain ⟨w36, w37, w38, w39, hc40, h⟩ := bb_b4_o h
          refine bb_cwv (wr := []) (w1 := [((a_t 0), oX8 a_t v_t_isKept v_t_bestPost v_t_mostSeen v_t_taped w36 w37 w38), ((a_t 1), .inl (cy 0, 155, .inl w39)), ((a_t 12), .inl (cy 0, 120, .inl f_t_tape))]) (va_runV (As := []) (rest := []) ⟨hx, hb, hml, hown, hts⟩ (kX8_guardTold l dC dI cy aK aV aT H.size a_t v_t_isKept v_t_bestPost v_t_mostSeen v_t_taped w18 w19 v_t_isWrong f_t_s f_t_tape nn w36 w37 w38 w39 hc40) (cwV 0 hts gX8_item_X8_guardTold rfl rfl rfl kdX8_guardTold ⟨Nat.le_of_ble_eq_true rfl, Nat.le_of_ble_eq_true rfl⟩) (bb_preVwe (va_recv hK hP (ci := 7) (q0 := 1) rfl rfl) (hP.sub (ws' := [((a_t 0), oX8 a_t v_t_isKept v_t_bestPost v_t_mostSeen v_t_taped w18 w19 v_t_isWrong), ((a_t 1), .inl (cy 0, 155, .inl f_t_s)), ((a_t 12), .inl (cy 0, 120, .inl f_t_tape))]) [1, 0, 2] rfl) hK (hD.sub (ws' := [((a_t 0), oX8 a_t v_t_isKept v_t_bestPost v_t_mostSeen v_t_taped w18 w19 v_t_isWrong), ((a_t 1), .inl (cy 0, 155, .inl f_t_s)), ((a_t 12), .inl (cy 0, 120, .inl f_t_tape))]) [1, 0, 2] (by decide) rfl) hE hS (va_free (wc := [((a_t 0), oX8 a_t v_t_isKept v_t_bestPost v_t_mostSeen v_t_taped w18 w19 v_t_isWrong), ((a_t 1), .inl (cy 0, 155, .inl f_t_s)), ((a_t 12), .inl (cy 0, 120, .inl f_t_tape))]) hD hS hA [1, 0, 2] rfl)) rfl rfl hl.1 rfl (lv_room (Nat.le_of_ble_eq_true rfl)) dX8_item_69 ⟨Nat.zero_le _, Nat.zero_le _⟩) hP hD hS hA [1, 0, 2] [] rfl rfl (by decide) (by decide) (fun H locs hP hD hS => ?_)
          have hP : va_P (dC, dI) vwCl [((a_t 0), oX8 a_t v_t_isKept v_t_bestPost v_t_mostSeen v_t_taped w36 w37 w38), ((a_t 1), .inl (cy 0, 155, .inl w39)), ((a_t 12), .inl (cy 0, 120, .inl f_t_tape))] H := hP
          have hD : va_D A [((a_t 0), oX8 a_t v_t_isKept v_t_bestPost v_t_mostSeen v_t_taped w36 w37 w38), ((a_t 1), .inl (cy 0, 155, .inl w39)), ((a_t 12), .inl (cy 0, 120, .inl f_t_tape))] := hD
          refine lv_goto (tgt := 99) hx hb dX8_item_72 (by decide) ?_
          obtain ⟨rfl, rfl, rfl, rfl⟩ := bb_some4 h
          have hP9 := hP.sub (ws' := [((a_t 0), oX8 a_t v_t_isKept v_t_bestPost v_t_mostSeen v_t_taped w36 w37 w38), ((a_t 1), .inl (cy 0, 155, .inl w39)), ((a_t 12), .inl (cy 0, 120, .inl f_t_tape))]) [0, 1, 2] rfl
          have hD9 := hD.sub (ws' := [((a_t 0), oX8 a_t v_t_isKept v_t_bestPost v_t_mostSeen v_t_taped w36 w37 w38), ((a_t 1), .inl (cy 0, 155, .inl w39)), ((a_t 12), .inl (cy 0, 120, .inl f_t_tape))]) [0, 1, 2] (by decide) rfl
          exact W.vret hx hb hr (fun t ht hW => ⟨⟨(), rfl, trivial, by rw [ht]; exact hP9, va_K.moved hW.alike hK, hD9⟩, hS.F ht⟩) hS.2.2 dX8_item_99
      · replace h := bb_ifn c16 h
        refine lv_aload_n hx hb dX8_item_48 rfl (lv_at hl 1 rfl) ?_
        refine lv_bipush (v := (57 : Int32)) hx hb dX8_item_49 (by decide) ?_
        refine lv_iconst (v := (4 : Int32)) hx hb dX8_item_51 (by decide) ?_
        obtain ⟨w41, w42, w43, w44, hc45, h⟩ := bb_b4_o h
        refine bb_cwv (wr := []) (w1 := [((a_t 0), oX8 a_t v_t_isKept v_t_bestPost v_t_mostSeen v_t_taped w41 w42 w43), ((a_t 1), .inl (cy 0, 155, .inl w44)), ((a_t 12), .inl (cy 0, 120, .inl f_t_tape))]) (va_runV (As := [.int (57 : Int32), .int (4 : Int32)]) (rest := []) ⟨hx, hb, hml, hown, hts⟩ (kX8_cellTold l dC dI cy H.size a_t (57 : Int32) (4 : Int32) v_t_isKept v_t_bestPost v_t_mostSeen v_t_taped w12 w13 v_t_isWrong f_t_s f_t_tape nn w41 w42 w43 w44 hc45) (cwV 2 hts gX8_item_X8_cellTold rfl rfl rfl kdX8_cellTold ⟨Nat.le_of_ble_eq_true rfl, Nat.le_of_ble_eq_true rfl⟩) (bb_preVw (va_recv hK hP (ci := 7) (q0 := 1) rfl rfl) (hP.sub (ws' := [((a_t 0), oX8 a_t v_t_isKept v_t_bestPost v_t_mostSeen v_t_taped w12 w13 v_t_isWrong), ((a_t 1), .inl (cy 0, 155, .inl f_t_s)), ((a_t 12), .inl (cy 0, 120, .inl f_t_tape))]) [1, 0, 2] rfl) hK (hD.sub (ws' := [((a_t 0), oX8 a_t v_t_isKept v_t_bestPost v_t_mostSeen v_t_taped w12 w13 v_t_isWrong), ((a_t 1), .inl (cy 0, 155, .inl f_t_s)), ((a_t 12), .inl (cy 0, 120, .inl f_t_tape))]) [1, 0, 2] (by decide) rfl)) rfl rfl hl.1 rfl (lv_room (Nat.le_of_ble_eq_true rfl)) dX8_item_52 ⟨Nat.zero_le _, Nat.zero_le _⟩) hP hD hS hA [1, 0, 2] [] rfl rfl (by decide) (by decide) (fun H locs hP hD hS => ?_)
        have hP : va_P (dC, dI) vwCl [((a_t 0), oX8 a_t v_t_isKept v_t_bestPost v_t_mostSeen v_t_taped w41 w42 w43), ((a_t 1), .inl (cy 0, 155, .inl w44)), ((a_t 12), .inl (cy 0, 120, .inl f_t_tape))] H := hP
        have hD : va_D A [((a_t 0), oX8 a_t v_t_isKept v_t_bestPost v_t_mostSeen v_t_taped w41 w42 w43), ((a_t 1), .inl (cy 0, 155, .inl w44)), ((a_t 12), .inl (cy 0, 120, .inl f_t_tape))] := hD
        refine lv_goto (tgt := 99) hx hb dX8_item_55 (by decide) ?_
        obtain ⟨rfl, rfl, rfl, rfl⟩ := bb_some4 h
        have hP9 := hP.sub (ws' := [((a_t 0), oX8 a_t v_t_isKept v_t_bestPost v_t_mostSeen v_t_taped w41 w42 w43), ((a_t 1), .inl (cy 0, 155, .inl w44)), ((a_t 12), .inl (cy 0, 120, .inl f_t_tape))]) [0, 1, 2] rfl
        have hD9 := hD.sub (ws' := [((a_t 0), oX8 a_t v_t_isKept v_t_bestPost v_t_mostSeen v_t_taped w41 w42 w43), ((a_t 1), .inl (cy 0, 155, .inl w44)), ((a_t 12), .inl (cy 0, 120, .inl f_t_tape))]) [0, 1, 2] (by decide) rfl
        exact W.vret hx hb hr (fun t ht hW => ⟨⟨(), rfl, trivial, by rw [ht]; exact hP9, va_K.moved hW.alike hK, hD9⟩, hS.F ht⟩) hS.2.2 dX8_item_99
    · replace h := bb_ifn c10 h
      refine lv_aload_n hx hb dX8_item_27 rfl (lv_at hl 1 rfl) ?_
      refine lv_bipush (v := (9 : Int32)) hx hb dX8_item_28 (by decide) ?_
      refine lv_bipush (v := (9 : Int32)) hx hb dX8_item_30 (by decide) ?_
      obtain ⟨w46, w47, w48, w49, hc50, h⟩ := bb_b4_o h
      refine bb_cwv (wr := []) (w1 := [((a_t 0), oX8 a_t v_t_isKept v_t_bestPost v_t_mostSeen v_t_taped w46 w47 w48), ((a_t 1), .inl (cy 0, 155, .inl w49)), ((a_t 12), .inl (cy 0, 120, .inl f_t_tape))]) (va_runV (As := [.int (9 : Int32), .int (9 : Int32)]) (rest := []) ⟨hx, hb, hml, hown, hts⟩ (kX8_cellTold l dC dI cy H.size a_t (9 : Int32) (9 : Int32) v_t_isKept v_t_bestPost v_t_mostSeen v_t_taped w6 w7 v_t_isWrong f_t_s f_t_tape nn w46 w47 w48 w49 hc50) (cwV 2 hts gX8_item_X8_cellTold rfl rfl rfl kdX8_cellTold ⟨Nat.le_of_ble_eq_true rfl, Nat.le_of_ble_eq_true rfl⟩) (bb_preVw (va_recv hK hP (ci := 7) (q0 := 1) rfl rfl) (hP.sub (ws' := [((a_t 0), oX8 a_t v_t_isKept v_t_bestPost v_t_mostSeen v_t_taped w6 w7 v_t_isWrong), ((a_t 1), .inl (cy 0, 155, .inl f_t_s)), ((a_t 12), .inl (cy 0, 120, .inl f_t_tape))]) [1, 0, 2] rfl) hK (hD.sub (ws' := [((a_t 0), oX8 a_t v_t_isKept v_t_bestPost v_t_mostSeen v_t_taped w6 w7 v_t_isWrong), ((a_t 1), .inl (cy 0, 155, .inl f_t_s)), ((a_t 12), .inl (cy 0, 120, .inl f_t_tape))]) [1, 0, 2] (by decide) rfl)) rfl rfl hl.1 rfl (lv_room (Nat.le_of_ble_eq_true rfl)) dX8_item_32 ⟨Nat.zero_le _, Nat.zero_le _⟩) hP hD hS hA [1, 0, 2] [] rfl rfl (by decide) (by decide) (fun H locs hP hD hS => ?_)
      have hP : va_P (dC, dI) vwCl [((a_t 0), oX8 a_t v_t_isKept v_t_bestPost v_t_mostSeen v_t_taped w46 w47 w48), ((a_t 1), .inl (cy 0, 155, .inl w49)), ((a_t 12), .inl (cy 0, 120, .inl f_t_tape))] H := hP
      have hD : va_D A [((a_t 0), oX8 a_t v_t_isKept v_t_bestPost v_t_mostSeen v_t_taped w46 w47 w48), ((a_t 1), .inl (cy 0, 155, .inl w49)), ((a_t 12), .inl (cy 0, 120, .inl f_t_tape))] := hD
      refine lv_goto (tgt := 99) hx hb dX8_item_35 (by decide) ?_
      obtain ⟨rfl, rfl, rfl, rfl⟩ := bb_some4 h
      have hP9 := hP.sub (ws' := [((a_t 0), oX8 a_t v_t_isKept v_t_bestPost v_t_mostSeen v_t_taped w46 w47 w48), ((a_t 1), .inl (cy 0, 155, .inl w49)), ((a_t 12), .inl (cy 0, 120, .inl f_t_tape))]) [0, 1, 2] rfl
      have hD9 := hD.sub (ws' := [((a_t 0), oX8 a_t v_t_isKept v_t_bestPost v_t_mostSeen v_t_taped w46 w47 w48), ((a_t 1), .inl (cy 0, 155, .inl w49)), ((a_t 12), .inl (cy 0, 120, .inl f_t_tape))]) [0, 1, 2] (by decide) rfl
      exact W.vret hx hb hr (fun t ht hW => ⟨⟨(), rfl, trivial, by rw [ht]; exact hP9, va_K.moved hW.alike hK, hD9⟩, hS.F ht⟩) hS.2.2 dX8_item_99
  · replace h := bb_ifn c4 h
    refine lv_aload_n hx hb dX8_item_9 rfl (lv_at hl 1 rfl) ?_
    refine lv_iload_n hx hb dX8_item_10 rfl (lv_at hl 0 rfl) ?_
    obtain ⟨w51, w52, w53, w54, hc55, h⟩ := bb_b4_o h
    refine bb_cwv (wr := []) (w1 := [((a_t 0), oX8 a_t v_t_isKept v_t_bestPost v_t_mostSeen v_t_taped w51 w52 w53), ((a_t 1), .inl (cy 0, 155, .inl w54)), ((a_t 12), .inl (cy 0, 120, .inl f_t_tape))]) (va_runV (As := [.int r1]) (rest := []) ⟨hx, hb, hml, hown, hts⟩ (kX8_batherTold l dC dI cy aK aV aT s.heap.size a_t r1 v_t_isKept v_t_bestPost v_t_mostSeen v_t_taped v_t_from v_t_to v_t_isWrong f_t_s f_t_tape nn w51 w52 w53 w54 hc55) (cwV 1 hts gX8_item_X8_batherTold rfl rfl rfl kdX8_batherTold ⟨Nat.le_of_ble_eq_true rfl, Nat.le_of_ble_eq_true rfl⟩) (bb_preVwe (va_recv hK hP (ci := 7) (q0 := 0) rfl rfl) hP hK (hD.sub (ws' := [((a_t 0), oX8 a_t v_t_isKept v_t_bestPost v_t_mostSeen v_t_taped v_t_from v_t_to v_t_isWrong), ((a_t 1), .inl (cy 0, 155, .inl f_t_s)), ((a_t 12), .inl (cy 0, 120, .inl f_t_tape))]) [0, 1, 2] (by decide) rfl) hE hS (va_free (wc := [((a_t 0), oX8 a_t v_t_isKept v_t_bestPost v_t_mostSeen v_t_taped v_t_from v_t_to v_t_isWrong), ((a_t 1), .inl (cy 0, 155, .inl f_t_s)), ((a_t 12), .inl (cy 0, 120, .inl f_t_tape))]) hD hS hA [0, 1, 2] rfl)) rfl rfl hl.1 rfl (lv_room (Nat.le_of_ble_eq_true rfl)) dX8_item_11 ⟨Nat.zero_le _, Nat.zero_le _⟩) hP hD hS hA [0, 1, 2] [] rfl rfl (by decide) (by decide) (fun H locs hP hD hS => ?_)
    have hP : va_P (dC, dI) vwCl [((a_t 0), oX8 a_t v_t_isKept v_t_bestPost v_t_mostSeen v_t_taped w51 w52 w53), ((a_t 1), .inl (cy 0, 155, .inl w54)), ((a_t 12), .inl (cy 0, 120, .inl f_t_tape))] H := hP
    have hD : va_D A [((a_t 0), oX8 a_t v_t_isKept v_t_bestPost v_t_mostSeen v_t_taped w51 w52 w53), ((a_t 1), .inl (cy 0, 155, .inl w54)), ((a_t 12), .inl (cy 0, 120, .inl f_t_tape))] := hD
    refine lv_goto (tgt := 99) hx hb dX8_item_14 (by decide) ?_
    obtain ⟨rfl, rfl, rfl, rfl⟩ := bb_some4 h
    have hP9 := hP.sub (ws' := [((a_t 0), oX8 a_t v_t_isKept v_t_bestPost v_t_mostSeen v_t_taped w51 w52 w53), ((a_t 1), .inl (cy 0, 155, .inl w54)), ((a_t 12), .inl (cy 0, 120, .inl f_t_tape))]) [0, 1, 2] rfl
    have hD9 := hD.sub (ws' := [((a_t 0), oX8 a_t v_t_isKept v_t_bestPost v_t_mostSeen v_t_taped w51 w52 w53), ((a_t 1), .inl (cy 0, 155, .inl w54)), ((a_t 12), .inl (cy 0, 120, .inl f_t_tape))]) [0, 1, 2] (by decide) rfl
    exact W.vret hx hb hr (fun t ht hW => ⟨⟨(), rfl, trivial, by rw [ht]; exact hP9, va_K.moved hW.alike hK, hD9⟩, hS.F ht⟩) hS.2.2 dX8_item_99
/-! X8_text -/
def uX8_text_s24 (nn : Nat) (v_t_taped_25 : Int32) (f_t_tape_27 : Nat → Int32) (k_63 : Int32 → Int32 → Int32 → Int32 → (Nat → Int32) → Option (Int32 × (Int32) × (Int32) × (Int32) × (Int32) × (Nat → Int32) × (Nat → Int32))) (rec28 : Int32 → Int32 → Int32 → Int32 → (Nat → Int32) → Option (Int32 × (Int32) × (Int32) × (Int32) × (Int32) × (Nat → Int32) × (Nat → Int32))) (x1_20 : Int32) (v_t_from_21 : Int32) (v_t_to_22 : Int32) (v_t_isWrong_23 : Int32) (f_t_s_24 : Nat → Int32) : Option (Int32 × (Int32) × (Int32) × (Int32) × (Int32) × (Nat → Int32) × (Nat → Int32)) :=
  (if v_t_isWrong_23 = 0 then (if v_t_taped_25 ≤ v_t_from_21 then k_63 x1_20 v_t_from_21 v_t_to_22 v_t_isWrong_23 f_t_s_24 else bb_b1 (uX8_isWord nn 14 v_t_from_21 v_t_to_22 v_t_isWrong_23 f_t_tape_27) (fun (r33 : Int32) => bb_b3 (uX8_must nn r33 v_t_taped_25 v_t_from_21 v_t_to_22 v_t_isWrong_23 f_t_tape_27) (fun (w37 : Int32) (w38 : Int32) (w39 : Int32) => bb_b4 (uX8_item nn v_t_taped_25 w37 w38 w39 f_t_s_24 f_t_tape_27) (fun (w41 : Int32) (w42 : Int32) (w43 : Int32) (w44 : Nat → Int32) => rec28 (x1_20 + (1 : Int32)) w41 w42 w43 w44)))) else k_63 x1_20 v_t_from_21 v_t_to_22 v_t_isWrong_23 f_t_s_24)
def uX8_text (nn : Nat) (v_t_taped : Int32) (v_t_from : Int32) (v_t_to : Int32) (v_t_isWrong : Int32) (f_t_aside : Nat → Int32) (f_t_s : Nat → Int32) (f_t_tape : Nat → Int32) : Option (Int32 × (Int32) × (Int32) × (Int32) × (Int32) × (Nat → Int32) × (Nat → Int32)) :=
  bb_b1 (uX8_lends nn f_t_aside f_t_s) (fun (w1 : Nat → Int32) => bb_b2 (uX8_next_ nn v_t_taped v_t_from (0 : Int32) f_t_tape) (fun (w3 : Int32) (w4 : Int32) => bb_b4 (uX8_item nn v_t_taped w3 w4 (0 : Int32) f_t_s f_t_tape) (fun (w6 : Int32) (w7 : Int32) (w8 : Int32) (w9 : Nat → Int32) => bb_cut (fun (x1_11 : Int32) (v_t_from_12 : Int32) (v_t_to_13 : Int32) (v_t_isWrong_14 : Int32) (f_t_s_15 : Nat → Int32) => (if v_t_isWrong_14 = 0 then some (x1_11, (0 : Int32), v_t_from_12, v_t_to_13, v_t_isWrong_14, w1, f_t_s_15) else bb_b1 (uX8_laysBack nn w1 f_t_s_15) (fun (w18 : Nat → Int32) => some ((-1 : Int32) - v_t_from_12, (0 : Int32), v_t_from_12, v_t_to_13, v_t_isWrong_14, w1, w18)))) (fun k16 => bb_loop5 (uX8_text_s24 nn v_t_taped f_t_tape k16) nn (1 : Int32) w6 w7 w8 w9))))
theorem kdX8_text : yX8_text.cls = RX8 ∧ yX8_text.cls ≠ "java/lang/invoke/MethodHandle" ∧ yX8_text.cls ≠ "java/lang/invoke/VarHandle" ∧ (parseMethodDescriptor yX8_text.desc).map (fun d => d.parameters.length) = some 0 := by decide +kernel
set_option maxHeartbeats 4000000 in
set_option maxRecDepth 100000 in
theorem kX8_text (l : Launch) (dC : Nat → ClassId) (dI : Nat → Nat → Nat) (cy : Nat → ClassId) (aK aV : Nat → Nat) (aT : Nat) (sz : Nat) (a_t : Nat → Nat) (v_t_isKept : Int32) (v_t_bestPost : Int32) (v_t_mostSeen : Int32) (v_t_taped : Int32) (v_t_from : Int32) (v_t_to : Int32) (v_t_isWrong : Int32) (f_t_aside : Nat → Int32) (f_t_s : Nat → Int32) (f_t_tape : Nat → Int32) (nn : Nat) (r : Int32) (v_t_taped_o : Int32) (v_t_from_o : Int32) (v_t_to_o : Int32) (v_t_isWrong_o : Int32) (f_t_aside_o : Nat → Int32) (f_t_s_o : Nat → Int32) (h : uX8_text nn v_t_taped v_t_from v_t_to v_t_isWrong f_t_aside f_t_s f_t_tape = some (r, v_t_taped_o, v_t_from_o, v_t_to_o, v_t_isWrong_o, f_t_aside_o, f_t_s_o)) : Met l yX8_text wsX8_text ({ frames := 8, cells := 0, slots := 0, locals := 173 }) (va_Pc [.ref (a_t 0)] (fun U => U.heap.size = sz ∧ va_P (dC, dI) vwCl [((a_t 0), oX8 a_t v_t_isKept v_t_bestPost v_t_mostSeen v_t_taped v_t_from v_t_to v_t_isWrong), ((a_t 3), .inl (cy 0, 155, .inl f_t_aside)), ((a_t 1), .inl (cy 0, 155, .inl f_t_s)), ((a_t 12), .inl (cy 0, 120, .inl f_t_tape))] U.heap ∧ va_K (dC, dI) vwCl (tyX cy) U ∧ va_D (fun _ => True) [((a_t 0), oX8 a_t v_t_isKept v_t_bestPost v_t_mostSeen v_t_taped v_t_from v_t_to v_t_isWrong), ((a_t 3), .inl (cy 0, 155, .inl f_t_aside)), ((a_t 1), .inl (cy 0, 155, .inl f_t_s)), ((a_t 12), .inl (cy 0, 120, .inl f_t_tape))] ∧ EV aK aV aT (va_A [((a_t 0), oX8 a_t v_t_isKept v_t_bestPost v_t_mostSeen v_t_taped v_t_from v_t_to v_t_isWrong), ((a_t 3), .inl (cy 0, 155, .inl f_t_aside)), ((a_t 1), .inl (cy 0, 155, .inl f_t_s)), ((a_t 12), .inl (cy 0, 120, .inl f_t_tape))] sz) U U.heap)) (va_Qi (fun (r2 : Int32) (_ : Unit) => r = r2) (fun _ t => va_P (dC, dI) vwCl [((a_t 0), oX8 a_t v_t_isKept v_t_bestPost v_t_mostSeen v_t_taped_o v_t_from_o v_t_to_o v_t_isWrong_o), ((a_t 3), .inl (cy 0, 155, .inl f_t_aside_o)), ((a_t 1), .inl (cy 0, 155, .inl f_t_s_o)), ((a_t 12), .inl (cy 0, 120, .inl f_t_tape))] t.heap ∧ va_K (dC, dI) vwCl (tyX cy) t ∧ va_D (va_A [((a_t 0), oX8 a_t v_t_isKept v_t_bestPost v_t_mostSeen v_t_taped v_t_from v_t_to v_t_isWrong), ((a_t 3), .inl (cy 0, 155, .inl f_t_aside)), ((a_t 1), .inl (cy 0, 155, .inl f_t_s)), ((a_t 12), .inl (cy 0, 120, .inl f_t_tape))] sz) [((a_t 0), oX8 a_t v_t_isKept v_t_bestPost v_t_mostSeen v_t_taped_o v_t_from_o v_t_to_o v_t_isWrong_o), ((a_t 3), .inl (cy 0, 155, .inl f_t_aside_o)), ((a_t 1), .inl (cy 0, 155, .inl f_t_s_o)), ((a_t 12), .inl (cy 0, 120, .inl f_t_tape))]) (va_A [((a_t 0), oX8 a_t v_t_isKept v_t_bestPost v_t_mostSeen v_t_taped v_t_from v_t_to v_t_isWrong), ((a_t 3), .inl (cy 0, 155, .inl f_t_aside)), ((a_t 1), .inl (cy 0, 155, .inl f_t_s)), ((a_t 12), .inl (cy 0, 120, .inl f_t_tape))] sz)) 0 0 (va_A [((a_t 0), oX8 a_t v_t_isKept v_t_bestPost v_t_mostSeen v_t_taped v_t_from v_t_to v_t_isWrong), ((a_t 3), .inl (cy 0, 155, .inl f_t_aside)), ((a_t 1), .inl (cy 0, 155, .inl f_t_s)), ((a_t 12), .inl (cy 0, 120, .inl f_t_tape))] sz) := by
  refine Met.ofW (cc := cX8_text) (maxL := 2) (ret := (some .int)) (by decide) rfl ?_
  intro p e s m args below meth c s₁ B hml hv
  obtain ⟨rfl, hsz, hP, hK, hD0, hE⟩ := hv
  have hx := B.exec
  have hb := B.bytes
  have hr := B.returns
  have hts := atoms_spec (ws := wsX8_text) B.pre
  have hown : s.vm.findClass RX8 = some m.cls := findClass_of_methodNamed B.named
  have hlocks := B.notSynchronized
  have iwX8 : ∀ w ∈ wsX80, w ∈ wsX8_text := fun w h9 => List.mem_cons_of_mem _ (List.mem_append_right _ (h9))
  have lk1 := hts (Cond.fieldLink RX8 277 "BathBorderModel" "isWrong" "Z") (List.mem_of_getElem? (i := 1) rfl)
  have lk2 := hts (Cond.fieldLink RX8 268 "BathBorderModel" "to" "I") (List.mem_of_getElem? (i := 2) rfl)
  have lk3 := hts (Cond.fieldLink RX8 271 "BathBorderModel" "from" "I") (List.mem_of_getElem? (i := 3) rfl)
  have lk4 := hts (Cond.fieldLink RX8 265 "BathBorderModel" "taped" "I") (List.mem_of_getElem? (i := 4) rfl)
  subst hsz
  have hD := hD0.self (sz := s.heap.size)
  generalize hAe : va_A [((a_t 0), oX8 a_t v_t_isKept v_t_bestPost v_t_mostSeen v_t_taped v_t_from v_t_to v_t_isWrong), ((a_t 3), .inl (cy 0, 155, .inl f_t_aside)), ((a_t 1), .inl (cy 0, 155, .inl f_t_s)), ((a_t 12), .inl (cy 0, 120, .inl f_t_tape))] s.heap.size = A at hD hE ⊢
  have hA : ∀ q : Nat, s.heap.size ≤ q → A q := fun q h => by rw [← hAe]; exact Or.inr h
  have hS : va_S A s.heap s.heap [] := va_S.rf
  have hP : va_P (dC, dI) vwCl [((a_t 0), oX8 a_t v_t_isKept v_t_bestPost v_t_mostSeen v_t_taped v_t_from v_t_to v_t_isWrong), ((a_t 3), .inl (cy 0, 155, .inl f_t_aside)), ((a_t 1), .inl (cy 0, 155, .inl f_t_s)), ((a_t 12), .inl (cy 0, 120, .inl f_t_tape))] s.heap := hP
  have hl := lv_entry ([.ref (a_t 0)]) (n := 2) (Nat.le_of_ble_eq_true rfl)
  rw [lg_entry_eq]
  generalize (lg_sl ([.ref (a_t 0)]) ++ List.replicate (2 - (lg_sl ([.ref (a_t 0)])).length) Slot.unset).toArray = ls at hl ⊢
  have hl : lv_has ls 2 [(0, .ref (a_t 0))] := hl
  unfold uX8_text at h
  refine bb_cap (fun WW toW ofW => ?_)
  refine lv_aload_n hx hb dX8_text_0 rfl (lv_at hl 0 rfl) ?_
  obtain ⟨w1, hc2, h⟩ := bb_b1_o h
  refine bb_cwv (wr := [((a_t 12), .inl (cy 0, 120, .inl f_t_tape))]) (w1 := [((a_t 0), oX8 a_t v_t_isKept v_t_bestPost v_t_mostSeen v_t_taped v_t_from v_t_to v_t_isWrong), ((a_t 3), .inl (cy 0, 155, .inl w1)), ((a_t 1), .inl (cy 0, 155, .inl f_t_s))]) (va_runV (As := []) (rest := []) ⟨hx, hb, hml, hown, hts⟩ (kX8_lends l dC dI cy s.heap.size a_t v_t_isKept v_t_bestPost v_t_mostSeen v_t_taped v_t_from v_t_to v_t_isWrong f_t_aside f_t_s nn w1 hc2) (cwV 0 hts gX8_text_X8_lends rfl rfl rfl kdX8_lends ⟨Nat.le_of_ble_eq_true rfl, Nat.le_of_ble_eq_true rfl⟩) (bb_preVw (va_recv hK hP (ci := 7) (q0 := 0) rfl rfl) (hP.sub (ws' := [((a_t 0), oX8 a_t v_t_isKept v_t_bestPost v_t_mostSeen v_t_taped v_t_from v_t_to v_t_isWrong), ((a_t 3), .inl (cy 0, 155, .inl f_t_aside)), ((a_t 1), .inl (cy 0, 155, .inl f_t_s))]) [0, 1, 2] rfl) hK (hD.sub (ws' := [((a_t 0), oX8 a_t v_t_isKept v_t_bestPost v_t_mostSeen v_t_taped v_t_from v_t_to v_t_isWrong), ((a_t 3), .inl (cy 0, 155, .inl f_t_aside)), ((a_t 1), .inl (cy 0, 155, .inl f_t_s))]) [0, 1, 2] (by decide) rfl)) rfl rfl hl.1 rfl (lv_room (Nat.le_of_ble_eq_true rfl)) dX8_text_1 ⟨Nat.zero_le _, Nat.zero_le _⟩) hP hD hS hA [0, 1, 2] [3] rfl rfl (by decide) (by decide) (fun H locs hP hD hS => ?_)
  have hP : va_P (dC, dI) vwCl [((a_t 12), .inl (cy 0, 120, .inl f_t_tape)), ((a_t 0), oX8 a_t v_t_isKept v_t_bestPost v_t_mostSeen v_t_taped v_t_from v_t_to v_t_isWrong), ((a_t 3), .inl (cy 0, 155, .inl w1)), ((a_t 1), .inl (cy 0, 155, .inl f_t_s))] H := hP
  have hD : va_D A [((a_t 12), .inl (cy 0, 120, .inl f_t_tape)), ((a_t 0), oX8 a_t v_t_isKept v_t_bestPost v_t_mostSeen v_t_taped v_t_from v_t_to v_t_isWrong), ((a_t 3), .inl (cy 0, 155, .inl w1)), ((a_t 1), .inl (cy 0, 155, .inl f_t_s))] := hD
  refine lv_aload_n hx hb dX8_text_4 rfl (lv_at hl 0 rfl) ?_
  refine lv_iconst (v := (0 : Int32)) hx hb dX8_text_5 (by decide) ?_
  refine va_put (D := (dC, dI)) (ci := 7) (v := .int (0 : Int32)) (ty := .boolean) (C := RX8) (T := TX8) (N := 20) hx hb hts iwX8 tyX8 tyX8_ok nmX8 hown hK hP hD hS 1 rfl rfl 15 (by decide) lk1 (fun _ h9 => h9) rfl (by decide +kernel) (by decide) rfl (Nat.le_of_ble_eq_true rfl) dX8_text_6 (fun H locs hP hD hS => ?_)
  have hP : va_P (dC, dI) vwCl [((a_t 12), .inl (cy 0, 120, .inl f_t_tape)), ((a_t 0), oX8 a_t v_t_isKept v_t_bestPost v_t_mostSeen v_t_taped v_t_from v_t_to (0 : Int32)), ((a_t 3), .inl (cy 0, 155, .inl w1)), ((a_t 1), .inl (cy 0, 155, .inl f_t_s))] H := hP
  have hD : va_D A [((a_t 12), .inl (cy 0, 120, .inl f_t_tape)), ((a_t 0), oX8 a_t v_t_isKept v_t_bestPost v_t_mostSeen v_t_taped v_t_from v_t_to (0 : Int32)), ((a_t 3), .inl (cy 0, 155, .inl w1)), ((a_t 1), .inl (cy 0, 155, .inl f_t_s))] := hD
  refine lv_aload_n hx hb dX8_text_9 rfl (lv_at hl 0 rfl) ?_
  refine lv_iconst (v := (0 : Int32)) hx hb dX8_text_10 (by decide) ?_
  refine va_put (D := (dC, dI)) (ci := 7) (v := .int (0 : Int32)) (ty := .int) (C := RX8) (T := TX8) (N := 20) hx hb hts iwX8 tyX8 tyX8_ok nmX8 hown hK hP hD hS 1 rfl rfl 14 (by decide) lk2 (fun _ h9 => h9) rfl (by decide +kernel) rfl rfl (Nat.le_of_ble_eq_true rfl) dX8_text_11 (fun H locs hP hD hS => ?_)
  have hP : va_P (dC, dI) vwCl [((a_t 12), .inl (cy 0, 120, .inl f_t_tape)), ((a_t 0), oX8 a_t v_t_isKept v_t_bestPost v_t_mostSeen v_t_taped v_t_from (0 : Int32) (0 : Int32)), ((a_t 3), .inl (cy 0, 155, .inl w1)), ((a_t 1), .inl (cy 0, 155, .inl f_t_s))] H := hP
  have hD : va_D A [((a_t 12), .inl (cy 0, 120, .inl f_t_tape)), ((a_t 0), oX8 a_t v_t_isKept v_t_bestPost v_t_mostSeen v_t_taped v_t_from (0 : Int32) (0 : Int32)), ((a_t 3), .inl (cy 0, 155, .inl w1)), ((a_t 1), .inl (cy 0, 155, .inl f_t_s))] := hD
  refine lv_aload_n hx hb dX8_text_14 rfl (lv_at hl 0 rfl) ?_
  obtain ⟨w3, w4, hc5, h⟩ := bb_b2_o h
  refine bb_cwv (wr := [((a_t 3), .inl (cy 0, 155, .inl w1)), ((a_t 1), .inl (cy 0, 155, .inl f_t_s))]) (w1 := [((a_t 0), oX8 a_t v_t_isKept v_t_bestPost v_t_mostSeen v_t_taped w3 w4 (0 : Int32)), ((a_t 12), .inl (cy 0, 120, .inl f_t_tape))]) (va_runV (As := []) (rest := []) ⟨hx, hb, hml, hown, hts⟩ (kX8_next_ l dC dI cy H.size a_t v_t_isKept v_t_bestPost v_t_mostSeen v_t_taped v_t_from (0 : Int32) (0 : Int32) f_t_tape nn w3 w4 hc5) (cwV 0 hts gX8_text_X8_next_ rfl rfl rfl kdX8_next_ ⟨Nat.le_of_ble_eq_true rfl, Nat.le_of_ble_eq_true rfl⟩) (bb_preVw (va_recv hK hP (ci := 7) (q0 := 1) rfl rfl) (hP.sub (ws' := [((a_t 0), oX8 a_t v_t_isKept v_t_bestPost v_t_mostSeen v_t_taped v_t_from (0 : Int32) (0 : Int32)), ((a_t 12), .inl (cy 0, 120, .inl f_t_tape))]) [1, 0] rfl) hK (hD.sub (ws' := [((a_t 0), oX8 a_t v_t_isKept v_t_bestPost v_t_mostSeen v_t_taped v_t_from (0 : Int32) (0 : Int32)), ((a_t 12), .inl (cy 0, 120, .inl f_t_tape))]) [1, 0] (by decide) rfl)) rfl rfl hl.1 rfl (lv_room (Nat.le_of_ble_eq_true rfl)) dX8_text_15 ⟨Nat.zero_le _, Nat.zero_le _⟩) hP hD hS hA [1, 0] [2, 3] rfl rfl (by decide) (by decide) (fun H locs hP hD hS => ?_)
  have hP : va_P (dC, dI) vwCl [((a_t 3), .inl (cy 0, 155, .inl w1)), ((a_t 1), .inl (cy 0, 155, .inl f_t_s)), ((a_t 0), oX8 a_t v_t_isKept v_t_bestPost v_t_mostSeen v_t_taped w3 w4 (0 : Int32)), ((a_t 12), .inl (cy 0, 120, .inl f_t_tape))] H := hP
  have hD : va_D A [((a_t 3), .inl (cy 0, 155, .inl w1)), ((a_t 1), .inl (cy 0, 155, .inl f_t_s)), ((a_t 0), oX8 a_t v_t_isKept v_t_bestPost v_t_mostSeen v_t_taped w3 w4 (0 : Int32)), ((a_t 12), .inl (cy 0, 120, .inl f_t_tape))] := hD
  refine lv_aload_n hx hb dX8_text_18 rfl (lv_at hl 0 rfl) ?_
  obtain ⟨w6, w7, w8, w9, hc10, h⟩ := bb_b4_o h
  refine bb_cwv (wr := [((a_t 3), .inl (cy 0, 155, .inl w1))]) (w1 := [((a_t 0), oX8 a_t v_t_isKept v_t_bestPost v_t_mostSeen v_t_taped w6 w7 w8), ((a_t 1), .inl (cy 0, 155, .inl w9)), ((a_t 12), .inl (cy 0, 120, .inl f_t_tape))]) (va_runV (As := []) (rest := []) ⟨hx, hb, hml, hown, hts⟩ (kX8_item l dC dI cy aK aV aT H.size a_t v_t_isKept v_t_bestPost v_t_mostSeen v_t_taped w3 w4 (0 : Int32) f_t_s f_t_tape nn w6 w7 w8 w9 hc10) (cwV 0 hts gX8_text_X8_item rfl rfl rfl kdX8_item ⟨Nat.le_of_ble_eq_true rfl, Nat.le_of_ble_eq_true rfl⟩) (bb_preVwe (va_recv hK hP (ci := 7) (q0 := 2) rfl rfl) (hP.sub (ws' := [((a_t 0), oX8 a_t v_t_isKept v_t_bestPost v_t_mostSeen v_t_taped w3 w4 (0 : Int32)), ((a_t 1), .inl (cy 0, 155, .inl f_t_s)), ((a_t 12), .inl (cy 0, 120, .inl f_t_tape))]) [2, 1, 3] rfl) hK (hD.sub (ws' := [((a_t 0), oX8 a_t v_t_isKept v_t_bestPost v_t_mostSeen v_t_taped w3 w4 (0 : Int32)), ((a_t 1), .inl (cy 0, 155, .inl f_t_s)), ((a_t 12), .inl (cy 0, 120, .inl f_t_tape))]) [2, 1, 3] (by decide) rfl) hE hS (va_free (wc := [((a_t 0), oX8 a_t v_t_isKept v_t_bestPost v_t_mostSeen v_t_taped w3 w4 (0 : Int32)), ((a_t 1), .inl (cy 0, 155, .inl f_t_s)), ((a_t 12), .inl (cy 0, 120, .inl f_t_tape))]) hD hS hA [2, 1, 3] rfl)) rfl rfl hl.1 rfl (lv_room (Nat.le_of_ble_eq_true rfl)) dX8_text_19 ⟨Nat.zero_le _, Nat.zero_le _⟩) hP hD hS hA [2, 1, 3] [0] rfl rfl (by decide) (by decide) (fun H locs hP hD hS => ?_)
  have hP : va_P (dC, dI) vwCl [((a_t 3), .inl (cy 0, 155, .inl w1)), ((a_t 0), oX8 a_t v_t_isKept v_t_bestPost v_t_mostSeen v_t_taped w6 w7 w8), ((a_t 1), .inl (cy 0, 155, .inl w9)), ((a_t 12), .inl (cy 0, 120, .inl f_t_tape))] H := hP
  have hD : va_D A [((a_t 3), .inl (cy 0, 155, .inl w1)), ((a_t 0), oX8 a_t v_t_isKept v_t_bestPost v_t_mostSeen v_t_taped w6 w7 w8), ((a_t 1), .inl (cy 0, 155, .inl w9)), ((a_t 12), .inl (cy 0, 120, .inl f_t_tape))] := hD
  refine lv_iconst (v := (1 : Int32)) hx hb dX8_text_22 (by decide) ?_
  refine lv_istore_n (lv' := [(1, .int (1 : Int32)), (0, .ref (a_t 0))]) hx hb dX8_text_23 rfl hl (by decide) rfl (fun ls hl => ?_)
  obtain ⟨k16, ek16, h⟩ := bb_cut_o h
  have Jk16 : ∀ (x1_11 : Int32) (v_t_from_12 : Int32) (v_t_to_13 : Int32) (v_t_isWrong_14 : Int32) (f_t_s_15 : Nat → Int32) (H : Heap) (locs : List Loc) (ls : Array Slot), k16 x1_11 v_t_from_12 v_t_to_13 v_t_isWrong_14 f_t_s_15 = some (r, v_t_taped_o, v_t_from_o, v_t_to_o, v_t_isWrong_o, f_t_aside_o, f_t_s_o) → va_P (dC, dI) vwCl [((a_t 0), oX8 a_t v_t_isKept v_t_bestPost v_t_mostSeen v_t_taped v_t_from_12 v_t_to_13 v_t_isWrong_14), ((a_t 3), .inl (cy 0, 155, .inl w1)), ((a_t 1), .inl (cy 0, 155, .inl f_t_s_15)), ((a_t 12), .inl (cy 0, 120, .inl f_t_tape))] H → va_D A [((a_t 0), oX8 a_t v_t_isKept v_t_bestPost v_t_mostSeen v_t_taped v_t_from_12 v_t_to_13 v_t_isWrong_14), ((a_t 3), .inl (cy 0, 155, .inl w1)), ((a_t 1), .inl (cy 0, 155, .inl f_t_s_15)), ((a_t 12), .inl (cy 0, 120, .inl f_t_tape))] → va_S A s.heap H locs → lv_has ls 2 [(0, .ref (a_t 0)), (1, .int x1_11)] → WW H locs (F0 m 63 ls []) := by
    intro x1_11 v_t_from_12 v_t_to_13 v_t_isWrong_14 f_t_s_15 H locs ls h hP hD hS hl
    refine ofW _ _ _ ?_
    subst ek16
    refine lv_aload_n hx hb dX8_text_63 rfl (lv_at hl 0 rfl) ?_
    refine lv_iconst (v := (0 : Int32)) hx hb dX8_text_64 (by decide) ?_
    refine va_put (D := (dC, dI)) (ci := 7) (v := .int (0 : Int32)) (ty := .int) (C := RX8) (T := TX8) (N := 20) hx hb hts iwX8 tyX8 tyX8_ok nmX8 hown hK hP hD hS 0 rfl rfl 12 (by decide) lk4 (fun _ h9 => h9) rfl (by decide +kernel) rfl rfl (Nat.le_of_ble_eq_true rfl) dX8_text_65 (fun H locs hP hD hS => ?_)
    have hP : va_P (dC, dI) vwCl [((a_t 0), oX8 a_t v_t_isKept v_t_bestPost v_t_mostSeen (0 : Int32) v_t_from_12 v_t_to_13 v_t_isWrong_14), ((a_t 3), .inl (cy 0, 155, .inl w1)), ((a_t 1), .inl (cy 0, 155, .inl f_t_s_15)), ((a_t 12), .inl (cy 0, 120, .inl f_t_tape))] H := hP
    have hD : va_D A [((a_t 0), oX8 a_t v_t_isKept v_t_bestPost v_t_mostSeen (0 : Int32) v_t_from_12 v_t_to_13 v_t_isWrong_14), ((a_t 3), .inl (cy 0, 155, .inl w1)), ((a_t 1), .inl (cy 0, 155, .inl f_t_s_15)), ((a_t 12), .inl (cy 0, 120, .inl f_t_tape))] := hD
    refine lv_aload_n hx hb dX8_text_68 rfl (lv_at hl 0 rfl) ?_
    refine va_get (D := (dC, dI)) (ci := 7) (v := .int v_t_isWrong_14) (C := RX8) (T := TX8) (N := 20) hx hb hts iwX8 hown hK hP 0 rfl rfl 15 (by decide) lk1 (fun _ h9 => h9) rfl dX8_text_69 ?_
    refine lv_if_eq (tgt := 86) hx hb dX8_text_72 (by decide) (fun c17 => ?_) (fun c17 => ?_)
    · replace h := bb_ifp c17 h
      refine lv_iload_n hx hb dX8_text_86 rfl (lv_at hl 1 rfl) ?_
      obtain ⟨rfl, rfl, rfl, rfl, rfl, rfl, rfl⟩ := bb_some7 h
      have hP9 := hP.sub (ws' := [((a_t 0), oX8 a_t v_t_isKept v_t_bestPost v_t_mostSeen (0 : Int32) v_t_from_12 v_t_to_13 v_t_isWrong_14), ((a_t 3), .inl (cy 0, 155, .inl w1)), ((a_t 1), .inl (cy 0, 155, .inl f_t_s_15)), ((a_t 12), .inl (cy 0, 120, .inl f_t_tape))]) [0, 1, 2, 3] rfl
      have hD9 := hD.sub (ws' := [((a_t 0), oX8 a_t v_t_isKept v_t_bestPost v_t_mostSeen (0 : Int32) v_t_from_12 v_t_to_13 v_t_isWrong_14), ((a_t 3), .inl (cy 0, 155, .inl w1)), ((a_t 1), .inl (cy 0, 155, .inl f_t_s_15)), ((a_t 12), .inl (cy 0, 120, .inl f_t_tape))]) [0, 1, 2, 3] (by decide) rfl
      exact W.iret hx hb hr (fun t ht hW => ⟨⟨_, (), rfl, rfl, by rw [ht]; exact hP9, va_K.moved hW.alike hK, hD9⟩, hS.F ht⟩) hS.2.2 dX8_text_87
    · replace h := bb_ifn c17 h
      refine lv_aload_n hx hb dX8_text_75 rfl (lv_at hl 0 rfl) ?_
      obtain ⟨w18, hc19, h⟩ := bb_b1_o h
      refine bb_cwv (wr := [((a_t 12), .inl (cy 0, 120, .inl f_t_tape))]) (w1 := [((a_t 0), oX8 a_t v_t_isKept v_t_bestPost v_t_mostSeen (0 : Int32) v_t_from_12 v_t_to_13 v_t_isWrong_14), ((a_t 3), .inl (cy 0, 155, .inl w1)), ((a_t 1), .inl (cy 0, 155, .inl w18))]) (va_runV (As := []) (rest := []) ⟨hx, hb, hml, hown, hts⟩ (kX8_laysBack l dC dI cy H.size a_t v_t_isKept v_t_bestPost v_t_mostSeen (0 : Int32) v_t_from_12 v_t_to_13 v_t_isWrong_14 w1 f_t_s_15 nn w18 hc19) (cwV 0 hts gX8_text_X8_laysBack rfl rfl rfl kdX8_laysBack ⟨Nat.le_of_ble_eq_true rfl, Nat.le_of_ble_eq_true rfl⟩) (bb_preVw (va_recv hK hP (ci := 7) (q0 := 0) rfl rfl) (hP.sub (ws' := [((a_t 0), oX8 a_t v_t_isKept v_t_bestPost v_t_mostSeen (0 : Int32) v_t_from_12 v_t_to_13 v_t_isWrong_14), ((a_t 3), .inl (cy 0, 155, .inl w1)), ((a_t 1), .inl (cy 0, 155, .inl f_t_s_15))]) [0, 1, 2] rfl) hK (hD.sub (ws' := [((a_t 0), oX8 a_t v_t_isKept v_t_bestPost v_t_mostSeen (0 : Int32) v_t_from_12 v_t_to_13 v_t_isWrong_14), ((a_t 3), .inl (cy 0, 155, .inl w1)), ((a_t 1), .inl (cy 0, 155, .inl f_t_s_15))]) [0, 1, 2] (by decide) rfl)) rfl rfl hl.1 rfl (lv_room (Nat.le_of_ble_eq_true rfl)) dX8_text_76 ⟨Nat.zero_le _, Nat.zero_le _⟩) hP hD hS hA [0, 1, 2] [3] rfl rfl (by decide) (by decide) (fun H locs hP hD hS => ?_)
      have hP : va_P (dC, dI) vwCl [((a_t 12), .inl (cy 0, 120, .inl f_t_tape)), ((a_t 0), oX8 a_t v_t_isKept v_t_bestPost v_t_mostSeen (0 : Int32) v_t_from_12 v_t_to_13 v_t_isWrong_14), ((a_t 3), .inl (cy 0, 155, .inl w1)), ((a_t 1), .inl (cy 0, 155, .inl w18))] H := hP
      have hD : va_D A [((a_t 12), .inl (cy 0, 120, .inl f_t_tape)), ((a_t 0), oX8 a_t v_t_isKept v_t_bestPost v_t_mostSeen (0 : Int32) v_t_from_12 v_t_to_13 v_t_isWrong_14), ((a_t 3), .inl (cy 0, 155, .inl w1)), ((a_t 1), .inl (cy 0, 155, .inl w18))] := hD
      refine lv_iconst (v := (-1 : Int32)) hx hb dX8_text_79 (by decide) ?_
      refine lv_aload_n hx hb dX8_text_80 rfl (lv_at hl 0 rfl) ?_
      refine va_get (D := (dC, dI)) (ci := 7) (v := .int v_t_from_12) (C := RX8) (T := TX8) (N := 20) hx hb hts iwX8 hown hK hP 1 rfl rfl 13 (by decide) lk3 (fun _ h9 => h9) rfl dX8_text_81 ?_
      refine lv_isub hx hb dX8_text_84 ?_
      obtain ⟨rfl, rfl, rfl, rfl, rfl, rfl, rfl⟩ := bb_some7 h
      have hP9 := hP.sub (ws' := [((a_t 0), oX8 a_t v_t_isKept v_t_bestPost v_t_mostSeen (0 : Int32) v_t_from_12 v_t_to_13 v_t_isWrong_14), ((a_t 3), .inl (cy 0, 155, .inl w1)), ((a_t 1), .inl (cy 0, 155, .inl w18)), ((a_t 12), .inl (cy 0, 120, .inl f_t_tape))]) [1, 2, 3, 0] rfl
      have hD9 := hD.sub (ws' := [((a_t 0), oX8 a_t v_t_isKept v_t_bestPost v_t_mostSeen (0 : Int32) v_t_from_12 v_t_to_13 v_t_isWrong_14), ((a_t 3), .inl (cy 0, 155, .inl w1)), ((a_t 1), .inl (cy 0, 155, .inl w18)), ((a_t 12), .inl (cy 0, 120, .inl f_t_tape))]) [1, 2, 3, 0] (by decide) rfl
      exact W.iret hx hb hr (fun t ht hW => ⟨⟨_, (), rfl, rfl, by rw [ht]; exact hP9, va_K.moved hW.alike hK, hD9⟩, hS.F ht⟩) hS.2.2 dX8_text_85
  have L29 : ∀ (n : Nat) (x1_20 : Int32) (v_t_from_21 : Int32) (v_t_to_22 : Int32) (v_t_isWrong_23 : Int32) (f_t_s_24 : Nat → Int32) (H : Heap) (locs : List Loc) (ls : Array Slot), bb_loop5 (uX8_text_s24 nn v_t_taped f_t_tape k16) n x1_20 v_t_from_21 v_t_to_22 v_t_isWrong_23 f_t_s_24 = some (r, v_t_taped_o, v_t_from_o, v_t_to_o, v_t_isWrong_o, f_t_aside_o, f_t_s_o) → va_P (dC, dI) vwCl [((a_t 0), oX8 a_t v_t_isKept v_t_bestPost v_t_mostSeen v_t_taped v_t_from_21 v_t_to_22 v_t_isWrong_23), ((a_t 3), .inl (cy 0, 155, .inl w1)), ((a_t 1), .inl (cy 0, 155, .inl f_t_s_24)), ((a_t 12), .inl (cy 0, 120, .inl f_t_tape))] H → va_D A [((a_t 0), oX8 a_t v_t_isKept v_t_bestPost v_t_mostSeen v_t_taped v_t_from_21 v_t_to_22 v_t_isWrong_23), ((a_t 3), .inl (cy 0, 155, .inl w1)), ((a_t 1), .inl (cy 0, 155, .inl f_t_s_24)), ((a_t 12), .inl (cy 0, 120, .inl f_t_tape))] → va_S A s.heap H locs → lv_has ls 2 [(0, .ref (a_t 0)), (1, .int x1_20)] → WW H locs (F0 m 24 ls []) := by
    intro n
    induction n with
    | zero => intro x1_20 v_t_from_21 v_t_to_22 v_t_isWrong_23 f_t_s_24 H locs ls h; exact (bb_no h).elim
    | succ n ih30 =>
      intro x1_20 v_t_from_21 v_t_to_22 v_t_isWrong_23 f_t_s_24 H locs ls h hP hD hS hl
      refine ofW _ _ _ ?_
      obtain ⟨rec28, erec28, h⟩ := bb_loop5_o h
      unfold uX8_text_s24 at h
      refine lv_aload_n hx hb dX8_text_24 rfl (lv_at hl 0 rfl) ?_
      refine va_get (D := (dC, dI)) (ci := 7) (v := .int v_t_isWrong_23) (C := RX8) (T := TX8) (N := 20) hx hb hts iwX8 hown hK hP 0 rfl rfl 15 (by decide) lk1 (fun _ h9 => h9) rfl dX8_text_25 ?_
      refine lv_if_ne (tgt := 63) hx hb dX8_text_28 (by decide) (fun c31 => ?_) (fun c31 => ?_)
      · replace h := bb_ifn c31 h
        exact toW _ _ _ (Jk16 x1_20 v_t_from_21 v_t_to_22 v_t_isWrong_23 f_t_s_24 _ _ _ h hP hD hS (lv_sub hl [0, 1] rfl))
      · replace h := bb_ifp c31 h
        refine lv_aload_n hx hb dX8_text_31 rfl (lv_at hl 0 rfl) ?_
        refine va_get (D := (dC, dI)) (ci := 7) (v := .int v_t_from_21) (C := RX8) (T := TX8) (N := 20) hx hb hts iwX8 hown hK hP 0 rfl rfl 13 (by decide) lk3 (fun _ h9 => h9) rfl dX8_text_32 ?_
        refine lv_aload_n hx hb dX8_text_35 rfl (lv_at hl 0 rfl) ?_
        refine va_get (D := (dC, dI)) (ci := 7) (v := .int v_t_taped) (C := RX8) (T := TX8) (N := 20) hx hb hts iwX8 hown hK hP 0 rfl rfl 12 (by decide) lk4 (fun _ h9 => h9) rfl dX8_text_36 ?_
        refine lv_icmp_ge (tgt := 63) hx hb dX8_text_39 (by decide) (fun c32 => ?_) (fun c32 => ?_)
        · replace h := bb_ifp c32 h
          exact toW _ _ _ (Jk16 x1_20 v_t_from_21 v_t_to_22 v_t_isWrong_23 f_t_s_24 _ _ _ h hP hD hS (lv_sub hl [0, 1] rfl))
        · replace h := bb_ifn c32 h
          refine lv_aload_n hx hb dX8_text_42 rfl (lv_at hl 0 rfl) ?_
          refine lv_aload_n hx hb dX8_text_43 rfl (lv_at hl 0 rfl) ?_
          refine bb_ldcwS hx hb hown (EV.con hE ("BathBorderModel", 349, ";", 14) (by decide)) dX8_text_44 ?_
          obtain ⟨r33, hc34, h⟩ := bb_b1_o h
          refine vp_callSi (W.runV (As := [.ref (aK 14)]) (rest := [.ref (a_t 0)]) ⟨hx, hb, hml, hown, hts⟩ (kX8_isWord l dC dI cy aK aV aT a_t 14 v_t_isKept v_t_bestPost v_t_mostSeen v_t_taped v_t_from_21 v_t_to_22 v_t_isWrong_23 f_t_tape nn r33 hc34) (cwV 1 hts gX8_text_X8_isWord rfl rfl rfl kdX8_isWord ⟨Nat.le_of_ble_eq_true rfl, Nat.le_of_ble_eq_true rfl⟩) (bb_preVe (va_recv hK hP (ci := 7) (q0 := 0) rfl rfl) (hP.sub (ws' := [((a_t 0), oX8 a_t v_t_isKept v_t_bestPost v_t_mostSeen v_t_taped v_t_from_21 v_t_to_22 v_t_isWrong_23), ((a_t 12), .inl (cy 0, 120, .inl f_t_tape))]) [0, 3] rfl) hK hE hS) rfl rfl hl.1 rfl (lv_room (Nat.le_of_ble_eq_true rfl)) dX8_text_47 ⟨Nat.zero_le _, Nat.zero_le _⟩) (fun t35 et35 => ?_)
          obtain ⟨rfl, hz36⟩ := et35
          obtain ⟨w37, w38, w39, hc40, h⟩ := bb_b3_o h
          refine bb_cwv (wr := [((a_t 3), .inl (cy 0, 155, .inl w1)), ((a_t 1), .inl (cy 0, 155, .inl f_t_s_24))]) (w1 := [((a_t 0), oX8 a_t v_t_isKept v_t_bestPost v_t_mostSeen v_t_taped w37 w38 w39), ((a_t 12), .inl (cy 0, 120, .inl f_t_tape))]) (va_runV (As := [.int r33]) (rest := []) ⟨hx, hb, hml, hown, hts⟩ (kX8_must l dC dI cy H.size a_t r33 v_t_isKept v_t_bestPost v_t_mostSeen v_t_taped v_t_from_21 v_t_to_22 v_t_isWrong_23 f_t_tape nn w37 w38 w39 hc40) (cwV 1 hts gX8_text_X8_must rfl rfl rfl kdX8_must ⟨Nat.le_of_ble_eq_true rfl, Nat.le_of_ble_eq_true rfl⟩) (bb_preVw (va_recv hK hP (ci := 7) (q0 := 0) rfl rfl) (hP.sub (ws' := [((a_t 0), oX8 a_t v_t_isKept v_t_bestPost v_t_mostSeen v_t_taped v_t_from_21 v_t_to_22 v_t_isWrong_23), ((a_t 12), .inl (cy 0, 120, .inl f_t_tape))]) [0, 3] rfl) hK (hD.sub (ws' := [((a_t 0), oX8 a_t v_t_isKept v_t_bestPost v_t_mostSeen v_t_taped v_t_from_21 v_t_to_22 v_t_isWrong_23), ((a_t 12), .inl (cy 0, 120, .inl f_t_tape))]) [0, 3] (by decide) rfl)) rfl rfl hl.1 rfl (lv_room (Nat.le_of_ble_eq_true rfl)) dX8_text_50 ⟨Nat.zero_le _, Nat.zero_le _⟩) hP hD hS hA [0, 3] [1, 2] rfl rfl (by decide) (by decide) (fun H locs hP hD hS => ?_)
          have hP : va_P (dC, dI) vwCl [((a_t 3), .inl (cy 0, 155, .inl w1)), ((a_t 1), .inl (cy 0, 155, .inl f_t_s_24)), ((a_t 0), oX8 a_t v_t_isKept v_t_bestPost v_t_mostSeen v_t_taped w37 w38 w39), ((a_t 12), .inl (cy 0, 120, .inl f_t_tape))] H := hP
          have hD : va_D A [((a_t 3), .inl (cy 0, 155, .inl w1)), ((a_t 1), .inl (cy 0, 155, .inl f_t_s_24)), ((a_t 0), oX8 a_t v_t_isKept v_t_bestPost v_t_mostSeen v_t_taped w37 w38 w39), ((a_t 12), .inl (cy 0, 120, .inl f_t_tape))] := hD
          refine lv_aload_n hx hb dX8_text_53 rfl (lv_at hl 0 rfl) ?_
          obtain ⟨w41, w42, w43, w44, hc45, h⟩ := bb_b4_o h
          refine bb_cwv (wr := [((a_t 3), .inl (cy 0, 155, .inl w1))]) (w1 := [((a_t 0), oX8 a_t v_t_isKept v_t_bestPost v_t_mostSeen v_t_taped w41 w42 w43), ((a_t 1), .inl (cy 0, 155, .inl w44)), ((a_t 12), .inl (cy 0, 120, .inl f_t_tape))]) (va_runV (As := []) (rest := []) ⟨hx, hb, hml, hown, hts⟩ (kX8_item l dC dI cy aK aV aT H.size a_t v_t_isKept v_t_bestPost v_t_mostSeen v_t_taped w37 w38 w39 f_t_s_24 f_t_tape nn w41 w42 w43 w44 hc45) (cwV 0 hts gX8_text_X8_item rfl rfl rfl kdX8_item ⟨Nat.le_of_ble_eq_true rfl, Nat.le_of_ble_eq_true rfl⟩) (bb_preVwe (va_recv hK hP (ci := 7) (q0 := 2) rfl rfl) (hP.sub (ws' := [((a_t 0), oX8 a_t v_t_isKept v_t_bestPost v_t_mostSeen v_t_taped w37 w38 w39), ((a_t 1), .inl (cy 0, 155, .inl f_t_s_24)), ((a_t 12), .inl (cy 0, 120, .inl f_t_tape))]) [2, 1, 3] rfl) hK (hD.sub (ws' := [((a_t 0), oX8 a_t v_t_isKept v_t_bestPost v_t_mostSeen v_t_taped w37 w38 w39), ((a_t 1), .inl (cy 0, 155, .inl f_t_s_24)), ((a_t 12), .inl (cy 0, 120, .inl f_t_tape))]) [2, 1, 3] (by decide) rfl) hE hS (va_free (wc := [((a_t 0), oX8 a_t v_t_isKept v_t_bestPost v_t_mostSeen v_t_taped w37 w38 w39), ((a_t 1), .inl (cy 0, 155, .inl f_t_s_24)), ((a_t 12), .inl (cy 0, 120, .inl f_t_tape))]) hD hS hA [2, 1, 3] rfl)) rfl rfl hl.1 rfl (lv_room (Nat.le_of_ble_eq_true rfl)) dX8_text_54 ⟨Nat.zero_le _, Nat.zero_le _⟩) hP hD hS hA [2, 1, 3] [0] rfl rfl (by decide) (by decide) (fun H locs hP hD hS => ?_)
          have hP : va_P (dC, dI) vwCl [((a_t 3), .inl (cy 0, 155, .inl w1)), ((a_t 0), oX8 a_t v_t_isKept v_t_bestPost v_t_mostSeen v_t_taped w41 w42 w43), ((a_t 1), .inl (cy 0, 155, .inl w44)), ((a_t 12), .inl (cy 0, 120, .inl f_t_tape))] H := hP
          have hD : va_D A [((a_t 3), .inl (cy 0, 155, .inl w1)), ((a_t 0), oX8 a_t v_t_isKept v_t_bestPost v_t_mostSeen v_t_taped w41 w42 w43), ((a_t 1), .inl (cy 0, 155, .inl w44)), ((a_t 12), .inl (cy 0, 120, .inl f_t_tape))] := hD
          refine lv_iinc (v := x1_20 + (1 : Int32)) (lv' := [(1, .int (x1_20 + (1 : Int32))), (0, .ref (a_t 0))]) hx hb dX8_text_57 hl (k := 1) rfl rfl (by decide) rfl (fun ls hl => ?_)
          refine lv_goto (tgt := 24) hx hb dX8_text_60 (by decide) ?_
          rw [erec28] at h
          exact toW _ _ _ (ih30 (x1_20 + (1 : Int32)) w41 w42 w43 w44 _ _ _ h (hP.sub [1, 0, 2, 3] rfl) (hD.sub [1, 0, 2, 3] (by decide) rfl) hS (lv_sub hl [1, 0] rfl))
  exact toW _ _ _ (L29 nn (1 : Int32) w6 w7 w8 w9 _ _ _ h (hP.sub [1, 0, 2, 3] rfl) (hD.sub [1, 0, 2, 3] (by decide) rfl) hS (lv_sub hl [1, 0] rfl))
