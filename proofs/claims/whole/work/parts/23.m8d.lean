def bb_zp {α : Type} (v : Int32) (k : Option α) : Option α := if v = 0 ∨ v = 1 then k else none
theorem bb_zp_o {α : Type} {v : Int32} {k : Option α} {r : α} (h : bb_zp v k = some r) : (narrow .boolean (.int v) = .int v ∧ fits .boolean (.int v) = true) ∧ k = some r := by
  unfold bb_zp at h
  by_cases hc : v = 0 ∨ v = 1
  · rw [if_pos hc] at h
    rcases hc with rfl | rfl
    · exact ⟨⟨by decide, by decide⟩, h⟩
    · exact ⟨⟨by decide, by decide⟩, h⟩
  · rw [if_neg hc] at h; cases h
/-! X8_boilers -/
def uX8_boilers_s56 (x2_35 : Int32) (x3_36 : Int32) (k_92 : (Nat → Int64) → Option (Int64 × (Nat → Int32) × (Nat → Int64))) (rec38 : Int32 → (Nat → Int64) → Option (Int64 × (Nat → Int32) × (Nat → Int64))) (x4_32 : Int32) (f_t_rowsBy_33 : Nat → Int64) : Option (Int64 × (Nat → Int32) × (Nat → Int64)) :=
  (if x2_35 < x4_32 then k_92 f_t_rowsBy_33 else (if x3_36 < x4_32 then k_92 f_t_rowsBy_33 else bb_ix x3_36 41 (bb_ix (x3_36 - x4_32) 41 (bb_ix x3_36 41 (rec38 (x4_32 + (1 : Int32)) (vp_updL f_t_rowsBy_33 x3_36.toNatClampNeg ((f_t_rowsBy_33 x3_36.toNatClampNeg) + (f_t_rowsBy_33 (x3_36 - x4_32).toNatClampNeg))))))))
def uX8_boilers_s33 (nn : Nat) (x1_20 : Int32) (x2_21 : Int32) (k_98 : (Nat → Int64) → Option (Int64 × (Nat → Int32) × (Nat → Int64))) (rec23 : Int32 → (Nat → Int64) → Option (Int64 × (Nat → Int32) × (Nat → Int64))) (x3_18 : Int32) (f_t_rowsBy_19 : Nat → Int64) : Option (Int64 × (Nat → Int32) × (Nat → Int64)) :=
  (if x1_20 < x3_18 then k_98 f_t_rowsBy_19 else bb_cut (fun (z27 : Int64) => bb_ix x3_18 41 (bb_cut (fun (f_t_rowsBy_30 : Nat → Int64) => rec23 (x3_18 + (1 : Int32)) f_t_rowsBy_30) (fun k31 => bb_loop2 (uX8_boilers_s56 x2_21 x3_18 k31) nn (1 : Int32) (vp_updL f_t_rowsBy_19 x3_18.toNatClampNeg z27)))) (fun k28 => (if x3_18 = 0 then k28 (1 : Int64) else k28 (0 : Int64))))
def uX8_boilers (nn : Nat) (p1 : Int32) (p2 : Int32) (f_t_found : Nat → Int32) (f_t_rowsBy : Nat → Int64) : Option (Int64 × (Nat → Int32) × (Nat → Int64)) :=
  bb_b1 (uX8_in p1.toInt64 (0 : Int64) (40 : Int64)) (fun (r1 : Int32) => (if r1 = 0 then bb_b2 (uX8_finds (0 : Int32) f_t_found) (fun (r6 : Int32) (w7 : Nat → Int32) => some (r6.toInt64, w7, f_t_rowsBy)) else bb_b1 (uX8_in p2.toInt64 (1 : Int64) (40 : Int64)) (fun (r9 : Int32) => (if r9 = 0 then bb_b2 (uX8_finds (0 : Int32) f_t_found) (fun (r47 : Int32) (w48 : Nat → Int32) => some (r47.toInt64, w48, f_t_rowsBy)) else bb_cut (fun (f_t_rowsBy_14 : Nat → Int64) => (if p1 = 0 then some ((1 : Int64), f_t_found, f_t_rowsBy_14) else bb_ix p1 41 (some ((2 : Int64) * (f_t_rowsBy_14 p1.toNatClampNeg), f_t_found, f_t_rowsBy_14)))) (fun k15 => bb_loop2 (uX8_boilers_s33 nn p1 p2 k15) nn (0 : Int32) f_t_rowsBy)))))
theorem kdX8_boilers : yX8_boilers.cls = RX8 ∧ yX8_boilers.cls ≠ "java/lang/invoke/MethodHandle" ∧ yX8_boilers.cls ≠ "java/lang/invoke/VarHandle" ∧ (parseMethodDescriptor yX8_boilers.desc).map (fun d => d.parameters.length) = some 2 := by decide +kernel
set_option maxHeartbeats 4000000 in
set_option maxRecDepth 100000 in
theorem kX8_boilers (l : Launch) (dC : Nat → ClassId) (dI : Nat → Nat → Nat) (cy : Nat → ClassId) (sz : Nat) (a_t : Nat → Nat) (p1 : Int32) (p2 : Int32) (v_t_isKept : Int32) (v_t_bestPost : Int32) (v_t_mostSeen : Int32) (v_t_taped : Int32) (v_t_from : Int32) (v_t_to : Int32) (v_t_isWrong : Int32) (f_t_found : Nat → Int32) (f_t_rowsBy : Nat → Int64) (nn : Nat) (r : Int64) (f_t_found_o : Nat → Int32) (f_t_rowsBy_o : Nat → Int64) (h : uX8_boilers nn p1 p2 f_t_found f_t_rowsBy = some (r, f_t_found_o, f_t_rowsBy_o)) : Met l yX8_boilers wsX8_boilers ({ frames := 1, cells := 0, slots := 0, locals := 25 }) (va_Pc [.ref (a_t 0), .int p1, .int p2] (fun U => U.heap.size = sz ∧ va_P (dC, dI) vwCl [((a_t 0), oX8 a_t v_t_isKept v_t_bestPost v_t_mostSeen v_t_taped v_t_from v_t_to v_t_isWrong), ((a_t 5), .inl (cy 0, 7, .inl f_t_found)), ((a_t 11), .inl (cy 1, 41, .inr (.inl f_t_rowsBy)))] U.heap ∧ va_K (dC, dI) vwCl (tyX cy) U ∧ va_D (fun _ => True) [((a_t 0), oX8 a_t v_t_isKept v_t_bestPost v_t_mostSeen v_t_taped v_t_from v_t_to v_t_isWrong), ((a_t 5), .inl (cy 0, 7, .inl f_t_found)), ((a_t 11), .inl (cy 1, 41, .inr (.inl f_t_rowsBy)))])) (va_Ql (fun (r2 : Int64) (_ : Unit) => r = r2) (fun _ t => va_P (dC, dI) vwCl [((a_t 0), oX8 a_t v_t_isKept v_t_bestPost v_t_mostSeen v_t_taped v_t_from v_t_to v_t_isWrong), ((a_t 5), .inl (cy 0, 7, .inl f_t_found_o)), ((a_t 11), .inl (cy 1, 41, .inr (.inl f_t_rowsBy_o)))] t.heap ∧ va_K (dC, dI) vwCl (tyX cy) t ∧ va_D (va_A [((a_t 0), oX8 a_t v_t_isKept v_t_bestPost v_t_mostSeen v_t_taped v_t_from v_t_to v_t_isWrong), ((a_t 5), .inl (cy 0, 7, .inl f_t_found)), ((a_t 11), .inl (cy 1, 41, .inr (.inl f_t_rowsBy)))] sz) [((a_t 0), oX8 a_t v_t_isKept v_t_bestPost v_t_mostSeen v_t_taped v_t_from v_t_to v_t_isWrong), ((a_t 5), .inl (cy 0, 7, .inl f_t_found_o)), ((a_t 11), .inl (cy 1, 41, .inr (.inl f_t_rowsBy_o)))]) (va_A [((a_t 0), oX8 a_t v_t_isKept v_t_bestPost v_t_mostSeen v_t_taped v_t_from v_t_to v_t_isWrong), ((a_t 5), .inl (cy 0, 7, .inl f_t_found)), ((a_t 11), .inl (cy 1, 41, .inr (.inl f_t_rowsBy)))] sz)) 0 0 (va_A [((a_t 0), oX8 a_t v_t_isKept v_t_bestPost v_t_mostSeen v_t_taped v_t_from v_t_to v_t_isWrong), ((a_t 5), .inl (cy 0, 7, .inl f_t_found)), ((a_t 11), .inl (cy 1, 41, .inr (.inl f_t_rowsBy)))] sz) := by
  refine Met.ofW (cc := cX8_boilers) (maxL := 5) (ret := (some .long)) (by decide) rfl ?_
  intro p e s m args below meth c s₁ B hml hv
  obtain ⟨rfl, hsz, hP, hK, hD0⟩ := hv
  have hx := B.exec
  have hb := B.bytes
  have hr := B.returns
  have hts := atoms_spec (ws := wsX8_boilers) B.pre
  have hown : s.vm.findClass RX8 = some m.cls := findClass_of_methodNamed B.named
  have hlocks := B.notSynchronized
  have iwX8 : ∀ w ∈ wsX80, w ∈ wsX8_boilers := fun w h9 => List.mem_cons_of_mem _ (List.mem_append_right _ (h9))
  have lk1 := hts (Cond.constantLong RX8 255 (40)) (List.mem_of_getElem? (i := 1) rfl)
  have lk2 := hts (Cond.fieldLink RX8 32 "BathBorderModel" "rowsBy" "[J") (List.mem_of_getElem? (i := 2) rfl)
  have lk3 := hts (Cond.constantLong RX8 257 (2)) (List.mem_of_getElem? (i := 3) rfl)
  subst hsz
  have hD := hD0.self (sz := s.heap.size)
  generalize hAe : va_A [((a_t 0), oX8 a_t v_t_isKept v_t_bestPost v_t_mostSeen v_t_taped v_t_from v_t_to v_t_isWrong), ((a_t 5), .inl (cy 0, 7, .inl f_t_found)), ((a_t 11), .inl (cy 1, 41, .inr (.inl f_t_rowsBy)))] s.heap.size = A at hD ⊢
  have hA : ∀ q : Nat, s.heap.size ≤ q → A q := fun q h => by rw [← hAe]; exact Or.inr h
  have hS : va_S A s.heap s.heap [] := va_S.rf
  have hP : va_P (dC, dI) vwCl [((a_t 0), oX8 a_t v_t_isKept v_t_bestPost v_t_mostSeen v_t_taped v_t_from v_t_to v_t_isWrong), ((a_t 5), .inl (cy 0, 7, .inl f_t_found)), ((a_t 11), .inl (cy 1, 41, .inr (.inl f_t_rowsBy)))] s.heap := hP
  have hl := lv_entry ([.ref (a_t 0), .int p1, .int p2]) (n := 5) (Nat.le_of_ble_eq_true rfl)
  rw [lg_entry_eq]
  generalize (lg_sl ([.ref (a_t 0), .int p1, .int p2]) ++ List.replicate (5 - (lg_sl ([.ref (a_t 0), .int p1, .int p2])).length) Slot.unset).toArray = ls at hl ⊢
  have hl : lv_has ls 5 [(0, .ref (a_t 0)), (1, .int p1), (2, .int p2)] := hl
  unfold uX8_boilers at h
  refine bb_cap (fun WW toW ofW => ?_)
  refine lv_iload_n hx hb dX8_boilers_0 rfl (lv_at hl 1 rfl) ?_
  refine lv_i2l hx hb dX8_boilers_1 rfl ?_
  refine lv_lconst (v := (0 : Int64)) hx hb dX8_boilers_2 (by decide) ?_
  refine lv_ldc2 (v := (40 : Int64)) hx hb hown lk1 dX8_boilers_3 ?_
  obtain ⟨r1, hc2, h⟩ := bb_b1_o h
  refine vp_callSi (W.runS (As := [.long p1.toInt64, .long (0 : Int64), .long (40 : Int64)]) (rest := []) ⟨hx, hb, hml, hown, hts⟩ (kX8_in l dC dI cy p1.toInt64 (0 : Int64) (40 : Int64) r1 hc2) (va_cwS 3 hts gX8_boilers_X8_in rfl rfl rfl kdX8_in ⟨Nat.le_of_ble_eq_true rfl, Nat.le_of_ble_eq_true rfl⟩) (bb_preS (hP.sub (ws' := []) [] rfl) hK) rfl rfl hl.1 rfl (lv_room (Nat.le_of_ble_eq_true rfl)) dX8_boilers_6 ⟨Nat.zero_le _, Nat.zero_le _⟩) (fun t3 et3 => ?_)
  obtain ⟨rfl, hz4⟩ := et3
  refine lv_if_eq (tgt := 24) hx hb dX8_boilers_9 (by decide) (fun c5 => ?_) (fun c5 => ?_)
  · replace h := bb_ifp c5 h
    refine lv_aload_n hx hb dX8_boilers_24 rfl (lv_at hl 0 rfl) ?_
    refine lv_iconst (v := (0 : Int32)) hx hb dX8_boilers_25 (by decide) ?_
    obtain ⟨r6, w7, hc8, h⟩ := bb_b2_o h
    refine bb_cwi (wr := [((a_t 11), .inl (cy 1, 41, .inr (.inl f_t_rowsBy)))]) (w1 := [((a_t 0), oX8 a_t v_t_isKept v_t_bestPost v_t_mostSeen v_t_taped v_t_from v_t_to v_t_isWrong), ((a_t 5), .inl (cy 0, 7, .inl w7))]) (va_runV (As := [.int (0 : Int32)]) (rest := []) ⟨hx, hb, hml, hown, hts⟩ (kX8_finds l dC dI cy s.heap.size a_t (0 : Int32) v_t_isKept v_t_bestPost v_t_mostSeen v_t_taped v_t_from v_t_to v_t_isWrong f_t_found r6 w7 hc8) (cwV 1 hts gX8_boilers_X8_finds rfl rfl rfl kdX8_finds ⟨Nat.le_of_ble_eq_true rfl, Nat.le_of_ble_eq_true rfl⟩) (bb_preVw (va_recv hK hP (ci := 7) (q0 := 0) rfl rfl) (hP.sub (ws' := [((a_t 0), oX8 a_t v_t_isKept v_t_bestPost v_t_mostSeen v_t_taped v_t_from v_t_to v_t_isWrong), ((a_t 5), .inl (cy 0, 7, .inl f_t_found))]) [0, 1] rfl) hK (hD.sub (ws' := [((a_t 0), oX8 a_t v_t_isKept v_t_bestPost v_t_mostSeen v_t_taped v_t_from v_t_to v_t_isWrong), ((a_t 5), .inl (cy 0, 7, .inl f_t_found))]) [0, 1] (by decide) rfl)) rfl rfl hl.1 rfl (lv_room (Nat.le_of_ble_eq_true rfl)) dX8_boilers_26 ⟨Nat.zero_le _, Nat.zero_le _⟩) hP hD hS hA [0, 1] [2] rfl rfl (by decide) (by decide) (fun H locs hP hD hS => ?_)
    have hP : va_P (dC, dI) vwCl [((a_t 11), .inl (cy 1, 41, .inr (.inl f_t_rowsBy))), ((a_t 0), oX8 a_t v_t_isKept v_t_bestPost v_t_mostSeen v_t_taped v_t_from v_t_to v_t_isWrong), ((a_t 5), .inl (cy 0, 7, .inl w7))] H := hP
    have hD : va_D A [((a_t 11), .inl (cy 1, 41, .inr (.inl f_t_rowsBy))), ((a_t 0), oX8 a_t v_t_isKept v_t_bestPost v_t_mostSeen v_t_taped v_t_from v_t_to v_t_isWrong), ((a_t 5), .inl (cy 0, 7, .inl w7))] := hD
    refine lv_i2l hx hb dX8_boilers_29 rfl ?_
    obtain ⟨rfl, rfl, rfl⟩ := bb_some3 h
    have hP9 := hP.sub (ws' := [((a_t 0), oX8 a_t v_t_isKept v_t_bestPost v_t_mostSeen v_t_taped v_t_from v_t_to v_t_isWrong), ((a_t 5), .inl (cy 0, 7, .inl w7)), ((a_t 11), .inl (cy 1, 41, .inr (.inl f_t_rowsBy)))]) [1, 2, 0] rfl
    have hD9 := hD.sub (ws' := [((a_t 0), oX8 a_t v_t_isKept v_t_bestPost v_t_mostSeen v_t_taped v_t_from v_t_to v_t_isWrong), ((a_t 5), .inl (cy 0, 7, .inl w7)), ((a_t 11), .inl (cy 1, 41, .inr (.inl f_t_rowsBy)))]) [1, 2, 0] (by decide) rfl
    exact W.lret hx hb hr (fun t ht hW => ⟨⟨_, (), rfl, rfl, by rw [ht]; exact hP9, va_K.moved hW.alike hK, hD9⟩, hS.F ht⟩) hS.2.2 dX8_boilers_30
  · replace h := bb_ifn c5 h
    refine lv_iload_n hx hb dX8_boilers_12 rfl (lv_at hl 2 rfl) ?_
    refine lv_i2l hx hb dX8_boilers_13 rfl ?_
    refine lv_lconst (v := (1 : Int64)) hx hb dX8_boilers_14 (by decide) ?_
    refine lv_ldc2 (v := (40 : Int64)) hx hb hown lk1 dX8_boilers_15 ?_
    obtain ⟨r9, hc10, h⟩ := bb_b1_o h
    refine vp_callSi (W.runS (As := [.long p2.toInt64, .long (1 : Int64), .long (40 : Int64)]) (rest := []) ⟨hx, hb, hml, hown, hts⟩ (kX8_in l dC dI cy p2.toInt64 (1 : Int64) (40 : Int64) r9 hc10) (va_cwS 3 hts gX8_boilers_X8_in rfl rfl rfl kdX8_in ⟨Nat.le_of_ble_eq_true rfl, Nat.le_of_ble_eq_true rfl⟩) (bb_preS (hP.sub (ws' := []) [] rfl) hK) rfl rfl hl.1 rfl (lv_room (Nat.le_of_ble_eq_true rfl)) dX8_boilers_18 ⟨Nat.zero_le _, Nat.zero_le _⟩) (fun t11 et11 => ?_)
    obtain ⟨rfl, hz12⟩ := et11
    refine lv_if_ne (tgt := 31) hx hb dX8_boilers_21 (by decide) (fun c13 => ?_) (fun c13 => ?_)
    · replace h := bb_ifn c13 h
      refine lv_iconst (v := (0 : Int32)) hx hb dX8_boilers_31 (by decide) ?_
      refine lv_istore_n (lv' := [(3, .int (0 : Int32)), (0, .ref (a_t 0)), (1, .int p1), (2, .int p2)]) hx hb dX8_boilers_32 rfl hl (by decide) rfl (fun ls hl => ?_)
      obtain ⟨k15, ek15, h⟩ := bb_cut_o h
      have Jk15 : ∀ (f_t_rowsBy_14 : Nat → Int64) (H : Heap) (locs : List Loc) (ls : Array Slot), k15 f_t_rowsBy_14 = some (r, f_t_found_o, f_t_rowsBy_o) → va_P (dC, dI) vwCl [((a_t 0), oX8 a_t v_t_isKept v_t_bestPost v_t_mostSeen v_t_taped v_t_from v_t_to v_t_isWrong), ((a_t 5), .inl (cy 0, 7, .inl f_t_found)), ((a_t 11), .inl (cy 1, 41, .inr (.inl f_t_rowsBy_14)))] H → va_D A [((a_t 0), oX8 a_t v_t_isKept v_t_bestPost v_t_mostSeen v_t_taped v_t_from v_t_to v_t_isWrong), ((a_t 5), .inl (cy 0, 7, .inl f_t_found)), ((a_t 11), .inl (cy 1, 41, .inr (.inl f_t_rowsBy_14)))] → va_S A s.heap H locs → lv_has ls 5 [(0, .ref (a_t 0)), (1, .int p1)] → WW H locs (F0 m 98 ls []) := by
        intro f_t_rowsBy_14 H locs ls h hP hD hS hl
        refine ofW _ _ _ ?_
        subst ek15
        refine lv_iload_n hx hb dX8_boilers_98 rfl (lv_at hl 1 rfl) ?_
        refine lv_if_ne (tgt := 106) hx hb dX8_boilers_99 (by decide) (fun c16 => ?_) (fun c16 => ?_)
        · replace h := bb_ifn c16 h
          refine lv_ldc2 (v := (2 : Int64)) hx hb hown lk3 dX8_boilers_106 ?_
          refine lv_aload_n hx hb dX8_boilers_109 rfl (lv_at hl 0 rfl) ?_
          refine va_get (D := (dC, dI)) (ci := 7) (v := .ref (a_t 11)) (C := RX8) (T := TX8) (N := 20) hx hb hts iwX8 hown hK hP 0 rfl rfl 10 (by decide) lk2 (fun _ h9 => h9) rfl dX8_boilers_110 ?_
          refine lv_iload_n hx hb dX8_boilers_113 rfl (lv_at hl 1 rfl) ?_
          obtain ⟨hi17, h⟩ := bb_ix_o h
          refine va_lald hx hb hK hP 2 1 rfl rfl hi17 dX8_boilers_114 ?_
          refine lv_lmul hx hb dX8_boilers_115 ?_
          obtain ⟨rfl, rfl, rfl⟩ := bb_some3 h
          have hP9 := hP.sub (ws' := [((a_t 0), oX8 a_t v_t_isKept v_t_bestPost v_t_mostSeen v_t_taped v_t_from v_t_to v_t_isWrong), ((a_t 5), .inl (cy 0, 7, .inl f_t_found)), ((a_t 11), .inl (cy 1, 41, .inr (.inl f_t_rowsBy_14)))]) [0, 1, 2] rfl
          have hD9 := hD.sub (ws' := [((a_t 0), oX8 a_t v_t_isKept v_t_bestPost v_t_mostSeen v_t_taped v_t_from v_t_to v_t_isWrong), ((a_t 5), .inl (cy 0, 7, .inl f_t_found)), ((a_t 11), .inl (cy 1, 41, .inr (.inl f_t_rowsBy_14)))]) [0, 1, 2] (by decide) rfl
          exact W.lret hx hb hr (fun t ht hW => ⟨⟨_, (), rfl, rfl, by rw [ht]; exact hP9, va_K.moved hW.alike hK, hD9⟩, hS.F ht⟩) hS.2.2 dX8_boilers_116
        · replace h := bb_ifp c16 h
          refine lv_lconst (v := (1 : Int64)) hx hb dX8_boilers_102 (by decide) ?_
          refine lv_goto (tgt := 116) hx hb dX8_boilers_103 (by decide) ?_
          obtain ⟨rfl, rfl, rfl⟩ := bb_some3 h
          have hP9 := hP.sub (ws' := [((a_t 0), oX8 a_t v_t_isKept v_t_bestPost v_t_mostSeen v_t_taped v_t_from v_t_to v_t_isWrong), ((a_t 5), .inl (cy 0, 7, .inl f_t_found)), ((a_t 11), .inl (cy 1, 41, .inr (.inl f_t_rowsBy_14)))]) [0, 1, 2] rfl
          have hD9 := hD.sub (ws' := [((a_t 0), oX8 a_t v_t_isKept v_t_bestPost v_t_mostSeen v_t_taped v_t_from v_t_to v_t_isWrong), ((a_t 5), .inl (cy 0, 7, .inl f_t_found)), ((a_t 11), .inl (cy 1, 41, .inr (.inl f_t_rowsBy_14)))]) [0, 1, 2] (by decide) rfl
          exact W.lret hx hb hr (fun t ht hW => ⟨⟨_, (), rfl, rfl, by rw [ht]; exact hP9, va_K.moved hW.alike hK, hD9⟩, hS.F ht⟩) hS.2.2 dX8_boilers_116
      have L24 : ∀ (n : Nat) (x3_18 : Int32) (f_t_rowsBy_19 : Nat → Int64) (H : Heap) (locs : List Loc) (ls : Array Slot), bb_loop2 (uX8_boilers_s33 nn p1 p2 k15) n x3_18 f_t_rowsBy_19 = some (r, f_t_found_o, f_t_rowsBy_o) → va_P (dC, dI) vwCl [((a_t 0), oX8 a_t v_t_isKept v_t_bestPost v_t_mostSeen v_t_taped v_t_from v_t_to v_t_isWrong), ((a_t 5), .inl (cy 0, 7, .inl f_t_found)), ((a_t 11), .inl (cy 1, 41, .inr (.inl f_t_rowsBy_19)))] H → va_D A [((a_t 0), oX8 a_t v_t_isKept v_t_bestPost v_t_mostSeen v_t_taped v_t_from v_t_to v_t_isWrong), ((a_t 5), .inl (cy 0, 7, .inl f_t_found)), ((a_t 11), .inl (cy 1, 41, .inr (.inl f_t_rowsBy_19)))] → va_S A s.heap H locs → lv_has ls 5 [(0, .ref (a_t 0)), (1, .int p1), (2, .int p2), (3, .int x3_18)] → WW H locs (F0 m 33 ls []) := by
        intro n
        induction n with
        | zero => intro x3_18 f_t_rowsBy_19 H locs ls h; exact (bb_no h).elim
        | succ n ih25 =>
          intro x3_18 f_t_rowsBy_19 H locs ls h hP hD hS hl
          refine ofW _ _ _ ?_
          obtain ⟨rec23, erec23, h⟩ := bb_loop2_o h
          unfold uX8_boilers_s33 at h
          refine lv_iload_n hx hb dX8_boilers_33 rfl (lv_at hl 3 rfl) ?_
          refine lv_iload_n hx hb dX8_boilers_34 rfl (lv_at hl 1 rfl) ?_
          refine lv_icmp_gt (tgt := 98) hx hb dX8_boilers_35 (by decide) (fun c26 => ?_) (fun c26 => ?_)
          · replace h := bb_ifp c26 h
            exact toW _ _ _ (Jk15 f_t_rowsBy_19 _ _ _ h hP hD hS (lv_sub hl [0, 1] rfl))
          · replace h := bb_ifn c26 h
            refine lv_aload_n hx hb dX8_boilers_38 rfl (lv_at hl 0 rfl) ?_
            refine va_get (D := (dC, dI)) (ci := 7) (v := .ref (a_t 11)) (C := RX8) (T := TX8) (N := 20) hx hb hts iwX8 hown hK hP 0 rfl rfl 10 (by decide) lk2 (fun _ h9 => h9) rfl dX8_boilers_39 ?_
            refine lv_iload_n hx hb dX8_boilers_42 rfl (lv_at hl 3 rfl) ?_
            refine lv_iload_n hx hb dX8_boilers_43 rfl (lv_at hl 3 rfl) ?_
            obtain ⟨k28, ek28, h⟩ := bb_cut_o h
            have Jk28 : ∀ (z27 : Int64) (H : Heap) (locs : List Loc) (ls : Array Slot), k28 z27 = some (r, f_t_found_o, f_t_rowsBy_o) → va_P (dC, dI) vwCl [((a_t 0), oX8 a_t v_t_isKept v_t_bestPost v_t_mostSeen v_t_taped v_t_from v_t_to v_t_isWrong), ((a_t 5), .inl (cy 0, 7, .inl f_t_found)), ((a_t 11), .inl (cy 1, 41, .inr (.inl f_t_rowsBy_19)))] H → va_D A [((a_t 0), oX8 a_t v_t_isKept v_t_bestPost v_t_mostSeen v_t_taped v_t_from v_t_to v_t_isWrong), ((a_t 5), .inl (cy 0, 7, .inl f_t_found)), ((a_t 11), .inl (cy 1, 41, .inr (.inl f_t_rowsBy_19)))] → va_S A s.heap H locs → lv_has ls 5 [(0, .ref (a_t 0)), (1, .int p1), (2, .int p2), (3, .int x3_18)] → WW H locs (F0 m 52 ls [.long z27, .int x3_18, .ref (a_t 11)]) := by
              intro z27 H locs ls h hP hD hS hl
              refine ofW _ _ _ ?_
              subst ek28
              obtain ⟨hi29, h⟩ := bb_ix_o h
              refine va_last hx hb hK hP hD hS 2 1 rfl rfl hi29 dX8_boilers_52 (fun H locs hP hD hS => ?_)
              have hP : va_P (dC, dI) vwCl [((a_t 0), oX8 a_t v_t_isKept v_t_bestPost v_t_mostSeen v_t_taped v_t_from v_t_to v_t_isWrong), ((a_t 5), .inl (cy 0, 7, .inl f_t_found)), ((a_t 11), .inl (cy 1, 41, .inr (.inl (vp_updL f_t_rowsBy_19 x3_18.toNatClampNeg z27))))] H := hP
              have hD : va_D A [((a_t 0), oX8 a_t v_t_isKept v_t_bestPost v_t_mostSeen v_t_taped v_t_from v_t_to v_t_isWrong), ((a_t 5), .inl (cy 0, 7, .inl f_t_found)), ((a_t 11), .inl (cy 1, 41, .inr (.inl (vp_updL f_t_rowsBy_19 x3_18.toNatClampNeg z27))))] := hD
              refine lv_iconst (v := (1 : Int32)) hx hb dX8_boilers_53 (by decide) ?_
              refine lv_istore (lv' := [(4, .int (1 : Int32)), (0, .ref (a_t 0)), (1, .int p1), (2, .int p2), (3, .int x3_18)]) hx hb dX8_boilers_54 hl (by decide) rfl (fun ls hl => ?_)
              obtain ⟨k31, ek31, h⟩ := bb_cut_o h
              have Jk31 : ∀ (f_t_rowsBy_30 : Nat → Int64) (H : Heap) (locs : List Loc) (ls : Array Slot), k31 f_t_rowsBy_30 = some (r, f_t_found_o, f_t_rowsBy_o) → va_P (dC, dI) vwCl [((a_t 0), oX8 a_t v_t_isKept v_t_bestPost v_t_mostSeen v_t_taped v_t_from v_t_to v_t_isWrong), ((a_t 5), .inl (cy 0, 7, .inl f_t_found)), ((a_t 11), .inl (cy 1, 41, .inr (.inl f_t_rowsBy_30)))] H → va_D A [((a_t 0), oX8 a_t v_t_isKept v_t_bestPost v_t_mostSeen v_t_taped v_t_from v_t_to v_t_isWrong), ((a_t 5), .inl (cy 0, 7, .inl f_t_found)), ((a_t 11), .inl (cy 1, 41, .inr (.inl f_t_rowsBy_30)))] → va_S A s.heap H locs → lv_has ls 5 [(0, .ref (a_t 0)), (1, .int p1), (2, .int p2), (3, .int x3_18)] → WW H locs (F0 m 92 ls []) := by
                intro f_t_rowsBy_30 H locs ls h hP hD hS hl
                refine ofW _ _ _ ?_
                subst ek31
                refine lv_iinc (v := x3_18 + (1 : Int32)) (lv' := [(3, .int (x3_18 + (1 : Int32))), (0, .ref (a_t 0)), (1, .int p1), (2, .int p2)]) hx hb dX8_boilers_92 hl (k := 3) rfl rfl (by decide) rfl (fun ls hl => ?_)
                refine lv_goto (tgt := 33) hx hb dX8_boilers_95 (by decide) ?_
                rw [erec23] at h
                exact toW _ _ _ (ih25 (x3_18 + (1 : Int32)) f_t_rowsBy_30 _ _ _ h hP hD hS (lv_sub hl [1, 2, 3, 0] rfl))
              have L39 : ∀ (n : Nat) (x4_32 : Int32) (f_t_rowsBy_33 : Nat → Int64) (H : Heap) (locs : List Loc) (ls : Array Slot), bb_loop2 (uX8_boilers_s56 p2 x3_18 k31) n x4_32 f_t_rowsBy_33 = some (r, f_t_found_o, f_t_rowsBy_o) → va_P (dC, dI) vwCl [((a_t 0), oX8 a_t v_t_isKept v_t_bestPost v_t_mostSeen v_t_taped v_t_from v_t_to v_t_isWrong), ((a_t 5), .inl (cy 0, 7, .inl f_t_found)), ((a_t 11), .inl (cy 1, 41, .inr (.inl f_t_rowsBy_33)))] H → va_D A [((a_t 0), oX8 a_t v_t_isKept v_t_bestPost v_t_mostSeen v_t_taped v_t_from v_t_to v_t_isWrong), ((a_t 5), .inl (cy 0, 7, .inl f_t_found)), ((a_t 11), .inl (cy 1, 41, .inr (.inl f_t_rowsBy_33)))] → va_S A s.heap H locs → lv_has ls 5 [(0, .ref (a_t 0)), (1, .int p1), (2, .int p2), (3, .int x3_18), (4, .int x4_32)] → WW H locs (F0 m 56 ls []) := by
                intro n
                induction n with
                | zero => intro x4_32 f_t_rowsBy_33 H locs ls h; exact (bb_no h).elim
                | succ n ih40 =>
                  intro x4_32 f_t_rowsBy_33 H locs ls h hP hD hS hl
                  refine ofW _ _ _ ?_
                  obtain ⟨rec38, erec38, h⟩ := bb_loop2_o h
                  unfold uX8_boilers_s56 at h
                  refine lv_iload hx hb dX8_boilers_56 (lv_at hl 4 rfl) ?_
                  refine lv_iload_n hx hb dX8_boilers_58 rfl (lv_at hl 2 rfl) ?_
                  refine lv_icmp_gt (tgt := 92) hx hb dX8_boilers_59 (by decide) (fun c41 => ?_) (fun c41 => ?_)
                  · replace h := bb_ifp c41 h
                    exact toW _ _ _ (Jk31 f_t_rowsBy_33 _ _ _ h hP hD hS (lv_sub hl [0, 1, 2, 3] rfl))
                  · replace h := bb_ifn c41 h
                    refine lv_iload hx hb dX8_boilers_62 (lv_at hl 4 rfl) ?_
                    refine lv_iload_n hx hb dX8_boilers_64 rfl (lv_at hl 3 rfl) ?_
                    refine lv_icmp_gt (tgt := 92) hx hb dX8_boilers_65 (by decide) (fun c42 => ?_) (fun c42 => ?_)
                    · replace h := bb_ifp c42 h
                      exact toW _ _ _ (Jk31 f_t_rowsBy_33 _ _ _ h hP hD hS (lv_sub hl [0, 1, 2, 3] rfl))
                    · replace h := bb_ifn c42 h
                      refine lv_aload_n hx hb dX8_boilers_68 rfl (lv_at hl 0 rfl) ?_
                      refine va_get (D := (dC, dI)) (ci := 7) (v := .ref (a_t 11)) (C := RX8) (T := TX8) (N := 20) hx hb hts iwX8 hown hK hP 0 rfl rfl 10 (by decide) lk2 (fun _ h9 => h9) rfl dX8_boilers_69 ?_
                      refine lv_iload_n hx hb dX8_boilers_72 rfl (lv_at hl 3 rfl) ?_
                      refine lv_dup2_11 hx hb dX8_boilers_73 rfl rfl ?_
                      obtain ⟨hi43, h⟩ := bb_ix_o h
                      refine va_lald hx hb hK hP 2 1 rfl rfl hi43 dX8_boilers_74 ?_
                      refine lv_aload_n hx hb dX8_boilers_75 rfl (lv_at hl 0 rfl) ?_
                      refine va_get (D := (dC, dI)) (ci := 7) (v := .ref (a_t 11)) (C := RX8) (T := TX8) (N := 20) hx hb hts iwX8 hown hK hP 0 rfl rfl 10 (by decide) lk2 (fun _ h9 => h9) rfl dX8_boilers_76 ?_
                      refine lv_iload_n hx hb dX8_boilers_79 rfl (lv_at hl 3 rfl) ?_
                      refine lv_iload hx hb dX8_boilers_80 (lv_at hl 4 rfl) ?_
                      refine lv_isub hx hb dX8_boilers_82 ?_
                      obtain ⟨hi44, h⟩ := bb_ix_o h
                      refine va_lald hx hb hK hP 2 1 rfl rfl hi44 dX8_boilers_83 ?_
                      refine lv_ladd hx hb dX8_boilers_84 ?_
                      obtain ⟨hi45, h⟩ := bb_ix_o h
                      refine va_last hx hb hK hP hD hS 2 1 rfl rfl hi45 dX8_boilers_85 (fun H locs hP hD hS => ?_)
                      have hP : va_P (dC, dI) vwCl [((a_t 0), oX8 a_t v_t_isKept v_t_bestPost v_t_mostSeen v_t_taped v_t_from v_t_to v_t_isWrong), ((a_t 5), .inl (cy 0, 7, .inl f_t_found)), ((a_t 11), .inl (cy 1, 41, .inr (.inl (vp_updL f_t_rowsBy_33 x3_18.toNatClampNeg ((f_t_rowsBy_33 x3_18.toNatClampNeg) + (f_t_rowsBy_33 (x3_18 - x4_32).toNatClampNeg))))))] H := hP
                      have hD : va_D A [((a_t 0), oX8 a_t v_t_isKept v_t_bestPost v_t_mostSeen v_t_taped v_t_from v_t_to v_t_isWrong), ((a_t 5), .inl (cy 0, 7, .inl f_t_found)), ((a_t 11), .inl (cy 1, 41, .inr (.inl (vp_updL f_t_rowsBy_33 x3_18.toNatClampNeg ((f_t_rowsBy_33 x3_18.toNatClampNeg) + (f_t_rowsBy_33 (x3_18 - x4_32).toNatClampNeg))))))] := hD
                      refine lv_iinc (v := x4_32 + (1 : Int32)) (lv' := [(4, .int (x4_32 + (1 : Int32))), (0, .ref (a_t 0)), (1, .int p1), (2, .int p2), (3, .int x3_18)]) hx hb dX8_boilers_86 hl (k := 4) rfl rfl (by decide) rfl (fun ls hl => ?_)
                      refine lv_goto (tgt := 56) hx hb dX8_boilers_89 (by decide) ?_
                      rw [erec38] at h
                      exact toW _ _ _ (ih40 (x4_32 + (1 : Int32)) (vp_updL f_t_rowsBy_33 x3_18.toNatClampNeg ((f_t_rowsBy_33 x3_18.toNatClampNeg) + (f_t_rowsBy_33 (x3_18 - x4_32).toNatClampNeg))) _ _ _ h hP hD hS (lv_sub hl [1, 2, 3, 4, 0] rfl))
              exact toW _ _ _ (L39 nn (1 : Int32) (vp_updL f_t_rowsBy_19 x3_18.toNatClampNeg z27) _ _ _ h hP hD hS (lv_sub hl [1, 2, 3, 4, 0] rfl))
            refine lv_if_ne (tgt := 51) hx hb dX8_boilers_44 (by decide) (fun c46 => ?_) (fun c46 => ?_)
            · replace h := bb_ifn c46 h
              refine lv_lconst (v := (0 : Int64)) hx hb dX8_boilers_51 (by decide) ?_
              exact toW _ _ _ (Jk28 (0 : Int64) _ _ _ h hP hD hS (lv_sub hl [0, 1, 2, 3] rfl))
            · replace h := bb_ifp c46 h
              refine lv_lconst (v := (1 : Int64)) hx hb dX8_boilers_47 (by decide) ?_
              refine lv_goto (tgt := 52) hx hb dX8_boilers_48 (by decide) ?_
              exact toW _ _ _ (Jk28 (1 : Int64) _ _ _ h hP hD hS (lv_sub hl [0, 1, 2, 3] rfl))
      exact toW _ _ _ (L24 nn (0 : Int32) f_t_rowsBy _ _ _ h hP hD hS (lv_sub hl [1, 2, 3, 0] rfl))
    · replace h := bb_ifp c13 h
      refine lv_aload_n hx hb dX8_boilers_24 rfl (lv_at hl 0 rfl) ?_
      refine lv_iconst (v := (0 : Int32)) hx hb dX8_boilers_25 (by decide) ?_
      obtain ⟨r47, w48, hc49, h⟩ := bb_b2_o h
      refine bb_cwi (wr := [((a_t 11), .inl (cy 1, 41, .inr (.inl f_t_rowsBy)))]) (w1 := [((a_t 0), oX8 a_t v_t_isKept v_t_bestPost v_t_mostSeen v_t_taped v_t_from v_t_to v_t_isWrong), ((a_t 5), .inl (cy 0, 7, .inl w48))]) (va_runV (As := [.int (0 : Int32)]) (rest := []) ⟨hx, hb, hml, hown, hts⟩ (kX8_finds l dC dI cy s.heap.size a_t (0 : Int32) v_t_isKept v_t_bestPost v_t_mostSeen v_t_taped v_t_from v_t_to v_t_isWrong f_t_found r47 w48 hc49) (cwV 1 hts gX8_boilers_X8_finds rfl rfl rfl kdX8_finds ⟨Nat.le_of_ble_eq_true rfl, Nat.le_of_ble_eq_true rfl⟩) (bb_preVw (va_recv hK hP (ci := 7) (q0 := 0) rfl rfl) (hP.sub (ws' := [((a_t 0), oX8 a_t v_t_isKept v_t_bestPost v_t_mostSeen v_t_taped v_t_from v_t_to v_t_isWrong), ((a_t 5), .inl (cy 0, 7, .inl f_t_found))]) [0, 1] rfl) hK (hD.sub (ws' := [((a_t 0), oX8 a_t v_t_isKept v_t_bestPost v_t_mostSeen v_t_taped v_t_from v_t_to v_t_isWrong), ((a_t 5), .inl (cy 0, 7, .inl f_t_found))]) [0, 1] (by decide) rfl)) rfl rfl hl.1 rfl (lv_room (Nat.le_of_ble_eq_true rfl)) dX8_boilers_26 ⟨Nat.zero_le _, Nat.zero_le _⟩) hP hD hS hA [0, 1] [2] rfl rfl (by decide) (by decide) (fun H locs hP hD hS => ?_)
      have hP : va_P (dC, dI) vwCl [((a_t 11), .inl (cy 1, 41, .inr (.inl f_t_rowsBy))), ((a_t 0), oX8 a_t v_t_isKept v_t_bestPost v_t_mostSeen v_t_taped v_t_from v_t_to v_t_isWrong), ((a_t 5), .inl (cy 0, 7, .inl w48))] H := hP
      have hD : va_D A [((a_t 11), .inl (cy 1, 41, .inr (.inl f_t_rowsBy))), ((a_t 0), oX8 a_t v_t_isKept v_t_bestPost v_t_mostSeen v_t_taped v_t_from v_t_to v_t_isWrong), ((a_t 5), .inl (cy 0, 7, .inl w48))] := hD
      refine lv_i2l hx hb dX8_boilers_29 rfl ?_
      obtain ⟨rfl, rfl, rfl⟩ := bb_some3 h
      have hP9 := hP.sub (ws' := [((a_t 0), oX8 a_t v_t_isKept v_t_bestPost v_t_mostSeen v_t_taped v_t_from v_t_to v_t_isWrong), ((a_t 5), .inl (cy 0, 7, .inl w48)), ((a_t 11), .inl (cy 1, 41, .inr (.inl f_t_rowsBy)))]) [1, 2, 0] rfl
      have hD9 := hD.sub (ws' := [((a_t 0), oX8 a_t v_t_isKept v_t_bestPost v_t_mostSeen v_t_taped v_t_from v_t_to v_t_isWrong), ((a_t 5), .inl (cy 0, 7, .inl w48)), ((a_t 11), .inl (cy 1, 41, .inr (.inl f_t_rowsBy)))]) [1, 2, 0] (by decide) rfl
      exact W.lret hx hb hr (fun t ht hW => ⟨⟨_, (), rfl, rfl, by rw [ht]; exact hP9, va_K.moved hW.alike hK, hD9⟩, hS.F ht⟩) hS.2.2 dX8_boilers_30
/-! X8_draw -/
def uX8_draw (f_t_s : Nat → Int32) : Option (Int32 × (Nat → Int32)) :=
  some ((((upd f_t_s (4 : Int32).toNatClampNeg (((f_t_s (4 : Int32).toNatClampNeg) * (1103515245 : Int32)) + (12345 : Int32))) (4 : Int32).toNatClampNeg).toUInt32 >>> ((8 : Int32).toUInt32 &&& Int32.toUInt32 31)).toInt32, upd f_t_s (4 : Int32).toNatClampNeg (((f_t_s (4 : Int32).toNatClampNeg) * (1103515245 : Int32)) + (12345 : Int32)))
theorem kdX8_draw : yX8_draw.cls = RX8 ∧ yX8_draw.cls ≠ "java/lang/invoke/MethodHandle" ∧ yX8_draw.cls ≠ "java/lang/invoke/VarHandle" ∧ (parseMethodDescriptor yX8_draw.desc).map (fun d => d.parameters.length) = some 0 := by decide +kernel
set_option maxHeartbeats 4000000 in
set_option maxRecDepth 100000 in
theorem kX8_draw (l : Launch) (dC : Nat → ClassId) (dI : Nat → Nat → Nat) (cy : Nat → ClassId) (sz : Nat) (a_t : Nat → Nat) (v_t_isKept : Int32) (v_t_bestPost : Int32) (v_t_mostSeen : Int32) (v_t_taped : Int32) (v_t_from : Int32) (v_t_to : Int32) (v_t_isWrong : Int32) (f_t_s : Nat → Int32) (r : Int32) (f_t_s_o : Nat → Int32) (h : uX8_draw f_t_s = some (r, f_t_s_o)) : Met l yX8_draw wsX8_draw ({ frames := 0, cells := 0, slots := 0, locals := 0 }) (va_Pc [.ref (a_t 0)] (fun U => U.heap.size = sz ∧ va_P (dC, dI) vwCl [((a_t 0), oX8 a_t v_t_isKept v_t_bestPost v_t_mostSeen v_t_taped v_t_from v_t_to v_t_isWrong), ((a_t 1), .inl (cy 0, 155, .inl f_t_s))] U.heap ∧ va_K (dC, dI) vwCl (tyX cy) U ∧ va_D (fun _ => True) [((a_t 0), oX8 a_t v_t_isKept v_t_bestPost v_t_mostSeen v_t_taped v_t_from v_t_to v_t_isWrong), ((a_t 1), .inl (cy 0, 155, .inl f_t_s))])) (va_Qi (fun (r2 : Int32) (_ : Unit) => r = r2) (fun _ t => va_P (dC, dI) vwCl [((a_t 0), oX8 a_t v_t_isKept v_t_bestPost v_t_mostSeen v_t_taped v_t_from v_t_to v_t_isWrong), ((a_t 1), .inl (cy 0, 155, .inl f_t_s_o))] t.heap ∧ va_K (dC, dI) vwCl (tyX cy) t ∧ va_D (va_A [((a_t 0), oX8 a_t v_t_isKept v_t_bestPost v_t_mostSeen v_t_taped v_t_from v_t_to v_t_isWrong), ((a_t 1), .inl (cy 0, 155, .inl f_t_s))] sz) [((a_t 0), oX8 a_t v_t_isKept v_t_bestPost v_t_mostSeen v_t_taped v_t_from v_t_to v_t_isWrong), ((a_t 1), .inl (cy 0, 155, .inl f_t_s_o))]) (va_A [((a_t 0), oX8 a_t v_t_isKept v_t_bestPost v_t_mostSeen v_t_taped v_t_from v_t_to v_t_isWrong), ((a_t 1), .inl (cy 0, 155, .inl f_t_s))] sz)) 0 0 (va_A [((a_t 0), oX8 a_t v_t_isKept v_t_bestPost v_t_mostSeen v_t_taped v_t_from v_t_to v_t_isWrong), ((a_t 1), .inl (cy 0, 155, .inl f_t_s))] sz) := by
  refine Met.ofW (cc := cX8_draw) (maxL := 1) (ret := (some .int)) (by decide) rfl ?_
  intro p e s m args below meth c s₁ B hml hv
  obtain ⟨rfl, hsz, hP, hK, hD0⟩ := hv
  have hx := B.exec
  have hb := B.bytes
  have hr := B.returns
  have hts := atoms_spec (ws := wsX8_draw) B.pre
  have hown : s.vm.findClass RX8 = some m.cls := findClass_of_methodNamed B.named
  have hlocks := B.notSynchronized
  have iwX8 : ∀ w ∈ wsX80, w ∈ wsX8_draw := fun w h9 => List.mem_cons_of_mem _ (List.mem_append_right _ (h9))
  have lk1 := hts (Cond.fieldLink RX8 9 "BathBorderModel" "s" "[I") (List.mem_of_getElem? (i := 1) rfl)
  have lk2 := hts (Cond.constant RX8 259 (1103515245)) (List.mem_of_getElem? (i := 2) rfl)
  subst hsz
  have hD := hD0.self (sz := s.heap.size)
  generalize hAe : va_A [((a_t 0), oX8 a_t v_t_isKept v_t_bestPost v_t_mostSeen v_t_taped v_t_from v_t_to v_t_isWrong), ((a_t 1), .inl (cy 0, 155, .inl f_t_s))] s.heap.size = A at hD ⊢
  have hA : ∀ q : Nat, s.heap.size ≤ q → A q := fun q h => by rw [← hAe]; exact Or.inr h
  have hS : va_S A s.heap s.heap [] := va_S.rf
  have hP : va_P (dC, dI) vwCl [((a_t 0), oX8 a_t v_t_isKept v_t_bestPost v_t_mostSeen v_t_taped v_t_from v_t_to v_t_isWrong), ((a_t 1), .inl (cy 0, 155, .inl f_t_s))] s.heap := hP
  have hl := lv_entry ([.ref (a_t 0)]) (n := 1) (Nat.le_of_ble_eq_true rfl)
  rw [lg_entry_eq]
  generalize (lg_sl ([.ref (a_t 0)]) ++ List.replicate (1 - (lg_sl ([.ref (a_t 0)])).length) Slot.unset).toArray = ls at hl ⊢
  have hl : lv_has ls 1 [(0, .ref (a_t 0))] := hl
  unfold uX8_draw at h
  refine bb_cap (fun WW toW ofW => ?_)
  refine lv_aload_n hx hb dX8_draw_0 rfl (lv_at hl 0 rfl) ?_
  refine va_get (D := (dC, dI)) (ci := 7) (v := .ref (a_t 1)) (C := RX8) (T := TX8) (N := 20) hx hb hts iwX8 hown hK hP 0 rfl rfl 0 (by decide) lk1 (fun _ h9 => h9) rfl dX8_draw_1 ?_
  refine lv_iconst (v := (4 : Int32)) hx hb dX8_draw_4 (by decide) ?_
  refine lv_aload_n hx hb dX8_draw_5 rfl (lv_at hl 0 rfl) ?_
  refine va_get (D := (dC, dI)) (ci := 7) (v := .ref (a_t 1)) (C := RX8) (T := TX8) (N := 20) hx hb hts iwX8 hown hK hP 0 rfl rfl 0 (by decide) lk1 (fun _ h9 => h9) rfl dX8_draw_6 ?_
  refine lv_iconst (v := (4 : Int32)) hx hb dX8_draw_9 (by decide) ?_
  refine va_iald hx hb hK hP 1 0 rfl rfl (bb_in (by decide)) dX8_draw_10 ?_
  refine lv_ldcw (v := (1103515245 : Int32)) hx hb hown lk2 dX8_draw_11 ?_
  refine lv_imul hx hb dX8_draw_14 ?_
  refine lv_sipush (v := (12345 : Int32)) hx hb dX8_draw_15 (by decide) ?_
  refine lv_iadd hx hb dX8_draw_18 ?_
  refine va_iast hx hb hK hP hD hS 1 0 rfl rfl (bb_in (by decide)) dX8_draw_19 (fun H locs hP hD hS => ?_)
  have hP : va_P (dC, dI) vwCl [((a_t 0), oX8 a_t v_t_isKept v_t_bestPost v_t_mostSeen v_t_taped v_t_from v_t_to v_t_isWrong), ((a_t 1), .inl (cy 0, 155, .inl (upd f_t_s (4 : Int32).toNatClampNeg (((f_t_s (4 : Int32).toNatClampNeg) * (1103515245 : Int32)) + (12345 : Int32)))))] H := hP
  have hD : va_D A [((a_t 0), oX8 a_t v_t_isKept v_t_bestPost v_t_mostSeen v_t_taped v_t_from v_t_to v_t_isWrong), ((a_t 1), .inl (cy 0, 155, .inl (upd f_t_s (4 : Int32).toNatClampNeg (((f_t_s (4 : Int32).toNatClampNeg) * (1103515245 : Int32)) + (12345 : Int32)))))] := hD
  refine lv_aload_n hx hb dX8_draw_20 rfl (lv_at hl 0 rfl) ?_
  refine va_get (D := (dC, dI)) (ci := 7) (v := .ref (a_t 1)) (C := RX8) (T := TX8) (N := 20) hx hb hts iwX8 hown hK hP 0 rfl rfl 0 (by decide) lk1 (fun _ h9 => h9) rfl dX8_draw_21 ?_
  refine lv_iconst (v := (4 : Int32)) hx hb dX8_draw_24 (by decide) ?_
  refine va_iald hx hb hK hP 1 0 rfl rfl (bb_in (by decide)) dX8_draw_25 ?_
  refine lv_bipush (v := (8 : Int32)) hx hb dX8_draw_26 (by decide) ?_
  refine lv_iushr hx hb dX8_draw_28 rfl ?_
  obtain ⟨rfl, rfl⟩ := bb_some2 h
  have hP9 := hP.sub (ws' := [((a_t 0), oX8 a_t v_t_isKept v_t_bestPost v_t_mostSeen v_t_taped v_t_from v_t_to v_t_isWrong), ((a_t 1), .inl (cy 0, 155, .inl (upd f_t_s (4 : Int32).toNatClampNeg (((f_t_s (4 : Int32).toNatClampNeg) * (1103515245 : Int32)) + (12345 : Int32)))))]) [0, 1] rfl
  have hD9 := hD.sub (ws' := [((a_t 0), oX8 a_t v_t_isKept v_t_bestPost v_t_mostSeen v_t_taped v_t_from v_t_to v_t_isWrong), ((a_t 1), .inl (cy 0, 155, .inl (upd f_t_s (4 : Int32).toNatClampNeg (((f_t_s (4 : Int32).toNatClampNeg) * (1103515245 : Int32)) + (12345 : Int32)))))]) [0, 1] (by decide) rfl
  exact W.iret hx hb hr (fun t ht hW => ⟨⟨_, (), rfl, rfl, by rw [ht]; exact hP9, va_K.moved hW.alike hK, hD9⟩, hS.F ht⟩) hS.2.2 dX8_draw_29
/-! X8_steams -/
def uX8_steams_s86 (nn : Nat) (f_t_s_30 : Nat → Int32) (k_120 : Int32 → Option (Int32 × (Nat → Int32) × (Nat → Int32))) (rec31 : Int32 → Int32 → Option (Int32 × (Nat → Int32) × (Nat → Int32))) (x2_25 : Int32) (x5_26 : Int32) : Option (Int32 × (Nat → Int32) × (Nat → Int32)) :=
  (if (f_t_s_30 (1 : Int32).toNatClampNeg) ≤ x5_26 then k_120 x2_25 else bb_b1 (uX8_isCaught nn x5_26 f_t_s_30) (fun (r35 : Int32) => bb_cut (fun (z39 : Int32) => rec31 (x2_25 + z39) (x5_26 + (1 : Int32))) (fun k40 => (if r35 = 0 then k40 (0 : Int32) else k40 (1 : Int32)))))
def uX8_steams_s41 (nn : Nat) (x1_10 : Int32) (f_t_found_11 : Nat → Int32) (rec12 : Int32 → Int32 → (Nat → Int32) → Option (Int32 × (Nat → Int32) × (Nat → Int32))) (x2_7 : Int32) (x3_8 : Int32) (f_t_s_9 : Nat → Int32) : Option (Int32 × (Nat → Int32) × (Nat → Int32)) :=
  (if x1_10 ≤ x3_8 then some (x2_7, f_t_found_11, f_t_s_9) else bb_b2 (uX8_draw f_t_s_9) (fun (r16 : Int32) (w17 : Nat → Int32) => bb_ix ((9 : Int32) + (r16 - r16 / (48 : Int32) * (48 : Int32))) 155 (bb_ix ((9 : Int32) + (r16 - r16 / (48 : Int32) * (48 : Int32))) 155 (bb_b1 (uX8_aMinute nn (upd w17 ((9 : Int32) + (r16 - r16 / (48 : Int32) * (48 : Int32))).toNatClampNeg (if ((w17 ((9 : Int32) + (r16 - r16 / (48 : Int32) * (48 : Int32))).toNatClampNeg) + (1 : Int32)) < (9 : Int32) then ((w17 ((9 : Int32) + (r16 - r16 / (48 : Int32) * (48 : Int32))).toNatClampNeg) + (1 : Int32)) else (9 : Int32)))) (fun (w21 : Nat → Int32) => bb_cut (fun (x2_23 : Int32) => rec12 x2_23 (x3_8 + (1 : Int32)) w21) (fun k24 => bb_loop2 (uX8_steams_s86 nn w21 k24) nn x2_7 (0 : Int32)))))))
def uX8_steams (nn : Nat) (p1 : Int32) (f_t_found : Nat → Int32) (f_t_s : Nat → Int32) : Option (Int32 × (Nat → Int32) × (Nat → Int32)) :=
  bb_b1 (uX8_in p1.toInt64 (1 : Int64) (20 : Int64)) (fun (r1 : Int32) => (if r1 = 0 then bb_b2 (uX8_finds (0 : Int32) f_t_found) (fun (r45 : Int32) (w46 : Nat → Int32) => some (r45, w46, f_t_s)) else (if ((f_t_s (0 : Int32).toNatClampNeg) + p1) ≤ (99999 : Int32) then bb_loop3 (uX8_steams_s41 nn p1 f_t_found) nn (0 : Int32) (0 : Int32) f_t_s else bb_b2 (uX8_finds (4 : Int32) f_t_found) (fun (r42 : Int32) (w43 : Nat → Int32) => some (r42, w43, f_t_s)))))
theorem kdX8_steams : yX8_steams.cls = RX8 ∧ yX8_steams.cls ≠ "java/lang/invoke/MethodHandle" ∧ yX8_steams.cls ≠ "java/lang/invoke/VarHandle" ∧ (parseMethodDescriptor yX8_steams.desc).map (fun d => d.parameters.length) = some 1 := by decide +kernel
set_option maxHeartbeats 4000000 in
set_option maxRecDepth 100000 in
theorem kX8_steams (l : Launch) (dC : Nat → ClassId) (dI : Nat → Nat → Nat) (cy : Nat → ClassId) (sz : Nat) (a_t : Nat → Nat) (p1 : Int32) (v_t_isKept : Int32) (v_t_bestPost : Int32) (v_t_mostSeen : Int32) (v_t_taped : Int32) (v_t_from : Int32) (v_t_to : Int32) (v_t_isWrong : Int32) (f_t_found : Nat → Int32) (f_t_s : Nat → Int32) (nn : Nat) (r : Int32) (f_t_found_o : Nat → Int32) (f_t_s_o : Nat → Int32) (h : uX8_steams nn p1 f_t_found f_t_s = some (r, f_t_found_o, f_t_s_o)) : Met l yX8_steams wsX8_steams ({ frames := 10, cells := 0, slots := 0, locals := 221 }) (va_Pc [.ref (a_t 0), .int p1] (fun U => U.heap.size = sz ∧ va_P (dC, dI) vwCl [((a_t 0), oX8 a_t v_t_isKept v_t_bestPost v_t_mostSeen v_t_taped v_t_from v_t_to v_t_isWrong), ((a_t 5), .inl (cy 0, 7, .inl f_t_found)), ((a_t 1), .inl (cy 0, 155, .inl f_t_s))] U.heap ∧ va_K (dC, dI) vwCl (tyX cy) U ∧ va_D (fun _ => True) [((a_t 0), oX8 a_t v_t_isKept v_t_bestPost v_t_mostSeen v_t_taped v_t_from v_t_to v_t_isWrong), ((a_t 5), .inl (cy 0, 7, .inl f_t_found)), ((a_t 1), .inl (cy 0, 155, .inl f_t_s))])) (va_Qi (fun (r2 : Int32) (_ : Unit) => r = r2) (fun _ t => va_P (dC, dI) vwCl [((a_t 0), oX8 a_t v_t_isKept v_t_bestPost v_t_mostSeen v_t_taped v_t_from v_t_to v_t_isWrong), ((a_t 5), .inl (cy 0, 7, .inl f_t_found_o)), ((a_t 1), .inl (cy 0, 155, .inl f_t_s_o))] t.heap ∧ va_K (dC, dI) vwCl (tyX cy) t ∧ va_D (va_A [((a_t 0), oX8 a_t v_t_isKept v_t_bestPost v_t_mostSeen v_t_taped v_t_from v_t_to v_t_isWrong), ((a_t 5), .inl (cy 0, 7, .inl f_t_found)), ((a_t 1), .inl (cy 0, 155, .inl f_t_s))] sz) [((a_t 0), oX8 a_t v_t_isKept v_t_bestPost v_t_mostSeen v_t_taped v_t_from v_t_to v_t_isWrong), ((a_t 5), .inl (cy 0, 7, .inl f_t_found_o)), ((a_t 1), .inl (cy 0, 155, .inl f_t_s_o))]) (va_A [((a_t 0), oX8 a_t v_t_isKept v_t_bestPost v_t_mostSeen v_t_taped v_t_from v_t_to v_t_isWrong), ((a_t 5), .inl (cy 0, 7, .inl f_t_found)), ((a_t 1), .inl (cy 0, 155, .inl f_t_s))] sz)) 0 0 (va_A [((a_t 0), oX8 a_t v_t_isKept v_t_bestPost v_t_mostSeen v_t_taped v_t_from v_t_to v_t_isWrong), ((a_t 5), .inl (cy 0, 7, .inl f_t_found)), ((a_t 1), .inl (cy 0, 155, .inl f_t_s))] sz) := by
  refine Met.ofW (cc := cX8_steams) (maxL := 6) (ret := (some .int)) (by decide) rfl ?_
  intro p e s m args below meth c s₁ B hml hv
  obtain ⟨rfl, hsz, hP, hK, hD0⟩ := hv
  have hx := B.exec
  have hb := B.bytes
  have hr := B.returns
  have hts := atoms_spec (ws := wsX8_steams) B.pre
  have hown : s.vm.findClass RX8 = some m.cls := findClass_of_methodNamed B.named
  have hlocks := B.notSynchronized
  have iwX8 : ∀ w ∈ wsX80, w ∈ wsX8_steams := fun w h9 => List.mem_cons_of_mem _ (List.mem_append_right _ (h9))
  have lk1 := hts (Cond.constantLong RX8 260 (20)) (List.mem_of_getElem? (i := 1) rfl)
  have lk2 := hts (Cond.fieldLink RX8 9 "BathBorderModel" "s" "[I") (List.mem_of_getElem? (i := 2) rfl)
  have lk3 := hts (Cond.constant RX8 174 (99999)) (List.mem_of_getElem? (i := 3) rfl)
  have lk4 := hts (Cond.methodLink RX8 171 Lib.Math.min.name) (List.mem_of_getElem? (i := 4) rfl)
  have lk5 := hts (Cond.static Lib.Math.min.name) (List.mem_of_getElem? (i := 5) rfl)
  have lk6 := hts (Cond.initialized "java/lang/Math") (List.mem_of_getElem? (i := 6) rfl)
  have lk7 := hts (Cond.code Lib.Math.min.name Lib.Math.min.code 2 (some .int)) (List.mem_of_getElem? (i := 7) rfl)
  subst hsz
  have hD := hD0.self (sz := s.heap.size)
  generalize hAe : va_A [((a_t 0), oX8 a_t v_t_isKept v_t_bestPost v_t_mostSeen v_t_taped v_t_from v_t_to v_t_isWrong), ((a_t 5), .inl (cy 0, 7, .inl f_t_found)), ((a_t 1), .inl (cy 0, 155, .inl f_t_s))] s.heap.size = A at hD ⊢
  have hA : ∀ q : Nat, s.heap.size ≤ q → A q := fun q h => by rw [← hAe]; exact Or.inr h
  have hS : va_S A s.heap s.heap [] := va_S.rf
  have hP : va_P (dC, dI) vwCl [((a_t 0), oX8 a_t v_t_isKept v_t_bestPost v_t_mostSeen v_t_taped v_t_from v_t_to v_t_isWrong), ((a_t 5), .inl (cy 0, 7, .inl f_t_found)), ((a_t 1), .inl (cy 0, 155, .inl f_t_s))] s.heap := hP
  have hl := lv_entry ([.ref (a_t 0), .int p1]) (n := 6) (Nat.le_of_ble_eq_true rfl)
  rw [lg_entry_eq]
  generalize (lg_sl ([.ref (a_t 0), .int p1]) ++ List.replicate (6 - (lg_sl ([.ref (a_t 0), .int p1])).length) Slot.unset).toArray = ls at hl ⊢
  have hl : lv_has ls 6 [(0, .ref (a_t 0)), (1, .int p1)] := hl
  unfold uX8_steams at h
  refine bb_cap (fun WW toW ofW => ?_)
  refine lv_iload_n hx hb dX8_steams_0 rfl (lv_at hl 1 rfl) ?_
  refine lv_i2l hx hb dX8_steams_1 rfl ?_
  refine lv_lconst (v := (1 : Int64)) hx hb dX8_steams_2 (by decide) ?_
  refine lv_ldc2 (v := (20 : Int64)) hx hb hown lk1 dX8_steams_3 ?_
  obtain ⟨r1, hc2, h⟩ := bb_b1_o h
  refine vp_callSi (W.runS (As := [.long p1.toInt64, .long (1 : Int64), .long (20 : Int64)]) (rest := []) ⟨hx, hb, hml, hown, hts⟩ (kX8_in l dC dI cy p1.toInt64 (1 : Int64) (20 : Int64) r1 hc2) (va_cwS 3 hts gX8_steams_X8_in rfl rfl rfl kdX8_in ⟨Nat.le_of_ble_eq_true rfl, Nat.le_of_ble_eq_true rfl⟩) (bb_preS (hP.sub (ws' := []) [] rfl) hK) rfl rfl hl.1 rfl (lv_room (Nat.le_of_ble_eq_true rfl)) dX8_steams_6 ⟨Nat.zero_le _, Nat.zero_le _⟩) (fun t3 et3 => ?_)
  obtain ⟨rfl, hz4⟩ := et3
  refine lv_if_ne (tgt := 18) hx hb dX8_steams_9 (by decide) (fun c5 => ?_) (fun c5 => ?_)
  · replace h := bb_ifn c5 h
    refine lv_aload_n hx hb dX8_steams_18 rfl (lv_at hl 0 rfl) ?_
    refine va_get (D := (dC, dI)) (ci := 7) (v := .ref (a_t 1)) (C := RX8) (T := TX8) (N := 20) hx hb hts iwX8 hown hK hP 0 rfl rfl 0 (by decide) lk2 (fun _ h9 => h9) rfl dX8_steams_19 ?_
    refine lv_iconst (v := (0 : Int32)) hx hb dX8_steams_22 (by decide) ?_
    refine va_iald hx hb hK hP 2 0 rfl rfl (bb_in (by decide)) dX8_steams_23 ?_
    refine lv_iload_n hx hb dX8_steams_24 rfl (lv_at hl 1 rfl) ?_
    refine lv_iadd hx hb dX8_steams_25 ?_
    refine lv_ldc (v := (99999 : Int32)) hx hb hown lk3 dX8_steams_26 ?_
    refine lv_icmp_le (tgt := 37) hx hb dX8_steams_28 (by decide) (fun c6 => ?_) (fun c6 => ?_)
    · replace h := bb_ifp c6 h
      refine lv_iconst (v := (0 : Int32)) hx hb dX8_steams_37 (by decide) ?_
      refine lv_istore_n (lv' := [(2, .int (0 : Int32)), (0, .ref (a_t 0)), (1, .int p1)]) hx hb dX8_steams_38 rfl hl (by decide) rfl (fun ls hl => ?_)
      refine lv_iconst (v := (0 : Int32)) hx hb dX8_steams_39 (by decide) ?_
      refine lv_istore_n (lv' := [(3, .int (0 : Int32)), (2, .int (0 : Int32)), (0, .ref (a_t 0)), (1, .int p1)]) hx hb dX8_steams_40 rfl hl (by decide) rfl (fun ls hl => ?_)
      have L13 : ∀ (n : Nat) (x2_7 : Int32) (x3_8 : Int32) (f_t_s_9 : Nat → Int32) (H : Heap) (locs : List Loc) (ls : Array Slot), bb_loop3 (uX8_steams_s41 nn p1 f_t_found) n x2_7 x3_8 f_t_s_9 = some (r, f_t_found_o, f_t_s_o) → va_P (dC, dI) vwCl [((a_t 0), oX8 a_t v_t_isKept v_t_bestPost v_t_mostSeen v_t_taped v_t_from v_t_to v_t_isWrong), ((a_t 5), .inl (cy 0, 7, .inl f_t_found)), ((a_t 1), .inl (cy 0, 155, .inl f_t_s_9))] H → va_D A [((a_t 0), oX8 a_t v_t_isKept v_t_bestPost v_t_mostSeen v_t_taped v_t_from v_t_to v_t_isWrong), ((a_t 5), .inl (cy 0, 7, .inl f_t_found)), ((a_t 1), .inl (cy 0, 155, .inl f_t_s_9))] → va_S A s.heap H locs → lv_has ls 6 [(0, .ref (a_t 0)), (1, .int p1), (2, .int x2_7), (3, .int x3_8)] → WW H locs (F0 m 41 ls []) := by
        intro n
        induction n with
        | zero => intro x2_7 x3_8 f_t_s_9 H locs ls h; exact (bb_no h).elim
        | succ n ih14 =>
          intro x2_7 x3_8 f_t_s_9 H locs ls h hP hD hS hl
          refine ofW _ _ _ ?_
          obtain ⟨rec12, erec12, h⟩ := bb_loop3_o h
          unfold uX8_steams_s41 at h
          refine lv_iload_n hx hb dX8_steams_41 rfl (lv_at hl 3 rfl) ?_
          refine lv_iload_n hx hb dX8_steams_42 rfl (lv_at hl 1 rfl) ?_
          refine lv_icmp_ge (tgt := 126) hx hb dX8_steams_43 (by decide) (fun c15 => ?_) (fun c15 => ?_)
          · replace h := bb_ifp c15 h
            refine lv_iload_n hx hb dX8_steams_126 rfl (lv_at hl 2 rfl) ?_
            obtain ⟨rfl, rfl, rfl⟩ := bb_some3 h
            have hP9 := hP.sub (ws' := [((a_t 0), oX8 a_t v_t_isKept v_t_bestPost v_t_mostSeen v_t_taped v_t_from v_t_to v_t_isWrong), ((a_t 5), .inl (cy 0, 7, .inl f_t_found)), ((a_t 1), .inl (cy 0, 155, .inl f_t_s_9))]) [0, 1, 2] rfl
            have hD9 := hD.sub (ws' := [((a_t 0), oX8 a_t v_t_isKept v_t_bestPost v_t_mostSeen v_t_taped v_t_from v_t_to v_t_isWrong), ((a_t 5), .inl (cy 0, 7, .inl f_t_found)), ((a_t 1), .inl (cy 0, 155, .inl f_t_s_9))]) [0, 1, 2] (by decide) rfl
            exact W.iret hx hb hr (fun t ht hW => ⟨⟨_, (), rfl, rfl, by rw [ht]; exact hP9, va_K.moved hW.alike hK, hD9⟩, hS.F ht⟩) hS.2.2 dX8_steams_127
          · replace h := bb_ifn c15 h
            refine lv_bipush (v := (9 : Int32)) hx hb dX8_steams_46 (by decide) ?_
            refine lv_aload_n hx hb dX8_steams_48 rfl (lv_at hl 0 rfl) ?_
            obtain ⟨r16, w17, hc18, h⟩ := bb_b2_o h
            refine bb_cwi (wr := [((a_t 5), .inl (cy 0, 7, .inl f_t_found))]) (w1 := [((a_t 0), oX8 a_t v_t_isKept v_t_bestPost v_t_mostSeen v_t_taped v_t_from v_t_to v_t_isWrong), ((a_t 1), .inl (cy 0, 155, .inl w17))]) (va_runV (As := []) (rest := [.int (9 : Int32)]) ⟨hx, hb, hml, hown, hts⟩ (kX8_draw l dC dI cy H.size a_t v_t_isKept v_t_bestPost v_t_mostSeen v_t_taped v_t_from v_t_to v_t_isWrong f_t_s_9 r16 w17 hc18) (cwV 0 hts gX8_steams_X8_draw rfl rfl rfl kdX8_draw ⟨Nat.le_of_ble_eq_true rfl, Nat.le_of_ble_eq_true rfl⟩) (bb_preVw (va_recv hK hP (ci := 7) (q0 := 0) rfl rfl) (hP.sub (ws' := [((a_t 0), oX8 a_t v_t_isKept v_t_bestPost v_t_mostSeen v_t_taped v_t_from v_t_to v_t_isWrong), ((a_t 1), .inl (cy 0, 155, .inl f_t_s_9))]) [0, 2] rfl) hK (hD.sub (ws' := [((a_t 0), oX8 a_t v_t_isKept v_t_bestPost v_t_mostSeen v_t_taped v_t_from v_t_to v_t_isWrong), ((a_t 1), .inl (cy 0, 155, .inl f_t_s_9))]) [0, 2] (by decide) rfl)) rfl rfl hl.1 rfl (lv_room (Nat.le_of_ble_eq_true rfl)) dX8_steams_49 ⟨Nat.zero_le _, Nat.zero_le _⟩) hP hD hS hA [0, 2] [1] rfl rfl (by decide) (by decide) (fun H locs hP hD hS => ?_)
            have hP : va_P (dC, dI) vwCl [((a_t 5), .inl (cy 0, 7, .inl f_t_found)), ((a_t 0), oX8 a_t v_t_isKept v_t_bestPost v_t_mostSeen v_t_taped v_t_from v_t_to v_t_isWrong), ((a_t 1), .inl (cy 0, 155, .inl w17))] H := hP
            have hD : va_D A [((a_t 5), .inl (cy 0, 7, .inl f_t_found)), ((a_t 0), oX8 a_t v_t_isKept v_t_bestPost v_t_mostSeen v_t_taped v_t_from v_t_to v_t_isWrong), ((a_t 1), .inl (cy 0, 155, .inl w17))] := hD
            refine lv_bipush (v := (48 : Int32)) hx hb dX8_steams_52 (by decide) ?_
            refine lv_irem hx hb dX8_steams_54 (by decide) ?_
            refine lv_iadd hx hb dX8_steams_55 ?_
            refine lv_istore (lv' := [(4, .int ((9 : Int32) + (r16 - r16 / (48 : Int32) * (48 : Int32)))), (0, .ref (a_t 0)), (1, .int p1), (2, .int x2_7), (3, .int x3_8)]) hx hb dX8_steams_56 hl (by decide) rfl (fun ls hl => ?_)
            refine lv_aload_n hx hb dX8_steams_58 rfl (lv_at hl 1 rfl) ?_
            refine va_get (D := (dC, dI)) (ci := 7) (v := .ref (a_t 1)) (C := RX8) (T := TX8) (N := 20) hx hb hts iwX8 hown hK hP 1 rfl rfl 0 (by decide) lk2 (fun _ h9 => h9) rfl dX8_steams_59 ?_
            refine lv_iload hx hb dX8_steams_62 (lv_at hl 0 rfl) ?_
            refine lv_bipush (v := (9 : Int32)) hx hb dX8_steams_64 (by decide) ?_
            refine lv_aload_n hx hb dX8_steams_66 rfl (lv_at hl 1 rfl) ?_
            refine va_get (D := (dC, dI)) (ci := 7) (v := .ref (a_t 1)) (C := RX8) (T := TX8) (N := 20) hx hb hts iwX8 hown hK hP 1 rfl rfl 0 (by decide) lk2 (fun _ h9 => h9) rfl dX8_steams_67 ?_
            refine lv_iload hx hb dX8_steams_70 (lv_at hl 0 rfl) ?_
            obtain ⟨hi19, h⟩ := bb_ix_o h
            refine va_iald hx hb hK hP 2 0 rfl rfl hi19 dX8_steams_72 ?_
            refine lv_iconst (v := (1 : Int32)) hx hb dX8_steams_73 (by decide) ?_
            refine lv_iadd hx hb dX8_steams_74 ?_
            refine va_mmin hx hb (hml.trans hl.1.symm) hown lk4 lk5 lk6 lk7 (Nat.le_of_ble_eq_true rfl) (Nat.le_of_ble_eq_true rfl) (Nat.zero_le _) (Nat.zero_le _) dX8_steams_75 ?_
            obtain ⟨hi20, h⟩ := bb_ix_o h
            refine va_iast hx hb hK hP hD hS 2 0 rfl rfl hi20 dX8_steams_78 (fun H locs hP hD hS => ?_)
            have hP : va_P (dC, dI) vwCl [((a_t 5), .inl (cy 0, 7, .inl f_t_found)), ((a_t 0), oX8 a_t v_t_isKept v_t_bestPost v_t_mostSeen v_t_taped v_t_from v_t_to v_t_isWrong), ((a_t 1), .inl (cy 0, 155, .inl (upd w17 ((9 : Int32) + (r16 - r16 / (48 : Int32) * (48 : Int32))).toNatClampNeg (if ((w17 ((9 : Int32) + (r16 - r16 / (48 : Int32) * (48 : Int32))).toNatClampNeg) + (1 : Int32)) < (9 : Int32) then ((w17 ((9 : Int32) + (r16 - r16 / (48 : Int32) * (48 : Int32))).toNatClampNeg) + (1 : Int32)) else (9 : Int32)))))] H := hP
            have hD : va_D A [((a_t 5), .inl (cy 0, 7, .inl f_t_found)), ((a_t 0), oX8 a_t v_t_isKept v_t_bestPost v_t_mostSeen v_t_taped v_t_from v_t_to v_t_isWrong), ((a_t 1), .inl (cy 0, 155, .inl (upd w17 ((9 : Int32) + (r16 - r16 / (48 : Int32) * (48 : Int32))).toNatClampNeg (if ((w17 ((9 : Int32) + (r16 - r16 / (48 : Int32) * (48 : Int32))).toNatClampNeg) + (1 : Int32)) < (9 : Int32) then ((w17 ((9 : Int32) + (r16 - r16 / (48 : Int32) * (48 : Int32))).toNatClampNeg) + (1 : Int32)) else (9 : Int32)))))] := hD
            refine lv_aload_n hx hb dX8_steams_79 rfl (lv_at hl 1 rfl) ?_
            obtain ⟨w21, hc22, h⟩ := bb_b1_o h
            refine bb_cwv (wr := [((a_t 5), .inl (cy 0, 7, .inl f_t_found))]) (w1 := [((a_t 0), oX8 a_t v_t_isKept v_t_bestPost v_t_mostSeen v_t_taped v_t_from v_t_to v_t_isWrong), ((a_t 1), .inl (cy 0, 155, .inl w21))]) (va_runV (As := []) (rest := []) ⟨hx, hb, hml, hown, hts⟩ (kX8_aMinute l dC dI cy H.size a_t v_t_isKept v_t_bestPost v_t_mostSeen v_t_taped v_t_from v_t_to v_t_isWrong (upd w17 ((9 : Int32) + (r16 - r16 / (48 : Int32) * (48 : Int32))).toNatClampNeg (if ((w17 ((9 : Int32) + (r16 - r16 / (48 : Int32) * (48 : Int32))).toNatClampNeg) + (1 : Int32)) < (9 : Int32) then ((w17 ((9 : Int32) + (r16 - r16 / (48 : Int32) * (48 : Int32))).toNatClampNeg) + (1 : Int32)) else (9 : Int32))) nn w21 hc22) (cwV 0 hts gX8_steams_X8_aMinute rfl rfl rfl kdX8_aMinute ⟨Nat.le_of_ble_eq_true rfl, Nat.le_of_ble_eq_true rfl⟩) (bb_preVw (va_recv hK hP (ci := 7) (q0 := 1) rfl rfl) (hP.sub (ws' := [((a_t 0), oX8 a_t v_t_isKept v_t_bestPost v_t_mostSeen v_t_taped v_t_from v_t_to v_t_isWrong), ((a_t 1), .inl (cy 0, 155, .inl (upd w17 ((9 : Int32) + (r16 - r16 / (48 : Int32) * (48 : Int32))).toNatClampNeg (if ((w17 ((9 : Int32) + (r16 - r16 / (48 : Int32) * (48 : Int32))).toNatClampNeg) + (1 : Int32)) < (9 : Int32) then ((w17 ((9 : Int32) + (r16 - r16 / (48 : Int32) * (48 : Int32))).toNatClampNeg) + (1 : Int32)) else (9 : Int32)))))]) [1, 2] rfl) hK (hD.sub (ws' := [((a_t 0), oX8 a_t v_t_isKept v_t_bestPost v_t_mostSeen v_t_taped v_t_from v_t_to v_t_isWrong), ((a_t 1), .inl (cy 0, 155, .inl (upd w17 ((9 : Int32) + (r16 - r16 / (48 : Int32) * (48 : Int32))).toNatClampNeg (if ((w17 ((9 : Int32) + (r16 - r16 / (48 : Int32) * (48 : Int32))).toNatClampNeg) + (1 : Int32)) < (9 : Int32) then ((w17 ((9 : Int32) + (r16 - r16 / (48 : Int32) * (48 : Int32))).toNatClampNeg) + (1 : Int32)) else (9 : Int32)))))]) [1, 2] (by decide) rfl)) rfl rfl hl.1 rfl (lv_room (Nat.le_of_ble_eq_true rfl)) dX8_steams_80 ⟨Nat.zero_le _, Nat.zero_le _⟩) hP hD hS hA [1, 2] [0] rfl rfl (by decide) (by decide) (fun H locs hP hD hS => ?_)
            have hP : va_P (dC, dI) vwCl [((a_t 5), .inl (cy 0, 7, .inl f_t_found)), ((a_t 0), oX8 a_t v_t_isKept v_t_bestPost v_t_mostSeen v_t_taped v_t_from v_t_to v_t_isWrong), ((a_t 1), .inl (cy 0, 155, .inl w21))] H := hP
            have hD : va_D A [((a_t 5), .inl (cy 0, 7, .inl f_t_found)), ((a_t 0), oX8 a_t v_t_isKept v_t_bestPost v_t_mostSeen v_t_taped v_t_from v_t_to v_t_isWrong), ((a_t 1), .inl (cy 0, 155, .inl w21))] := hD
            refine lv_iconst (v := (0 : Int32)) hx hb dX8_steams_83 (by decide) ?_
            refine lv_istore (lv' := [(5, .int (0 : Int32)), (4, .int ((9 : Int32) + (r16 - r16 / (48 : Int32) * (48 : Int32)))), (0, .ref (a_t 0)), (1, .int p1), (2, .int x2_7), (3, .int x3_8)]) hx hb dX8_steams_84 hl (by decide) rfl (fun ls hl => ?_)
            obtain ⟨k24, ek24, h⟩ := bb_cut_o h
            have Jk24 : ∀ (x2_23 : Int32) (H : Heap) (locs : List Loc) (ls : Array Slot), k24 x2_23 = some (r, f_t_found_o, f_t_s_o) → va_P (dC, dI) vwCl [((a_t 0), oX8 a_t v_t_isKept v_t_bestPost v_t_mostSeen v_t_taped v_t_from v_t_to v_t_isWrong), ((a_t 5), .inl (cy 0, 7, .inl f_t_found)), ((a_t 1), .inl (cy 0, 155, .inl w21))] H → va_D A [((a_t 0), oX8 a_t v_t_isKept v_t_bestPost v_t_mostSeen v_t_taped v_t_from v_t_to v_t_isWrong), ((a_t 5), .inl (cy 0, 7, .inl f_t_found)), ((a_t 1), .inl (cy 0, 155, .inl w21))] → va_S A s.heap H locs → lv_has ls 6 [(0, .ref (a_t 0)), (1, .int p1), (2, .int x2_23), (3, .int x3_8)] → WW H locs (F0 m 120 ls []) := by
              intro x2_23 H locs ls h hP hD hS hl
              refine ofW _ _ _ ?_
              subst ek24
              refine lv_iinc (v := x3_8 + (1 : Int32)) (lv' := [(3, .int (x3_8 + (1 : Int32))), (0, .ref (a_t 0)), (1, .int p1), (2, .int x2_23)]) hx hb dX8_steams_120 hl (k := 3) rfl rfl (by decide) rfl (fun ls hl => ?_)
              refine lv_goto (tgt := 41) hx hb dX8_steams_123 (by decide) ?_
              rw [erec12] at h
              exact toW _ _ _ (ih14 x2_23 (x3_8 + (1 : Int32)) w21 _ _ _ h hP hD hS (lv_sub hl [1, 2, 3, 0] rfl))
            have L32 : ∀ (n : Nat) (x2_25 : Int32) (x5_26 : Int32) (H : Heap) (locs : List Loc) (ls : Array Slot), bb_loop2 (uX8_steams_s86 nn w21 k24) n x2_25 x5_26 = some (r, f_t_found_o, f_t_s_o) → va_P (dC, dI) vwCl [((a_t 0), oX8 a_t v_t_isKept v_t_bestPost v_t_mostSeen v_t_taped v_t_from v_t_to v_t_isWrong), ((a_t 5), .inl (cy 0, 7, .inl f_t_found)), ((a_t 1), .inl (cy 0, 155, .inl w21))] H → va_D A [((a_t 0), oX8 a_t v_t_isKept v_t_bestPost v_t_mostSeen v_t_taped v_t_from v_t_to v_t_isWrong), ((a_t 5), .inl (cy 0, 7, .inl f_t_found)), ((a_t 1), .inl (cy 0, 155, .inl w21))] → va_S A s.heap H locs → lv_has ls 6 [(0, .ref (a_t 0)), (1, .int p1), (2, .int x2_25), (3, .int x3_8), (5, .int x5_26)] → WW H locs (F0 m 86 ls []) := by
              intro n
              induction n with
              | zero => intro x2_25 x5_26 H locs ls h; exact (bb_no h).elim
              | succ n ih33 =>
                intro x2_25 x5_26 H locs ls h hP hD hS hl
                refine ofW _ _ _ ?_
                obtain ⟨rec31, erec31, h⟩ := bb_loop2_o h
                unfold uX8_steams_s86 at h
                refine lv_iload hx hb dX8_steams_86 (lv_at hl 4 rfl) ?_
                refine lv_aload_n hx hb dX8_steams_88 rfl (lv_at hl 0 rfl) ?_
                refine va_get (D := (dC, dI)) (ci := 7) (v := .ref (a_t 1)) (C := RX8) (T := TX8) (N := 20) hx hb hts iwX8 hown hK hP 0 rfl rfl 0 (by decide) lk2 (fun _ h9 => h9) rfl dX8_steams_89 ?_
                refine lv_iconst (v := (1 : Int32)) hx hb dX8_steams_92 (by decide) ?_
                refine va_iald hx hb hK hP 2 0 rfl rfl (bb_in (by decide)) dX8_steams_93 ?_
                refine lv_icmp_ge (tgt := 120) hx hb dX8_steams_94 (by decide) (fun c34 => ?_) (fun c34 => ?_)
                · replace h := bb_ifp c34 h
                  exact toW _ _ _ (Jk24 x2_25 _ _ _ h hP hD hS (lv_sub hl [0, 1, 2, 3] rfl))
                · replace h := bb_ifn c34 h
                  refine lv_iload_n hx hb dX8_steams_97 rfl (lv_at hl 2 rfl) ?_
                  refine lv_aload_n hx hb dX8_steams_98 rfl (lv_at hl 0 rfl) ?_
                  refine lv_iload hx hb dX8_steams_99 (lv_at hl 4 rfl) ?_
                  obtain ⟨r35, hc36, h⟩ := bb_b1_o h
                  refine vp_callSi (W.runV (As := [.int x5_26]) (rest := [.int x2_25]) ⟨hx, hb, hml, hown, hts⟩ (kX8_isCaught l dC dI cy a_t x5_26 v_t_isKept v_t_bestPost v_t_mostSeen v_t_taped v_t_from v_t_to v_t_isWrong w21 nn r35 hc36) (cwV 1 hts gX8_steams_X8_isCaught rfl rfl rfl kdX8_isCaught ⟨Nat.le_of_ble_eq_true rfl, Nat.le_of_ble_eq_true rfl⟩) (bb_preV (va_recv hK hP (ci := 7) (q0 := 0) rfl rfl) (hP.sub (ws' := [((a_t 0), oX8 a_t v_t_isKept v_t_bestPost v_t_mostSeen v_t_taped v_t_from v_t_to v_t_isWrong), ((a_t 1), .inl (cy 0, 155, .inl w21))]) [0, 2] rfl) hK) rfl rfl hl.1 rfl (lv_room (Nat.le_of_ble_eq_true rfl)) dX8_steams_101 ⟨Nat.zero_le _, Nat.zero_le _⟩) (fun t37 et37 => ?_)
                  obtain ⟨rfl, hz38⟩ := et37
                  obtain ⟨k40, ek40, h⟩ := bb_cut_o h
                  have Jk40 : ∀ (z39 : Int32) (H : Heap) (locs : List Loc) (ls : Array Slot), k40 z39 = some (r, f_t_found_o, f_t_s_o) → va_P (dC, dI) vwCl [((a_t 0), oX8 a_t v_t_isKept v_t_bestPost v_t_mostSeen v_t_taped v_t_from v_t_to v_t_isWrong), ((a_t 5), .inl (cy 0, 7, .inl f_t_found)), ((a_t 1), .inl (cy 0, 155, .inl w21))] H → va_D A [((a_t 0), oX8 a_t v_t_isKept v_t_bestPost v_t_mostSeen v_t_taped v_t_from v_t_to v_t_isWrong), ((a_t 5), .inl (cy 0, 7, .inl f_t_found)), ((a_t 1), .inl (cy 0, 155, .inl w21))] → va_S A s.heap H locs → lv_has ls 6 [(0, .ref (a_t 0)), (1, .int p1), (3, .int x3_8), (5, .int x5_26)] → WW H locs (F0 m 112 ls [.int z39, .int x2_25]) := by
                    intro z39 H locs ls h hP hD hS hl
                    refine ofW _ _ _ ?_
                    subst ek40
                    refine lv_iadd hx hb dX8_steams_112 ?_
                    refine lv_istore_n (lv' := [(2, .int (x2_25 + z39)), (0, .ref (a_t 0)), (1, .int p1), (3, .int x3_8), (5, .int x5_26)]) hx hb dX8_steams_113 rfl hl (by decide) rfl (fun ls hl => ?_)
                    refine lv_iinc (v := x5_26 + (1 : Int32)) (lv' := [(5, .int (x5_26 + (1 : Int32))), (2, .int (x2_25 + z39)), (0, .ref (a_t 0)), (1, .int p1), (3, .int x3_8)]) hx hb dX8_steams_114 hl (k := 4) rfl rfl (by decide) rfl (fun ls hl => ?_)
                    refine lv_goto (tgt := 86) hx hb dX8_steams_117 (by decide) ?_
                    rw [erec31] at h
                    exact toW _ _ _ (ih33 (x2_25 + z39) (x5_26 + (1 : Int32)) _ _ _ h hP hD hS (lv_sub hl [2, 3, 1, 4, 0] rfl))
                  refine lv_if_eq (tgt := 111) hx hb dX8_steams_104 (by decide) (fun c41 => ?_) (fun c41 => ?_)
                  · replace h := bb_ifp c41 h
                    refine lv_iconst (v := (0 : Int32)) hx hb dX8_steams_111 (by decide) ?_
                    exact toW _ _ _ (Jk40 (0 : Int32) _ _ _ h hP hD hS (lv_sub hl [0, 1, 3, 4] rfl))
                  · replace h := bb_ifn c41 h
                    refine lv_iconst (v := (1 : Int32)) hx hb dX8_steams_107 (by decide) ?_
                    refine lv_goto (tgt := 112) hx hb dX8_steams_108 (by decide) ?_
                    exact toW _ _ _ (Jk40 (1 : Int32) _ _ _ h hP hD hS (lv_sub hl [0, 1, 3, 4] rfl))
            exact toW _ _ _ (L32 nn x2_7 (0 : Int32) _ _ _ h (hP.sub [1, 0, 2] rfl) (hD.sub [1, 0, 2] (by decide) rfl) hS (lv_sub hl [2, 3, 4, 5, 0] rfl))
      exact toW _ _ _ (L13 nn (0 : Int32) (0 : Int32) f_t_s _ _ _ h hP hD hS (lv_sub hl [2, 3, 1, 0] rfl))
    · replace h := bb_ifn c6 h
      refine lv_aload_n hx hb dX8_steams_31 rfl (lv_at hl 0 rfl) ?_
      refine lv_iconst (v := (4 : Int32)) hx hb dX8_steams_32 (by decide) ?_
      obtain ⟨r42, w43, hc44, h⟩ := bb_b2_o h
      refine bb_cwi (wr := [((a_t 1), .inl (cy 0, 155, .inl f_t_s))]) (w1 := [((a_t 0), oX8 a_t v_t_isKept v_t_bestPost v_t_mostSeen v_t_taped v_t_from v_t_to v_t_isWrong), ((a_t 5), .inl (cy 0, 7, .inl w43))]) (va_runV (As := [.int (4 : Int32)]) (rest := []) ⟨hx, hb, hml, hown, hts⟩ (kX8_finds l dC dI cy s.heap.size a_t (4 : Int32) v_t_isKept v_t_bestPost v_t_mostSeen v_t_taped v_t_from v_t_to v_t_isWrong f_t_found r42 w43 hc44) (cwV 1 hts gX8_steams_X8_finds rfl rfl rfl kdX8_finds ⟨Nat.le_of_ble_eq_true rfl, Nat.le_of_ble_eq_true rfl⟩) (bb_preVw (va_recv hK hP (ci := 7) (q0 := 0) rfl rfl) (hP.sub (ws' := [((a_t 0), oX8 a_t v_t_isKept v_t_bestPost v_t_mostSeen v_t_taped v_t_from v_t_to v_t_isWrong), ((a_t 5), .inl (cy 0, 7, .inl f_t_found))]) [0, 1] rfl) hK (hD.sub (ws' := [((a_t 0), oX8 a_t v_t_isKept v_t_bestPost v_t_mostSeen v_t_taped v_t_from v_t_to v_t_isWrong), ((a_t 5), .inl (cy 0, 7, .inl f_t_found))]) [0, 1] (by decide) rfl)) rfl rfl hl.1 rfl (lv_room (Nat.le_of_ble_eq_true rfl)) dX8_steams_33 ⟨Nat.zero_le _, Nat.zero_le _⟩) hP hD hS hA [0, 1] [2] rfl rfl (by decide) (by decide) (fun H locs hP hD hS => ?_)
      have hP : va_P (dC, dI) vwCl [((a_t 1), .inl (cy 0, 155, .inl f_t_s)), ((a_t 0), oX8 a_t v_t_isKept v_t_bestPost v_t_mostSeen v_t_taped v_t_from v_t_to v_t_isWrong), ((a_t 5), .inl (cy 0, 7, .inl w43))] H := hP
      have hD : va_D A [((a_t 1), .inl (cy 0, 155, .inl f_t_s)), ((a_t 0), oX8 a_t v_t_isKept v_t_bestPost v_t_mostSeen v_t_taped v_t_from v_t_to v_t_isWrong), ((a_t 5), .inl (cy 0, 7, .inl w43))] := hD
      obtain ⟨rfl, rfl, rfl⟩ := bb_some3 h
      have hP9 := hP.sub (ws' := [((a_t 0), oX8 a_t v_t_isKept v_t_bestPost v_t_mostSeen v_t_taped v_t_from v_t_to v_t_isWrong), ((a_t 5), .inl (cy 0, 7, .inl w43)), ((a_t 1), .inl (cy 0, 155, .inl f_t_s))]) [1, 2, 0] rfl
      have hD9 := hD.sub (ws' := [((a_t 0), oX8 a_t v_t_isKept v_t_bestPost v_t_mostSeen v_t_taped v_t_from v_t_to v_t_isWrong), ((a_t 5), .inl (cy 0, 7, .inl w43)), ((a_t 1), .inl (cy 0, 155, .inl f_t_s))]) [1, 2, 0] (by decide) rfl
      exact W.iret hx hb hr (fun t ht hW => ⟨⟨_, (), rfl, rfl, by rw [ht]; exact hP9, va_K.moved hW.alike hK, hD9⟩, hS.F ht⟩) hS.2.2 dX8_steams_36
  · replace h := bb_ifp c5 h
    refine lv_aload_n hx hb dX8_steams_12 rfl (lv_at hl 0 rfl) ?_
    refine lv_iconst (v := (0 : Int32)) hx hb dX8_steams_13 (by decide) ?_
    obtain ⟨r45, w46, hc47, h⟩ := bb_b2_o h
    refine bb_cwi (wr := [((a_t 1), .inl (cy 0, 155, .inl f_t_s))]) (w1 := [((a_t 0), oX8 a_t v_t_isKept v_t_bestPost v_t_mostSeen v_t_taped v_t_from v_t_to v_t_isWrong), ((a_t 5), .inl (cy 0, 7, .inl w46))]) (va_runV (As := [.int (0 : Int32)]) (rest := []) ⟨hx, hb, hml, hown, hts⟩ (kX8_finds l dC dI cy s.heap.size a_t (0 : Int32) v_t_isKept v_t_bestPost v_t_mostSeen v_t_taped v_t_from v_t_to v_t_isWrong f_t_found r45 w46 hc47) (cwV 1 hts gX8_steams_X8_finds rfl rfl rfl kdX8_finds ⟨Nat.le_of_ble_eq_true rfl, Nat.le_of_ble_eq_true rfl⟩) (bb_preVw (va_recv hK hP (ci := 7) (q0 := 0) rfl rfl) (hP.sub (ws' := [((a_t 0), oX8 a_t v_t_isKept v_t_bestPost v_t_mostSeen v_t_taped v_t_from v_t_to v_t_isWrong), ((a_t 5), .inl (cy 0, 7, .inl f_t_found))]) [0, 1] rfl) hK (hD.sub (ws' := [((a_t 0), oX8 a_t v_t_isKept v_t_bestPost v_t_mostSeen v_t_taped v_t_from v_t_to v_t_isWrong), ((a_t 5), .inl (cy 0, 7, .inl f_t_found))]) [0, 1] (by decide) rfl)) rfl rfl hl.1 rfl (lv_room (Nat.le_of_ble_eq_true rfl)) dX8_steams_14 ⟨Nat.zero_le _, Nat.zero_le _⟩) hP hD hS hA [0, 1] [2] rfl rfl (by decide) (by decide) (fun H locs hP hD hS => ?_)
    have hP : va_P (dC, dI) vwCl [((a_t 1), .inl (cy 0, 155, .inl f_t_s)), ((a_t 0), oX8 a_t v_t_isKept v_t_bestPost v_t_mostSeen v_t_taped v_t_from v_t_to v_t_isWrong), ((a_t 5), .inl (cy 0, 7, .inl w46))] H := hP
    have hD : va_D A [((a_t 1), .inl (cy 0, 155, .inl f_t_s)), ((a_t 0), oX8 a_t v_t_isKept v_t_bestPost v_t_mostSeen v_t_taped v_t_from v_t_to v_t_isWrong), ((a_t 5), .inl (cy 0, 7, .inl w46))] := hD
    obtain ⟨rfl, rfl, rfl⟩ := bb_some3 h
    have hP9 := hP.sub (ws' := [((a_t 0), oX8 a_t v_t_isKept v_t_bestPost v_t_mostSeen v_t_taped v_t_from v_t_to v_t_isWrong), ((a_t 5), .inl (cy 0, 7, .inl w46)), ((a_t 1), .inl (cy 0, 155, .inl f_t_s))]) [1, 2, 0] rfl
    have hD9 := hD.sub (ws' := [((a_t 0), oX8 a_t v_t_isKept v_t_bestPost v_t_mostSeen v_t_taped v_t_from v_t_to v_t_isWrong), ((a_t 5), .inl (cy 0, 7, .inl w46)), ((a_t 1), .inl (cy 0, 155, .inl f_t_s))]) [1, 2, 0] (by decide) rfl
    exact W.iret hx hb hr (fun t ht hW => ⟨⟨_, (), rfl, rfl, by rw [ht]; exact hP9, va_K.moved hW.alike hK, hD9⟩, hS.F ht⟩) hS.2.2 dX8_steams_17
/-! X8_seed -/
def uX8_seed (p1 : Int32) (f_t_s : Nat → Int32) : Option (Int32 × (Nat → Int32)) :=
  bb_b2 (uX8_becomes (4 : Int32) p1 f_t_s) (fun (r1 : Int32) (w2 : Nat → Int32) => some (r1, w2))
theorem kdX8_seed : yX8_seed.cls = RX8 ∧ yX8_seed.cls ≠ "java/lang/invoke/MethodHandle" ∧ yX8_seed.cls ≠ "java/lang/invoke/VarHandle" ∧ (parseMethodDescriptor yX8_seed.desc).map (fun d => d.parameters.length) = some 1 := by decide +kernel
set_option maxHeartbeats 4000000 in
set_option maxRecDepth 100000 in
theorem kX8_seed (l : Launch) (dC : Nat → ClassId) (dI : Nat → Nat → Nat) (cy : Nat → ClassId) (sz : Nat) (a_t : Nat → Nat) (p1 : Int32) (v_t_isKept : Int32) (v_t_bestPost : Int32) (v_t_mostSeen : Int32) (v_t_taped : Int32) (v_t_from : Int32) (v_t_to : Int32) (v_t_isWrong : Int32) (f_t_s : Nat → Int32) (r : Int32) (f_t_s_o : Nat → Int32) (h : uX8_seed p1 f_t_s = some (r, f_t_s_o)) : Met l yX8_seed wsX8_seed ({ frames := 1, cells := 0, slots := 0, locals := 23 }) (va_Pc [.ref (a_t 0), .int p1] (fun U => U.heap.size = sz ∧ va_P (dC, dI) vwCl [((a_t 0), oX8 a_t v_t_isKept v_t_bestPost v_t_mostSeen v_t_taped v_t_from v_t_to v_t_isWrong), ((a_t 1), .inl (cy 0, 155, .inl f_t_s))] U.heap ∧ va_K (dC, dI) vwCl (tyX cy) U ∧ va_D (fun _ => True) [((a_t 0), oX8 a_t v_t_isKept v_t_bestPost v_t_mostSeen v_t_taped v_t_from v_t_to v_t_isWrong), ((a_t 1), .inl (cy 0, 155, .inl f_t_s))])) (va_Qi (fun (r2 : Int32) (_ : Unit) => r = r2) (fun _ t => va_P (dC, dI) vwCl [((a_t 0), oX8 a_t v_t_isKept v_t_bestPost v_t_mostSeen v_t_taped v_t_from v_t_to v_t_isWrong), ((a_t 1), .inl (cy 0, 155, .inl f_t_s_o))] t.heap ∧ va_K (dC, dI) vwCl (tyX cy) t ∧ va_D (va_A [((a_t 0), oX8 a_t v_t_isKept v_t_bestPost v_t_mostSeen v_t_taped v_t_from v_t_to v_t_isWrong), ((a_t 1), .inl (cy 0, 155, .inl f_t_s))] sz) [((a_t 0), oX8 a_t v_t_isKept v_t_bestPost v_t_mostSeen v_t_taped v_t_from v_t_to v_t_isWrong), ((a_t 1), .inl (cy 0, 155, .inl f_t_s_o))]) (va_A [((a_t 0), oX8 a_t v_t_isKept v_t_bestPost v_t_mostSeen v_t_taped v_t_from v_t_to v_t_isWrong), ((a_t 1), .inl (cy 0, 155, .inl f_t_s))] sz)) 0 0 (va_A [((a_t 0), oX8 a_t v_t_isKept v_t_bestPost v_t_mostSeen v_t_taped v_t_from v_t_to v_t_isWrong), ((a_t 1), .inl (cy 0, 155, .inl f_t_s))] sz) := by
  refine Met.ofW (cc := cX8_seed) (maxL := 2) (ret := (some .int)) (by decide) rfl ?_
  intro p e s m args below meth c s₁ B hml hv
  obtain ⟨rfl, hsz, hP, hK, hD0⟩ := hv
  have hx := B.exec
  have hb := B.bytes
  have hr := B.returns
  have hts := atoms_spec (ws := wsX8_seed) B.pre
  have hown : s.vm.findClass RX8 = some m.cls := findClass_of_methodNamed B.named
  have hlocks := B.notSynchronized
  subst hsz
  have hD := hD0.self (sz := s.heap.size)
  generalize hAe : va_A [((a_t 0), oX8 a_t v_t_isKept v_t_bestPost v_t_mostSeen v_t_taped v_t_from v_t_to v_t_isWrong), ((a_t 1), .inl (cy 0, 155, .inl f_t_s))] s.heap.size = A at hD ⊢
  have hA : ∀ q : Nat, s.heap.size ≤ q → A q := fun q h => by rw [← hAe]; exact Or.inr h
  have hS : va_S A s.heap s.heap [] := va_S.rf
  have hP : va_P (dC, dI) vwCl [((a_t 0), oX8 a_t v_t_isKept v_t_bestPost v_t_mostSeen v_t_taped v_t_from v_t_to v_t_isWrong), ((a_t 1), .inl (cy 0, 155, .inl f_t_s))] s.heap := hP
  have hl := lv_entry ([.ref (a_t 0), .int p1]) (n := 2) (Nat.le_of_ble_eq_true rfl)
  rw [lg_entry_eq]
  generalize (lg_sl ([.ref (a_t 0), .int p1]) ++ List.replicate (2 - (lg_sl ([.ref (a_t 0), .int p1])).length) Slot.unset).toArray = ls at hl ⊢
  have hl : lv_has ls 2 [(0, .ref (a_t 0)), (1, .int p1)] := hl
  unfold uX8_seed at h
  refine bb_cap (fun WW toW ofW => ?_)
  refine lv_aload_n hx hb dX8_seed_0 rfl (lv_at hl 0 rfl) ?_
  refine lv_iconst (v := (4 : Int32)) hx hb dX8_seed_1 (by decide) ?_
  refine lv_iload_n hx hb dX8_seed_2 rfl (lv_at hl 1 rfl) ?_
  obtain ⟨r1, w2, hc3, h⟩ := bb_b2_o h
  refine bb_cwi (wr := []) (w1 := [((a_t 0), oX8 a_t v_t_isKept v_t_bestPost v_t_mostSeen v_t_taped v_t_from v_t_to v_t_isWrong), ((a_t 1), .inl (cy 0, 155, .inl w2))]) (va_runV (As := [.int (4 : Int32), .int p1]) (rest := []) ⟨hx, hb, hml, hown, hts⟩ (kX8_becomes l dC dI cy s.heap.size a_t (4 : Int32) p1 v_t_isKept v_t_bestPost v_t_mostSeen v_t_taped v_t_from v_t_to v_t_isWrong f_t_s r1 w2 hc3) (cwV 2 hts gX8_seed_X8_becomes rfl rfl rfl kdX8_becomes ⟨Nat.le_of_ble_eq_true rfl, Nat.le_of_ble_eq_true rfl⟩) (bb_preVw (va_recv hK hP (ci := 7) (q0 := 0) rfl rfl) hP hK (hD.sub (ws' := [((a_t 0), oX8 a_t v_t_isKept v_t_bestPost v_t_mostSeen v_t_taped v_t_from v_t_to v_t_isWrong), ((a_t 1), .inl (cy 0, 155, .inl f_t_s))]) [0, 1] (by decide) rfl)) rfl rfl hl.1 rfl (lv_room (Nat.le_of_ble_eq_true rfl)) dX8_seed_3 ⟨Nat.zero_le _, Nat.zero_le _⟩) hP hD hS hA [0, 1] [] rfl rfl (by decide) (by decide) (fun H locs hP hD hS => ?_)
  have hP : va_P (dC, dI) vwCl [((a_t 0), oX8 a_t v_t_isKept v_t_bestPost v_t_mostSeen v_t_taped v_t_from v_t_to v_t_isWrong), ((a_t 1), .inl (cy 0, 155, .inl w2))] H := hP
  have hD : va_D A [((a_t 0), oX8 a_t v_t_isKept v_t_bestPost v_t_mostSeen v_t_taped v_t_from v_t_to v_t_isWrong), ((a_t 1), .inl (cy 0, 155, .inl w2))] := hD
  obtain ⟨rfl, rfl⟩ := bb_some2 h
  have hP9 := hP.sub (ws' := [((a_t 0), oX8 a_t v_t_isKept v_t_bestPost v_t_mostSeen v_t_taped v_t_from v_t_to v_t_isWrong), ((a_t 1), .inl (cy 0, 155, .inl w2))]) [0, 1] rfl
  have hD9 := hD.sub (ws' := [((a_t 0), oX8 a_t v_t_isKept v_t_bestPost v_t_mostSeen v_t_taped v_t_from v_t_to v_t_isWrong), ((a_t 1), .inl (cy 0, 155, .inl w2))]) [0, 1] (by decide) rfl
  exact W.iret hx hb hr (fun t ht hW => ⟨⟨_, (), rfl, rfl, by rw [ht]; exact hP9, va_K.moved hW.alike hK, hD9⟩, hS.F ht⟩) hS.2.2 dX8_seed_6
/-! X8_feed -/
def uX8_feed_s39 (x1_10 : Int32) (f_t_found_11 : Nat → Int32) (rec12 : Int32 → Int32 → (Nat → Int32) → Option (Int32 × (Int32) × (Nat → Int32) × (Nat → Int32))) (x3_7 : Int32) (v_t_taped_8 : Int32) (f_t_tape_9 : Nat → Int32) : Option (Int32 × (Int32) × (Nat → Int32) × (Nat → Int32)) :=
  (if x3_7 < 0 then some (v_t_taped_8, v_t_taped_8, f_t_found_11, f_t_tape_9) else bb_ix v_t_taped_8 120 (rec12 (x3_7 + (-1 : Int32)) (v_t_taped_8 + (1 : Int32)) (upd f_t_tape_9 v_t_taped_8.toNatClampNeg ((x1_10 >>> (((8 : Int32) * x3_7) &&& 31)) &&& (255 : Int32)))))
def uX8_feed (nn : Nat) (p1 : Int32) (p2 : Int32) (v_t_taped : Int32) (f_t_found : Nat → Int32) (f_t_tape : Nat → Int32) : Option (Int32 × (Int32) × (Nat → Int32) × (Nat → Int32)) :=
  bb_b1 (uX8_in p2.toInt64 (1 : Int64) (4 : Int64)) (fun (r1 : Int32) => (if r1 = 0 then bb_b2 (uX8_finds (0 : Int32) f_t_found) (fun (r20 : Int32) (w21 : Nat → Int32) => some (r20, v_t_taped, w21, f_t_tape)) else (if (v_t_taped + p2) ≤ (120 : Int32) then bb_loop3 (uX8_feed_s39 p1 f_t_found) nn (p2 - (1 : Int32)) v_t_taped f_t_tape else bb_b2 (uX8_finds (1 : Int32) f_t_found) (fun (r17 : Int32) (w18 : Nat → Int32) => some (r17, v_t_taped, w18, f_t_tape)))))
theorem kdX8_feed : yX8_feed.cls = RX8 ∧ yX8_feed.cls ≠ "java/lang/invoke/MethodHandle" ∧ yX8_feed.cls ≠ "java/lang/invoke/VarHandle" ∧ (parseMethodDescriptor yX8_feed.desc).map (fun d => d.parameters.length) = some 2 := by decide +kernel
set_option maxHeartbeats 4000000 in
set_option maxRecDepth 100000 in
theorem kX8_feed (l : Launch) (dC : Nat → ClassId) (dI : Nat → Nat → Nat) (cy : Nat → ClassId) (sz : Nat) (a_t : Nat → Nat) (p1 : Int32) (p2 : Int32) (v_t_isKept : Int32) (v_t_bestPost : Int32) (v_t_mostSeen : Int32) (v_t_taped : Int32) (v_t_from : Int32) (v_t_to : Int32) (v_t_isWrong : Int32) (f_t_found : Nat → Int32) (f_t_tape : Nat → Int32) (nn : Nat) (r : Int32) (v_t_taped_o : Int32) (f_t_found_o : Nat → Int32) (f_t_tape_o : Nat → Int32) (h : uX8_feed nn p1 p2 v_t_taped f_t_found f_t_tape = some (r, v_t_taped_o, f_t_found_o, f_t_tape_o)) : Met l yX8_feed wsX8_feed ({ frames := 1, cells := 0, slots := 0, locals := 25 }) (va_Pc [.ref (a_t 0), .int p1, .int p2] (fun U => U.heap.size = sz ∧ va_P (dC, dI) vwCl [((a_t 0), oX8 a_t v_t_isKept v_t_bestPost v_t_mostSeen v_t_taped v_t_from v_t_to v_t_isWrong), ((a_t 5), .inl (cy 0, 7, .inl f_t_found)), ((a_t 12), .inl (cy 0, 120, .inl f_t_tape))] U.heap ∧ va_K (dC, dI) vwCl (tyX cy) U ∧ va_D (fun _ => True) [((a_t 0), oX8 a_t v_t_isKept v_t_bestPost v_t_mostSeen v_t_taped v_t_from v_t_to v_t_isWrong), ((a_t 5), .inl (cy 0, 7, .inl f_t_found)), ((a_t 12), .inl (cy 0, 120, .inl f_t_tape))])) (va_Qi (fun (r2 : Int32) (_ : Unit) => r = r2) (fun _ t => va_P (dC, dI) vwCl [((a_t 0), oX8 a_t v_t_isKept v_t_bestPost v_t_mostSeen v_t_taped_o v_t_from v_t_to v_t_isWrong), ((a_t 5), .inl (cy 0, 7, .inl f_t_found_o)), ((a_t 12), .inl (cy 0, 120, .inl f_t_tape_o))] t.heap ∧ va_K (dC, dI) vwCl (tyX cy) t ∧ va_D (va_A [((a_t 0), oX8 a_t v_t_isKept v_t_bestPost v_t_mostSeen v_t_taped v_t_from v_t_to v_t_isWrong), ((a_t 5), .inl (cy 0, 7, .inl f_t_found)), ((a_t 12), .inl (cy 0, 120, .inl f_t_tape))] sz) [((a_t 0), oX8 a_t v_t_isKept v_t_bestPost v_t_mostSeen v_t_taped_o v_t_from v_t_to v_t_isWrong), ((a_t 5), .inl (cy 0, 7, .inl f_t_found_o)), ((a_t 12), .inl (cy 0, 120, .inl f_t_tape_o))]) (va_A [((a_t 0), oX8 a_t v_t_isKept v_t_bestPost v_t_mostSeen v_t_taped v_t_from v_t_to v_t_isWrong), ((a_t 5), .inl (cy 0, 7, .inl f_t_found)), ((a_t 12), .inl (cy 0, 120, .inl f_t_tape))] sz)) 0 0 (va_A [((a_t 0), oX8 a_t v_t_isKept v_t_bestPost v_t_mostSeen v_t_taped v_t_from v_t_to v_t_isWrong), ((a_t 5), .inl (cy 0, 7, .inl f_t_found)), ((a_t 12), .inl (cy 0, 120, .inl f_t_tape))] sz) := by
  refine Met.ofW (cc := cX8_feed) (maxL := 4) (ret := (some .int)) (by decide) rfl ?_
  intro p e s m args below meth c s₁ B hml hv
  obtain ⟨rfl, hsz, hP, hK, hD0⟩ := hv
  have hx := B.exec
  have hb := B.bytes
  have hr := B.returns
  have hts := atoms_spec (ws := wsX8_feed) B.pre
  have hown : s.vm.findClass RX8 = some m.cls := findClass_of_methodNamed B.named
  have hlocks := B.notSynchronized
  have iwX8 : ∀ w ∈ wsX80, w ∈ wsX8_feed := fun w h9 => List.mem_cons_of_mem _ (List.mem_append_right _ (h9))
  have lk1 := hts (Cond.constantLong RX8 91 (4)) (List.mem_of_getElem? (i := 1) rfl)
  have lk2 := hts (Cond.fieldLink RX8 265 "BathBorderModel" "taped" "I") (List.mem_of_getElem? (i := 2) rfl)
  have lk3 := hts (Cond.fieldLink RX8 36 "BathBorderModel" "tape" "[I") (List.mem_of_getElem? (i := 3) rfl)
  subst hsz
  have hD := hD0.self (sz := s.heap.size)
  generalize hAe : va_A [((a_t 0), oX8 a_t v_t_isKept v_t_bestPost v_t_mostSeen v_t_taped v_t_from v_t_to v_t_isWrong), ((a_t 5), .inl (cy 0, 7, .inl f_t_found)), ((a_t 12), .inl (cy 0, 120, .inl f_t_tape))] s.heap.size = A at hD ⊢
  have hA : ∀ q : Nat, s.heap.size ≤ q → A q := fun q h => by rw [← hAe]; exact Or.inr h
  have hS : va_S A s.heap s.heap [] := va_S.rf
  have hP : va_P (dC, dI) vwCl [((a_t 0), oX8 a_t v_t_isKept v_t_bestPost v_t_mostSeen v_t_taped v_t_from v_t_to v_t_isWrong), ((a_t 5), .inl (cy 0, 7, .inl f_t_found)), ((a_t 12), .inl (cy 0, 120, .inl f_t_tape))] s.heap := hP
  have hl := lv_entry ([.ref (a_t 0), .int p1, .int p2]) (n := 4) (Nat.le_of_ble_eq_true rfl)
  rw [lg_entry_eq]
  generalize (lg_sl ([.ref (a_t 0), .int p1, .int p2]) ++ List.replicate (4 - (lg_sl ([.ref (a_t 0), .int p1, .int p2])).length) Slot.unset).toArray = ls at hl ⊢
  have hl : lv_has ls 4 [(0, .ref (a_t 0)), (1, .int p1), (2, .int p2)] := hl
  unfold uX8_feed at h
  refine bb_cap (fun WW toW ofW => ?_)
  refine lv_iload_n hx hb dX8_feed_0 rfl (lv_at hl 2 rfl) ?_
  refine lv_i2l hx hb dX8_feed_1 rfl ?_
  refine lv_lconst (v := (1 : Int64)) hx hb dX8_feed_2 (by decide) ?_
  refine lv_ldc2 (v := (4 : Int64)) hx hb hown lk1 dX8_feed_3 ?_
  obtain ⟨r1, hc2, h⟩ := bb_b1_o h
  refine vp_callSi (W.runS (As := [.long p2.toInt64, .long (1 : Int64), .long (4 : Int64)]) (rest := []) ⟨hx, hb, hml, hown, hts⟩ (kX8_in l dC dI cy p2.toInt64 (1 : Int64) (4 : Int64) r1 hc2) (va_cwS 3 hts gX8_feed_X8_in rfl rfl rfl kdX8_in ⟨Nat.le_of_ble_eq_true rfl, Nat.le_of_ble_eq_true rfl⟩) (bb_preS (hP.sub (ws' := []) [] rfl) hK) rfl rfl hl.1 rfl (lv_room (Nat.le_of_ble_eq_true rfl)) dX8_feed_6 ⟨Nat.zero_le _, Nat.zero_le _⟩) (fun t3 et3 => ?_)
  obtain ⟨rfl, hz4⟩ := et3
  refine lv_if_ne (tgt := 18) hx hb dX8_feed_9 (by decide) (fun c5 => ?_) (fun c5 => ?_)
  · replace h := bb_ifn c5 h
    refine lv_aload_n hx hb dX8_feed_18 rfl (lv_at hl 0 rfl) ?_
    refine va_get (D := (dC, dI)) (ci := 7) (v := .int v_t_taped) (C := RX8) (T := TX8) (N := 20) hx hb hts iwX8 hown hK hP 0 rfl rfl 12 (by decide) lk2 (fun _ h9 => h9) rfl dX8_feed_19 ?_
    refine lv_iload_n hx hb dX8_feed_22 rfl (lv_at hl 2 rfl) ?_
    refine lv_iadd hx hb dX8_feed_23 ?_
    refine lv_bipush (v := (120 : Int32)) hx hb dX8_feed_24 (by decide) ?_
    refine lv_icmp_le (tgt := 35) hx hb dX8_feed_26 (by decide) (fun c6 => ?_) (fun c6 => ?_)
    · replace h := bb_ifp c6 h
      refine lv_iload_n hx hb dX8_feed_35 rfl (lv_at hl 2 rfl) ?_
      refine lv_iconst (v := (1 : Int32)) hx hb dX8_feed_36 (by decide) ?_
      refine lv_isub hx hb dX8_feed_37 ?_
      refine lv_istore_n (lv' := [(3, .int (p2 - (1 : Int32))), (0, .ref (a_t 0)), (1, .int p1), (2, .int p2)]) hx hb dX8_feed_38 rfl hl (by decide) rfl (fun ls hl => ?_)
      have L13 : ∀ (n : Nat) (x3_7 : Int32) (v_t_taped_8 : Int32) (f_t_tape_9 : Nat → Int32) (H : Heap) (locs : List Loc) (ls : Array Slot), bb_loop3 (uX8_feed_s39 p1 f_t_found) n x3_7 v_t_taped_8 f_t_tape_9 = some (r, v_t_taped_o, f_t_found_o, f_t_tape_o) → va_P (dC, dI) vwCl [((a_t 0), oX8 a_t v_t_isKept v_t_bestPost v_t_mostSeen v_t_taped_8 v_t_from v_t_to v_t_isWrong), ((a_t 5), .inl (cy 0, 7, .inl f_t_found)), ((a_t 12), .inl (cy 0, 120, .inl f_t_tape_9))] H → va_D A [((a_t 0), oX8 a_t v_t_isKept v_t_bestPost v_t_mostSeen v_t_taped_8 v_t_from v_t_to v_t_isWrong), ((a_t 5), .inl (cy 0, 7, .inl f_t_found)), ((a_t 12), .inl (cy 0, 120, .inl f_t_tape_9))] → va_S A s.heap H locs → lv_has ls 4 [(0, .ref (a_t 0)), (1, .int p1), (3, .int x3_7)] → WW H locs (F0 m 39 ls []) := by
        intro n
        induction n with
        | zero => intro x3_7 v_t_taped_8 f_t_tape_9 H locs ls h; exact (bb_no h).elim
        | succ n ih14 =>
          intro x3_7 v_t_taped_8 f_t_tape_9 H locs ls h hP hD hS hl
          refine ofW _ _ _ ?_
          obtain ⟨rec12, erec12, h⟩ := bb_loop3_o h
          unfold uX8_feed_s39 at h
          refine lv_iload_n hx hb dX8_feed_39 rfl (lv_at hl 2 rfl) ?_
          refine lv_if_lt (tgt := 78) hx hb dX8_feed_40 (by decide) (fun c15 => ?_) (fun c15 => ?_)
          · replace h := bb_ifp c15 h
            refine lv_aload_n hx hb dX8_feed_78 rfl (lv_at hl 0 rfl) ?_
            refine va_get (D := (dC, dI)) (ci := 7) (v := .int v_t_taped_8) (C := RX8) (T := TX8) (N := 20) hx hb hts iwX8 hown hK hP 0 rfl rfl 12 (by decide) lk2 (fun _ h9 => h9) rfl dX8_feed_79 ?_
            obtain ⟨rfl, rfl, rfl, rfl⟩ := bb_some4 h
            have hP9 := hP.sub (ws' := [((a_t 0), oX8 a_t v_t_isKept v_t_bestPost v_t_mostSeen v_t_taped_8 v_t_from v_t_to v_t_isWrong), ((a_t 5), .inl (cy 0, 7, .inl f_t_found)), ((a_t 12), .inl (cy 0, 120, .inl f_t_tape_9))]) [0, 1, 2] rfl
            have hD9 := hD.sub (ws' := [((a_t 0), oX8 a_t v_t_isKept v_t_bestPost v_t_mostSeen v_t_taped_8 v_t_from v_t_to v_t_isWrong), ((a_t 5), .inl (cy 0, 7, .inl f_t_found)), ((a_t 12), .inl (cy 0, 120, .inl f_t_tape_9))]) [0, 1, 2] (by decide) rfl
            exact W.iret hx hb hr (fun t ht hW => ⟨⟨_, (), rfl, rfl, by rw [ht]; exact hP9, va_K.moved hW.alike hK, hD9⟩, hS.F ht⟩) hS.2.2 dX8_feed_82
          · replace h := bb_ifn c15 h
            refine lv_aload_n hx hb dX8_feed_43 rfl (lv_at hl 0 rfl) ?_
            refine va_get (D := (dC, dI)) (ci := 7) (v := .ref (a_t 12)) (C := RX8) (T := TX8) (N := 20) hx hb hts iwX8 hown hK hP 0 rfl rfl 11 (by decide) lk3 (fun _ h9 => h9) rfl dX8_feed_44 ?_
            refine lv_aload_n hx hb dX8_feed_47 rfl (lv_at hl 0 rfl) ?_
            refine va_get (D := (dC, dI)) (ci := 7) (v := .int v_t_taped_8) (C := RX8) (T := TX8) (N := 20) hx hb hts iwX8 hown hK hP 0 rfl rfl 12 (by decide) lk2 (fun _ h9 => h9) rfl dX8_feed_48 ?_
            refine lv_iload_n hx hb dX8_feed_51 rfl (lv_at hl 1 rfl) ?_
            refine lv_bipush (v := (8 : Int32)) hx hb dX8_feed_52 (by decide) ?_
            refine lv_iload_n hx hb dX8_feed_54 rfl (lv_at hl 2 rfl) ?_
            refine lv_imul hx hb dX8_feed_55 ?_
            refine lv_ishr hx hb dX8_feed_56 ?_
            refine lv_sipush (v := (255 : Int32)) hx hb dX8_feed_57 (by decide) ?_
            refine lv_iand hx hb dX8_feed_60 ?_
            obtain ⟨hi16, h⟩ := bb_ix_o h
            refine va_iast hx hb hK hP hD hS 2 0 rfl rfl hi16 dX8_feed_61 (fun H locs hP hD hS => ?_)
            have hP : va_P (dC, dI) vwCl [((a_t 0), oX8 a_t v_t_isKept v_t_bestPost v_t_mostSeen v_t_taped_8 v_t_from v_t_to v_t_isWrong), ((a_t 5), .inl (cy 0, 7, .inl f_t_found)), ((a_t 12), .inl (cy 0, 120, .inl (upd f_t_tape_9 v_t_taped_8.toNatClampNeg ((p1 >>> (((8 : Int32) * x3_7) &&& 31)) &&& (255 : Int32)))))] H := hP
            have hD : va_D A [((a_t 0), oX8 a_t v_t_isKept v_t_bestPost v_t_mostSeen v_t_taped_8 v_t_from v_t_to v_t_isWrong), ((a_t 5), .inl (cy 0, 7, .inl f_t_found)), ((a_t 12), .inl (cy 0, 120, .inl (upd f_t_tape_9 v_t_taped_8.toNatClampNeg ((p1 >>> (((8 : Int32) * x3_7) &&& 31)) &&& (255 : Int32)))))] := hD
            refine lv_aload_n hx hb dX8_feed_62 rfl (lv_at hl 0 rfl) ?_
            refine lv_dup hx hb dX8_feed_63 rfl ?_
            refine va_get (D := (dC, dI)) (ci := 7) (v := .int v_t_taped_8) (C := RX8) (T := TX8) (N := 20) hx hb hts iwX8 hown hK hP 0 rfl rfl 12 (by decide) lk2 (fun _ h9 => h9) rfl dX8_feed_64 ?_
            refine lv_iconst (v := (1 : Int32)) hx hb dX8_feed_67 (by decide) ?_
            refine lv_iadd hx hb dX8_feed_68 ?_
            refine va_put (D := (dC, dI)) (ci := 7) (v := .int (v_t_taped_8 + (1 : Int32))) (ty := .int) (C := RX8) (T := TX8) (N := 20) hx hb hts iwX8 tyX8 tyX8_ok nmX8 hown hK hP hD hS 0 rfl rfl 12 (by decide) lk2 (fun _ h9 => h9) rfl (by decide +kernel) rfl rfl (Nat.le_of_ble_eq_true rfl) dX8_feed_69 (fun H locs hP hD hS => ?_)
            have hP : va_P (dC, dI) vwCl [((a_t 0), oX8 a_t v_t_isKept v_t_bestPost v_t_mostSeen (v_t_taped_8 + (1 : Int32)) v_t_from v_t_to v_t_isWrong), ((a_t 5), .inl (cy 0, 7, .inl f_t_found)), ((a_t 12), .inl (cy 0, 120, .inl (upd f_t_tape_9 v_t_taped_8.toNatClampNeg ((p1 >>> (((8 : Int32) * x3_7) &&& 31)) &&& (255 : Int32)))))] H := hP
            have hD : va_D A [((a_t 0), oX8 a_t v_t_isKept v_t_bestPost v_t_mostSeen (v_t_taped_8 + (1 : Int32)) v_t_from v_t_to v_t_isWrong), ((a_t 5), .inl (cy 0, 7, .inl f_t_found)), ((a_t 12), .inl (cy 0, 120, .inl (upd f_t_tape_9 v_t_taped_8.toNatClampNeg ((p1 >>> (((8 : Int32) * x3_7) &&& 31)) &&& (255 : Int32)))))] := hD
            refine lv_iinc (v := x3_7 + (-1 : Int32)) (lv' := [(3, .int (x3_7 + (-1 : Int32))), (0, .ref (a_t 0)), (1, .int p1)]) hx hb dX8_feed_72 hl (k := 2) rfl rfl (by decide) rfl (fun ls hl => ?_)
            refine lv_goto (tgt := 39) hx hb dX8_feed_75 (by decide) ?_
            rw [erec12] at h
            exact toW _ _ _ (ih14 (x3_7 + (-1 : Int32)) (v_t_taped_8 + (1 : Int32)) (upd f_t_tape_9 v_t_taped_8.toNatClampNeg ((p1 >>> (((8 : Int32) * x3_7) &&& 31)) &&& (255 : Int32))) _ _ _ h hP hD hS (lv_sub hl [1, 2, 0] rfl))
      exact toW _ _ _ (L13 nn (p2 - (1 : Int32)) v_t_taped f_t_tape _ _ _ h hP hD hS (lv_sub hl [1, 2, 0] rfl))
    · replace h := bb_ifn c6 h
      refine lv_aload_n hx hb dX8_feed_29 rfl (lv_at hl 0 rfl) ?_
      refine lv_iconst (v := (1 : Int32)) hx hb dX8_feed_30 (by decide) ?_
      obtain ⟨r17, w18, hc19, h⟩ := bb_b2_o h
      refine bb_cwi (wr := [((a_t 12), .inl (cy 0, 120, .inl f_t_tape))]) (w1 := [((a_t 0), oX8 a_t v_t_isKept v_t_bestPost v_t_mostSeen v_t_taped v_t_from v_t_to v_t_isWrong), ((a_t 5), .inl (cy 0, 7, .inl w18))]) (va_runV (As := [.int (1 : Int32)]) (rest := []) ⟨hx, hb, hml, hown, hts⟩ (kX8_finds l dC dI cy s.heap.size a_t (1 : Int32) v_t_isKept v_t_bestPost v_t_mostSeen v_t_taped v_t_from v_t_to v_t_isWrong f_t_found r17 w18 hc19) (cwV 1 hts gX8_feed_X8_finds rfl rfl rfl kdX8_finds ⟨Nat.le_of_ble_eq_true rfl, Nat.le_of_ble_eq_true rfl⟩) (bb_preVw (va_recv hK hP (ci := 7) (q0 := 0) rfl rfl) (hP.sub (ws' := [((a_t 0), oX8 a_t v_t_isKept v_t_bestPost v_t_mostSeen v_t_taped v_t_from v_t_to v_t_isWrong), ((a_t 5), .inl (cy 0, 7, .inl f_t_found))]) [0, 1] rfl) hK (hD.sub (ws' := [((a_t 0), oX8 a_t v_t_isKept v_t_bestPost v_t_mostSeen v_t_taped v_t_from v_t_to v_t_isWrong), ((a_t 5), .inl (cy 0, 7, .inl f_t_found))]) [0, 1] (by decide) rfl)) rfl rfl hl.1 rfl (lv_room (Nat.le_of_ble_eq_true rfl)) dX8_feed_31 ⟨Nat.zero_le _, Nat.zero_le _⟩) hP hD hS hA [0, 1] [2] rfl rfl (by decide) (by decide) (fun H locs hP hD hS => ?_)
      have hP : va_P (dC, dI) vwCl [((a_t 12), .inl (cy 0, 120, .inl f_t_tape)), ((a_t 0), oX8 a_t v_t_isKept v_t_bestPost v_t_mostSeen v_t_taped v_t_from v_t_to v_t_isWrong), ((a_t 5), .inl (cy 0, 7, .inl w18))] H := hP
      have hD : va_D A [((a_t 12), .inl (cy 0, 120, .inl f_t_tape)), ((a_t 0), oX8 a_t v_t_isKept v_t_bestPost v_t_mostSeen v_t_taped v_t_from v_t_to v_t_isWrong), ((a_t 5), .inl (cy 0, 7, .inl w18))] := hD
      obtain ⟨rfl, rfl, rfl, rfl⟩ := bb_some4 h
      have hP9 := hP.sub (ws' := [((a_t 0), oX8 a_t v_t_isKept v_t_bestPost v_t_mostSeen v_t_taped v_t_from v_t_to v_t_isWrong), ((a_t 5), .inl (cy 0, 7, .inl w18)), ((a_t 12), .inl (cy 0, 120, .inl f_t_tape))]) [1, 2, 0] rfl
      have hD9 := hD.sub (ws' := [((a_t 0), oX8 a_t v_t_isKept v_t_bestPost v_t_mostSeen v_t_taped v_t_from v_t_to v_t_isWrong), ((a_t 5), .inl (cy 0, 7, .inl w18)), ((a_t 12), .inl (cy 0, 120, .inl f_t_tape))]) [1, 2, 0] (by decide) rfl
      exact W.iret hx hb hr (fun t ht hW => ⟨⟨_, (), rfl, rfl, by rw [ht]; exact hP9, va_K.moved hW.alike hK, hD9⟩, hS.F ht⟩) hS.2.2 dX8_feed_34
  · replace h := bb_ifp c5 h
    refine lv_aload_n hx hb dX8_feed_12 rfl (lv_at hl 0 rfl) ?_
    refine lv_iconst (v := (0 : Int32)) hx hb dX8_feed_13 (by decide) ?_
    obtain ⟨r20, w21, hc22, h⟩ := bb_b2_o h
    refine bb_cwi (wr := [((a_t 12), .inl (cy 0, 120, .inl f_t_tape))]) (w1 := [((a_t 0), oX8 a_t v_t_isKept v_t_bestPost v_t_mostSeen v_t_taped v_t_from v_t_to v_t_isWrong), ((a_t 5), .inl (cy 0, 7, .inl w21))]) (va_runV (As := [.int (0 : Int32)]) (rest := []) ⟨hx, hb, hml, hown, hts⟩ (kX8_finds l dC dI cy s.heap.size a_t (0 : Int32) v_t_isKept v_t_bestPost v_t_mostSeen v_t_taped v_t_from v_t_to v_t_isWrong f_t_found r20 w21 hc22) (cwV 1 hts gX8_feed_X8_finds rfl rfl rfl kdX8_finds ⟨Nat.le_of_ble_eq_true rfl, Nat.le_of_ble_eq_true rfl⟩) (bb_preVw (va_recv hK hP (ci := 7) (q0 := 0) rfl rfl) (hP.sub (ws' := [((a_t 0), oX8 a_t v_t_isKept v_t_bestPost v_t_mostSeen v_t_taped v_t_from v_t_to v_t_isWrong), ((a_t 5), .inl (cy 0, 7, .inl f_t_found))]) [0, 1] rfl) hK (hD.sub (ws' := [((a_t 0), oX8 a_t v_t_isKept v_t_bestPost v_t_mostSeen v_t_taped v_t_from v_t_to v_t_isWrong), ((a_t 5), .inl (cy 0, 7, .inl f_t_found))]) [0, 1] (by decide) rfl)) rfl rfl hl.1 rfl (lv_room (Nat.le_of_ble_eq_true rfl)) dX8_feed_14 ⟨Nat.zero_le _, Nat.zero_le _⟩) hP hD hS hA [0, 1] [2] rfl rfl (by decide) (by decide) (fun H locs hP hD hS => ?_)
    have hP : va_P (dC, dI) vwCl [((a_t 12), .inl (cy 0, 120, .inl f_t_tape)), ((a_t 0), oX8 a_t v_t_isKept v_t_bestPost v_t_mostSeen v_t_taped v_t_from v_t_to v_t_isWrong), ((a_t 5), .inl (cy 0, 7, .inl w21))] H := hP
    have hD : va_D A [((a_t 12), .inl (cy 0, 120, .inl f_t_tape)), ((a_t 0), oX8 a_t v_t_isKept v_t_bestPost v_t_mostSeen v_t_taped v_t_from v_t_to v_t_isWrong), ((a_t 5), .inl (cy 0, 7, .inl w21))] := hD
    obtain ⟨rfl, rfl, rfl, rfl⟩ := bb_some4 h
    have hP9 := hP.sub (ws' := [((a_t 0), oX8 a_t v_t_isKept v_t_bestPost v_t_mostSeen v_t_taped v_t_from v_t_to v_t_isWrong), ((a_t 5), .inl (cy 0, 7, .inl w21)), ((a_t 12), .inl (cy 0, 120, .inl f_t_tape))]) [1, 2, 0] rfl
    have hD9 := hD.sub (ws' := [((a_t 0), oX8 a_t v_t_isKept v_t_bestPost v_t_mostSeen v_t_taped v_t_from v_t_to v_t_isWrong), ((a_t 5), .inl (cy 0, 7, .inl w21)), ((a_t 12), .inl (cy 0, 120, .inl f_t_tape))]) [1, 2, 0] (by decide) rfl
    exact W.iret hx hb hr (fun t ht hW => ⟨⟨_, (), rfl, rfl, by rw [ht]; exact hP9, va_K.moved hW.alike hK, hD9⟩, hS.F ht⟩) hS.2.2 dX8_feed_17
/-! X8_wipe -/
def uX8_wipe (v_t_taped : Int32) : Option (Int32 × (Int32)) :=
  some (v_t_taped, (0 : Int32))
theorem kdX8_wipe : yX8_wipe.cls = RX8 ∧ yX8_wipe.cls ≠ "java/lang/invoke/MethodHandle" ∧ yX8_wipe.cls ≠ "java/lang/invoke/VarHandle" ∧ (parseMethodDescriptor yX8_wipe.desc).map (fun d => d.parameters.length) = some 0 := by decide +kernel
set_option maxHeartbeats 4000000 in
set_option maxRecDepth 100000 in
theorem kX8_wipe (l : Launch) (dC : Nat → ClassId) (dI : Nat → Nat → Nat) (cy : Nat → ClassId) (sz : Nat) (a_t : Nat → Nat) (v_t_isKept : Int32) (v_t_bestPost : Int32) (v_t_mostSeen : Int32) (v_t_taped : Int32) (v_t_from : Int32) (v_t_to : Int32) (v_t_isWrong : Int32) (r : Int32) (v_t_taped_o : Int32) (h : uX8_wipe v_t_taped = some (r, v_t_taped_o)) : Met l yX8_wipe wsX8_wipe ({ frames := 0, cells := 0, slots := 0, locals := 0 }) (va_Pc [.ref (a_t 0)] (fun U => U.heap.size = sz ∧ va_P (dC, dI) vwCl [((a_t 0), oX8 a_t v_t_isKept v_t_bestPost v_t_mostSeen v_t_taped v_t_from v_t_to v_t_isWrong)] U.heap ∧ va_K (dC, dI) vwCl (tyX cy) U ∧ va_D (fun _ => True) [((a_t 0), oX8 a_t v_t_isKept v_t_bestPost v_t_mostSeen v_t_taped v_t_from v_t_to v_t_isWrong)])) (va_Qi (fun (r2 : Int32) (_ : Unit) => r = r2) (fun _ t => va_P (dC, dI) vwCl [((a_t 0), oX8 a_t v_t_isKept v_t_bestPost v_t_mostSeen v_t_taped_o v_t_from v_t_to v_t_isWrong)] t.heap ∧ va_K (dC, dI) vwCl (tyX cy) t ∧ va_D (va_A [((a_t 0), oX8 a_t v_t_isKept v_t_bestPost v_t_mostSeen v_t_taped v_t_from v_t_to v_t_isWrong)] sz) [((a_t 0), oX8 a_t v_t_isKept v_t_bestPost v_t_mostSeen v_t_taped_o v_t_from v_t_to v_t_isWrong)]) (va_A [((a_t 0), oX8 a_t v_t_isKept v_t_bestPost v_t_mostSeen v_t_taped v_t_from v_t_to v_t_isWrong)] sz)) 0 0 (va_A [((a_t 0), oX8 a_t v_t_isKept v_t_bestPost v_t_mostSeen v_t_taped v_t_from v_t_to v_t_isWrong)] sz) := by
  refine Met.ofW (cc := cX8_wipe) (maxL := 2) (ret := (some .int)) (by decide) rfl ?_
  intro p e s m args below meth c s₁ B hml hv
  obtain ⟨rfl, hsz, hP, hK, hD0⟩ := hv
  have hx := B.exec
  have hb := B.bytes
  have hr := B.returns
  have hts := atoms_spec (ws := wsX8_wipe) B.pre
  have hown : s.vm.findClass RX8 = some m.cls := findClass_of_methodNamed B.named
  have hlocks := B.notSynchronized
  have iwX8 : ∀ w ∈ wsX80, w ∈ wsX8_wipe := fun w h9 => List.mem_cons_of_mem _ (List.mem_append_right _ (h9))
  have lk1 := hts (Cond.fieldLink RX8 265 "BathBorderModel" "taped" "I") (List.mem_of_getElem? (i := 1) rfl)
  subst hsz
  have hD := hD0.self (sz := s.heap.size)
  generalize hAe : va_A [((a_t 0), oX8 a_t v_t_isKept v_t_bestPost v_t_mostSeen v_t_taped v_t_from v_t_to v_t_isWrong)] s.heap.size = A at hD ⊢
  have hA : ∀ q : Nat, s.heap.size ≤ q → A q := fun q h => by rw [← hAe]; exact Or.inr h
  have hS : va_S A s.heap s.heap [] := va_S.rf
  have hP : va_P (dC, dI) vwCl [((a_t 0), oX8 a_t v_t_isKept v_t_bestPost v_t_mostSeen v_t_taped v_t_from v_t_to v_t_isWrong)] s.heap := hP
  have hl := lv_entry ([.ref (a_t 0)]) (n := 2) (Nat.le_of_ble_eq_true rfl)
  rw [lg_entry_eq]
  generalize (lg_sl ([.ref (a_t 0)]) ++ List.replicate (2 - (lg_sl ([.ref (a_t 0)])).length) Slot.unset).toArray = ls at hl ⊢
  have hl : lv_has ls 2 [(0, .ref (a_t 0))] := hl
  unfold uX8_wipe at h
  refine bb_cap (fun WW toW ofW => ?_)
  refine lv_aload_n hx hb dX8_wipe_0 rfl (lv_at hl 0 rfl) ?_
  refine va_get (D := (dC, dI)) (ci := 7) (v := .int v_t_taped) (C := RX8) (T := TX8) (N := 20) hx hb hts iwX8 hown hK hP 0 rfl rfl 12 (by decide) lk1 (fun _ h9 => h9) rfl dX8_wipe_1 ?_
  refine lv_istore_n (lv' := [(1, .int v_t_taped), (0, .ref (a_t 0))]) hx hb dX8_wipe_4 rfl hl (by decide) rfl (fun ls hl => ?_)
  refine lv_aload_n hx hb dX8_wipe_5 rfl (lv_at hl 1 rfl) ?_
  refine lv_iconst (v := (0 : Int32)) hx hb dX8_wipe_6 (by decide) ?_
  refine va_put (D := (dC, dI)) (ci := 7) (v := .int (0 : Int32)) (ty := .int) (C := RX8) (T := TX8) (N := 20) hx hb hts iwX8 tyX8 tyX8_ok nmX8 hown hK hP hD hS 0 rfl rfl 12 (by decide) lk1 (fun _ h9 => h9) rfl (by decide +kernel) rfl rfl (Nat.le_of_ble_eq_true rfl) dX8_wipe_7 (fun H locs hP hD hS => ?_)
  have hP : va_P (dC, dI) vwCl [((a_t 0), oX8 a_t v_t_isKept v_t_bestPost v_t_mostSeen (0 : Int32) v_t_from v_t_to v_t_isWrong)] H := hP
  have hD : va_D A [((a_t 0), oX8 a_t v_t_isKept v_t_bestPost v_t_mostSeen (0 : Int32) v_t_from v_t_to v_t_isWrong)] := hD
  refine lv_iload_n hx hb dX8_wipe_10 rfl (lv_at hl 0 rfl) ?_
  obtain ⟨rfl, rfl⟩ := bb_some2 h
  have hP9 := hP.sub (ws' := [((a_t 0), oX8 a_t v_t_isKept v_t_bestPost v_t_mostSeen (0 : Int32) v_t_from v_t_to v_t_isWrong)]) [0] rfl
  have hD9 := hD.sub (ws' := [((a_t 0), oX8 a_t v_t_isKept v_t_bestPost v_t_mostSeen (0 : Int32) v_t_from v_t_to v_t_isWrong)]) [0] (by decide) rfl
  exact W.iret hx hb hr (fun t ht hW => ⟨⟨_, (), rfl, rfl, by rw [ht]; exact hP9, va_K.moved hW.alike hK, hD9⟩, hS.F ht⟩) hS.2.2 dX8_wipe_11
/-! X8_isByte -/
def uX8_isByte (p1 : Int32) (p2 : Int32) (p3 : Int32) (v_t_taped : Int32) (f_t_tape : Nat → Int32) : Option (Int32) :=
  (if v_t_taped ≤ p1 then some (0 : Int32) else bb_ix p1 120 (bb_b1 (uX8_in ((f_t_tape p1.toNatClampNeg).toInt64) p2.toInt64 p3.toInt64) (fun (r3 : Int32) => (if r3 = 0 then some (0 : Int32) else some (1 : Int32)))))
theorem kdX8_isByte : yX8_isByte.cls = RX8 ∧ yX8_isByte.cls ≠ "java/lang/invoke/MethodHandle" ∧ yX8_isByte.cls ≠ "java/lang/invoke/VarHandle" ∧ (parseMethodDescriptor yX8_isByte.desc).map (fun d => d.parameters.length) = some 3 := by decide +kernel
set_option maxHeartbeats 4000000 in
set_option maxRecDepth 100000 in
theorem kX8_isByte (l : Launch) (dC : Nat → ClassId) (dI : Nat → Nat → Nat) (cy : Nat → ClassId) (a_t : Nat → Nat) (p1 : Int32) (p2 : Int32) (p3 : Int32) (v_t_isKept : Int32) (v_t_bestPost : Int32) (v_t_mostSeen : Int32) (v_t_taped : Int32) (v_t_from : Int32) (v_t_to : Int32) (v_t_isWrong : Int32) (f_t_tape : Nat → Int32) (r : Int32) (h : uX8_isByte p1 p2 p3 v_t_taped f_t_tape = some r) : Met l yX8_isByte wsX8_isByte ({ frames := 1, cells := 0, slots := 0, locals := 25 }) (va_Pc [.ref (a_t 0), .int p1, .int p2, .int p3] (fun U => va_P (dC, dI) vwCl [((a_t 0), oX8 a_t v_t_isKept v_t_bestPost v_t_mostSeen v_t_taped v_t_from v_t_to v_t_isWrong), ((a_t 12), .inl (cy 0, 120, .inl f_t_tape))] U.heap ∧ va_K (dC, dI) vwCl (tyX cy) U)) (vp_Si (fun r2 => r = r2 ∧ narrow .boolean (.int r2) = .int r2)) 0 0 (fun _ => False) := by
  refine Met.ofW (cc := cX8_isByte) (maxL := 4) (ret := (some .boolean)) (by decide) rfl ?_
  intro p e s m args below meth c s₁ B hml hv
  obtain ⟨rfl, hP, hK⟩ := hv
  have hx := B.exec
  have hb := B.bytes
  have hr := B.returns
  have hts := atoms_spec (ws := wsX8_isByte) B.pre
  have hown : s.vm.findClass RX8 = some m.cls := findClass_of_methodNamed B.named
  have hlocks := B.notSynchronized
  have iwX8 : ∀ w ∈ wsX80, w ∈ wsX8_isByte := fun w h9 => List.mem_cons_of_mem _ (List.mem_append_right _ (h9))
  have lk1 := hts (Cond.fieldLink RX8 265 "BathBorderModel" "taped" "I") (List.mem_of_getElem? (i := 1) rfl)
  have lk2 := hts (Cond.fieldLink RX8 36 "BathBorderModel" "tape" "[I") (List.mem_of_getElem? (i := 2) rfl)
  have hl := lv_entry ([.ref (a_t 0), .int p1, .int p2, .int p3]) (n := 4) (Nat.le_of_ble_eq_true rfl)
  rw [lg_entry_eq]
  generalize (lg_sl ([.ref (a_t 0), .int p1, .int p2, .int p3]) ++ List.replicate (4 - (lg_sl ([.ref (a_t 0), .int p1, .int p2, .int p3])).length) Slot.unset).toArray = ls at hl ⊢
  have hl : lv_has ls 4 [(0, .ref (a_t 0)), (1, .int p1), (2, .int p2), (3, .int p3)] := hl
  unfold uX8_isByte at h
  refine bb_cap (fun WW toW ofW => ?_)
  refine lv_iload_n hx hb dX8_isByte_0 rfl (lv_at hl 1 rfl) ?_
  refine lv_aload_n hx hb dX8_isByte_1 rfl (lv_at hl 0 rfl) ?_
  refine va_get (D := (dC, dI)) (ci := 7) (v := .int v_t_taped) (C := RX8) (T := TX8) (N := 20) hx hb hts iwX8 hown hK hP 0 rfl rfl 12 (by decide) lk1 (fun _ h9 => h9) rfl dX8_isByte_2 ?_
  refine lv_icmp_ge (tgt := 29) hx hb dX8_isByte_5 (by decide) (fun c1 => ?_) (fun c1 => ?_)
  · replace h := bb_ifp c1 h
    refine lv_iconst (v := (0 : Int32)) hx hb dX8_isByte_29 (by decide) ?_
    obtain rfl := bb_some1 h
    exact W.zret hx hb hr (by decide) (fun t ht hW => ⟨_, rfl, ⟨rfl, (by decide)⟩, ht⟩) (fun q hq => by cases hq) dX8_isByte_30
  · replace h := bb_ifn c1 h
    refine lv_aload_n hx hb dX8_isByte_8 rfl (lv_at hl 0 rfl) ?_
    refine va_get (D := (dC, dI)) (ci := 7) (v := .ref (a_t 12)) (C := RX8) (T := TX8) (N := 20) hx hb hts iwX8 hown hK hP 0 rfl rfl 11 (by decide) lk2 (fun _ h9 => h9) rfl dX8_isByte_9 ?_
    refine lv_iload_n hx hb dX8_isByte_12 rfl (lv_at hl 1 rfl) ?_
    obtain ⟨hi2, h⟩ := bb_ix_o h
    refine va_iald hx hb hK hP 1 0 rfl rfl hi2 dX8_isByte_13 ?_
    refine lv_i2l hx hb dX8_isByte_14 rfl ?_
    refine lv_iload_n hx hb dX8_isByte_15 rfl (lv_at hl 2 rfl) ?_
    refine lv_i2l hx hb dX8_isByte_16 rfl ?_
    refine lv_iload_n hx hb dX8_isByte_17 rfl (lv_at hl 3 rfl) ?_
    refine lv_i2l hx hb dX8_isByte_18 rfl ?_
    obtain ⟨r3, hc4, h⟩ := bb_b1_o h
    refine vp_callSi (W.runS (As := [.long ((f_t_tape p1.toNatClampNeg).toInt64), .long p2.toInt64, .long p3.toInt64]) (rest := []) ⟨hx, hb, hml, hown, hts⟩ (kX8_in l dC dI cy ((f_t_tape p1.toNatClampNeg).toInt64) p2.toInt64 p3.toInt64 r3 hc4) (va_cwS 3 hts gX8_isByte_X8_in rfl rfl rfl kdX8_in ⟨Nat.le_of_ble_eq_true rfl, Nat.le_of_ble_eq_true rfl⟩) (bb_preS (hP.sub (ws' := []) [] rfl) hK) rfl rfl hl.1 rfl (lv_room (Nat.le_of_ble_eq_true rfl)) dX8_isByte_19 ⟨Nat.zero_le _, Nat.zero_le _⟩) (fun t5 et5 => ?_)
    obtain ⟨rfl, hz6⟩ := et5
    refine lv_if_eq (tgt := 29) hx hb dX8_isByte_22 (by decide) (fun c7 => ?_) (fun c7 => ?_)
    · replace h := bb_ifp c7 h
      refine lv_iconst (v := (0 : Int32)) hx hb dX8_isByte_29 (by decide) ?_
      obtain rfl := bb_some1 h
      exact W.zret hx hb hr (by decide) (fun t ht hW => ⟨_, rfl, ⟨rfl, (by decide)⟩, ht⟩) (fun q hq => by cases hq) dX8_isByte_30
    · replace h := bb_ifn c7 h
      refine lv_iconst (v := (1 : Int32)) hx hb dX8_isByte_25 (by decide) ?_
      refine lv_goto (tgt := 30) hx hb dX8_isByte_26 (by decide) ?_
      obtain rfl := bb_some1 h
      exact W.zret hx hb hr (by decide) (fun t ht hW => ⟨_, rfl, ⟨rfl, (by decide)⟩, ht⟩) (fun q hq => by cases hq) dX8_isByte_30
/-! X8_next_ -/
def uX8_next__s70 (x1_17 : Int32) (x2_18 : Int32) (v_t_taped_19 : Int32) (f_t_tape_21 : Nat → Int32) (k_121 : Int32 → Option ((Int32) × (Int32))) (rec22 : Int32 → Option ((Int32) × (Int32))) (v_t_to_16 : Int32) : Option ((Int32) × (Int32)) :=
  bb_cut (fun (u25 : Unit) => rec22 (v_t_to_16 + (1 : Int32))) (fun k26 => bb_cut (fun (u27 : Unit) => (if x2_18 = 0 then k_121 v_t_to_16 else bb_b1 (uX8_isByte v_t_to_16 (48 : Int32) (57 : Int32) v_t_taped_19 f_t_tape_21) (fun (r30 : Int32) => (if r30 = 0 then k_121 v_t_to_16 else k26 ())))) (fun k28 => (if x1_17 = 0 then k28 () else bb_b1 (uX8_isByte v_t_to_16 (97 : Int32) (122 : Int32) v_t_taped_19 f_t_tape_21) (fun (r36 : Int32) => (if r36 = 0 then k28 () else k26 ())))))
def uX8_next__s8 (v_t_taped_42 : Int32) (f_t_tape_44 : Nat → Int32) (k_36 : Int32 → Option ((Int32) × (Int32))) (rec45 : Int32 → Option ((Int32) × (Int32))) (v_t_from_41 : Int32) : Option ((Int32) × (Int32)) :=
  bb_b1 (uX8_isByte v_t_from_41 (32 : Int32) (32 : Int32) v_t_taped_42 f_t_tape_44) (fun (r48 : Int32) => (if r48 = 0 then k_36 v_t_from_41 else rec45 (v_t_from_41 + (1 : Int32))))
def uX8_next_ (nn : Nat) (v_t_taped : Int32) (v_t_from : Int32) (v_t_to : Int32) (f_t_tape : Nat → Int32) : Option ((Int32) × (Int32)) :=
  bb_cut (fun (v_t_from_1 : Int32) => bb_b1 (uX8_isByte v_t_from_1 (97 : Int32) (122 : Int32) v_t_taped f_t_tape) (fun (r3 : Int32) => bb_b1 (uX8_isByte v_t_from_1 (48 : Int32) (57 : Int32) v_t_taped f_t_tape) (fun (r7 : Int32) => bb_cut (fun (v_t_to_11 : Int32) => (if r3 = 0 then (if r7 = 0 then (if v_t_taped ≤ v_t_from_1 then some (v_t_from_1, v_t_to_11 + (0 : Int32)) else some (v_t_from_1, v_t_to_11 + (1 : Int32))) else some (v_t_from_1, v_t_to_11 + (0 : Int32))) else some (v_t_from_1, v_t_to_11 + (0 : Int32)))) (fun k12 => bb_loop1 (uX8_next__s70 r3 r7 v_t_taped f_t_tape k12) nn v_t_from_1)))) (fun k2 => bb_loop1 (uX8_next__s8 v_t_taped f_t_tape k2) nn v_t_to)
theorem kdX8_next_ : yX8_next_.cls = RX8 ∧ yX8_next_.cls ≠ "java/lang/invoke/MethodHandle" ∧ yX8_next_.cls ≠ "java/lang/invoke/VarHandle" ∧ (parseMethodDescriptor yX8_next_.desc).map (fun d => d.parameters.length) = some 0 := by decide +kernel
set_option maxHeartbeats 4000000 in
set_option maxRecDepth 100000 in
theorem kX8_next_ (l : Launch) (dC : Nat → ClassId) (dI : Nat → Nat → Nat) (cy : Nat → ClassId) (sz : Nat) (a_t : Nat → Nat) (v_t_isKept : Int32) (v_t_bestPost : Int32) (v_t_mostSeen : Int32) (v_t_taped : Int32) (v_t_from : Int32) (v_t_to : Int32) (v_t_isWrong : Int32) (f_t_tape : Nat → Int32) (nn : Nat) (v_t_from_o : Int32) (v_t_to_o : Int32) (h : uX8_next_ nn v_t_taped v_t_from v_t_to f_t_tape = some (v_t_from_o, v_t_to_o)) : Met l yX8_next_ wsX8_next_ ({ frames := 2, cells := 0, slots := 0, locals := 48 }) (va_Pc [.ref (a_t 0)] (fun U => U.heap.size = sz ∧ va_P (dC, dI) vwCl [((a_t 0), oX8 a_t v_t_isKept v_t_bestPost v_t_mostSeen v_t_taped v_t_from v_t_to v_t_isWrong), ((a_t 12), .inl (cy 0, 120, .inl f_t_tape))] U.heap ∧ va_K (dC, dI) vwCl (tyX cy) U ∧ va_D (fun _ => True) [((a_t 0), oX8 a_t v_t_isKept v_t_bestPost v_t_mostSeen v_t_taped v_t_from v_t_to v_t_isWrong), ((a_t 12), .inl (cy 0, 120, .inl f_t_tape))])) (va_Qv (fun (_ : Unit) => True) (fun _ t => va_P (dC, dI) vwCl [((a_t 0), oX8 a_t v_t_isKept v_t_bestPost v_t_mostSeen v_t_taped v_t_from_o v_t_to_o v_t_isWrong), ((a_t 12), .inl (cy 0, 120, .inl f_t_tape))] t.heap ∧ va_K (dC, dI) vwCl (tyX cy) t ∧ va_D (va_A [((a_t 0), oX8 a_t v_t_isKept v_t_bestPost v_t_mostSeen v_t_taped v_t_from v_t_to v_t_isWrong), ((a_t 12), .inl (cy 0, 120, .inl f_t_tape))] sz) [((a_t 0), oX8 a_t v_t_isKept v_t_bestPost v_t_mostSeen v_t_taped v_t_from_o v_t_to_o v_t_isWrong), ((a_t 12), .inl (cy 0, 120, .inl f_t_tape))]) (va_A [((a_t 0), oX8 a_t v_t_isKept v_t_bestPost v_t_mostSeen v_t_taped v_t_from v_t_to v_t_isWrong), ((a_t 12), .inl (cy 0, 120, .inl f_t_tape))] sz)) 0 0 (va_A [((a_t 0), oX8 a_t v_t_isKept v_t_bestPost v_t_mostSeen v_t_taped v_t_from v_t_to v_t_isWrong), ((a_t 12), .inl (cy 0, 120, .inl f_t_tape))] sz) := by
  refine Met.ofW (cc := cX8_next_) (maxL := 3) (ret := none) (by decide) rfl ?_
  intro p e s m args below meth c s₁ B hml hv
  obtain ⟨rfl, hsz, hP, hK, hD0⟩ := hv
  have hx := B.exec
  have hb := B.bytes
  have hr := B.returns
  have hts := atoms_spec (ws := wsX8_next_) B.pre
  have hown : s.vm.findClass RX8 = some m.cls := findClass_of_methodNamed B.named
  have hlocks := B.notSynchronized
  have iwX8 : ∀ w ∈ wsX80, w ∈ wsX8_next_ := fun w h9 => List.mem_cons_of_mem _ (List.mem_append_right _ (h9))
  have lk1 := hts (Cond.fieldLink RX8 268 "BathBorderModel" "to" "I") (List.mem_of_getElem? (i := 1) rfl)
  have lk2 := hts (Cond.fieldLink RX8 271 "BathBorderModel" "from" "I") (List.mem_of_getElem? (i := 2) rfl)
  have lk3 := hts (Cond.fieldLink RX8 265 "BathBorderModel" "taped" "I") (List.mem_of_getElem? (i := 3) rfl)
  subst hsz
  have hD := hD0.self (sz := s.heap.size)
  generalize hAe : va_A [((a_t 0), oX8 a_t v_t_isKept v_t_bestPost v_t_mostSeen v_t_taped v_t_from v_t_to v_t_isWrong), ((a_t 12), .inl (cy 0, 120, .inl f_t_tape))] s.heap.size = A at hD ⊢
  have hA : ∀ q : Nat, s.heap.size ≤ q → A q := fun q h => by rw [← hAe]; exact Or.inr h
  have hS : va_S A s.heap s.heap [] := va_S.rf
  have hP : va_P (dC, dI) vwCl [((a_t 0), oX8 a_t v_t_isKept v_t_bestPost v_t_mostSeen v_t_taped v_t_from v_t_to v_t_isWrong), ((a_t 12), .inl (cy 0, 120, .inl f_t_tape))] s.heap := hP
  have hl := lv_entry ([.ref (a_t 0)]) (n := 3) (Nat.le_of_ble_eq_true rfl)
  rw [lg_entry_eq]
  generalize (lg_sl ([.ref (a_t 0)]) ++ List.replicate (3 - (lg_sl ([.ref (a_t 0)])).length) Slot.unset).toArray = ls at hl ⊢
  have hl : lv_has ls 3 [(0, .ref (a_t 0))] := hl
  unfold uX8_next_ at h
  refine bb_cap (fun WW toW ofW => ?_)
  refine lv_aload_n hx hb dX8_next__0 rfl (lv_at hl 0 rfl) ?_
  refine lv_aload_n hx hb dX8_next__1 rfl (lv_at hl 0 rfl) ?_
  refine va_get (D := (dC, dI)) (ci := 7) (v := .int v_t_to) (C := RX8) (T := TX8) (N := 20) hx hb hts iwX8 hown hK hP 0 rfl rfl 14 (by decide) lk1 (fun _ h9 => h9) rfl dX8_next__2 ?_
  refine va_put (D := (dC, dI)) (ci := 7) (v := .int v_t_to) (ty := .int) (C := RX8) (T := TX8) (N := 20) hx hb hts iwX8 tyX8 tyX8_ok nmX8 hown hK hP hD hS 0 rfl rfl 13 (by decide) lk2 (fun _ h9 => h9) rfl (by decide +kernel) rfl rfl (Nat.le_of_ble_eq_true rfl) dX8_next__5 (fun H locs hP hD hS => ?_)
  have hP : va_P (dC, dI) vwCl [((a_t 0), oX8 a_t v_t_isKept v_t_bestPost v_t_mostSeen v_t_taped v_t_to v_t_to v_t_isWrong), ((a_t 12), .inl (cy 0, 120, .inl f_t_tape))] H := hP
  have hD : va_D A [((a_t 0), oX8 a_t v_t_isKept v_t_bestPost v_t_mostSeen v_t_taped v_t_to v_t_to v_t_isWrong), ((a_t 12), .inl (cy 0, 120, .inl f_t_tape))] := hD
  obtain ⟨k2, ek2, h⟩ := bb_cut_o h
  have Jk2 : ∀ (v_t_from_1 : Int32) (H : Heap) (locs : List Loc) (ls : Array Slot), k2 v_t_from_1 = some (v_t_from_o, v_t_to_o) → va_P (dC, dI) vwCl [((a_t 0), oX8 a_t v_t_isKept v_t_bestPost v_t_mostSeen v_t_taped v_t_from_1 v_t_to v_t_isWrong), ((a_t 12), .inl (cy 0, 120, .inl f_t_tape))] H → va_D A [((a_t 0), oX8 a_t v_t_isKept v_t_bestPost v_t_mostSeen v_t_taped v_t_from_1 v_t_to v_t_isWrong), ((a_t 12), .inl (cy 0, 120, .inl f_t_tape))] → va_S A s.heap H locs → lv_has ls 3 [(0, .ref (a_t 0))] → WW H locs (F0 m 36 ls []) := by
    intro v_t_from_1 H locs ls h hP hD hS hl
    refine ofW _ _ _ ?_
    subst ek2
    refine lv_aload_n hx hb dX8_next__36 rfl (lv_at hl 0 rfl) ?_
    refine lv_aload_n hx hb dX8_next__37 rfl (lv_at hl 0 rfl) ?_
    refine va_get (D := (dC, dI)) (ci := 7) (v := .int v_t_from_1) (C := RX8) (T := TX8) (N := 20) hx hb hts iwX8 hown hK hP 0 rfl rfl 13 (by decide) lk2 (fun _ h9 => h9) rfl dX8_next__38 ?_
    refine va_put (D := (dC, dI)) (ci := 7) (v := .int v_t_from_1) (ty := .int) (C := RX8) (T := TX8) (N := 20) hx hb hts iwX8 tyX8 tyX8_ok nmX8 hown hK hP hD hS 0 rfl rfl 14 (by decide) lk1 (fun _ h9 => h9) rfl (by decide +kernel) rfl rfl (Nat.le_of_ble_eq_true rfl) dX8_next__41 (fun H locs hP hD hS => ?_)
    have hP : va_P (dC, dI) vwCl [((a_t 0), oX8 a_t v_t_isKept v_t_bestPost v_t_mostSeen v_t_taped v_t_from_1 v_t_from_1 v_t_isWrong), ((a_t 12), .inl (cy 0, 120, .inl f_t_tape))] H := hP
    have hD : va_D A [((a_t 0), oX8 a_t v_t_isKept v_t_bestPost v_t_mostSeen v_t_taped v_t_from_1 v_t_from_1 v_t_isWrong), ((a_t 12), .inl (cy 0, 120, .inl f_t_tape))] := hD
    refine lv_aload_n hx hb dX8_next__44 rfl (lv_at hl 0 rfl) ?_
    refine lv_aload_n hx hb dX8_next__45 rfl (lv_at hl 0 rfl) ?_
    refine va_get (D := (dC, dI)) (ci := 7) (v := .int v_t_from_1) (C := RX8) (T := TX8) (N := 20) hx hb hts iwX8 hown hK hP 0 rfl rfl 13 (by decide) lk2 (fun _ h9 => h9) rfl dX8_next__46 ?_
    refine lv_bipush (v := (97 : Int32)) hx hb dX8_next__49 (by decide) ?_
    refine lv_bipush (v := (122 : Int32)) hx hb dX8_next__51 (by decide) ?_
    obtain ⟨r3, hc4, h⟩ := bb_b1_o h
    refine vp_callSi (W.runV (As := [.int v_t_from_1, .int (97 : Int32), .int (122 : Int32)]) (rest := []) ⟨hx, hb, hml, hown, hts⟩ (kX8_isByte l dC dI cy a_t v_t_from_1 (97 : Int32) (122 : Int32) v_t_isKept v_t_bestPost v_t_mostSeen v_t_taped v_t_from_1 v_t_from_1 v_t_isWrong f_t_tape r3 hc4) (cwV 3 hts gX8_next__X8_isByte rfl rfl rfl kdX8_isByte ⟨Nat.le_of_ble_eq_true rfl, Nat.le_of_ble_eq_true rfl⟩) (bb_preV (va_recv hK hP (ci := 7) (q0 := 0) rfl rfl) hP hK) rfl rfl hl.1 rfl (lv_room (Nat.le_of_ble_eq_true rfl)) dX8_next__53 ⟨Nat.zero_le _, Nat.zero_le _⟩) (fun t5 et5 => ?_)
    obtain ⟨rfl, hz6⟩ := et5
    refine lv_istore_n (lv' := [(1, .int r3), (0, .ref (a_t 0))]) hx hb dX8_next__56 rfl hl (by decide) rfl (fun ls hl => ?_)
    refine lv_aload_n hx hb dX8_next__57 rfl (lv_at hl 1 rfl) ?_
    refine lv_aload_n hx hb dX8_next__58 rfl (lv_at hl 1 rfl) ?_
    refine va_get (D := (dC, dI)) (ci := 7) (v := .int v_t_from_1) (C := RX8) (T := TX8) (N := 20) hx hb hts iwX8 hown hK hP 0 rfl rfl 13 (by decide) lk2 (fun _ h9 => h9) rfl dX8_next__59 ?_
    refine lv_bipush (v := (48 : Int32)) hx hb dX8_next__62 (by decide) ?_
    refine lv_bipush (v := (57 : Int32)) hx hb dX8_next__64 (by decide) ?_
    obtain ⟨r7, hc8, h⟩ := bb_b1_o h
    refine vp_callSi (W.runV (As := [.int v_t_from_1, .int (48 : Int32), .int (57 : Int32)]) (rest := []) ⟨hx, hb, hml, hown, hts⟩ (kX8_isByte l dC dI cy a_t v_t_from_1 (48 : Int32) (57 : Int32) v_t_isKept v_t_bestPost v_t_mostSeen v_t_taped v_t_from_1 v_t_from_1 v_t_isWrong f_t_tape r7 hc8) (cwV 3 hts gX8_next__X8_isByte rfl rfl rfl kdX8_isByte ⟨Nat.le_of_ble_eq_true rfl, Nat.le_of_ble_eq_true rfl⟩) (bb_preV (va_recv hK hP (ci := 7) (q0 := 0) rfl rfl) hP hK) rfl rfl hl.1 rfl (lv_room (Nat.le_of_ble_eq_true rfl)) dX8_next__66 ⟨Nat.zero_le _, Nat.zero_le _⟩) (fun t9 et9 => ?_)
    obtain ⟨rfl, hz10⟩ := et9
    refine lv_istore_n (lv' := [(2, .int r7), (1, .int r3), (0, .ref (a_t 0))]) hx hb dX8_next__69 rfl hl (by decide) rfl (fun ls hl => ?_)
    obtain ⟨k12, ek12, h⟩ := bb_cut_o h
    have Jk12 : ∀ (v_t_to_11 : Int32) (H : Heap) (locs : List Loc) (ls : Array Slot), k12 v_t_to_11 = some (v_t_from_o, v_t_to_o) → va_P (dC, dI) vwCl [((a_t 0), oX8 a_t v_t_isKept v_t_bestPost v_t_mostSeen v_t_taped v_t_from_1 v_t_to_11 v_t_isWrong), ((a_t 12), .inl (cy 0, 120, .inl f_t_tape))] H → va_D A [((a_t 0), oX8 a_t v_t_isKept v_t_bestPost v_t_mostSeen v_t_taped v_t_from_1 v_t_to_11 v_t_isWrong), ((a_t 12), .inl (cy 0, 120, .inl f_t_tape))] → va_S A s.heap H locs → lv_has ls 3 [(0, .ref (a_t 0)), (1, .int r3), (2, .int r7)] → WW H locs (F0 m 121 ls []) := by
      intro v_t_to_11 H locs ls h hP hD hS hl
      refine ofW _ _ _ ?_
      subst ek12
      refine lv_aload_n hx hb dX8_next__121 rfl (lv_at hl 0 rfl) ?_
      refine lv_dup hx hb dX8_next__122 rfl ?_
      refine va_get (D := (dC, dI)) (ci := 7) (v := .int v_t_to_11) (C := RX8) (T := TX8) (N := 20) hx hb hts iwX8 hown hK hP 0 rfl rfl 14 (by decide) lk1 (fun _ h9 => h9) rfl dX8_next__123 ?_
      refine lv_iload_n hx hb dX8_next__126 rfl (lv_at hl 1 rfl) ?_
      refine lv_if_ne (tgt := 149) hx hb dX8_next__127 (by decide) (fun c13 => ?_) (fun c13 => ?_)
      · replace h := bb_ifn c13 h
        refine lv_iconst (v := (0 : Int32)) hx hb dX8_next__149 (by decide) ?_
        refine lv_iadd hx hb dX8_next__150 ?_
        refine va_put (D := (dC, dI)) (ci := 7) (v := .int (v_t_to_11 + (0 : Int32))) (ty := .int) (C := RX8) (T := TX8) (N := 20) hx hb hts iwX8 tyX8 tyX8_ok nmX8 hown hK hP hD hS 0 rfl rfl 14 (by decide) lk1 (fun _ h9 => h9) rfl (by decide +kernel) rfl rfl (Nat.le_of_ble_eq_true rfl) dX8_next__151 (fun H locs hP hD hS => ?_)
        have hP : va_P (dC, dI) vwCl [((a_t 0), oX8 a_t v_t_isKept v_t_bestPost v_t_mostSeen v_t_taped v_t_from_1 (v_t_to_11 + (0 : Int32)) v_t_isWrong), ((a_t 12), .inl (cy 0, 120, .inl f_t_tape))] H := hP
        have hD : va_D A [((a_t 0), oX8 a_t v_t_isKept v_t_bestPost v_t_mostSeen v_t_taped v_t_from_1 (v_t_to_11 + (0 : Int32)) v_t_isWrong), ((a_t 12), .inl (cy 0, 120, .inl f_t_tape))] := hD
        obtain ⟨rfl, rfl⟩ := bb_some2 h
        have hP9 := hP.sub (ws' := [((a_t 0), oX8 a_t v_t_isKept v_t_bestPost v_t_mostSeen v_t_taped v_t_from_1 (v_t_to_11 + (0 : Int32)) v_t_isWrong), ((a_t 12), .inl (cy 0, 120, .inl f_t_tape))]) [0, 1] rfl
        have hD9 := hD.sub (ws' := [((a_t 0), oX8 a_t v_t_isKept v_t_bestPost v_t_mostSeen v_t_taped v_t_from_1 (v_t_to_11 + (0 : Int32)) v_t_isWrong), ((a_t 12), .inl (cy 0, 120, .inl f_t_tape))]) [0, 1] (by decide) rfl
        exact W.vret hx hb hr (fun t ht hW => ⟨⟨(), rfl, trivial, by rw [ht]; exact hP9, va_K.moved hW.alike hK, hD9⟩, hS.F ht⟩) hS.2.2 dX8_next__154
      · replace h := bb_ifp c13 h
        refine lv_iload_n hx hb dX8_next__130 rfl (lv_at hl 2 rfl) ?_
        refine lv_if_ne (tgt := 149) hx hb dX8_next__131 (by decide) (fun c14 => ?_) (fun c14 => ?_)
        · replace h := bb_ifn c14 h
          refine lv_iconst (v := (0 : Int32)) hx hb dX8_next__149 (by decide) ?_
          refine lv_iadd hx hb dX8_next__150 ?_
          refine va_put (D := (dC, dI)) (ci := 7) (v := .int (v_t_to_11 + (0 : Int32))) (ty := .int) (C := RX8) (T := TX8) (N := 20) hx hb hts iwX8 tyX8 tyX8_ok nmX8 hown hK hP hD hS 0 rfl rfl 14 (by decide) lk1 (fun _ h9 => h9) rfl (by decide +kernel) rfl rfl (Nat.le_of_ble_eq_true rfl) dX8_next__151 (fun H locs hP hD hS => ?_)
          have hP : va_P (dC, dI) vwCl [((a_t 0), oX8 a_t v_t_isKept v_t_bestPost v_t_mostSeen v_t_taped v_t_from_1 (v_t_to_11 + (0 : Int32)) v_t_isWrong), ((a_t 12), .inl (cy 0, 120, .inl f_t_tape))] H := hP
          have hD : va_D A [((a_t 0), oX8 a_t v_t_isKept v_t_bestPost v_t_mostSeen v_t_taped v_t_from_1 (v_t_to_11 + (0 : Int32)) v_t_isWrong), ((a_t 12), .inl (cy 0, 120, .inl f_t_tape))] := hD
          obtain ⟨rfl, rfl⟩ := bb_some2 h
          have hP9 := hP.sub (ws' := [((a_t 0), oX8 a_t v_t_isKept v_t_bestPost v_t_mostSeen v_t_taped v_t_from_1 (v_t_to_11 + (0 : Int32)) v_t_isWrong), ((a_t 12), .inl (cy 0, 120, .inl f_t_tape))]) [0, 1] rfl
          have hD9 := hD.sub (ws' := [((a_t 0), oX8 a_t v_t_isKept v_t_bestPost v_t_mostSeen v_t_taped v_t_from_1 (v_t_to_11 + (0 : Int32)) v_t_isWrong), ((a_t 12), .inl (cy 0, 120, .inl f_t_tape))]) [0, 1] (by decide) rfl
          exact W.vret hx hb hr (fun t ht hW => ⟨⟨(), rfl, trivial, by rw [ht]; exact hP9, va_K.moved hW.alike hK, hD9⟩, hS.F ht⟩) hS.2.2 dX8_next__154
        · replace h := bb_ifp c14 h
          refine lv_aload_n hx hb dX8_next__134 rfl (lv_at hl 0 rfl) ?_
          refine va_get (D := (dC, dI)) (ci := 7) (v := .int v_t_from_1) (C := RX8) (T := TX8) (N := 20) hx hb hts iwX8 hown hK hP 0 rfl rfl 13 (by decide) lk2 (fun _ h9 => h9) rfl dX8_next__135 ?_
          refine lv_aload_n hx hb dX8_next__138 rfl (lv_at hl 0 rfl) ?_
          refine va_get (D := (dC, dI)) (ci := 7) (v := .int v_t_taped) (C := RX8) (T := TX8) (N := 20) hx hb hts iwX8 hown hK hP 0 rfl rfl 12 (by decide) lk3 (fun _ h9 => h9) rfl dX8_next__139 ?_
          refine lv_icmp_ge (tgt := 149) hx hb dX8_next__142 (by decide) (fun c15 => ?_) (fun c15 => ?_)
          · replace h := bb_ifp c15 h
            refine lv_iconst (v := (0 : Int32)) hx hb dX8_next__149 (by decide) ?_
            refine lv_iadd hx hb dX8_next__150 ?_
            refine va_put (D := (dC, dI)) (ci := 7) (v := .int (v_t_to_11 + (0 : Int32))) (ty := .int) (C := RX8) (T := TX8) (N := 20) hx hb hts iwX8 tyX8 tyX8_ok nmX8 hown hK hP hD hS 0 rfl rfl 14 (by decide) lk1 (fun _ h9 => h9) rfl (by decide +kernel) rfl rfl (Nat.le_of_ble_eq_true rfl) dX8_next__151 (fun H locs hP hD hS => ?_)
            have hP : va_P (dC, dI) vwCl [((a_t 0), oX8 a_t v_t_isKept v_t_bestPost v_t_mostSeen v_t_taped v_t_from_1 (v_t_to_11 + (0 : Int32)) v_t_isWrong), ((a_t 12), .inl (cy 0, 120, .inl f_t_tape))] H := hP
            have hD : va_D A [((a_t 0), oX8 a_t v_t_isKept v_t_bestPost v_t_mostSeen v_t_taped v_t_from_1 (v_t_to_11 + (0 : Int32)) v_t_isWrong), ((a_t 12), .inl (cy 0, 120, .inl f_t_tape))] := hD
            obtain ⟨rfl, rfl⟩ := bb_some2 h
            have hP9 := hP.sub (ws' := [((a_t 0), oX8 a_t v_t_isKept v_t_bestPost v_t_mostSeen v_t_taped v_t_from_1 (v_t_to_11 + (0 : Int32)) v_t_isWrong), ((a_t 12), .inl (cy 0, 120, .inl f_t_tape))]) [0, 1] rfl
            have hD9 := hD.sub (ws' := [((a_t 0), oX8 a_t v_t_isKept v_t_bestPost v_t_mostSeen v_t_taped v_t_from_1 (v_t_to_11 + (0 : Int32)) v_t_isWrong), ((a_t 12), .inl (cy 0, 120, .inl f_t_tape))]) [0, 1] (by decide) rfl
            exact W.vret hx hb hr (fun t ht hW => ⟨⟨(), rfl, trivial, by rw [ht]; exact hP9, va_K.moved hW.alike hK, hD9⟩, hS.F ht⟩) hS.2.2 dX8_next__154
          · replace h := bb_ifn c15 h
            refine lv_iconst (v := (1 : Int32)) hx hb dX8_next__145 (by decide) ?_
            refine lv_goto (tgt := 150) hx hb dX8_next__146 (by decide) ?_
            refine lv_iadd hx hb dX8_next__150 ?_
            refine va_put (D := (dC, dI)) (ci := 7) (v := .int (v_t_to_11 + (1 : Int32))) (ty := .int) (C := RX8) (T := TX8) (N := 20) hx hb hts iwX8 tyX8 tyX8_ok nmX8 hown hK hP hD hS 0 rfl rfl 14 (by decide) lk1 (fun _ h9 => h9) rfl (by decide +kernel) rfl rfl (Nat.le_of_ble_eq_true rfl) dX8_next__151 (fun H locs hP hD hS => ?_)
            have hP : va_P (dC, dI) vwCl [((a_t 0), oX8 a_t v_t_isKept v_t_bestPost v_t_mostSeen v_t_taped v_t_from_1 (v_t_to_11 + (1 : Int32)) v_t_isWrong), ((a_t 12), .inl (cy 0, 120, .inl f_t_tape))] H := hP
            have hD : va_D A [((a_t 0), oX8 a_t v_t_isKept v_t_bestPost v_t_mostSeen v_t_taped v_t_from_1 (v_t_to_11 + (1 : Int32)) v_t_isWrong), ((a_t 12), .inl (cy 0, 120, .inl f_t_tape))] := hD
            obtain ⟨rfl, rfl⟩ := bb_some2 h
            have hP9 := hP.sub (ws' := [((a_t 0), oX8 a_t v_t_isKept v_t_bestPost v_t_mostSeen v_t_taped v_t_from_1 (v_t_to_11 + (1 : Int32)) v_t_isWrong), ((a_t 12), .inl (cy 0, 120, .inl f_t_tape))]) [0, 1] rfl
            have hD9 := hD.sub (ws' := [((a_t 0), oX8 a_t v_t_isKept v_t_bestPost v_t_mostSeen v_t_taped v_t_from_1 (v_t_to_11 + (1 : Int32)) v_t_isWrong), ((a_t 12), .inl (cy 0, 120, .inl f_t_tape))]) [0, 1] (by decide) rfl
            exact W.vret hx hb hr (fun t ht hW => ⟨⟨(), rfl, trivial, by rw [ht]; exact hP9, va_K.moved hW.alike hK, hD9⟩, hS.F ht⟩) hS.2.2 dX8_next__154
    have L23 : ∀ (n : Nat) (v_t_to_16 : Int32) (H : Heap) (locs : List Loc) (ls : Array Slot), bb_loop1 (uX8_next__s70 r3 r7 v_t_taped f_t_tape k12) n v_t_to_16 = some (v_t_from_o, v_t_to_o) → va_P (dC, dI) vwCl [((a_t 0), oX8 a_t v_t_isKept v_t_bestPost v_t_mostSeen v_t_taped v_t_from_1 v_t_to_16 v_t_isWrong), ((a_t 12), .inl (cy 0, 120, .inl f_t_tape))] H → va_D A [((a_t 0), oX8 a_t v_t_isKept v_t_bestPost v_t_mostSeen v_t_taped v_t_from_1 v_t_to_16 v_t_isWrong), ((a_t 12), .inl (cy 0, 120, .inl f_t_tape))] → va_S A s.heap H locs → lv_has ls 3 [(0, .ref (a_t 0)), (1, .int r3), (2, .int r7)] → WW H locs (F0 m 70 ls []) := by
      intro n
      induction n with
      | zero => intro v_t_to_16 H locs ls h; exact (bb_no h).elim
      | succ n ih24 =>
        intro v_t_to_16 H locs ls h hP hD hS hl
        refine ofW _ _ _ ?_
        obtain ⟨rec22, erec22, h⟩ := bb_loop1_o h
        unfold uX8_next__s70 at h
        refine lv_iload_n hx hb dX8_next__70 rfl (lv_at hl 1 rfl) ?_
        obtain ⟨k26, ek26, h⟩ := bb_cut_o h
        have Jk26 : ∀ (u25 : Unit) (H : Heap) (locs : List Loc) (ls : Array Slot), k26 u25 = some (v_t_from_o, v_t_to_o) → va_P (dC, dI) vwCl [((a_t 0), oX8 a_t v_t_isKept v_t_bestPost v_t_mostSeen v_t_taped v_t_from_1 v_t_to_16 v_t_isWrong), ((a_t 12), .inl (cy 0, 120, .inl f_t_tape))] H → va_D A [((a_t 0), oX8 a_t v_t_isKept v_t_bestPost v_t_mostSeen v_t_taped v_t_from_1 v_t_to_16 v_t_isWrong), ((a_t 12), .inl (cy 0, 120, .inl f_t_tape))] → va_S A s.heap H locs → lv_has ls 3 [(0, .ref (a_t 0)), (1, .int r3), (2, .int r7)] → WW H locs (F0 m 108 ls []) := by
          intro u25 H locs ls h hP hD hS hl
          refine ofW _ _ _ ?_
          subst ek26
          refine lv_aload_n hx hb dX8_next__108 rfl (lv_at hl 0 rfl) ?_
          refine lv_dup hx hb dX8_next__109 rfl ?_
          refine va_get (D := (dC, dI)) (ci := 7) (v := .int v_t_to_16) (C := RX8) (T := TX8) (N := 20) hx hb hts iwX8 hown hK hP 0 rfl rfl 14 (by decide) lk1 (fun _ h9 => h9) rfl dX8_next__110 ?_
          refine lv_iconst (v := (1 : Int32)) hx hb dX8_next__113 (by decide) ?_
          refine lv_iadd hx hb dX8_next__114 ?_
          refine va_put (D := (dC, dI)) (ci := 7) (v := .int (v_t_to_16 + (1 : Int32))) (ty := .int) (C := RX8) (T := TX8) (N := 20) hx hb hts iwX8 tyX8 tyX8_ok nmX8 hown hK hP hD hS 0 rfl rfl 14 (by decide) lk1 (fun _ h9 => h9) rfl (by decide +kernel) rfl rfl (Nat.le_of_ble_eq_true rfl) dX8_next__115 (fun H locs hP hD hS => ?_)
          have hP : va_P (dC, dI) vwCl [((a_t 0), oX8 a_t v_t_isKept v_t_bestPost v_t_mostSeen v_t_taped v_t_from_1 (v_t_to_16 + (1 : Int32)) v_t_isWrong), ((a_t 12), .inl (cy 0, 120, .inl f_t_tape))] H := hP
          have hD : va_D A [((a_t 0), oX8 a_t v_t_isKept v_t_bestPost v_t_mostSeen v_t_taped v_t_from_1 (v_t_to_16 + (1 : Int32)) v_t_isWrong), ((a_t 12), .inl (cy 0, 120, .inl f_t_tape))] := hD
          refine lv_goto (tgt := 70) hx hb dX8_next__118 (by decide) ?_
          rw [erec22] at h
          exact toW _ _ _ (ih24 (v_t_to_16 + (1 : Int32)) _ _ _ h hP hD hS (lv_sub hl [0, 1, 2] rfl))
        obtain ⟨k28, ek28, h⟩ := bb_cut_o h
        have Jk28 : ∀ (u27 : Unit) (H : Heap) (locs : List Loc) (ls : Array Slot), k28 u27 = some (v_t_from_o, v_t_to_o) → va_P (dC, dI) vwCl [((a_t 0), oX8 a_t v_t_isKept v_t_bestPost v_t_mostSeen v_t_taped v_t_from_1 v_t_to_16 v_t_isWrong), ((a_t 12), .inl (cy 0, 120, .inl f_t_tape))] H → va_D A [((a_t 0), oX8 a_t v_t_isKept v_t_bestPost v_t_mostSeen v_t_taped v_t_from_1 v_t_to_16 v_t_isWrong), ((a_t 12), .inl (cy 0, 120, .inl f_t_tape))] → va_S A s.heap H locs → lv_has ls 3 [(0, .ref (a_t 0)), (1, .int r3), (2, .int r7)] → WW H locs (F0 m 89 ls []) := by
          intro u27 H locs ls h hP hD hS hl
          refine ofW _ _ _ ?_
          subst ek28
          refine lv_iload_n hx hb dX8_next__89 rfl (lv_at hl 2 rfl) ?_
          refine lv_if_eq (tgt := 121) hx hb dX8_next__90 (by decide) (fun c29 => ?_) (fun c29 => ?_)
          · replace h := bb_ifp c29 h
            exact toW _ _ _ (Jk12 v_t_to_16 _ _ _ h hP hD hS (lv_sub hl [0, 1, 2] rfl))
          · replace h := bb_ifn c29 h
            refine lv_aload_n hx hb dX8_next__93 rfl (lv_at hl 0 rfl) ?_
            refine lv_aload_n hx hb dX8_next__94 rfl (lv_at hl 0 rfl) ?_
            refine va_get (D := (dC, dI)) (ci := 7) (v := .int v_t_to_16) (C := RX8) (T := TX8) (N := 20) hx hb hts iwX8 hown hK hP 0 rfl rfl 14 (by decide) lk1 (fun _ h9 => h9) rfl dX8_next__95 ?_
            refine lv_bipush (v := (48 : Int32)) hx hb dX8_next__98 (by decide) ?_
            refine lv_bipush (v := (57 : Int32)) hx hb dX8_next__100 (by decide) ?_
            obtain ⟨r30, hc31, h⟩ := bb_b1_o h
            refine vp_callSi (W.runV (As := [.int v_t_to_16, .int (48 : Int32), .int (57 : Int32)]) (rest := []) ⟨hx, hb, hml, hown, hts⟩ (kX8_isByte l dC dI cy a_t v_t_to_16 (48 : Int32) (57 : Int32) v_t_isKept v_t_bestPost v_t_mostSeen v_t_taped v_t_from_1 v_t_to_16 v_t_isWrong f_t_tape r30 hc31) (cwV 3 hts gX8_next__X8_isByte rfl rfl rfl kdX8_isByte ⟨Nat.le_of_ble_eq_true rfl, Nat.le_of_ble_eq_true rfl⟩) (bb_preV (va_recv hK hP (ci := 7) (q0 := 0) rfl rfl) hP hK) rfl rfl hl.1 rfl (lv_room (Nat.le_of_ble_eq_true rfl)) dX8_next__102 ⟨Nat.zero_le _, Nat.zero_le _⟩) (fun t32 et32 => ?_)
            obtain ⟨rfl, hz33⟩ := et32
            refine lv_if_eq (tgt := 121) hx hb dX8_next__105 (by decide) (fun c34 => ?_) (fun c34 => ?_)
            · replace h := bb_ifp c34 h
              exact toW _ _ _ (Jk12 v_t_to_16 _ _ _ h hP hD hS (lv_sub hl [0, 1, 2] rfl))
            · replace h := bb_ifn c34 h
              exact toW _ _ _ (Jk26 () _ _ _ h hP hD hS (lv_sub hl [0, 1, 2] rfl))
        refine lv_if_eq (tgt := 89) hx hb dX8_next__71 (by decide) (fun c35 => ?_) (fun c35 => ?_)
        · replace h := bb_ifp c35 h
          exact toW _ _ _ (Jk28 () _ _ _ h hP hD hS (lv_sub hl [0, 1, 2] rfl))
        · replace h := bb_ifn c35 h
          refine lv_aload_n hx hb dX8_next__74 rfl (lv_at hl 0 rfl) ?_
          refine lv_aload_n hx hb dX8_next__75 rfl (lv_at hl 0 rfl) ?_
          refine va_get (D := (dC, dI)) (ci := 7) (v := .int v_t_to_16) (C := RX8) (T := TX8) (N := 20) hx hb hts iwX8 hown hK hP 0 rfl rfl 14 (by decide) lk1 (fun _ h9 => h9) rfl dX8_next__76 ?_
          refine lv_bipush (v := (97 : Int32)) hx hb dX8_next__79 (by decide) ?_
          refine lv_bipush (v := (122 : Int32)) hx hb dX8_next__81 (by decide) ?_
          obtain ⟨r36, hc37, h⟩ := bb_b1_o h
          refine vp_callSi (W.runV (As := [.int v_t_to_16, .int (97 : Int32), .int (122 : Int32)]) (rest := []) ⟨hx, hb, hml, hown, hts⟩ (kX8_isByte l dC dI cy a_t v_t_to_16 (97 : Int32) (122 : Int32) v_t_isKept v_t_bestPost v_t_mostSeen v_t_taped v_t_from_1 v_t_to_16 v_t_isWrong f_t_tape r36 hc37) (cwV 3 hts gX8_next__X8_isByte rfl rfl rfl kdX8_isByte ⟨Nat.le_of_ble_eq_true rfl, Nat.le_of_ble_eq_true rfl⟩) (bb_preV (va_recv hK hP (ci := 7) (q0 := 0) rfl rfl) hP hK) rfl rfl hl.1 rfl (lv_room (Nat.le_of_ble_eq_true rfl)) dX8_next__83 ⟨Nat.zero_le _, Nat.zero_le _⟩) (fun t38 et38 => ?_)
          obtain ⟨rfl, hz39⟩ := et38
          refine lv_if_ne (tgt := 108) hx hb dX8_next__86 (by decide) (fun c40 => ?_) (fun c40 => ?_)
          · replace h := bb_ifn c40 h
            exact toW _ _ _ (Jk26 () _ _ _ h hP hD hS (lv_sub hl [0, 1, 2] rfl))
          · replace h := bb_ifp c40 h
            exact toW _ _ _ (Jk28 () _ _ _ h hP hD hS (lv_sub hl [0, 1, 2] rfl))
    exact toW _ _ _ (L23 nn v_t_from_1 _ _ _ h hP hD hS (lv_sub hl [2, 1, 0] rfl))
  have L46 : ∀ (n : Nat) (v_t_from_41 : Int32) (H : Heap) (locs : List Loc) (ls : Array Slot), bb_loop1 (uX8_next__s8 v_t_taped f_t_tape k2) n v_t_from_41 = some (v_t_from_o, v_t_to_o) → va_P (dC, dI) vwCl [((a_t 0), oX8 a_t v_t_isKept v_t_bestPost v_t_mostSeen v_t_taped v_t_from_41 v_t_to v_t_isWrong), ((a_t 12), .inl (cy 0, 120, .inl f_t_tape))] H → va_D A [((a_t 0), oX8 a_t v_t_isKept v_t_bestPost v_t_mostSeen v_t_taped v_t_from_41 v_t_to v_t_isWrong), ((a_t 12), .inl (cy 0, 120, .inl f_t_tape))] → va_S A s.heap H locs → lv_has ls 3 [(0, .ref (a_t 0))] → WW H locs (F0 m 8 ls []) := by
    intro n
    induction n with
    | zero => intro v_t_from_41 H locs ls h; exact (bb_no h).elim
    | succ n ih47 =>
      intro v_t_from_41 H locs ls h hP hD hS hl
      refine ofW _ _ _ ?_
      obtain ⟨rec45, erec45, h⟩ := bb_loop1_o h
      unfold uX8_next__s8 at h
      refine lv_aload_n hx hb dX8_next__8 rfl (lv_at hl 0 rfl) ?_
      refine lv_aload_n hx hb dX8_next__9 rfl (lv_at hl 0 rfl) ?_
      refine va_get (D := (dC, dI)) (ci := 7) (v := .int v_t_from_41) (C := RX8) (T := TX8) (N := 20) hx hb hts iwX8 hown hK hP 0 rfl rfl 13 (by decide) lk2 (fun _ h9 => h9) rfl dX8_next__10 ?_
      refine lv_bipush (v := (32 : Int32)) hx hb dX8_next__13 (by decide) ?_
      refine lv_bipush (v := (32 : Int32)) hx hb dX8_next__15 (by decide) ?_
      obtain ⟨r48, hc49, h⟩ := bb_b1_o h
      refine vp_callSi (W.runV (As := [.int v_t_from_41, .int (32 : Int32), .int (32 : Int32)]) (rest := []) ⟨hx, hb, hml, hown, hts⟩ (kX8_isByte l dC dI cy a_t v_t_from_41 (32 : Int32) (32 : Int32) v_t_isKept v_t_bestPost v_t_mostSeen v_t_taped v_t_from_41 v_t_to v_t_isWrong f_t_tape r48 hc49) (cwV 3 hts gX8_next__X8_isByte rfl rfl rfl kdX8_isByte ⟨Nat.le_of_ble_eq_true rfl, Nat.le_of_ble_eq_true rfl⟩) (bb_preV (va_recv hK hP (ci := 7) (q0 := 0) rfl rfl) hP hK) rfl rfl hl.1 rfl (lv_room (Nat.le_of_ble_eq_true rfl)) dX8_next__17 ⟨Nat.zero_le _, Nat.zero_le _⟩) (fun t50 et50 => ?_)
      obtain ⟨rfl, hz51⟩ := et50
      refine lv_if_eq (tgt := 36) hx hb dX8_next__20 (by decide) (fun c52 => ?_) (fun c52 => ?_)
      · replace h := bb_ifp c52 h
        exact toW _ _ _ (Jk2 v_t_from_41 _ _ _ h hP hD hS (lv_sub hl [0] rfl))
      · replace h := bb_ifn c52 h
        refine lv_aload_n hx hb dX8_next__23 rfl (lv_at hl 0 rfl) ?_
        refine lv_dup hx hb dX8_next__24 rfl ?_
        refine va_get (D := (dC, dI)) (ci := 7) (v := .int v_t_from_41) (C := RX8) (T := TX8) (N := 20) hx hb hts iwX8 hown hK hP 0 rfl rfl 13 (by decide) lk2 (fun _ h9 => h9) rfl dX8_next__25 ?_
        refine lv_iconst (v := (1 : Int32)) hx hb dX8_next__28 (by decide) ?_
        refine lv_iadd hx hb dX8_next__29 ?_
        refine va_put (D := (dC, dI)) (ci := 7) (v := .int (v_t_from_41 + (1 : Int32))) (ty := .int) (C := RX8) (T := TX8) (N := 20) hx hb hts iwX8 tyX8 tyX8_ok nmX8 hown hK hP hD hS 0 rfl rfl 13 (by decide) lk2 (fun _ h9 => h9) rfl (by decide +kernel) rfl rfl (Nat.le_of_ble_eq_true rfl) dX8_next__30 (fun H locs hP hD hS => ?_)
        have hP : va_P (dC, dI) vwCl [((a_t 0), oX8 a_t v_t_isKept v_t_bestPost v_t_mostSeen v_t_taped (v_t_from_41 + (1 : Int32)) v_t_to v_t_isWrong), ((a_t 12), .inl (cy 0, 120, .inl f_t_tape))] H := hP
        have hD : va_D A [((a_t 0), oX8 a_t v_t_isKept v_t_bestPost v_t_mostSeen v_t_taped (v_t_from_41 + (1 : Int32)) v_t_to v_t_isWrong), ((a_t 12), .inl (cy 0, 120, .inl f_t_tape))] := hD
        refine lv_goto (tgt := 8) hx hb dX8_next__33 (by decide) ?_
        rw [erec45] at h
        exact toW _ _ _ (ih47 (v_t_from_41 + (1 : Int32)) _ _ _ h hP hD hS (lv_sub hl [0] rfl))
  exact toW _ _ _ (L46 nn v_t_to _ _ _ h hP hD hS (lv_sub hl [0] rfl))
/-! X8_must -/
def uX8_must (nn : Nat) (p1 : Int32) (v_t_taped : Int32) (v_t_from : Int32) (v_t_to : Int32) (v_t_isWrong : Int32) (f_t_tape : Nat → Int32) : Option ((Int32) × (Int32) × (Int32)) :=
  bb_cut (fun (z1 : Int32) => bb_zp z1 ((if z1 = 0 then bb_b2 (uX8_next_ nn v_t_taped v_t_from v_t_to f_t_tape) (fun (w5 : Int32) (w6 : Int32) => some (w5, w6, z1)) else some (v_t_from, v_t_to, z1)))) (fun k2 => bb_cut (fun (u8 : Unit) => k2 (1 : Int32)) (fun k9 => (if v_t_isWrong = 0 then (if p1 = 0 then k9 () else k2 (0 : Int32)) else k9 ())))
theorem kdX8_must : yX8_must.cls = RX8 ∧ yX8_must.cls ≠ "java/lang/invoke/MethodHandle" ∧ yX8_must.cls ≠ "java/lang/invoke/VarHandle" ∧ (parseMethodDescriptor yX8_must.desc).map (fun d => d.parameters.length) = some 1 := by decide +kernel
set_option maxHeartbeats 4000000 in
set_option maxRecDepth 100000 in
theorem kX8_must (l : Launch) (dC : Nat → ClassId) (dI : Nat → Nat → Nat) (cy : Nat → ClassId) (sz : Nat) (a_t : Nat → Nat) (p1 : Int32) (v_t_isKept : Int32) (v_t_bestPost : Int32) (v_t_mostSeen : Int32) (v_t_taped : Int32) (v_t_from : Int32) (v_t_to : Int32) (v_t_isWrong : Int32) (f_t_tape : Nat → Int32) (nn : Nat) (v_t_from_o : Int32) (v_t_to_o : Int32) (v_t_isWrong_o : Int32) (h : uX8_must nn p1 v_t_taped v_t_from v_t_to v_t_isWrong f_t_tape = some (v_t_from_o, v_t_to_o, v_t_isWrong_o)) : Met l yX8_must wsX8_must ({ frames := 3, cells := 0, slots := 0, locals := 70 }) (va_Pc [.ref (a_t 0), .int p1] (fun U => U.heap.size = sz ∧ va_P (dC, dI) vwCl [((a_t 0), oX8 a_t v_t_isKept v_t_bestPost v_t_mostSeen v_t_taped v_t_from v_t_to v_t_isWrong), ((a_t 12), .inl (cy 0, 120, .inl f_t_tape))] U.heap ∧ va_K (dC, dI) vwCl (tyX cy) U ∧ va_D (fun _ => True) [((a_t 0), oX8 a_t v_t_isKept v_t_bestPost v_t_mostSeen v_t_taped v_t_from v_t_to v_t_isWrong), ((a_t 12), .inl (cy 0, 120, .inl f_t_tape))])) (va_Qv (fun (_ : Unit) => True) (fun _ t => va_P (dC, dI) vwCl [((a_t 0), oX8 a_t v_t_isKept v_t_bestPost v_t_mostSeen v_t_taped v_t_from_o v_t_to_o v_t_isWrong_o), ((a_t 12), .inl (cy 0, 120, .inl f_t_tape))] t.heap ∧ va_K (dC, dI) vwCl (tyX cy) t ∧ va_D (va_A [((a_t 0), oX8 a_t v_t_isKept v_t_bestPost v_t_mostSeen v_t_taped v_t_from v_t_to v_t_isWrong), ((a_t 12), .inl (cy 0, 120, .inl f_t_tape))] sz) [((a_t 0), oX8 a_t v_t_isKept v_t_bestPost v_t_mostSeen v_t_taped v_t_from_o v_t_to_o v_t_isWrong_o), ((a_t 12), .inl (cy 0, 120, .inl f_t_tape))]) (va_A [((a_t 0), oX8 a_t v_t_isKept v_t_bestPost v_t_mostSeen v_t_taped v_t_from v_t_to v_t_isWrong), ((a_t 12), .inl (cy 0, 120, .inl f_t_tape))] sz)) 0 0 (va_A [((a_t 0), oX8 a_t v_t_isKept v_t_bestPost v_t_mostSeen v_t_taped v_t_from v_t_to v_t_isWrong), ((a_t 12), .inl (cy 0, 120, .inl f_t_tape))] sz) := by
  refine Met.ofW (cc := cX8_must) (maxL := 2) (ret := none) (by decide) rfl ?_
  intro p e s m args below meth c s₁ B hml hv
  obtain ⟨rfl, hsz, hP, hK, hD0⟩ := hv
  have hx := B.exec
  have hb := B.bytes
  have hr := B.returns
  have hts := atoms_spec (ws := wsX8_must) B.pre
  have hown : s.vm.findClass RX8 = some m.cls := findClass_of_methodNamed B.named
  have hlocks := B.notSynchronized
  have iwX8 : ∀ w ∈ wsX80, w ∈ wsX8_must := fun w h9 => List.mem_cons_of_mem _ (List.mem_append_right _ (h9))
  have lk1 := hts (Cond.fieldLink RX8 277 "BathBorderModel" "isWrong" "Z") (List.mem_of_getElem? (i := 1) rfl)
  subst hsz
  have hD := hD0.self (sz := s.heap.size)
  generalize hAe : va_A [((a_t 0), oX8 a_t v_t_isKept v_t_bestPost v_t_mostSeen v_t_taped v_t_from v_t_to v_t_isWrong), ((a_t 12), .inl (cy 0, 120, .inl f_t_tape))] s.heap.size = A at hD ⊢
  have hA : ∀ q : Nat, s.heap.size ≤ q → A q := fun q h => by rw [← hAe]; exact Or.inr h
  have hS : va_S A s.heap s.heap [] := va_S.rf
  have hP : va_P (dC, dI) vwCl [((a_t 0), oX8 a_t v_t_isKept v_t_bestPost v_t_mostSeen v_t_taped v_t_from v_t_to v_t_isWrong), ((a_t 12), .inl (cy 0, 120, .inl f_t_tape))] s.heap := hP
  have hl := lv_entry ([.ref (a_t 0), .int p1]) (n := 2) (Nat.le_of_ble_eq_true rfl)
  rw [lg_entry_eq]
  generalize (lg_sl ([.ref (a_t 0), .int p1]) ++ List.replicate (2 - (lg_sl ([.ref (a_t 0), .int p1])).length) Slot.unset).toArray = ls at hl ⊢
  have hl : lv_has ls 2 [(0, .ref (a_t 0)), (1, .int p1)] := hl
  unfold uX8_must at h
  refine bb_cap (fun WW toW ofW => ?_)
  refine lv_aload_n hx hb dX8_must_0 rfl (lv_at hl 0 rfl) ?_
  refine lv_aload_n hx hb dX8_must_1 rfl (lv_at hl 0 rfl) ?_
  refine va_get (D := (dC, dI)) (ci := 7) (v := .int v_t_isWrong) (C := RX8) (T := TX8) (N := 20) hx hb hts iwX8 hown hK hP 0 rfl rfl 15 (by decide) lk1 (fun _ h9 => h9) rfl dX8_must_2 ?_
  obtain ⟨k2, ek2, h⟩ := bb_cut_o h
  have Jk2 : ∀ (z1 : Int32) (H : Heap) (locs : List Loc) (ls : Array Slot), k2 z1 = some (v_t_from_o, v_t_to_o, v_t_isWrong_o) → va_P (dC, dI) vwCl [((a_t 0), oX8 a_t v_t_isKept v_t_bestPost v_t_mostSeen v_t_taped v_t_from v_t_to v_t_isWrong), ((a_t 12), .inl (cy 0, 120, .inl f_t_tape))] H → va_D A [((a_t 0), oX8 a_t v_t_isKept v_t_bestPost v_t_mostSeen v_t_taped v_t_from v_t_to v_t_isWrong), ((a_t 12), .inl (cy 0, 120, .inl f_t_tape))] → va_S A s.heap H locs → lv_has ls 2 [(0, .ref (a_t 0))] → WW H locs (F0 m 17 ls [.int z1, .ref (a_t 0)]) := by
    intro z1 H locs ls h hP hD hS hl
    refine ofW _ _ _ ?_
    subst ek2
    obtain ⟨hz3, h⟩ := bb_zp_o h
    refine va_put (D := (dC, dI)) (ci := 7) (v := .int z1) (ty := .boolean) (C := RX8) (T := TX8) (N := 20) hx hb hts iwX8 tyX8 tyX8_ok nmX8 hown hK hP hD hS 0 rfl rfl 15 (by decide) lk1 (fun _ h9 => h9) rfl (by decide +kernel) hz3.1 hz3.2 (Nat.le_of_ble_eq_true rfl) dX8_must_17 (fun H locs hP hD hS => ?_)
    have hP : va_P (dC, dI) vwCl [((a_t 0), oX8 a_t v_t_isKept v_t_bestPost v_t_mostSeen v_t_taped v_t_from v_t_to z1), ((a_t 12), .inl (cy 0, 120, .inl f_t_tape))] H := hP
    have hD : va_D A [((a_t 0), oX8 a_t v_t_isKept v_t_bestPost v_t_mostSeen v_t_taped v_t_from v_t_to z1), ((a_t 12), .inl (cy 0, 120, .inl f_t_tape))] := hD
    refine lv_aload_n hx hb dX8_must_20 rfl (lv_at hl 0 rfl) ?_
    refine va_get (D := (dC, dI)) (ci := 7) (v := .int z1) (C := RX8) (T := TX8) (N := 20) hx hb hts iwX8 hown hK hP 0 rfl rfl 15 (by decide) lk1 (fun _ h9 => h9) rfl dX8_must_21 ?_
    refine lv_if_ne (tgt := 31) hx hb dX8_must_24 (by decide) (fun c4 => ?_) (fun c4 => ?_)
    · replace h := bb_ifn c4 h
      obtain ⟨rfl, rfl, rfl⟩ := bb_some3 h
      have hP9 := hP.sub (ws' := [((a_t 0), oX8 a_t v_t_isKept v_t_bestPost v_t_mostSeen v_t_taped v_t_from v_t_to z1), ((a_t 12), .inl (cy 0, 120, .inl f_t_tape))]) [0, 1] rfl
      have hD9 := hD.sub (ws' := [((a_t 0), oX8 a_t v_t_isKept v_t_bestPost v_t_mostSeen v_t_taped v_t_from v_t_to z1), ((a_t 12), .inl (cy 0, 120, .inl f_t_tape))]) [0, 1] (by decide) rfl
      exact W.vret hx hb hr (fun t ht hW => ⟨⟨(), rfl, trivial, by rw [ht]; exact hP9, va_K.moved hW.alike hK, hD9⟩, hS.F ht⟩) hS.2.2 dX8_must_31
    · replace h := bb_ifp c4 h
      refine lv_aload_n hx hb dX8_must_27 rfl (lv_at hl 0 rfl) ?_
      obtain ⟨w5, w6, hc7, h⟩ := bb_b2_o h
      refine bb_cwv (wr := []) (w1 := [((a_t 0), oX8 a_t v_t_isKept v_t_bestPost v_t_mostSeen v_t_taped w5 w6 z1), ((a_t 12), .inl (cy 0, 120, .inl f_t_tape))]) (va_runV (As := []) (rest := []) ⟨hx, hb, hml, hown, hts⟩ (kX8_next_ l dC dI cy H.size a_t v_t_isKept v_t_bestPost v_t_mostSeen v_t_taped v_t_from v_t_to z1 f_t_tape nn w5 w6 hc7) (cwV 0 hts gX8_must_X8_next_ rfl rfl rfl kdX8_next_ ⟨Nat.le_of_ble_eq_true rfl, Nat.le_of_ble_eq_true rfl⟩) (bb_preVw (va_recv hK hP (ci := 7) (q0 := 0) rfl rfl) hP hK (hD.sub (ws' := [((a_t 0), oX8 a_t v_t_isKept v_t_bestPost v_t_mostSeen v_t_taped v_t_from v_t_to z1), ((a_t 12), .inl (cy 0, 120, .inl f_t_tape))]) [0, 1] (by decide) rfl)) rfl rfl hl.1 rfl (lv_room (Nat.le_of_ble_eq_true rfl)) dX8_must_28 ⟨Nat.zero_le _, Nat.zero_le _⟩) hP hD hS hA [0, 1] [] rfl rfl (by decide) (by decide) (fun H locs hP hD hS => ?_)
      have hP : va_P (dC, dI) vwCl [((a_t 0), oX8 a_t v_t_isKept v_t_bestPost v_t_mostSeen v_t_taped w5 w6 z1), ((a_t 12), .inl (cy 0, 120, .inl f_t_tape))] H := hP
      have hD : va_D A [((a_t 0), oX8 a_t v_t_isKept v_t_bestPost v_t_mostSeen v_t_taped w5 w6 z1), ((a_t 12), .inl (cy 0, 120, .inl f_t_tape))] := hD
      obtain ⟨rfl, rfl, rfl⟩ := bb_some3 h
      have hP9 := hP.sub (ws' := [((a_t 0), oX8 a_t v_t_isKept v_t_bestPost v_t_mostSeen v_t_taped w5 w6 z1), ((a_t 12), .inl (cy 0, 120, .inl f_t_tape))]) [0, 1] rfl
      have hD9 := hD.sub (ws' := [((a_t 0), oX8 a_t v_t_isKept v_t_bestPost v_t_mostSeen v_t_taped w5 w6 z1), ((a_t 12), .inl (cy 0, 120, .inl f_t_tape))]) [0, 1] (by decide) rfl
      exact W.vret hx hb hr (fun t ht hW => ⟨⟨(), rfl, trivial, by rw [ht]; exact hP9, va_K.moved hW.alike hK, hD9⟩, hS.F ht⟩) hS.2.2 dX8_must_31
  obtain ⟨k9, ek9, h⟩ := bb_cut_o h
  have Jk9 : ∀ (u8 : Unit) (H : Heap) (locs : List Loc) (ls : Array Slot), k9 u8 = some (v_t_from_o, v_t_to_o, v_t_isWrong_o) → va_P (dC, dI) vwCl [((a_t 0), oX8 a_t v_t_isKept v_t_bestPost v_t_mostSeen v_t_taped v_t_from v_t_to v_t_isWrong), ((a_t 12), .inl (cy 0, 120, .inl f_t_tape))] H → va_D A [((a_t 0), oX8 a_t v_t_isKept v_t_bestPost v_t_mostSeen v_t_taped v_t_from v_t_to v_t_isWrong), ((a_t 12), .inl (cy 0, 120, .inl f_t_tape))] → va_S A s.heap H locs → lv_has ls 2 [(0, .ref (a_t 0))] → WW H locs (F0 m 12 ls [.ref (a_t 0)]) := by
    intro u8 H locs ls h hP hD hS hl
    refine ofW _ _ _ ?_
    subst ek9
    refine lv_iconst (v := (1 : Int32)) hx hb dX8_must_12 (by decide) ?_
    refine lv_goto (tgt := 17) hx hb dX8_must_13 (by decide) ?_
    exact toW _ _ _ (Jk2 (1 : Int32) _ _ _ h hP hD hS (lv_sub hl [0] rfl))
  refine lv_if_ne (tgt := 12) hx hb dX8_must_5 (by decide) (fun c10 => ?_) (fun c10 => ?_)
  · replace h := bb_ifn c10 h
    exact toW _ _ _ (Jk9 () _ _ _ h hP hD hS (lv_sub hl [0] rfl))
  · replace h := bb_ifp c10 h
    refine lv_iload_n hx hb dX8_must_8 rfl (lv_at hl 1 rfl) ?_
    refine lv_if_ne (tgt := 16) hx hb dX8_must_9 (by decide) (fun c11 => ?_) (fun c11 => ?_)
    · replace h := bb_ifn c11 h
      refine lv_iconst (v := (0 : Int32)) hx hb dX8_must_16 (by decide) ?_
      exact toW _ _ _ (Jk2 (0 : Int32) _ _ _ h hP hD hS (lv_sub hl [0] rfl))
    · replace h := bb_ifp c11 h
      exact toW _ _ _ (Jk9 () _ _ _ h hP hD hS (lv_sub hl [0] rfl))
/-! X8_numberRead -/
def uX8_numberRead_s27 (v_t_to_23 : Int32) (f_t_tape_25 : Nat → Int32) (k_73 : Int32 → Option (Int32 × (Int32) × (Int32) × (Int32))) (rec26 : Int32 → Int32 → Option (Int32 × (Int32) × (Int32) × (Int32))) (x3_17 : Int32) (x4_18 : Int32) : Option (Int32 × (Int32) × (Int32) × (Int32)) :=
  (if v_t_to_23 ≤ x4_18 then k_73 x3_17 else (if x3_17 < 0 then k_73 x3_17 else bb_cut (fun (z31 : Int32) => rec26 z31 (x4_18 + (1 : Int32))) (fun k32 => (if x3_17 ≤ (999 : Int32) then bb_ix x4_18 120 (k32 ((((10 : Int32) * x3_17) + (f_t_tape_25 x4_18.toNatClampNeg)) - (48 : Int32))) else k32 x3_17))))
def uX8_numberRead (nn : Nat) (p1 : Int32) (p2 : Int32) (v_t_taped : Int32) (v_t_from : Int32) (v_t_to : Int32) (v_t_isWrong : Int32) (f_t_tape : Nat → Int32) : Option (Int32 × (Int32) × (Int32) × (Int32)) :=
  bb_b1 (uX8_isByte v_t_from (48 : Int32) (57 : Int32) v_t_taped f_t_tape) (fun (r1 : Int32) => bb_cut (fun (z5 : Int32) => bb_cut (fun (x3_7 : Int32) => bb_b1 (uX8_in x3_7.toInt64 p1.toInt64 p2.toInt64) (fun (r9 : Int32) => bb_b3 (uX8_must nn r9 v_t_taped v_t_from v_t_to v_t_isWrong f_t_tape) (fun (w13 : Int32) (w14 : Int32) (w15 : Int32) => some (x3_7, w13, w14, w15)))) (fun k8 => bb_loop2 (uX8_numberRead_s27 v_t_to f_t_tape k8) nn z5 v_t_from)) (fun k6 => (if r1 = 0 then k6 (-1 : Int32) else k6 (0 : Int32))))
theorem kdX8_numberRead : yX8_numberRead.cls = RX8 ∧ yX8_numberRead.cls ≠ "java/lang/invoke/MethodHandle" ∧ yX8_numberRead.cls ≠ "java/lang/invoke/VarHandle" ∧ (parseMethodDescriptor yX8_numberRead.desc).map (fun d => d.parameters.length) = some 2 := by decide +kernel
set_option maxHeartbeats 4000000 in
set_option maxRecDepth 100000 in
theorem kX8_numberRead (l : Launch) (dC : Nat → ClassId) (dI : Nat → Nat → Nat) (cy : Nat → ClassId) (sz : Nat) (a_t : Nat → Nat) (p1 : Int32) (p2 : Int32) (v_t_isKept : Int32) (v_t_bestPost : Int32) (v_t_mostSeen : Int32) (v_t_taped : Int32) (v_t_from : Int32) (v_t_to : Int32) (v_t_isWrong : Int32) (f_t_tape : Nat → Int32) (nn : Nat) (r : Int32) (v_t_from_o : Int32) (v_t_to_o : Int32) (v_t_isWrong_o : Int32) (h : uX8_numberRead nn p1 p2 v_t_taped v_t_from v_t_to v_t_isWrong f_t_tape = some (r, v_t_from_o, v_t_to_o, v_t_isWrong_o)) : Met l yX8_numberRead wsX8_numberRead ({ frames := 4, cells := 0, slots := 0, locals := 91 }) (va_Pc [.ref (a_t 0), .int p1, .int p2] (fun U => U.heap.size = sz ∧ va_P (dC, dI) vwCl [((a_t 0), oX8 a_t v_t_isKept v_t_bestPost v_t_mostSeen v_t_taped v_t_from v_t_to v_t_isWrong), ((a_t 12), .inl (cy 0, 120, .inl f_t_tape))] U.heap ∧ va_K (dC, dI) vwCl (tyX cy) U ∧ va_D (fun _ => True) [((a_t 0), oX8 a_t v_t_isKept v_t_bestPost v_t_mostSeen v_t_taped v_t_from v_t_to v_t_isWrong), ((a_t 12), .inl (cy 0, 120, .inl f_t_tape))])) (va_Qi (fun (r2 : Int32) (_ : Unit) => r = r2) (fun _ t => va_P (dC, dI) vwCl [((a_t 0), oX8 a_t v_t_isKept v_t_bestPost v_t_mostSeen v_t_taped v_t_from_o v_t_to_o v_t_isWrong_o), ((a_t 12), .inl (cy 0, 120, .inl f_t_tape))] t.heap ∧ va_K (dC, dI) vwCl (tyX cy) t ∧ va_D (va_A [((a_t 0), oX8 a_t v_t_isKept v_t_bestPost v_t_mostSeen v_t_taped v_t_from v_t_to v_t_isWrong), ((a_t 12), .inl (cy 0, 120, .inl f_t_tape))] sz) [((a_t 0), oX8 a_t v_t_isKept v_t_bestPost v_t_mostSeen v_t_taped v_t_from_o v_t_to_o v_t_isWrong_o), ((a_t 12), .inl (cy 0, 120, .inl f_t_tape))]) (va_A [((a_t 0), oX8 a_t v_t_isKept v_t_bestPost v_t_mostSeen v_t_taped v_t_from v_t_to v_t_isWrong), ((a_t 12), .inl (cy 0, 120, .inl f_t_tape))] sz)) 0 0 (va_A [((a_t 0), oX8 a_t v_t_isKept v_t_bestPost v_t_mostSeen v_t_taped v_t_from v_t_to v_t_isWrong), ((a_t 12), .inl (cy 0, 120, .inl f_t_tape))] sz) := by
  refine Met.ofW (cc := cX8_numberRead) (maxL := 5) (ret := (some .int)) (by decide) rfl ?_
  intro p e s m args below meth c s₁ B hml hv
  obtain ⟨rfl, hsz, hP, hK, hD0⟩ := hv
  have hx := B.exec
  have hb := B.bytes
  have hr := B.returns
  have hts := atoms_spec (ws := wsX8_numberRead) B.pre
  have hown : s.vm.findClass RX8 = some m.cls := findClass_of_methodNamed B.named
  have hlocks := B.notSynchronized
  have iwX8 : ∀ w ∈ wsX80, w ∈ wsX8_numberRead := fun w h9 => List.mem_cons_of_mem _ (List.mem_append_right _ (h9))
  have lk1 := hts (Cond.fieldLink RX8 271 "BathBorderModel" "from" "I") (List.mem_of_getElem? (i := 1) rfl)
  have lk2 := hts (Cond.fieldLink RX8 268 "BathBorderModel" "to" "I") (List.mem_of_getElem? (i := 2) rfl)
  have lk3 := hts (Cond.fieldLink RX8 36 "BathBorderModel" "tape" "[I") (List.mem_of_getElem? (i := 3) rfl)
  subst hsz
  have hD := hD0.self (sz := s.heap.size)
  generalize hAe : va_A [((a_t 0), oX8 a_t v_t_isKept v_t_bestPost v_t_mostSeen v_t_taped v_t_from v_t_to v_t_isWrong), ((a_t 12), .inl (cy 0, 120, .inl f_t_tape))] s.heap.size = A at hD ⊢
  have hA : ∀ q : Nat, s.heap.size ≤ q → A q := fun q h => by rw [← hAe]; exact Or.inr h
  have hS : va_S A s.heap s.heap [] := va_S.rf
  have hP : va_P (dC, dI) vwCl [((a_t 0), oX8 a_t v_t_isKept v_t_bestPost v_t_mostSeen v_t_taped v_t_from v_t_to v_t_isWrong), ((a_t 12), .inl (cy 0, 120, .inl f_t_tape))] s.heap := hP
  have hl := lv_entry ([.ref (a_t 0), .int p1, .int p2]) (n := 5) (Nat.le_of_ble_eq_true rfl)
  rw [lg_entry_eq]
  generalize (lg_sl ([.ref (a_t 0), .int p1, .int p2]) ++ List.replicate (5 - (lg_sl ([.ref (a_t 0), .int p1, .int p2])).length) Slot.unset).toArray = ls at hl ⊢
  have hl : lv_has ls 5 [(0, .ref (a_t 0)), (1, .int p1), (2, .int p2)] := hl
  unfold uX8_numberRead at h
  refine bb_cap (fun WW toW ofW => ?_)
  refine lv_aload_n hx hb dX8_numberRead_0 rfl (lv_at hl 0 rfl) ?_
  refine lv_aload_n hx hb dX8_numberRead_1 rfl (lv_at hl 0 rfl) ?_
  refine va_get (D := (dC, dI)) (ci := 7) (v := .int v_t_from) (C := RX8) (T := TX8) (N := 20) hx hb hts iwX8 hown hK hP 0 rfl rfl 13 (by decide) lk1 (fun _ h9 => h9) rfl dX8_numberRead_2 ?_
  refine lv_bipush (v := (48 : Int32)) hx hb dX8_numberRead_5 (by decide) ?_
  refine lv_bipush (v := (57 : Int32)) hx hb dX8_numberRead_7 (by decide) ?_
  obtain ⟨r1, hc2, h⟩ := bb_b1_o h
  refine vp_callSi (W.runV (As := [.int v_t_from, .int (48 : Int32), .int (57 : Int32)]) (rest := []) ⟨hx, hb, hml, hown, hts⟩ (kX8_isByte l dC dI cy a_t v_t_from (48 : Int32) (57 : Int32) v_t_isKept v_t_bestPost v_t_mostSeen v_t_taped v_t_from v_t_to v_t_isWrong f_t_tape r1 hc2) (cwV 3 hts gX8_numberRead_X8_isByte rfl rfl rfl kdX8_isByte ⟨Nat.le_of_ble_eq_true rfl, Nat.le_of_ble_eq_true rfl⟩) (bb_preV (va_recv hK hP (ci := 7) (q0 := 0) rfl rfl) hP hK) rfl rfl hl.1 rfl (lv_room (Nat.le_of_ble_eq_true rfl)) dX8_numberRead_9 ⟨Nat.zero_le _, Nat.zero_le _⟩) (fun t3 et3 => ?_)
  obtain ⟨rfl, hz4⟩ := et3
  obtain ⟨k6, ek6, h⟩ := bb_cut_o h
  have Jk6 : ∀ (z5 : Int32) (H : Heap) (locs : List Loc) (ls : Array Slot), k6 z5 = some (r, v_t_from_o, v_t_to_o, v_t_isWrong_o) → va_P (dC, dI) vwCl [((a_t 0), oX8 a_t v_t_isKept v_t_bestPost v_t_mostSeen v_t_taped v_t_from v_t_to v_t_isWrong), ((a_t 12), .inl (cy 0, 120, .inl f_t_tape))] H → va_D A [((a_t 0), oX8 a_t v_t_isKept v_t_bestPost v_t_mostSeen v_t_taped v_t_from v_t_to v_t_isWrong), ((a_t 12), .inl (cy 0, 120, .inl f_t_tape))] → va_S A s.heap H locs → lv_has ls 5 [(0, .ref (a_t 0)), (1, .int p1), (2, .int p2)] → WW H locs (F0 m 20 ls [.int z5]) := by
    intro z5 H locs ls h hP hD hS hl
    refine ofW _ _ _ ?_
    subst ek6
    refine lv_istore_n (lv' := [(3, .int z5), (0, .ref (a_t 0)), (1, .int p1), (2, .int p2)]) hx hb dX8_numberRead_20 rfl hl (by decide) rfl (fun ls hl => ?_)
    refine lv_aload_n hx hb dX8_numberRead_21 rfl (lv_at hl 1 rfl) ?_
    refine va_get (D := (dC, dI)) (ci := 7) (v := .int v_t_from) (C := RX8) (T := TX8) (N := 20) hx hb hts iwX8 hown hK hP 0 rfl rfl 13 (by decide) lk1 (fun _ h9 => h9) rfl dX8_numberRead_22 ?_
    refine lv_istore (lv' := [(4, .int v_t_from), (3, .int z5), (0, .ref (a_t 0)), (1, .int p1), (2, .int p2)]) hx hb dX8_numberRead_25 hl (by decide) rfl (fun ls hl => ?_)
    obtain ⟨k8, ek8, h⟩ := bb_cut_o h
    have Jk8 : ∀ (x3_7 : Int32) (H : Heap) (locs : List Loc) (ls : Array Slot), k8 x3_7 = some (r, v_t_from_o, v_t_to_o, v_t_isWrong_o) → va_P (dC, dI) vwCl [((a_t 0), oX8 a_t v_t_isKept v_t_bestPost v_t_mostSeen v_t_taped v_t_from v_t_to v_t_isWrong), ((a_t 12), .inl (cy 0, 120, .inl f_t_tape))] H → va_D A [((a_t 0), oX8 a_t v_t_isKept v_t_bestPost v_t_mostSeen v_t_taped v_t_from v_t_to v_t_isWrong), ((a_t 12), .inl (cy 0, 120, .inl f_t_tape))] → va_S A s.heap H locs → lv_has ls 5 [(0, .ref (a_t 0)), (1, .int p1), (2, .int p2), (3, .int x3_7)] → WW H locs (F0 m 73 ls []) := by
      intro x3_7 H locs ls h hP hD hS hl
      refine ofW _ _ _ ?_
      subst ek8
      refine lv_aload_n hx hb dX8_numberRead_73 rfl (lv_at hl 0 rfl) ?_
      refine lv_iload_n hx hb dX8_numberRead_74 rfl (lv_at hl 3 rfl) ?_
      refine lv_i2l hx hb dX8_numberRead_75 rfl ?_
      refine lv_iload_n hx hb dX8_numberRead_76 rfl (lv_at hl 1 rfl) ?_
      refine lv_i2l hx hb dX8_numberRead_77 rfl ?_
      refine lv_iload_n hx hb dX8_numberRead_78 rfl (lv_at hl 2 rfl) ?_
      refine lv_i2l hx hb dX8_numberRead_79 rfl ?_
      obtain ⟨r9, hc10, h⟩ := bb_b1_o h
      refine vp_callSi (W.runS (As := [.long x3_7.toInt64, .long p1.toInt64, .long p2.toInt64]) (rest := [.ref (a_t 0)]) ⟨hx, hb, hml, hown, hts⟩ (kX8_in l dC dI cy x3_7.toInt64 p1.toInt64 p2.toInt64 r9 hc10) (va_cwS 3 hts gX8_numberRead_X8_in rfl rfl rfl kdX8_in ⟨Nat.le_of_ble_eq_true rfl, Nat.le_of_ble_eq_true rfl⟩) (bb_preS (hP.sub (ws' := []) [] rfl) hK) rfl rfl hl.1 rfl (lv_room (Nat.le_of_ble_eq_true rfl)) dX8_numberRead_80 ⟨Nat.zero_le _, Nat.zero_le _⟩) (fun t11 et11 => ?_)
      obtain ⟨rfl, hz12⟩ := et11
      obtain ⟨w13, w14, w15, hc16, h⟩ := bb_b3_o h
      refine bb_cwv (wr := []) (w1 := [((a_t 0), oX8 a_t v_t_isKept v_t_bestPost v_t_mostSeen v_t_taped w13 w14 w15), ((a_t 12), .inl (cy 0, 120, .inl f_t_tape))]) (va_runV (As := [.int r9]) (rest := []) ⟨hx, hb, hml, hown, hts⟩ (kX8_must l dC dI cy H.size a_t r9 v_t_isKept v_t_bestPost v_t_mostSeen v_t_taped v_t_from v_t_to v_t_isWrong f_t_tape nn w13 w14 w15 hc16) (cwV 1 hts gX8_numberRead_X8_must rfl rfl rfl kdX8_must ⟨Nat.le_of_ble_eq_true rfl, Nat.le_of_ble_eq_true rfl⟩) (bb_preVw (va_recv hK hP (ci := 7) (q0 := 0) rfl rfl) hP hK (hD.sub (ws' := [((a_t 0), oX8 a_t v_t_isKept v_t_bestPost v_t_mostSeen v_t_taped v_t_from v_t_to v_t_isWrong), ((a_t 12), .inl (cy 0, 120, .inl f_t_tape))]) [0, 1] (by decide) rfl)) rfl rfl hl.1 rfl (lv_room (Nat.le_of_ble_eq_true rfl)) dX8_numberRead_83 ⟨Nat.zero_le _, Nat.zero_le _⟩) hP hD hS hA [0, 1] [] rfl rfl (by decide) (by decide) (fun H locs hP hD hS => ?_)
      have hP : va_P (dC, dI) vwCl [((a_t 0), oX8 a_t v_t_isKept v_t_bestPost v_t_mostSeen v_t_taped w13 w14 w15), ((a_t 12), .inl (cy 0, 120, .inl f_t_tape))] H := hP
      have hD : va_D A [((a_t 0), oX8 a_t v_t_isKept v_t_bestPost v_t_mostSeen v_t_taped w13 w14 w15), ((a_t 12), .inl (cy 0, 120, .inl f_t_tape))] := hD
      refine lv_iload_n hx hb dX8_numberRead_86 rfl (lv_at hl 3 rfl) ?_
      obtain ⟨rfl, rfl, rfl, rfl⟩ := bb_some4 h
      have hP9 := hP.sub (ws' := [((a_t 0), oX8 a_t v_t_isKept v_t_bestPost v_t_mostSeen v_t_taped w13 w14 w15), ((a_t 12), .inl (cy 0, 120, .inl f_t_tape))]) [0, 1] rfl
      have hD9 := hD.sub (ws' := [((a_t 0), oX8 a_t v_t_isKept v_t_bestPost v_t_mostSeen v_t_taped w13 w14 w15), ((a_t 12), .inl (cy 0, 120, .inl f_t_tape))]) [0, 1] (by decide) rfl
      exact W.iret hx hb hr (fun t ht hW => ⟨⟨_, (), rfl, rfl, by rw [ht]; exact hP9, va_K.moved hW.alike hK, hD9⟩, hS.F ht⟩) hS.2.2 dX8_numberRead_87
    have L27 : ∀ (n : Nat) (x3_17 : Int32) (x4_18 : Int32) (H : Heap) (locs : List Loc) (ls : Array Slot), bb_loop2 (uX8_numberRead_s27 v_t_to f_t_tape k8) n x3_17 x4_18 = some (r, v_t_from_o, v_t_to_o, v_t_isWrong_o) → va_P (dC, dI) vwCl [((a_t 0), oX8 a_t v_t_isKept v_t_bestPost v_t_mostSeen v_t_taped v_t_from v_t_to v_t_isWrong), ((a_t 12), .inl (cy 0, 120, .inl f_t_tape))] H → va_D A [((a_t 0), oX8 a_t v_t_isKept v_t_bestPost v_t_mostSeen v_t_taped v_t_from v_t_to v_t_isWrong), ((a_t 12), .inl (cy 0, 120, .inl f_t_tape))] → va_S A s.heap H locs → lv_has ls 5 [(0, .ref (a_t 0)), (1, .int p1), (2, .int p2), (3, .int x3_17), (4, .int x4_18)] → WW H locs (F0 m 27 ls []) := by
      intro n
      induction n with
      | zero => intro x3_17 x4_18 H locs ls h; exact (bb_no h).elim
      | succ n ih28 =>
        intro x3_17 x4_18 H locs ls h hP hD hS hl
        refine ofW _ _ _ ?_
        obtain ⟨rec26, erec26, h⟩ := bb_loop2_o h
        unfold uX8_numberRead_s27 at h
        refine lv_iload hx hb dX8_numberRead_27 (lv_at hl 4 rfl) ?_
        refine lv_aload_n hx hb dX8_numberRead_29 rfl (lv_at hl 0 rfl) ?_
        refine va_get (D := (dC, dI)) (ci := 7) (v := .int v_t_to) (C := RX8) (T := TX8) (N := 20) hx hb hts iwX8 hown hK hP 0 rfl rfl 14 (by decide) lk2 (fun _ h9 => h9) rfl dX8_numberRead_30 ?_
        refine lv_icmp_ge (tgt := 73) hx hb dX8_numberRead_33 (by decide) (fun c29 => ?_) (fun c29 => ?_)
        · replace h := bb_ifp c29 h
          exact toW _ _ _ (Jk8 x3_17 _ _ _ h hP hD hS (lv_sub hl [0, 1, 2, 3] rfl))
        · replace h := bb_ifn c29 h
          refine lv_iload_n hx hb dX8_numberRead_36 rfl (lv_at hl 3 rfl) ?_
          refine lv_if_lt (tgt := 73) hx hb dX8_numberRead_37 (by decide) (fun c30 => ?_) (fun c30 => ?_)
          · replace h := bb_ifp c30 h
            exact toW _ _ _ (Jk8 x3_17 _ _ _ h hP hD hS (lv_sub hl [0, 1, 2, 3] rfl))
          · replace h := bb_ifn c30 h
            refine lv_iload_n hx hb dX8_numberRead_40 rfl (lv_at hl 3 rfl) ?_
            refine lv_sipush (v := (999 : Int32)) hx hb dX8_numberRead_41 (by decide) ?_
            obtain ⟨k32, ek32, h⟩ := bb_cut_o h
            have Jk32 : ∀ (z31 : Int32) (H : Heap) (locs : List Loc) (ls : Array Slot), k32 z31 = some (r, v_t_from_o, v_t_to_o, v_t_isWrong_o) → va_P (dC, dI) vwCl [((a_t 0), oX8 a_t v_t_isKept v_t_bestPost v_t_mostSeen v_t_taped v_t_from v_t_to v_t_isWrong), ((a_t 12), .inl (cy 0, 120, .inl f_t_tape))] H → va_D A [((a_t 0), oX8 a_t v_t_isKept v_t_bestPost v_t_mostSeen v_t_taped v_t_from v_t_to v_t_isWrong), ((a_t 12), .inl (cy 0, 120, .inl f_t_tape))] → va_S A s.heap H locs → lv_has ls 5 [(0, .ref (a_t 0)), (1, .int p1), (2, .int p2), (4, .int x4_18)] → WW H locs (F0 m 66 ls [.int z31]) := by
              intro z31 H locs ls h hP hD hS hl
              refine ofW _ _ _ ?_
              subst ek32
              refine lv_istore_n (lv' := [(3, .int z31), (0, .ref (a_t 0)), (1, .int p1), (2, .int p2), (4, .int x4_18)]) hx hb dX8_numberRead_66 rfl hl (by decide) rfl (fun ls hl => ?_)
              refine lv_iinc (v := x4_18 + (1 : Int32)) (lv' := [(4, .int (x4_18 + (1 : Int32))), (3, .int z31), (0, .ref (a_t 0)), (1, .int p1), (2, .int p2)]) hx hb dX8_numberRead_67 hl (k := 4) rfl rfl (by decide) rfl (fun ls hl => ?_)
              refine lv_goto (tgt := 27) hx hb dX8_numberRead_70 (by decide) ?_
              rw [erec26] at h
              exact toW _ _ _ (ih28 z31 (x4_18 + (1 : Int32)) _ _ _ h hP hD hS (lv_sub hl [2, 3, 4, 1, 0] rfl))
            refine lv_icmp_le (tgt := 51) hx hb dX8_numberRead_44 (by decide) (fun c33 => ?_) (fun c33 => ?_)
            · replace h := bb_ifp c33 h
              refine lv_bipush (v := (10 : Int32)) hx hb dX8_numberRead_51 (by decide) ?_
              refine lv_iload_n hx hb dX8_numberRead_53 rfl (lv_at hl 3 rfl) ?_
              refine lv_imul hx hb dX8_numberRead_54 ?_
              refine lv_aload_n hx hb dX8_numberRead_55 rfl (lv_at hl 0 rfl) ?_
              refine va_get (D := (dC, dI)) (ci := 7) (v := .ref (a_t 12)) (C := RX8) (T := TX8) (N := 20) hx hb hts iwX8 hown hK hP 0 rfl rfl 11 (by decide) lk3 (fun _ h9 => h9) rfl dX8_numberRead_56 ?_
              refine lv_iload hx hb dX8_numberRead_59 (lv_at hl 4 rfl) ?_
              obtain ⟨hi34, h⟩ := bb_ix_o h
              refine va_iald hx hb hK hP 1 0 rfl rfl hi34 dX8_numberRead_61 ?_
              refine lv_iadd hx hb dX8_numberRead_62 ?_
              refine lv_bipush (v := (48 : Int32)) hx hb dX8_numberRead_63 (by decide) ?_
              refine lv_isub hx hb dX8_numberRead_65 ?_
              exact toW _ _ _ (Jk32 ((((10 : Int32) * x3_17) + (f_t_tape x4_18.toNatClampNeg)) - (48 : Int32)) _ _ _ h hP hD hS (lv_sub hl [0, 1, 2, 4] rfl))
            · replace h := bb_ifn c33 h
              refine lv_iload_n hx hb dX8_numberRead_47 rfl (lv_at hl 3 rfl) ?_
              refine lv_goto (tgt := 66) hx hb dX8_numberRead_48 (by decide) ?_
              exact toW _ _ _ (Jk32 x3_17 _ _ _ h hP hD hS (lv_sub hl [0, 1, 2, 4] rfl))
    exact toW _ _ _ (L27 nn z5 v_t_from _ _ _ h hP hD hS (lv_sub hl [2, 3, 4, 1, 0] rfl))
  refine lv_if_eq (tgt := 19) hx hb dX8_numberRead_12 (by decide) (fun c35 => ?_) (fun c35 => ?_)
  · replace h := bb_ifp c35 h
    refine lv_iconst (v := (-1 : Int32)) hx hb dX8_numberRead_19 (by decide) ?_
    exact toW _ _ _ (Jk6 (-1 : Int32) _ _ _ h hP hD hS (lv_sub hl [0, 1, 2] rfl))
  · replace h := bb_ifn c35 h
    refine lv_iconst (v := (0 : Int32)) hx hb dX8_numberRead_15 (by decide) ?_
    refine lv_goto (tgt := 20) hx hb dX8_numberRead_16 (by decide) ?_
    exact toW _ _ _ (Jk6 (0 : Int32) _ _ _ h hP hD hS (lv_sub hl [0, 1, 2] rfl))
/-! X8_cellTold -/
def uX8_cellTold (nn : Nat) (p1 : Int32) (p2 : Int32) (v_t_taped : Int32) (v_t_from : Int32) (v_t_to : Int32) (v_t_isWrong : Int32) (f_t_s : Nat → Int32) (f_t_tape : Nat → Int32) : Option ((Int32) × (Int32) × (Int32) × (Nat → Int32)) :=
  bb_b4 (uX8_numberRead nn (0 : Int32) (47 : Int32) v_t_taped v_t_from v_t_to v_t_isWrong f_t_tape) (fun (r1 : Int32) (w2 : Int32) (w3 : Int32) (w4 : Int32) => bb_b4 (uX8_numberRead nn (0 : Int32) p2 v_t_taped w2 w3 w4 f_t_tape) (fun (r6 : Int32) (w7 : Int32) (w8 : Int32) (w9 : Int32) => (if w9 = 0 then bb_ix (p1 + r1) 155 (some (w7, w8, w9, upd f_t_s (p1 + r1).toNatClampNeg r6)) else some (w7, w8, w9, f_t_s))))
theorem kdX8_cellTold : yX8_cellTold.cls = RX8 ∧ yX8_cellTold.cls ≠ "java/lang/invoke/MethodHandle" ∧ yX8_cellTold.cls ≠ "java/lang/invoke/VarHandle" ∧ (parseMethodDescriptor yX8_cellTold.desc).map (fun d => d.parameters.length) = some 2 := by decide +kernel
set_option maxHeartbeats 4000000 in
set_option maxRecDepth 100000 in
theorem kX8_cellTold (l : Launch) (dC : Nat → ClassId) (dI : Nat → Nat → Nat) (cy : Nat → ClassId) (sz : Nat) (a_t : Nat → Nat) (p1 : Int32) (p2 : Int32) (v_t_isKept : Int32) (v_t_bestPost : Int32) (v_t_mostSeen : Int32) (v_t_taped : Int32) (v_t_from : Int32) (v_t_to : Int32) (v_t_isWrong : Int32) (f_t_s : Nat → Int32) (f_t_tape : Nat → Int32) (nn : Nat) (v_t_from_o : Int32) (v_t_to_o : Int32) (v_t_isWrong_o : Int32) (f_t_s_o : Nat → Int32) (h : uX8_cellTold nn p1 p2 v_t_taped v_t_from v_t_to v_t_isWrong f_t_s f_t_tape = some (v_t_from_o, v_t_to_o, v_t_isWrong_o, f_t_s_o)) : Met l yX8_cellTold wsX8_cellTold ({ frames := 5, cells := 0, slots := 0, locals := 115 }) (va_Pc [.ref (a_t 0), .int p1, .int p2] (fun U => U.heap.size = sz ∧ va_P (dC, dI) vwCl [((a_t 0), oX8 a_t v_t_isKept v_t_bestPost v_t_mostSeen v_t_taped v_t_from v_t_to v_t_isWrong), ((a_t 1), .inl (cy 0, 155, .inl f_t_s)), ((a_t 12), .inl (cy 0, 120, .inl f_t_tape))] U.heap ∧ va_K (dC, dI) vwCl (tyX cy) U ∧ va_D (fun _ => True) [((a_t 0), oX8 a_t v_t_isKept v_t_bestPost v_t_mostSeen v_t_taped v_t_from v_t_to v_t_isWrong), ((a_t 1), .inl (cy 0, 155, .inl f_t_s)), ((a_t 12), .inl (cy 0, 120, .inl f_t_tape))])) (va_Qv (fun (_ : Unit) => True) (fun _ t => va_P (dC, dI) vwCl [((a_t 0), oX8 a_t v_t_isKept v_t_bestPost v_t_mostSeen v_t_taped v_t_from_o v_t_to_o v_t_isWrong_o), ((a_t 1), .inl (cy 0, 155, .inl f_t_s_o)), ((a_t 12), .inl (cy 0, 120, .inl f_t_tape))] t.heap ∧ va_K (dC, dI) vwCl (tyX cy) t ∧ va_D (va_A [((a_t 0), oX8 a_t v_t_isKept v_t_bestPost v_t_mostSeen v_t_taped v_t_from v_t_to v_t_isWrong), ((a_t 1), .inl (cy 0, 155, .inl f_t_s)), ((a_t 12), .inl (cy 0, 120, .inl f_t_tape))] sz) [((a_t 0), oX8 a_t v_t_isKept v_t_bestPost v_t_mostSeen v_t_taped v_t_from_o v_t_to_o v_t_isWrong_o), ((a_t 1), .inl (cy 0, 155, .inl f_t_s_o)), ((a_t 12), .inl (cy 0, 120, .inl f_t_tape))]) (va_A [((a_t 0), oX8 a_t v_t_isKept v_t_bestPost v_t_mostSeen v_t_taped v_t_from v_t_to v_t_isWrong), ((a_t 1), .inl (cy 0, 155, .inl f_t_s)), ((a_t 12), .inl (cy 0, 120, .inl f_t_tape))] sz)) 0 0 (va_A [((a_t 0), oX8 a_t v_t_isKept v_t_bestPost v_t_mostSeen v_t_taped v_t_from v_t_to v_t_isWrong), ((a_t 1), .inl (cy 0, 155, .inl f_t_s)), ((a_t 12), .inl (cy 0, 120, .inl f_t_tape))] sz) := by
  refine Met.ofW (cc := cX8_cellTold) (maxL := 5) (ret := none) (by decide) rfl ?_
  intro p e s m args below meth c s₁ B hml hv
  obtain ⟨rfl, hsz, hP, hK, hD0⟩ := hv
  have hx := B.exec
  have hb := B.bytes
  have hr := B.returns
  have hts := atoms_spec (ws := wsX8_cellTold) B.pre
  have hown : s.vm.findClass RX8 = some m.cls := findClass_of_methodNamed B.named
  have hlocks := B.notSynchronized
  have iwX8 : ∀ w ∈ wsX80, w ∈ wsX8_cellTold := fun w h9 => List.mem_cons_of_mem _ (List.mem_append_right _ (h9))
  have lk1 := hts (Cond.fieldLink RX8 277 "BathBorderModel" "isWrong" "Z") (List.mem_of_getElem? (i := 1) rfl)
  have lk2 := hts (Cond.fieldLink RX8 9 "BathBorderModel" "s" "[I") (List.mem_of_getElem? (i := 2) rfl)
  subst hsz
  have hD := hD0.self (sz := s.heap.size)
  generalize hAe : va_A [((a_t 0), oX8 a_t v_t_isKept v_t_bestPost v_t_mostSeen v_t_taped v_t_from v_t_to v_t_isWrong), ((a_t 1), .inl (cy 0, 155, .inl f_t_s)), ((a_t 12), .inl (cy 0, 120, .inl f_t_tape))] s.heap.size = A at hD ⊢
  have hA : ∀ q : Nat, s.heap.size ≤ q → A q := fun q h => by rw [← hAe]; exact Or.inr h
  have hS : va_S A s.heap s.heap [] := va_S.rf
  have hP : va_P (dC, dI) vwCl [((a_t 0), oX8 a_t v_t_isKept v_t_bestPost v_t_mostSeen v_t_taped v_t_from v_t_to v_t_isWrong), ((a_t 1), .inl (cy 0, 155, .inl f_t_s)), ((a_t 12), .inl (cy 0, 120, .inl f_t_tape))] s.heap := hP
  have hl := lv_entry ([.ref (a_t 0), .int p1, .int p2]) (n := 5) (Nat.le_of_ble_eq_true rfl)
  rw [lg_entry_eq]
  generalize (lg_sl ([.ref (a_t 0), .int p1, .int p2]) ++ List.replicate (5 - (lg_sl ([.ref (a_t 0), .int p1, .int p2])).length) Slot.unset).toArray = ls at hl ⊢
  have hl : lv_has ls 5 [(0, .ref (a_t 0)), (1, .int p1), (2, .int p2)] := hl
  unfold uX8_cellTold at h
  refine bb_cap (fun WW toW ofW => ?_)
  refine lv_aload_n hx hb dX8_cellTold_0 rfl (lv_at hl 0 rfl) ?_
  refine lv_iconst (v := (0 : Int32)) hx hb dX8_cellTold_1 (by decide) ?_
  refine lv_bipush (v := (47 : Int32)) hx hb dX8_cellTold_2 (by decide) ?_
  obtain ⟨r1, w2, w3, w4, hc5, h⟩ := bb_b4_o h
  refine bb_cwi (wr := [((a_t 1), .inl (cy 0, 155, .inl f_t_s))]) (w1 := [((a_t 0), oX8 a_t v_t_isKept v_t_bestPost v_t_mostSeen v_t_taped w2 w3 w4), ((a_t 12), .inl (cy 0, 120, .inl f_t_tape))]) (va_runV (As := [.int (0 : Int32), .int (47 : Int32)]) (rest := []) ⟨hx, hb, hml, hown, hts⟩ (kX8_numberRead l dC dI cy s.heap.size a_t (0 : Int32) (47 : Int32) v_t_isKept v_t_bestPost v_t_mostSeen v_t_taped v_t_from v_t_to v_t_isWrong f_t_tape nn r1 w2 w3 w4 hc5) (cwV 2 hts gX8_cellTold_X8_numberRead rfl rfl rfl kdX8_numberRead ⟨Nat.le_of_ble_eq_true rfl, Nat.le_of_ble_eq_true rfl⟩) (bb_preVw (va_recv hK hP (ci := 7) (q0 := 0) rfl rfl) (hP.sub (ws' := [((a_t 0), oX8 a_t v_t_isKept v_t_bestPost v_t_mostSeen v_t_taped v_t_from v_t_to v_t_isWrong), ((a_t 12), .inl (cy 0, 120, .inl f_t_tape))]) [0, 2] rfl) hK (hD.sub (ws' := [((a_t 0), oX8 a_t v_t_isKept v_t_bestPost v_t_mostSeen v_t_taped v_t_from v_t_to v_t_isWrong), ((a_t 12), .inl (cy 0, 120, .inl f_t_tape))]) [0, 2] (by decide) rfl)) rfl rfl hl.1 rfl (lv_room (Nat.le_of_ble_eq_true rfl)) dX8_cellTold_4 ⟨Nat.zero_le _, Nat.zero_le _⟩) hP hD hS hA [0, 2] [1] rfl rfl (by decide) (by decide) (fun H locs hP hD hS => ?_)
  have hP : va_P (dC, dI) vwCl [((a_t 1), .inl (cy 0, 155, .inl f_t_s)), ((a_t 0), oX8 a_t v_t_isKept v_t_bestPost v_t_mostSeen v_t_taped w2 w3 w4), ((a_t 12), .inl (cy 0, 120, .inl f_t_tape))] H := hP
  have hD : va_D A [((a_t 1), .inl (cy 0, 155, .inl f_t_s)), ((a_t 0), oX8 a_t v_t_isKept v_t_bestPost v_t_mostSeen v_t_taped w2 w3 w4), ((a_t 12), .inl (cy 0, 120, .inl f_t_tape))] := hD
  refine lv_istore_n (lv' := [(3, .int r1), (0, .ref (a_t 0)), (1, .int p1), (2, .int p2)]) hx hb dX8_cellTold_7 rfl hl (by decide) rfl (fun ls hl => ?_)
  refine lv_aload_n hx hb dX8_cellTold_8 rfl (lv_at hl 1 rfl) ?_
  refine lv_iconst (v := (0 : Int32)) hx hb dX8_cellTold_9 (by decide) ?_
  refine lv_iload_n hx hb dX8_cellTold_10 rfl (lv_at hl 3 rfl) ?_
  obtain ⟨r6, w7, w8, w9, hc10, h⟩ := bb_b4_o h
  refine bb_cwi (wr := [((a_t 1), .inl (cy 0, 155, .inl f_t_s))]) (w1 := [((a_t 0), oX8 a_t v_t_isKept v_t_bestPost v_t_mostSeen v_t_taped w7 w8 w9), ((a_t 12), .inl (cy 0, 120, .inl f_t_tape))]) (va_runV (As := [.int (0 : Int32), .int p2]) (rest := []) ⟨hx, hb, hml, hown, hts⟩ (kX8_numberRead l dC dI cy H.size a_t (0 : Int32) p2 v_t_isKept v_t_bestPost v_t_mostSeen v_t_taped w2 w3 w4 f_t_tape nn r6 w7 w8 w9 hc10) (cwV 2 hts gX8_cellTold_X8_numberRead rfl rfl rfl kdX8_numberRead ⟨Nat.le_of_ble_eq_true rfl, Nat.le_of_ble_eq_true rfl⟩) (bb_preVw (va_recv hK hP (ci := 7) (q0 := 1) rfl rfl) (hP.sub (ws' := [((a_t 0), oX8 a_t v_t_isKept v_t_bestPost v_t_mostSeen v_t_taped w2 w3 w4), ((a_t 12), .inl (cy 0, 120, .inl f_t_tape))]) [1, 2] rfl) hK (hD.sub (ws' := [((a_t 0), oX8 a_t v_t_isKept v_t_bestPost v_t_mostSeen v_t_taped w2 w3 w4), ((a_t 12), .inl (cy 0, 120, .inl f_t_tape))]) [1, 2] (by decide) rfl)) rfl rfl hl.1 rfl (lv_room (Nat.le_of_ble_eq_true rfl)) dX8_cellTold_11 ⟨Nat.zero_le _, Nat.zero_le _⟩) hP hD hS hA [1, 2] [0] rfl rfl (by decide) (by decide) (fun H locs hP hD hS => ?_)
  have hP : va_P (dC, dI) vwCl [((a_t 1), .inl (cy 0, 155, .inl f_t_s)), ((a_t 0), oX8 a_t v_t_isKept v_t_bestPost v_t_mostSeen v_t_taped w7 w8 w9), ((a_t 12), .inl (cy 0, 120, .inl f_t_tape))] H := hP
  have hD : va_D A [((a_t 1), .inl (cy 0, 155, .inl f_t_s)), ((a_t 0), oX8 a_t v_t_isKept v_t_bestPost v_t_mostSeen v_t_taped w7 w8 w9), ((a_t 12), .inl (cy 0, 120, .inl f_t_tape))] := hD
  refine lv_istore (lv' := [(4, .int r6), (3, .int r1), (0, .ref (a_t 0)), (1, .int p1), (2, .int p2)]) hx hb dX8_cellTold_14 hl (by decide) rfl (fun ls hl => ?_)
  refine lv_aload_n hx hb dX8_cellTold_16 rfl (lv_at hl 2 rfl) ?_
  refine va_get (D := (dC, dI)) (ci := 7) (v := .int w9) (C := RX8) (T := TX8) (N := 20) hx hb hts iwX8 hown hK hP 1 rfl rfl 15 (by decide) lk1 (fun _ h9 => h9) rfl dX8_cellTold_17 ?_
  refine lv_if_ne (tgt := 33) hx hb dX8_cellTold_20 (by decide) (fun c11 => ?_) (fun c11 => ?_)
  · replace h := bb_ifn c11 h
    obtain ⟨rfl, rfl, rfl, rfl⟩ := bb_some4 h
    have hP9 := hP.sub (ws' := [((a_t 0), oX8 a_t v_t_isKept v_t_bestPost v_t_mostSeen v_t_taped w7 w8 w9), ((a_t 1), .inl (cy 0, 155, .inl f_t_s)), ((a_t 12), .inl (cy 0, 120, .inl f_t_tape))]) [1, 0, 2] rfl
    have hD9 := hD.sub (ws' := [((a_t 0), oX8 a_t v_t_isKept v_t_bestPost v_t_mostSeen v_t_taped w7 w8 w9), ((a_t 1), .inl (cy 0, 155, .inl f_t_s)), ((a_t 12), .inl (cy 0, 120, .inl f_t_tape))]) [1, 0, 2] (by decide) rfl
    exact W.vret hx hb hr (fun t ht hW => ⟨⟨(), rfl, trivial, by rw [ht]; exact hP9, va_K.moved hW.alike hK, hD9⟩, hS.F ht⟩) hS.2.2 dX8_cellTold_33
  · replace h := bb_ifp c11 h
    refine lv_aload_n hx hb dX8_cellTold_23 rfl (lv_at hl 2 rfl) ?_
    refine va_get (D := (dC, dI)) (ci := 7) (v := .ref (a_t 1)) (C := RX8) (T := TX8) (N := 20) hx hb hts iwX8 hown hK hP 1 rfl rfl 0 (by decide) lk2 (fun _ h9 => h9) rfl dX8_cellTold_24 ?_
    refine lv_iload_n hx hb dX8_cellTold_27 rfl (lv_at hl 3 rfl) ?_
    refine lv_iload_n hx hb dX8_cellTold_28 rfl (lv_at hl 1 rfl) ?_
    refine lv_iadd hx hb dX8_cellTold_29 ?_
    refine lv_iload hx hb dX8_cellTold_30 (lv_at hl 0 rfl) ?_
    obtain ⟨hi12, h⟩ := bb_ix_o h
    refine va_iast hx hb hK hP hD hS 0 0 rfl rfl hi12 dX8_cellTold_32 (fun H locs hP hD hS => ?_)
    have hP : va_P (dC, dI) vwCl [((a_t 1), .inl (cy 0, 155, .inl (upd f_t_s (p1 + r1).toNatClampNeg r6))), ((a_t 0), oX8 a_t v_t_isKept v_t_bestPost v_t_mostSeen v_t_taped w7 w8 w9), ((a_t 12), .inl (cy 0, 120, .inl f_t_tape))] H := hP
    have hD : va_D A [((a_t 1), .inl (cy 0, 155, .inl (upd f_t_s (p1 + r1).toNatClampNeg r6))), ((a_t 0), oX8 a_t v_t_isKept v_t_bestPost v_t_mostSeen v_t_taped w7 w8 w9), ((a_t 12), .inl (cy 0, 120, .inl f_t_tape))] := hD
    obtain ⟨rfl, rfl, rfl, rfl⟩ := bb_some4 h
    have hP9 := hP.sub (ws' := [((a_t 0), oX8 a_t v_t_isKept v_t_bestPost v_t_mostSeen v_t_taped w7 w8 w9), ((a_t 1), .inl (cy 0, 155, .inl (upd f_t_s (p1 + r1).toNatClampNeg r6))), ((a_t 12), .inl (cy 0, 120, .inl f_t_tape))]) [1, 0, 2] rfl
    have hD9 := hD.sub (ws' := [((a_t 0), oX8 a_t v_t_isKept v_t_bestPost v_t_mostSeen v_t_taped w7 w8 w9), ((a_t 1), .inl (cy 0, 155, .inl (upd f_t_s (p1 + r1).toNatClampNeg r6))), ((a_t 12), .inl (cy 0, 120, .inl f_t_tape))]) [1, 0, 2] (by decide) rfl
    exact W.vret hx hb hr (fun t ht hW => ⟨⟨(), rfl, trivial, by rw [ht]; exact hP9, va_K.moved hW.alike hK, hD9⟩, hS.F ht⟩) hS.2.2 dX8_cellTold_33
/-! X8_isSpot -/
def uX8_isSpot (p1 : Int32) : Option (Int32) :=
  bb_b1 (uX8_in p1.toInt64 (0 : Int64) (9 : Int64)) (fun (r1 : Int32) => some r1)
theorem kdX8_isSpot : yX8_isSpot.cls ≠ "java/lang/invoke/MethodHandle" ∧ yX8_isSpot.cls ≠ "java/lang/invoke/VarHandle" ∧ (parseMethodDescriptor yX8_isSpot.desc).map (fun d => d.parameters.length) = some 1 := by decide +kernel
set_option maxHeartbeats 4000000 in
set_option maxRecDepth 100000 in
theorem kX8_isSpot (l : Launch) (dC : Nat → ClassId) (dI : Nat → Nat → Nat) (cy : Nat → ClassId) (p1 : Int32) (r : Int32) (h : uX8_isSpot p1 = some r) : Met l yX8_isSpot wsX8_isSpot ({ frames := 1, cells := 0, slots := 0, locals := 25 }) (va_Pc [.int p1] (fun U => va_P (dC, dI) vwCl [] U.heap ∧ va_K (dC, dI) vwCl (tyX cy) U)) (vp_Si (fun r2 => r = r2 ∧ narrow .boolean (.int r2) = .int r2)) 0 0 (fun _ => False) := by
  refine Met.ofW (cc := cX8_isSpot) (maxL := 1) (ret := (some .boolean)) (by decide) rfl ?_
  intro p e s m args below meth c s₁ B hml hv
  obtain ⟨rfl, hP, hK⟩ := hv
  have hx := B.exec
  have hb := B.bytes
  have hr := B.returns
  have hts := atoms_spec (ws := wsX8_isSpot) B.pre
  have hown : s.vm.findClass RX8 = some m.cls := findClass_of_methodNamed B.named
  have hlocks := B.notSynchronized
  have lk1 := hts (Cond.constantLong RX8 89 (9)) (List.mem_of_getElem? (i := 1) rfl)
  have hl := lv_entry ([.int p1]) (n := 1) (Nat.le_of_ble_eq_true rfl)
  rw [lg_entry_eq]
  generalize (lg_sl ([.int p1]) ++ List.replicate (1 - (lg_sl ([.int p1])).length) Slot.unset).toArray = ls at hl ⊢
  have hl : lv_has ls 1 [(0, .int p1)] := hl
  unfold uX8_isSpot at h
  refine bb_cap (fun WW toW ofW => ?_)
  refine lv_iload_n hx hb dX8_isSpot_0 rfl (lv_at hl 0 rfl) ?_
  refine lv_i2l hx hb dX8_isSpot_1 rfl ?_
  refine lv_lconst (v := (0 : Int64)) hx hb dX8_isSpot_2 (by decide) ?_
  refine lv_ldc2 (v := (9 : Int64)) hx hb hown lk1 dX8_isSpot_3 ?_
  obtain ⟨r1, hc2, h⟩ := bb_b1_o h
  refine vp_callSi (W.runS (As := [.long p1.toInt64, .long (0 : Int64), .long (9 : Int64)]) (rest := []) ⟨hx, hb, hml, hown, hts⟩ (kX8_in l dC dI cy p1.toInt64 (0 : Int64) (9 : Int64) r1 hc2) (va_cwS 3 hts gX8_isSpot_X8_in rfl rfl rfl kdX8_in ⟨Nat.le_of_ble_eq_true rfl, Nat.le_of_ble_eq_true rfl⟩) (bb_preS hP hK) rfl rfl hl.1 rfl (lv_room (Nat.le_of_ble_eq_true rfl)) dX8_isSpot_6 ⟨Nat.zero_le _, Nat.zero_le _⟩) (fun t3 et3 => ?_)
  obtain ⟨rfl, hz4⟩ := et3
  obtain rfl := bb_some1 h
  exact W.zret hx hb hr hz4 (fun t ht hW => ⟨_, rfl, ⟨rfl, hz4⟩, ht⟩) (fun q hq => by cases hq) dX8_isSpot_9
/-! X8_hold -/
def uX8_hold (p1 : Int32) (p2 : Int32) (f_t_found : Nat → Int32) (f_t_s : Nat → Int32) : Option (Int32 × (Nat → Int32) × (Nat → Int32)) :=
  bb_b1 (uX8_isSpot p1) (fun (r1 : Int32) => (if r1 = 0 then bb_b2 (uX8_finds (0 : Int32) f_t_found) (fun (r6 : Int32) (w7 : Nat → Int32) => some (r6, w7, f_t_s)) else bb_cut (fun (u9 : Unit) => bb_ix ((145 : Int32) + p1) 155 (some ((1 : Int32), f_t_found, upd f_t_s ((145 : Int32) + p1).toNatClampNeg p2))) (fun k10 => (if p2 = (-1 : Int32) then k10 () else bb_b1 (uX8_isBather p2 f_t_s) (fun (r13 : Int32) => (if r13 = 0 then bb_b2 (uX8_finds (0 : Int32) f_t_found) (fun (r18 : Int32) (w19 : Nat → Int32) => some (r18, w19, f_t_s)) else k10 ()))))))
theorem kdX8_hold : yX8_hold.cls = RX8 ∧ yX8_hold.cls ≠ "java/lang/invoke/MethodHandle" ∧ yX8_hold.cls ≠ "java/lang/invoke/VarHandle" ∧ (parseMethodDescriptor yX8_hold.desc).map (fun d => d.parameters.length) = some 2 := by decide +kernel
set_option maxHeartbeats 4000000 in
set_option maxRecDepth 100000 in
theorem kX8_hold (l : Launch) (dC : Nat → ClassId) (dI : Nat → Nat → Nat) (cy : Nat → ClassId) (sz : Nat) (a_t : Nat → Nat) (p1 : Int32) (p2 : Int32) (v_t_isKept : Int32) (v_t_bestPost : Int32) (v_t_mostSeen : Int32) (v_t_taped : Int32) (v_t_from : Int32) (v_t_to : Int32) (v_t_isWrong : Int32) (f_t_found : Nat → Int32) (f_t_s : Nat → Int32) (r : Int32) (f_t_found_o : Nat → Int32) (f_t_s_o : Nat → Int32) (h : uX8_hold p1 p2 f_t_found f_t_s = some (r, f_t_found_o, f_t_s_o)) : Met l yX8_hold wsX8_hold ({ frames := 2, cells := 0, slots := 0, locals := 46 }) (va_Pc [.ref (a_t 0), .int p1, .int p2] (fun U => U.heap.size = sz ∧ va_P (dC, dI) vwCl [((a_t 0), oX8 a_t v_t_isKept v_t_bestPost v_t_mostSeen v_t_taped v_t_from v_t_to v_t_isWrong), ((a_t 5), .inl (cy 0, 7, .inl f_t_found)), ((a_t 1), .inl (cy 0, 155, .inl f_t_s))] U.heap ∧ va_K (dC, dI) vwCl (tyX cy) U ∧ va_D (fun _ => True) [((a_t 0), oX8 a_t v_t_isKept v_t_bestPost v_t_mostSeen v_t_taped v_t_from v_t_to v_t_isWrong), ((a_t 5), .inl (cy 0, 7, .inl f_t_found)), ((a_t 1), .inl (cy 0, 155, .inl f_t_s))])) (va_Qi (fun (r2 : Int32) (_ : Unit) => r = r2) (fun _ t => va_P (dC, dI) vwCl [((a_t 0), oX8 a_t v_t_isKept v_t_bestPost v_t_mostSeen v_t_taped v_t_from v_t_to v_t_isWrong), ((a_t 5), .inl (cy 0, 7, .inl f_t_found_o)), ((a_t 1), .inl (cy 0, 155, .inl f_t_s_o))] t.heap ∧ va_K (dC, dI) vwCl (tyX cy) t ∧ va_D (va_A [((a_t 0), oX8 a_t v_t_isKept v_t_bestPost v_t_mostSeen v_t_taped v_t_from v_t_to v_t_isWrong), ((a_t 5), .inl (cy 0, 7, .inl f_t_found)), ((a_t 1), .inl (cy 0, 155, .inl f_t_s))] sz) [((a_t 0), oX8 a_t v_t_isKept v_t_bestPost v_t_mostSeen v_t_taped v_t_from v_t_to v_t_isWrong), ((a_t 5), .inl (cy 0, 7, .inl f_t_found_o)), ((a_t 1), .inl (cy 0, 155, .inl f_t_s_o))]) (va_A [((a_t 0), oX8 a_t v_t_isKept v_t_bestPost v_t_mostSeen v_t_taped v_t_from v_t_to v_t_isWrong), ((a_t 5), .inl (cy 0, 7, .inl f_t_found)), ((a_t 1), .inl (cy 0, 155, .inl f_t_s))] sz)) 0 0 (va_A [((a_t 0), oX8 a_t v_t_isKept v_t_bestPost v_t_mostSeen v_t_taped v_t_from v_t_to v_t_isWrong), ((a_t 5), .inl (cy 0, 7, .inl f_t_found)), ((a_t 1), .inl (cy 0, 155, .inl f_t_s))] sz) := by
  refine Met.ofW (cc := cX8_hold) (maxL := 3) (ret := (some .int)) (by decide) rfl ?_
  intro p e s m args below meth c s₁ B hml hv
  obtain ⟨rfl, hsz, hP, hK, hD0⟩ := hv
  have hx := B.exec
  have hb := B.bytes
  have hr := B.returns
  have hts := atoms_spec (ws := wsX8_hold) B.pre
  have hown : s.vm.findClass RX8 = some m.cls := findClass_of_methodNamed B.named
  have hlocks := B.notSynchronized
  have iwX8 : ∀ w ∈ wsX80, w ∈ wsX8_hold := fun w h9 => List.mem_cons_of_mem _ (List.mem_append_right _ (h9))
  have lk1 := hts (Cond.fieldLink RX8 9 "BathBorderModel" "s" "[I") (List.mem_of_getElem? (i := 1) rfl)
  subst hsz
  have hD := hD0.self (sz := s.heap.size)
  generalize hAe : va_A [((a_t 0), oX8 a_t v_t_isKept v_t_bestPost v_t_mostSeen v_t_taped v_t_from v_t_to v_t_isWrong), ((a_t 5), .inl (cy 0, 7, .inl f_t_found)), ((a_t 1), .inl (cy 0, 155, .inl f_t_s))] s.heap.size = A at hD ⊢
  have hA : ∀ q : Nat, s.heap.size ≤ q → A q := fun q h => by rw [← hAe]; exact Or.inr h
  have hS : va_S A s.heap s.heap [] := va_S.rf
  have hP : va_P (dC, dI) vwCl [((a_t 0), oX8 a_t v_t_isKept v_t_bestPost v_t_mostSeen v_t_taped v_t_from v_t_to v_t_isWrong), ((a_t 5), .inl (cy 0, 7, .inl f_t_found)), ((a_t 1), .inl (cy 0, 155, .inl f_t_s))] s.heap := hP
  have hl := lv_entry ([.ref (a_t 0), .int p1, .int p2]) (n := 3) (Nat.le_of_ble_eq_true rfl)
  rw [lg_entry_eq]
  generalize (lg_sl ([.ref (a_t 0), .int p1, .int p2]) ++ List.replicate (3 - (lg_sl ([.ref (a_t 0), .int p1, .int p2])).length) Slot.unset).toArray = ls at hl ⊢
  have hl : lv_has ls 3 [(0, .ref (a_t 0)), (1, .int p1), (2, .int p2)] := hl
  unfold uX8_hold at h
  refine bb_cap (fun WW toW ofW => ?_)
  refine lv_iload_n hx hb dX8_hold_0 rfl (lv_at hl 1 rfl) ?_
  obtain ⟨r1, hc2, h⟩ := bb_b1_o h
  refine vp_callSi (W.runS (As := [.int p1]) (rest := []) ⟨hx, hb, hml, hown, hts⟩ (kX8_isSpot l dC dI cy p1 r1 hc2) (va_cwS 1 hts gX8_hold_X8_isSpot rfl rfl rfl kdX8_isSpot ⟨Nat.le_of_ble_eq_true rfl, Nat.le_of_ble_eq_true rfl⟩) (bb_preS (hP.sub (ws' := []) [] rfl) hK) rfl rfl hl.1 rfl (lv_room (Nat.le_of_ble_eq_true rfl)) dX8_hold_1 ⟨Nat.zero_le _, Nat.zero_le _⟩) (fun t3 et3 => ?_)
  obtain ⟨rfl, hz4⟩ := et3
  refine lv_if_eq (tgt := 20) hx hb dX8_hold_4 (by decide) (fun c5 => ?_) (fun c5 => ?_)
  · replace h := bb_ifp c5 h
    refine lv_aload_n hx hb dX8_hold_20 rfl (lv_at hl 0 rfl) ?_
    refine lv_iconst (v := (0 : Int32)) hx hb dX8_hold_21 (by decide) ?_
    obtain ⟨r6, w7, hc8, h⟩ := bb_b2_o h
    refine bb_cwi (wr := [((a_t 1), .inl (cy 0, 155, .inl f_t_s))]) (w1 := [((a_t 0), oX8 a_t v_t_isKept v_t_bestPost v_t_mostSeen v_t_taped v_t_from v_t_to v_t_isWrong), ((a_t 5), .inl (cy 0, 7, .inl w7))]) (va_runV (As := [.int (0 : Int32)]) (rest := []) ⟨hx, hb, hml, hown, hts⟩ (kX8_finds l dC dI cy s.heap.size a_t (0 : Int32) v_t_isKept v_t_bestPost v_t_mostSeen v_t_taped v_t_from v_t_to v_t_isWrong f_t_found r6 w7 hc8) (cwV 1 hts gX8_hold_X8_finds rfl rfl rfl kdX8_finds ⟨Nat.le_of_ble_eq_true rfl, Nat.le_of_ble_eq_true rfl⟩) (bb_preVw (va_recv hK hP (ci := 7) (q0 := 0) rfl rfl) (hP.sub (ws' := [((a_t 0), oX8 a_t v_t_isKept v_t_bestPost v_t_mostSeen v_t_taped v_t_from v_t_to v_t_isWrong), ((a_t 5), .inl (cy 0, 7, .inl f_t_found))]) [0, 1] rfl) hK (hD.sub (ws' := [((a_t 0), oX8 a_t v_t_isKept v_t_bestPost v_t_mostSeen v_t_taped v_t_from v_t_to v_t_isWrong), ((a_t 5), .inl (cy 0, 7, .inl f_t_found))]) [0, 1] (by decide) rfl)) rfl rfl hl.1 rfl (lv_room (Nat.le_of_ble_eq_true rfl)) dX8_hold_22 ⟨Nat.zero_le _, Nat.zero_le _⟩) hP hD hS hA [0, 1] [2] rfl rfl (by decide) (by decide) (fun H locs hP hD hS => ?_)
    have hP : va_P (dC, dI) vwCl [((a_t 1), .inl (cy 0, 155, .inl f_t_s)), ((a_t 0), oX8 a_t v_t_isKept v_t_bestPost v_t_mostSeen v_t_taped v_t_from v_t_to v_t_isWrong), ((a_t 5), .inl (cy 0, 7, .inl w7))] H := hP
    have hD : va_D A [((a_t 1), .inl (cy 0, 155, .inl f_t_s)), ((a_t 0), oX8 a_t v_t_isKept v_t_bestPost v_t_mostSeen v_t_taped v_t_from v_t_to v_t_isWrong), ((a_t 5), .inl (cy 0, 7, .inl w7))] := hD
    obtain ⟨rfl, rfl, rfl⟩ := bb_some3 h
    have hP9 := hP.sub (ws' := [((a_t 0), oX8 a_t v_t_isKept v_t_bestPost v_t_mostSeen v_t_taped v_t_from v_t_to v_t_isWrong), ((a_t 5), .inl (cy 0, 7, .inl w7)), ((a_t 1), .inl (cy 0, 155, .inl f_t_s))]) [1, 2, 0] rfl
    have hD9 := hD.sub (ws' := [((a_t 0), oX8 a_t v_t_isKept v_t_bestPost v_t_mostSeen v_t_taped v_t_from v_t_to v_t_isWrong), ((a_t 5), .inl (cy 0, 7, .inl w7)), ((a_t 1), .inl (cy 0, 155, .inl f_t_s))]) [1, 2, 0] (by decide) rfl
    exact W.iret hx hb hr (fun t ht hW => ⟨⟨_, (), rfl, rfl, by rw [ht]; exact hP9, va_K.moved hW.alike hK, hD9⟩, hS.F ht⟩) hS.2.2 dX8_hold_25
  · replace h := bb_ifn c5 h
    refine lv_iload_n hx hb dX8_hold_7 rfl (lv_at hl 2 rfl) ?_
    refine lv_iconst (v := (-1 : Int32)) hx hb dX8_hold_8 (by decide) ?_
    obtain ⟨k10, ek10, h⟩ := bb_cut_o h
    have Jk10 : ∀ (u9 : Unit) (H : Heap) (locs : List Loc) (ls : Array Slot), k10 u9 = some (r, f_t_found_o, f_t_s_o) → va_P (dC, dI) vwCl [((a_t 0), oX8 a_t v_t_isKept v_t_bestPost v_t_mostSeen v_t_taped v_t_from v_t_to v_t_isWrong), ((a_t 5), .inl (cy 0, 7, .inl f_t_found)), ((a_t 1), .inl (cy 0, 155, .inl f_t_s))] H → va_D A [((a_t 0), oX8 a_t v_t_isKept v_t_bestPost v_t_mostSeen v_t_taped v_t_from v_t_to v_t_isWrong), ((a_t 5), .inl (cy 0, 7, .inl f_t_found)), ((a_t 1), .inl (cy 0, 155, .inl f_t_s))] → va_S A s.heap H locs → lv_has ls 3 [(0, .ref (a_t 0)), (1, .int p1), (2, .int p2)] → WW H locs (F0 m 26 ls []) := by
      intro u9 H locs ls h hP hD hS hl
      refine ofW _ _ _ ?_
      subst ek10
      refine lv_aload_n hx hb dX8_hold_26 rfl (lv_at hl 0 rfl) ?_
      refine va_get (D := (dC, dI)) (ci := 7) (v := .ref (a_t 1)) (C := RX8) (T := TX8) (N := 20) hx hb hts iwX8 hown hK hP 0 rfl rfl 0 (by decide) lk1 (fun _ h9 => h9) rfl dX8_hold_27 ?_
      refine lv_sipush (v := (145 : Int32)) hx hb dX8_hold_30 (by decide) ?_
      refine lv_iload_n hx hb dX8_hold_33 rfl (lv_at hl 1 rfl) ?_
      refine lv_iadd hx hb dX8_hold_34 ?_
      refine lv_iload_n hx hb dX8_hold_35 rfl (lv_at hl 2 rfl) ?_
      obtain ⟨hi11, h⟩ := bb_ix_o h
      refine va_iast hx hb hK hP hD hS 2 0 rfl rfl hi11 dX8_hold_36 (fun H locs hP hD hS => ?_)
      have hP : va_P (dC, dI) vwCl [((a_t 0), oX8 a_t v_t_isKept v_t_bestPost v_t_mostSeen v_t_taped v_t_from v_t_to v_t_isWrong), ((a_t 5), .inl (cy 0, 7, .inl f_t_found)), ((a_t 1), .inl (cy 0, 155, .inl (upd f_t_s ((145 : Int32) + p1).toNatClampNeg p2)))] H := hP
      have hD : va_D A [((a_t 0), oX8 a_t v_t_isKept v_t_bestPost v_t_mostSeen v_t_taped v_t_from v_t_to v_t_isWrong), ((a_t 5), .inl (cy 0, 7, .inl f_t_found)), ((a_t 1), .inl (cy 0, 155, .inl (upd f_t_s ((145 : Int32) + p1).toNatClampNeg p2)))] := hD
      refine lv_iconst (v := (1 : Int32)) hx hb dX8_hold_37 (by decide) ?_
      obtain ⟨rfl, rfl, rfl⟩ := bb_some3 h
      have hP9 := hP.sub (ws' := [((a_t 0), oX8 a_t v_t_isKept v_t_bestPost v_t_mostSeen v_t_taped v_t_from v_t_to v_t_isWrong), ((a_t 5), .inl (cy 0, 7, .inl f_t_found)), ((a_t 1), .inl (cy 0, 155, .inl (upd f_t_s ((145 : Int32) + p1).toNatClampNeg p2)))]) [0, 1, 2] rfl
      have hD9 := hD.sub (ws' := [((a_t 0), oX8 a_t v_t_isKept v_t_bestPost v_t_mostSeen v_t_taped v_t_from v_t_to v_t_isWrong), ((a_t 5), .inl (cy 0, 7, .inl f_t_found)), ((a_t 1), .inl (cy 0, 155, .inl (upd f_t_s ((145 : Int32) + p1).toNatClampNeg p2)))]) [0, 1, 2] (by decide) rfl
      exact W.iret hx hb hr (fun t ht hW => ⟨⟨_, (), rfl, rfl, by rw [ht]; exact hP9, va_K.moved hW.alike hK, hD9⟩, hS.F ht⟩) hS.2.2 dX8_hold_38
    refine lv_icmp_eq (tgt := 26) hx hb dX8_hold_9 (by decide) (fun c12 => ?_) (fun c12 => ?_)
    · replace h := bb_ifp c12 h
      exact toW _ _ _ (Jk10 () _ _ _ h hP hD hS (lv_sub hl [0, 1, 2] rfl))
    · replace h := bb_ifn c12 h
      refine lv_aload_n hx hb dX8_hold_12 rfl (lv_at hl 0 rfl) ?_
      refine lv_iload_n hx hb dX8_hold_13 rfl (lv_at hl 2 rfl) ?_
      obtain ⟨r13, hc14, h⟩ := bb_b1_o h
      refine vp_callSi (W.runV (As := [.int p2]) (rest := []) ⟨hx, hb, hml, hown, hts⟩ (kX8_isBather l dC dI cy a_t p2 v_t_isKept v_t_bestPost v_t_mostSeen v_t_taped v_t_from v_t_to v_t_isWrong f_t_s r13 hc14) (cwV 1 hts gX8_hold_X8_isBather rfl rfl rfl kdX8_isBather ⟨Nat.le_of_ble_eq_true rfl, Nat.le_of_ble_eq_true rfl⟩) (bb_preV (va_recv hK hP (ci := 7) (q0 := 0) rfl rfl) (hP.sub (ws' := [((a_t 0), oX8 a_t v_t_isKept v_t_bestPost v_t_mostSeen v_t_taped v_t_from v_t_to v_t_isWrong), ((a_t 1), .inl (cy 0, 155, .inl f_t_s))]) [0, 2] rfl) hK) rfl rfl hl.1 rfl (lv_room (Nat.le_of_ble_eq_true rfl)) dX8_hold_14 ⟨Nat.zero_le _, Nat.zero_le _⟩) (fun t15 et15 => ?_)
      obtain ⟨rfl, hz16⟩ := et15
      refine lv_if_ne (tgt := 26) hx hb dX8_hold_17 (by decide) (fun c17 => ?_) (fun c17 => ?_)
      · replace h := bb_ifn c17 h
        exact toW _ _ _ (Jk10 () _ _ _ h hP hD hS (lv_sub hl [0, 1, 2] rfl))
      · replace h := bb_ifp c17 h
        refine lv_aload_n hx hb dX8_hold_20 rfl (lv_at hl 0 rfl) ?_
        refine lv_iconst (v := (0 : Int32)) hx hb dX8_hold_21 (by decide) ?_
        obtain ⟨r18, w19, hc20, h⟩ := bb_b2_o h
        refine bb_cwi (wr := [((a_t 1), .inl (cy 0, 155, .inl f_t_s))]) (w1 := [((a_t 0), oX8 a_t v_t_isKept v_t_bestPost v_t_mostSeen v_t_taped v_t_from v_t_to v_t_isWrong), ((a_t 5), .inl (cy 0, 7, .inl w19))]) (va_runV (As := [.int (0 : Int32)]) (rest := []) ⟨hx, hb, hml, hown, hts⟩ (kX8_finds l dC dI cy s.heap.size a_t (0 : Int32) v_t_isKept v_t_bestPost v_t_mostSeen v_t_taped v_t_from v_t_to v_t_isWrong f_t_found r18 w19 hc20) (cwV 1 hts gX8_hold_X8_finds rfl rfl rfl kdX8_finds ⟨Nat.le_of_ble_eq_true rfl, Nat.le_of_ble_eq_true rfl⟩) (bb_preVw (va_recv hK hP (ci := 7) (q0 := 0) rfl rfl) (hP.sub (ws' := [((a_t 0), oX8 a_t v_t_isKept v_t_bestPost v_t_mostSeen v_t_taped v_t_from v_t_to v_t_isWrong), ((a_t 5), .inl (cy 0, 7, .inl f_t_found))]) [0, 1] rfl) hK (hD.sub (ws' := [((a_t 0), oX8 a_t v_t_isKept v_t_bestPost v_t_mostSeen v_t_taped v_t_from v_t_to v_t_isWrong), ((a_t 5), .inl (cy 0, 7, .inl f_t_found))]) [0, 1] (by decide) rfl)) rfl rfl hl.1 rfl (lv_room (Nat.le_of_ble_eq_true rfl)) dX8_hold_22 ⟨Nat.zero_le _, Nat.zero_le _⟩) hP hD hS hA [0, 1] [2] rfl rfl (by decide) (by decide) (fun H locs hP hD hS => ?_)
        have hP : va_P (dC, dI) vwCl [((a_t 1), .inl (cy 0, 155, .inl f_t_s)), ((a_t 0), oX8 a_t v_t_isKept v_t_bestPost v_t_mostSeen v_t_taped v_t_from v_t_to v_t_isWrong), ((a_t 5), .inl (cy 0, 7, .inl w19))] H := hP
        have hD : va_D A [((a_t 1), .inl (cy 0, 155, .inl f_t_s)), ((a_t 0), oX8 a_t v_t_isKept v_t_bestPost v_t_mostSeen v_t_taped v_t_from v_t_to v_t_isWrong), ((a_t 5), .inl (cy 0, 7, .inl w19))] := hD
        obtain ⟨rfl, rfl, rfl⟩ := bb_some3 h
        have hP9 := hP.sub (ws' := [((a_t 0), oX8 a_t v_t_isKept v_t_bestPost v_t_mostSeen v_t_taped v_t_from v_t_to v_t_isWrong), ((a_t 5), .inl (cy 0, 7, .inl w19)), ((a_t 1), .inl (cy 0, 155, .inl f_t_s))]) [1, 2, 0] rfl
        have hD9 := hD.sub (ws' := [((a_t 0), oX8 a_t v_t_isKept v_t_bestPost v_t_mostSeen v_t_taped v_t_from v_t_to v_t_isWrong), ((a_t 5), .inl (cy 0, 7, .inl w19)), ((a_t 1), .inl (cy 0, 155, .inl f_t_s))]) [1, 2, 0] (by decide) rfl
        exact W.iret hx hb hr (fun t ht hW => ⟨⟨_, (), rfl, rfl, by rw [ht]; exact hP9, va_K.moved hW.alike hK, hD9⟩, hS.F ht⟩) hS.2.2 dX8_hold_25
/-! X8_as -/
def uX8_as (nn : Nat) (p1 : Int32) (p2 : Int32) (f_t_found : Nat → Int32) (f_t_s : Nat → Int32) : Option (Int32 × (Nat → Int32)) :=
  bb_b1 (uX8_isSpot p1) (fun (r1 : Int32) => (if r1 = 0 then bb_b2 (uX8_finds (0 : Int32) f_t_found) (fun (r6 : Int32) (w7 : Nat → Int32) => some (r6, w7)) else bb_b1 (uX8_isKind p2) (fun (r9 : Int32) => (if r9 = 0 then bb_b2 (uX8_finds (0 : Int32) f_t_found) (fun (r30 : Int32) (w31 : Nat → Int32) => some (r30, w31)) else bb_ix ((145 : Int32) + p1) 155 ((if 0 ≤ (f_t_s ((145 : Int32) + p1).toNatClampNeg) then bb_b1 (uX8_its (f_t_s ((145 : Int32) + p1).toNatClampNeg) (0 : Int32) f_t_s) (fun (r16 : Int32) => bb_b1 (uX8_isUnder nn r16 p2) (fun (r19 : Int32) => (if r19 = 0 then bb_b2 (uX8_finds (2 : Int32) f_t_found) (fun (r24 : Int32) (w25 : Nat → Int32) => some (r24, w25)) else some (f_t_s ((145 : Int32) + p1).toNatClampNeg, f_t_found)))) else bb_b2 (uX8_finds (5 : Int32) f_t_found) (fun (r27 : Int32) (w28 : Nat → Int32) => some (r27, w28))))))))
theorem kdX8_as : yX8_as.cls = RX8 ∧ yX8_as.cls ≠ "java/lang/invoke/MethodHandle" ∧ yX8_as.cls ≠ "java/lang/invoke/VarHandle" ∧ (parseMethodDescriptor yX8_as.desc).map (fun d => d.parameters.length) = some 2 := by decide +kernel
set_option maxHeartbeats 4000000 in
set_option maxRecDepth 100000 in
theorem kX8_as (l : Launch) (dC : Nat → ClassId) (dI : Nat → Nat → Nat) (cy : Nat → ClassId) (sz : Nat) (a_t : Nat → Nat) (p1 : Int32) (p2 : Int32) (v_t_isKept : Int32) (v_t_bestPost : Int32) (v_t_mostSeen : Int32) (v_t_taped : Int32) (v_t_from : Int32) (v_t_to : Int32) (v_t_isWrong : Int32) (f_t_found : Nat → Int32) (f_t_s : Nat → Int32) (nn : Nat) (r : Int32) (f_t_found_o : Nat → Int32) (h : uX8_as nn p1 p2 f_t_found f_t_s = some (r, f_t_found_o)) : Met l yX8_as wsX8_as ({ frames := 2, cells := 0, slots := 0, locals := 45 }) (va_Pc [.ref (a_t 0), .int p1, .int p2] (fun U => U.heap.size = sz ∧ va_P (dC, dI) vwCl [((a_t 0), oX8 a_t v_t_isKept v_t_bestPost v_t_mostSeen v_t_taped v_t_from v_t_to v_t_isWrong), ((a_t 5), .inl (cy 0, 7, .inl f_t_found)), ((a_t 1), .inl (cy 0, 155, .inl f_t_s))] U.heap ∧ va_K (dC, dI) vwCl (tyX cy) U ∧ va_D (fun _ => True) [((a_t 0), oX8 a_t v_t_isKept v_t_bestPost v_t_mostSeen v_t_taped v_t_from v_t_to v_t_isWrong), ((a_t 5), .inl (cy 0, 7, .inl f_t_found)), ((a_t 1), .inl (cy 0, 155, .inl f_t_s))])) (va_Qi (fun (r2 : Int32) (_ : Unit) => r = r2) (fun _ t => va_P (dC, dI) vwCl [((a_t 0), oX8 a_t v_t_isKept v_t_bestPost v_t_mostSeen v_t_taped v_t_from v_t_to v_t_isWrong), ((a_t 5), .inl (cy 0, 7, .inl f_t_found_o)), ((a_t 1), .inl (cy 0, 155, .inl f_t_s))] t.heap ∧ va_K (dC, dI) vwCl (tyX cy) t ∧ va_D (va_A [((a_t 0), oX8 a_t v_t_isKept v_t_bestPost v_t_mostSeen v_t_taped v_t_from v_t_to v_t_isWrong), ((a_t 5), .inl (cy 0, 7, .inl f_t_found)), ((a_t 1), .inl (cy 0, 155, .inl f_t_s))] sz) [((a_t 0), oX8 a_t v_t_isKept v_t_bestPost v_t_mostSeen v_t_taped v_t_from v_t_to v_t_isWrong), ((a_t 5), .inl (cy 0, 7, .inl f_t_found_o)), ((a_t 1), .inl (cy 0, 155, .inl f_t_s))]) (va_A [((a_t 0), oX8 a_t v_t_isKept v_t_bestPost v_t_mostSeen v_t_taped v_t_from v_t_to v_t_isWrong), ((a_t 5), .inl (cy 0, 7, .inl f_t_found)), ((a_t 1), .inl (cy 0, 155, .inl f_t_s))] sz)) 0 0 (va_A [((a_t 0), oX8 a_t v_t_isKept v_t_bestPost v_t_mostSeen v_t_taped v_t_from v_t_to v_t_isWrong), ((a_t 5), .inl (cy 0, 7, .inl f_t_found)), ((a_t 1), .inl (cy 0, 155, .inl f_t_s))] sz) := by
  refine Met.ofW (cc := cX8_as) (maxL := 4) (ret := (some .int)) (by decide) rfl ?_
  intro p e s m args below meth c s₁ B hml hv
  obtain ⟨rfl, hsz, hP, hK, hD0⟩ := hv
  have hx := B.exec
  have hb := B.bytes
  have hr := B.returns
  have hts := atoms_spec (ws := wsX8_as) B.pre
  have hown : s.vm.findClass RX8 = some m.cls := findClass_of_methodNamed B.named
  have hlocks := B.notSynchronized
  have iwX8 : ∀ w ∈ wsX80, w ∈ wsX8_as := fun w h9 => List.mem_cons_of_mem _ (List.mem_append_right _ (h9))
  have lk1 := hts (Cond.fieldLink RX8 9 "BathBorderModel" "s" "[I") (List.mem_of_getElem? (i := 1) rfl)
  subst hsz
  have hD := hD0.self (sz := s.heap.size)
  generalize hAe : va_A [((a_t 0), oX8 a_t v_t_isKept v_t_bestPost v_t_mostSeen v_t_taped v_t_from v_t_to v_t_isWrong), ((a_t 5), .inl (cy 0, 7, .inl f_t_found)), ((a_t 1), .inl (cy 0, 155, .inl f_t_s))] s.heap.size = A at hD ⊢
  have hA : ∀ q : Nat, s.heap.size ≤ q → A q := fun q h => by rw [← hAe]; exact Or.inr h
  have hS : va_S A s.heap s.heap [] := va_S.rf
  have hP : va_P (dC, dI) vwCl [((a_t 0), oX8 a_t v_t_isKept v_t_bestPost v_t_mostSeen v_t_taped v_t_from v_t_to v_t_isWrong), ((a_t 5), .inl (cy 0, 7, .inl f_t_found)), ((a_t 1), .inl (cy 0, 155, .inl f_t_s))] s.heap := hP
  have hl := lv_entry ([.ref (a_t 0), .int p1, .int p2]) (n := 4) (Nat.le_of_ble_eq_true rfl)
  rw [lg_entry_eq]
  generalize (lg_sl ([.ref (a_t 0), .int p1, .int p2]) ++ List.replicate (4 - (lg_sl ([.ref (a_t 0), .int p1, .int p2])).length) Slot.unset).toArray = ls at hl ⊢
  have hl : lv_has ls 4 [(0, .ref (a_t 0)), (1, .int p1), (2, .int p2)] := hl
  unfold uX8_as at h
  refine bb_cap (fun WW toW ofW => ?_)
  refine lv_iload_n hx hb dX8_as_0 rfl (lv_at hl 1 rfl) ?_
  obtain ⟨r1, hc2, h⟩ := bb_b1_o h
  refine vp_callSi (W.runS (As := [.int p1]) (rest := []) ⟨hx, hb, hml, hown, hts⟩ (kX8_isSpot l dC dI cy p1 r1 hc2) (va_cwS 1 hts gX8_as_X8_isSpot rfl rfl rfl kdX8_isSpot ⟨Nat.le_of_ble_eq_true rfl, Nat.le_of_ble_eq_true rfl⟩) (bb_preS (hP.sub (ws' := []) [] rfl) hK) rfl rfl hl.1 rfl (lv_room (Nat.le_of_ble_eq_true rfl)) dX8_as_1 ⟨Nat.zero_le _, Nat.zero_le _⟩) (fun t3 et3 => ?_)
  obtain ⟨rfl, hz4⟩ := et3
  refine lv_if_eq (tgt := 14) hx hb dX8_as_4 (by decide) (fun c5 => ?_) (fun c5 => ?_)
  · replace h := bb_ifp c5 h
    refine lv_aload_n hx hb dX8_as_14 rfl (lv_at hl 0 rfl) ?_
    refine lv_iconst (v := (0 : Int32)) hx hb dX8_as_15 (by decide) ?_
    obtain ⟨r6, w7, hc8, h⟩ := bb_b2_o h
    refine bb_cwi (wr := [((a_t 1), .inl (cy 0, 155, .inl f_t_s))]) (w1 := [((a_t 0), oX8 a_t v_t_isKept v_t_bestPost v_t_mostSeen v_t_taped v_t_from v_t_to v_t_isWrong), ((a_t 5), .inl (cy 0, 7, .inl w7))]) (va_runV (As := [.int (0 : Int32)]) (rest := []) ⟨hx, hb, hml, hown, hts⟩ (kX8_finds l dC dI cy s.heap.size a_t (0 : Int32) v_t_isKept v_t_bestPost v_t_mostSeen v_t_taped v_t_from v_t_to v_t_isWrong f_t_found r6 w7 hc8) (cwV 1 hts gX8_as_X8_finds rfl rfl rfl kdX8_finds ⟨Nat.le_of_ble_eq_true rfl, Nat.le_of_ble_eq_true rfl⟩) (bb_preVw (va_recv hK hP (ci := 7) (q0 := 0) rfl rfl) (hP.sub (ws' := [((a_t 0), oX8 a_t v_t_isKept v_t_bestPost v_t_mostSeen v_t_taped v_t_from v_t_to v_t_isWrong), ((a_t 5), .inl (cy 0, 7, .inl f_t_found))]) [0, 1] rfl) hK (hD.sub (ws' := [((a_t 0), oX8 a_t v_t_isKept v_t_bestPost v_t_mostSeen v_t_taped v_t_from v_t_to v_t_isWrong), ((a_t 5), .inl (cy 0, 7, .inl f_t_found))]) [0, 1] (by decide) rfl)) rfl rfl hl.1 rfl (lv_room (Nat.le_of_ble_eq_true rfl)) dX8_as_16 ⟨Nat.zero_le _, Nat.zero_le _⟩) hP hD hS hA [0, 1] [2] rfl rfl (by decide) (by decide) (fun H locs hP hD hS => ?_)
    have hP : va_P (dC, dI) vwCl [((a_t 1), .inl (cy 0, 155, .inl f_t_s)), ((a_t 0), oX8 a_t v_t_isKept v_t_bestPost v_t_mostSeen v_t_taped v_t_from v_t_to v_t_isWrong), ((a_t 5), .inl (cy 0, 7, .inl w7))] H := hP
    have hD : va_D A [((a_t 1), .inl (cy 0, 155, .inl f_t_s)), ((a_t 0), oX8 a_t v_t_isKept v_t_bestPost v_t_mostSeen v_t_taped v_t_from v_t_to v_t_isWrong), ((a_t 5), .inl (cy 0, 7, .inl w7))] := hD
    obtain ⟨rfl, rfl⟩ := bb_some2 h
    have hP9 := hP.sub (ws' := [((a_t 0), oX8 a_t v_t_isKept v_t_bestPost v_t_mostSeen v_t_taped v_t_from v_t_to v_t_isWrong), ((a_t 5), .inl (cy 0, 7, .inl w7)), ((a_t 1), .inl (cy 0, 155, .inl f_t_s))]) [1, 2, 0] rfl
    have hD9 := hD.sub (ws' := [((a_t 0), oX8 a_t v_t_isKept v_t_bestPost v_t_mostSeen v_t_taped v_t_from v_t_to v_t_isWrong), ((a_t 5), .inl (cy 0, 7, .inl w7)), ((a_t 1), .inl (cy 0, 155, .inl f_t_s))]) [1, 2, 0] (by decide) rfl
    exact W.iret hx hb hr (fun t ht hW => ⟨⟨_, (), rfl, rfl, by rw [ht]; exact hP9, va_K.moved hW.alike hK, hD9⟩, hS.F ht⟩) hS.2.2 dX8_as_19
  · replace h := bb_ifn c5 h
    refine lv_iload_n hx hb dX8_as_7 rfl (lv_at hl 2 rfl) ?_
    obtain ⟨r9, hc10, h⟩ := bb_b1_o h
    refine vp_callSi (W.runS (As := [.int p2]) (rest := []) ⟨hx, hb, hml, hown, hts⟩ (kX8_isKind l dC dI cy p2 r9 hc10) (va_cwS 1 hts gX8_as_X8_isKind rfl rfl rfl kdX8_isKind ⟨Nat.le_of_ble_eq_true rfl, Nat.le_of_ble_eq_true rfl⟩) (bb_preS (hP.sub (ws' := []) [] rfl) hK) rfl rfl hl.1 rfl (lv_room (Nat.le_of_ble_eq_true rfl)) dX8_as_8 ⟨Nat.zero_le _, Nat.zero_le _⟩) (fun t11 et11 => ?_)
    obtain ⟨rfl, hz12⟩ := et11
    refine lv_if_ne (tgt := 20) hx hb dX8_as_11 (by decide) (fun c13 => ?_) (fun c13 => ?_)
    · replace h := bb_ifn c13 h
      refine lv_aload_n hx hb dX8_as_20 rfl (lv_at hl 0 rfl) ?_
      refine va_get (D := (dC, dI)) (ci := 7) (v := .ref (a_t 1)) (C := RX8) (T := TX8) (N := 20) hx hb hts iwX8 hown hK hP 0 rfl rfl 0 (by decide) lk1 (fun _ h9 => h9) rfl dX8_as_21 ?_
      refine lv_sipush (v := (145 : Int32)) hx hb dX8_as_24 (by decide) ?_
      refine lv_iload_n hx hb dX8_as_27 rfl (lv_at hl 1 rfl) ?_
      refine lv_iadd hx hb dX8_as_28 ?_
      obtain ⟨hi14, h⟩ := bb_ix_o h
      refine va_iald hx hb hK hP 2 0 rfl rfl hi14 dX8_as_29 ?_
      refine lv_istore_n (lv' := [(3, .int (f_t_s ((145 : Int32) + p1).toNatClampNeg)), (0, .ref (a_t 0)), (1, .int p1), (2, .int p2)]) hx hb dX8_as_30 rfl hl (by decide) rfl (fun ls hl => ?_)
      refine lv_iload_n hx hb dX8_as_31 rfl (lv_at hl 0 rfl) ?_
      refine lv_if_ge (tgt := 41) hx hb dX8_as_32 (by decide) (fun c15 => ?_) (fun c15 => ?_)
      · replace h := bb_ifp c15 h
        refine lv_aload_n hx hb dX8_as_41 rfl (lv_at hl 1 rfl) ?_
        refine lv_iload_n hx hb dX8_as_42 rfl (lv_at hl 0 rfl) ?_
        refine lv_iconst (v := (0 : Int32)) hx hb dX8_as_43 (by decide) ?_
        obtain ⟨r16, hc17, h⟩ := bb_b1_o h
        refine vp_callSi (W.runV (As := [.int (f_t_s ((145 : Int32) + p1).toNatClampNeg), .int (0 : Int32)]) (rest := []) ⟨hx, hb, hml, hown, hts⟩ (kX8_its l dC dI cy a_t (f_t_s ((145 : Int32) + p1).toNatClampNeg) (0 : Int32) v_t_isKept v_t_bestPost v_t_mostSeen v_t_taped v_t_from v_t_to v_t_isWrong f_t_s r16 hc17) (cwV 2 hts gX8_as_X8_its rfl rfl rfl kdX8_its ⟨Nat.le_of_ble_eq_true rfl, Nat.le_of_ble_eq_true rfl⟩) (bb_preV (va_recv hK hP (ci := 7) (q0 := 0) rfl rfl) (hP.sub (ws' := [((a_t 0), oX8 a_t v_t_isKept v_t_bestPost v_t_mostSeen v_t_taped v_t_from v_t_to v_t_isWrong), ((a_t 1), .inl (cy 0, 155, .inl f_t_s))]) [0, 2] rfl) hK) rfl rfl hl.1 rfl (lv_room (Nat.le_of_ble_eq_true rfl)) dX8_as_44 ⟨Nat.zero_le _, Nat.zero_le _⟩) (fun t18 et18 => ?_)
        obtain rfl := et18
        refine lv_iload_n hx hb dX8_as_47 rfl (lv_at hl 3 rfl) ?_
        obtain ⟨r19, hc20, h⟩ := bb_b1_o h
        refine vp_callSi (W.runS (As := [.int r16, .int p2]) (rest := []) ⟨hx, hb, hml, hown, hts⟩ (kX8_isUnder l dC dI cy r16 p2 nn r19 hc20) (va_cwS 2 hts gX8_as_X8_isUnder rfl rfl rfl kdX8_isUnder ⟨Nat.le_of_ble_eq_true rfl, Nat.le_of_ble_eq_true rfl⟩) (bb_preS (hP.sub (ws' := []) [] rfl) hK) rfl rfl hl.1 rfl (lv_room (Nat.le_of_ble_eq_true rfl)) dX8_as_48 ⟨Nat.zero_le _, Nat.zero_le _⟩) (fun t21 et21 => ?_)
        obtain ⟨rfl, hz22⟩ := et21
        refine lv_if_eq (tgt := 58) hx hb dX8_as_51 (by decide) (fun c23 => ?_) (fun c23 => ?_)
        · replace h := bb_ifp c23 h
          refine lv_aload_n hx hb dX8_as_58 rfl (lv_at hl 1 rfl) ?_
          refine lv_iconst (v := (2 : Int32)) hx hb dX8_as_59 (by decide) ?_
          obtain ⟨r24, w25, hc26, h⟩ := bb_b2_o h
          refine bb_cwi (wr := [((a_t 1), .inl (cy 0, 155, .inl f_t_s))]) (w1 := [((a_t 0), oX8 a_t v_t_isKept v_t_bestPost v_t_mostSeen v_t_taped v_t_from v_t_to v_t_isWrong), ((a_t 5), .inl (cy 0, 7, .inl w25))]) (va_runV (As := [.int (2 : Int32)]) (rest := []) ⟨hx, hb, hml, hown, hts⟩ (kX8_finds l dC dI cy s.heap.size a_t (2 : Int32) v_t_isKept v_t_bestPost v_t_mostSeen v_t_taped v_t_from v_t_to v_t_isWrong f_t_found r24 w25 hc26) (cwV 1 hts gX8_as_X8_finds rfl rfl rfl kdX8_finds ⟨Nat.le_of_ble_eq_true rfl, Nat.le_of_ble_eq_true rfl⟩) (bb_preVw (va_recv hK hP (ci := 7) (q0 := 0) rfl rfl) (hP.sub (ws' := [((a_t 0), oX8 a_t v_t_isKept v_t_bestPost v_t_mostSeen v_t_taped v_t_from v_t_to v_t_isWrong), ((a_t 5), .inl (cy 0, 7, .inl f_t_found))]) [0, 1] rfl) hK (hD.sub (ws' := [((a_t 0), oX8 a_t v_t_isKept v_t_bestPost v_t_mostSeen v_t_taped v_t_from v_t_to v_t_isWrong), ((a_t 5), .inl (cy 0, 7, .inl f_t_found))]) [0, 1] (by decide) rfl)) rfl rfl hl.1 rfl (lv_room (Nat.le_of_ble_eq_true rfl)) dX8_as_60 ⟨Nat.zero_le _, Nat.zero_le _⟩) hP hD hS hA [0, 1] [2] rfl rfl (by decide) (by decide) (fun H locs hP hD hS => ?_)
          have hP : va_P (dC, dI) vwCl [((a_t 1), .inl (cy 0, 155, .inl f_t_s)), ((a_t 0), oX8 a_t v_t_isKept v_t_bestPost v_t_mostSeen v_t_taped v_t_from v_t_to v_t_isWrong), ((a_t 5), .inl (cy 0, 7, .inl w25))] H := hP
          have hD : va_D A [((a_t 1), .inl (cy 0, 155, .inl f_t_s)), ((a_t 0), oX8 a_t v_t_isKept v_t_bestPost v_t_mostSeen v_t_taped v_t_from v_t_to v_t_isWrong), ((a_t 5), .inl (cy 0, 7, .inl w25))] := hD
          obtain ⟨rfl, rfl⟩ := bb_some2 h
          have hP9 := hP.sub (ws' := [((a_t 0), oX8 a_t v_t_isKept v_t_bestPost v_t_mostSeen v_t_taped v_t_from v_t_to v_t_isWrong), ((a_t 5), .inl (cy 0, 7, .inl w25)), ((a_t 1), .inl (cy 0, 155, .inl f_t_s))]) [1, 2, 0] rfl
          have hD9 := hD.sub (ws' := [((a_t 0), oX8 a_t v_t_isKept v_t_bestPost v_t_mostSeen v_t_taped v_t_from v_t_to v_t_isWrong), ((a_t 5), .inl (cy 0, 7, .inl w25)), ((a_t 1), .inl (cy 0, 155, .inl f_t_s))]) [1, 2, 0] (by decide) rfl
          exact W.iret hx hb hr (fun t ht hW => ⟨⟨_, (), rfl, rfl, by rw [ht]; exact hP9, va_K.moved hW.alike hK, hD9⟩, hS.F ht⟩) hS.2.2 dX8_as_63
        · replace h := bb_ifn c23 h
          refine lv_iload_n hx hb dX8_as_54 rfl (lv_at hl 0 rfl) ?_
          refine lv_goto (tgt := 63) hx hb dX8_as_55 (by decide) ?_
          obtain ⟨rfl, rfl⟩ := bb_some2 h
          have hP9 := hP.sub (ws' := [((a_t 0), oX8 a_t v_t_isKept v_t_bestPost v_t_mostSeen v_t_taped v_t_from v_t_to v_t_isWrong), ((a_t 5), .inl (cy 0, 7, .inl f_t_found)), ((a_t 1), .inl (cy 0, 155, .inl f_t_s))]) [0, 1, 2] rfl
          have hD9 := hD.sub (ws' := [((a_t 0), oX8 a_t v_t_isKept v_t_bestPost v_t_mostSeen v_t_taped v_t_from v_t_to v_t_isWrong), ((a_t 5), .inl (cy 0, 7, .inl f_t_found)), ((a_t 1), .inl (cy 0, 155, .inl f_t_s))]) [0, 1, 2] (by decide) rfl
          exact W.iret hx hb hr (fun t ht hW => ⟨⟨_, (), rfl, rfl, by rw [ht]; exact hP9, va_K.moved hW.alike hK, hD9⟩, hS.F ht⟩) hS.2.2 dX8_as_63
      · replace h := bb_ifn c15 h
        refine lv_aload_n hx hb dX8_as_35 rfl (lv_at hl 1 rfl) ?_
        refine lv_iconst (v := (5 : Int32)) hx hb dX8_as_36 (by decide) ?_
        obtain ⟨r27, w28, hc29, h⟩ := bb_b2_o h
        refine bb_cwi (wr := [((a_t 1), .inl (cy 0, 155, .inl f_t_s))]) (w1 := [((a_t 0), oX8 a_t v_t_isKept v_t_bestPost v_t_mostSeen v_t_taped v_t_from v_t_to v_t_isWrong), ((a_t 5), .inl (cy 0, 7, .inl w28))]) (va_runV (As := [.int (5 : Int32)]) (rest := []) ⟨hx, hb, hml, hown, hts⟩ (kX8_finds l dC dI cy s.heap.size a_t (5 : Int32) v_t_isKept v_t_bestPost v_t_mostSeen v_t_taped v_t_from v_t_to v_t_isWrong f_t_found r27 w28 hc29) (cwV 1 hts gX8_as_X8_finds rfl rfl rfl kdX8_finds ⟨Nat.le_of_ble_eq_true rfl, Nat.le_of_ble_eq_true rfl⟩) (bb_preVw (va_recv hK hP (ci := 7) (q0 := 0) rfl rfl) (hP.sub (ws' := [((a_t 0), oX8 a_t v_t_isKept v_t_bestPost v_t_mostSeen v_t_taped v_t_from v_t_to v_t_isWrong), ((a_t 5), .inl (cy 0, 7, .inl f_t_found))]) [0, 1] rfl) hK (hD.sub (ws' := [((a_t 0), oX8 a_t v_t_isKept v_t_bestPost v_t_mostSeen v_t_taped v_t_from v_t_to v_t_isWrong), ((a_t 5), .inl (cy 0, 7, .inl f_t_found))]) [0, 1] (by decide) rfl)) rfl rfl hl.1 rfl (lv_room (Nat.le_of_ble_eq_true rfl)) dX8_as_37 ⟨Nat.zero_le _, Nat.zero_le _⟩) hP hD hS hA [0, 1] [2] rfl rfl (by decide) (by decide) (fun H locs hP hD hS => ?_)
        have hP : va_P (dC, dI) vwCl [((a_t 1), .inl (cy 0, 155, .inl f_t_s)), ((a_t 0), oX8 a_t v_t_isKept v_t_bestPost v_t_mostSeen v_t_taped v_t_from v_t_to v_t_isWrong), ((a_t 5), .inl (cy 0, 7, .inl w28))] H := hP
        have hD : va_D A [((a_t 1), .inl (cy 0, 155, .inl f_t_s)), ((a_t 0), oX8 a_t v_t_isKept v_t_bestPost v_t_mostSeen v_t_taped v_t_from v_t_to v_t_isWrong), ((a_t 5), .inl (cy 0, 7, .inl w28))] := hD
        obtain ⟨rfl, rfl⟩ := bb_some2 h
        have hP9 := hP.sub (ws' := [((a_t 0), oX8 a_t v_t_isKept v_t_bestPost v_t_mostSeen v_t_taped v_t_from v_t_to v_t_isWrong), ((a_t 5), .inl (cy 0, 7, .inl w28)), ((a_t 1), .inl (cy 0, 155, .inl f_t_s))]) [1, 2, 0] rfl
        have hD9 := hD.sub (ws' := [((a_t 0), oX8 a_t v_t_isKept v_t_bestPost v_t_mostSeen v_t_taped v_t_from v_t_to v_t_isWrong), ((a_t 5), .inl (cy 0, 7, .inl w28)), ((a_t 1), .inl (cy 0, 155, .inl f_t_s))]) [1, 2, 0] (by decide) rfl
        exact W.iret hx hb hr (fun t ht hW => ⟨⟨_, (), rfl, rfl, by rw [ht]; exact hP9, va_K.moved hW.alike hK, hD9⟩, hS.F ht⟩) hS.2.2 dX8_as_40
    · replace h := bb_ifp c13 h
      refine lv_aload_n hx hb dX8_as_14 rfl (lv_at hl 0 rfl) ?_
      refine lv_iconst (v := (0 : Int32)) hx hb dX8_as_15 (by decide) ?_
      obtain ⟨r30, w31, hc32, h⟩ := bb_b2_o h
      refine bb_cwi (wr := [((a_t 1), .inl (cy 0, 155, .inl f_t_s))]) (w1 := [((a_t 0), oX8 a_t v_t_isKept v_t_bestPost v_t_mostSeen v_t_taped v_t_from v_t_to v_t_isWrong), ((a_t 5), .inl (cy 0, 7, .inl w31))]) (va_runV (As := [.int (0 : Int32)]) (rest := []) ⟨hx, hb, hml, hown, hts⟩ (kX8_finds l dC dI cy s.heap.size a_t (0 : Int32) v_t_isKept v_t_bestPost v_t_mostSeen v_t_taped v_t_from v_t_to v_t_isWrong f_t_found r30 w31 hc32) (cwV 1 hts gX8_as_X8_finds rfl rfl rfl kdX8_finds ⟨Nat.le_of_ble_eq_true rfl, Nat.le_of_ble_eq_true rfl⟩) (bb_preVw (va_recv hK hP (ci := 7) (q0 := 0) rfl rfl) (hP.sub (ws' := [((a_t 0), oX8 a_t v_t_isKept v_t_bestPost v_t_mostSeen v_t_taped v_t_from v_t_to v_t_isWrong), ((a_t 5), .inl (cy 0, 7, .inl f_t_found))]) [0, 1] rfl) hK (hD.sub (ws' := [((a_t 0), oX8 a_t v_t_isKept v_t_bestPost v_t_mostSeen v_t_taped v_t_from v_t_to v_t_isWrong), ((a_t 5), .inl (cy 0, 7, .inl f_t_found))]) [0, 1] (by decide) rfl)) rfl rfl hl.1 rfl (lv_room (Nat.le_of_ble_eq_true rfl)) dX8_as_16 ⟨Nat.zero_le _, Nat.zero_le _⟩) hP hD hS hA [0, 1] [2] rfl rfl (by decide) (by decide) (fun H locs hP hD hS => ?_)
      have hP : va_P (dC, dI) vwCl [((a_t 1), .inl (cy 0, 155, .inl f_t_s)), ((a_t 0), oX8 a_t v_t_isKept v_t_bestPost v_t_mostSeen v_t_taped v_t_from v_t_to v_t_isWrong), ((a_t 5), .inl (cy 0, 7, .inl w31))] H := hP
      have hD : va_D A [((a_t 1), .inl (cy 0, 155, .inl f_t_s)), ((a_t 0), oX8 a_t v_t_isKept v_t_bestPost v_t_mostSeen v_t_taped v_t_from v_t_to v_t_isWrong), ((a_t 5), .inl (cy 0, 7, .inl w31))] := hD
      obtain ⟨rfl, rfl⟩ := bb_some2 h
      have hP9 := hP.sub (ws' := [((a_t 0), oX8 a_t v_t_isKept v_t_bestPost v_t_mostSeen v_t_taped v_t_from v_t_to v_t_isWrong), ((a_t 5), .inl (cy 0, 7, .inl w31)), ((a_t 1), .inl (cy 0, 155, .inl f_t_s))]) [1, 2, 0] rfl
      have hD9 := hD.sub (ws' := [((a_t 0), oX8 a_t v_t_isKept v_t_bestPost v_t_mostSeen v_t_taped v_t_from v_t_to v_t_isWrong), ((a_t 5), .inl (cy 0, 7, .inl w31)), ((a_t 1), .inl (cy 0, 155, .inl f_t_s))]) [1, 2, 0] (by decide) rfl
      exact W.iret hx hb hr (fun t ht hW => ⟨⟨_, (), rfl, rfl, by rw [ht]; exact hP9, va_K.moved hW.alike hK, hD9⟩, hS.F ht⟩) hS.2.2 dX8_as_19
/-! X8_sheet -/
def uX8_sheet_s95 (x1_23 : Int32) (k_121 : (Nat → Int32) → Option (Int32 × (Nat → Int32) × (Nat → Int32) × (Nat → Int32) × (Nat → Int32))) (rec27 : Int32 → (Nat → Int32) → Option (Int32 × (Nat → Int32) × (Nat → Int32) × (Nat → Int32) × (Nat → Int32))) (x5_21 : Int32) (f_t_number_22 : Nat → Int32) : Option (Int32 × (Nat → Int32) × (Nat → Int32) × (Nat → Int32) × (Nat → Int32)) :=
  (if (40 : Int32) ≤ x5_21 then k_121 f_t_number_22 else bb_ix (((40 : Int32) * x1_23) + x5_21) 160 (rec27 (x5_21 + (1 : Int32)) (upd f_t_number_22 (((40 : Int32) * x1_23) + x5_21).toNatClampNeg (0 : Int32))))
def uX8_sheet (nn : Nat) (p1 : Int32) (p2 : Int32) (p3 : Int32) (f_t_bitsOf : Nat → Int32) (f_t_found : Nat → Int32) (f_t_number : Nat → Int32) (f_t_sizeOf : Nat → Int32) : Option (Int32 × (Nat → Int32) × (Nat → Int32) × (Nat → Int32) × (Nat → Int32)) :=
  bb_cut (fun (z1 : Int32) => bb_b1 (uX8_isSheet p1) (fun (r3 : Int32) => (if r3 = 0 then bb_b2 (uX8_finds (0 : Int32) f_t_found) (fun (r8 : Int32) (w9 : Nat → Int32) => some (r8, f_t_bitsOf, w9, f_t_number, f_t_sizeOf)) else (if z1 = 0 then bb_b2 (uX8_finds (0 : Int32) f_t_found) (fun (r39 : Int32) (w40 : Nat → Int32) => some (r39, f_t_bitsOf, w40, f_t_number, f_t_sizeOf)) else (if 0 ≤ p3 then (if p3 ≤ (40 : Int32) then bb_ix p1 4 (bb_cut (fun (z15 : Int32) => bb_ix p1 4 (bb_cut (fun (f_t_number_18 : Nat → Int32) => bb_ix p1 4 (some ((upd f_t_sizeOf p1.toNatClampNeg z15) p1.toNatClampNeg, upd f_t_bitsOf p1.toNatClampNeg p2, f_t_found, f_t_number_18, upd f_t_sizeOf p1.toNatClampNeg z15))) (fun k19 => bb_loop2 (uX8_sheet_s95 p1 k19) nn (0 : Int32) f_t_number))) (fun k16 => (if p2 = 0 then k16 (0 : Int32) else k16 p3))) else bb_b2 (uX8_finds (0 : Int32) f_t_found) (fun (r33 : Int32) (w34 : Nat → Int32) => some (r33, f_t_bitsOf, w34, f_t_number, f_t_sizeOf))) else bb_b2 (uX8_finds (6 : Int32) f_t_found) (fun (r36 : Int32) (w37 : Nat → Int32) => some (r36, f_t_bitsOf, w37, f_t_number, f_t_sizeOf))))))) (fun k2 => bb_cut (fun (u42 : Unit) => k2 (1 : Int32)) (fun k43 => (if p2 = 0 then k43 () else (if p2 = (8 : Int32) then k43 () else (if p2 = (16 : Int32) then k43 () else (if p2 = (32 : Int32) then k43 () else k2 (0 : Int32)))))))
theorem kdX8_sheet : yX8_sheet.cls = RX8 ∧ yX8_sheet.cls ≠ "java/lang/invoke/MethodHandle" ∧ yX8_sheet.cls ≠ "java/lang/invoke/VarHandle" ∧ (parseMethodDescriptor yX8_sheet.desc).map (fun d => d.parameters.length) = some 3 := by decide +kernel
set_option maxHeartbeats 4000000 in
set_option maxRecDepth 100000 in
theorem kX8_sheet (l : Launch) (dC : Nat → ClassId) (dI : Nat → Nat → Nat) (cy : Nat → ClassId) (sz : Nat) (a_t : Nat → Nat) (p1 : Int32) (p2 : Int32) (p3 : Int32) (v_t_isKept : Int32) (v_t_bestPost : Int32) (v_t_mostSeen : Int32) (v_t_taped : Int32) (v_t_from : Int32) (v_t_to : Int32) (v_t_isWrong : Int32) (f_t_bitsOf : Nat → Int32) (f_t_found : Nat → Int32) (f_t_number : Nat → Int32) (f_t_sizeOf : Nat → Int32) (nn : Nat) (r : Int32) (f_t_bitsOf_o : Nat → Int32) (f_t_found_o : Nat → Int32) (f_t_number_o : Nat → Int32) (f_t_sizeOf_o : Nat → Int32) (h : uX8_sheet nn p1 p2 p3 f_t_bitsOf f_t_found f_t_number f_t_sizeOf = some (r, f_t_bitsOf_o, f_t_found_o, f_t_number_o, f_t_sizeOf_o)) : Met l yX8_sheet wsX8_sheet ({ frames := 2, cells := 0, slots := 0, locals := 45 }) (va_Pc [.ref (a_t 0), .int p1, .int p2, .int p3] (fun U => U.heap.size = sz ∧ va_P (dC, dI) vwCl [((a_t 0), oX8 a_t v_t_isKept v_t_bestPost v_t_mostSeen v_t_taped v_t_from v_t_to v_t_isWrong), ((a_t 17), .inl (cy 0, 4, .inl f_t_bitsOf)), ((a_t 5), .inl (cy 0, 7, .inl f_t_found)), ((a_t 19), .inl (cy 0, 160, .inl f_t_number)), ((a_t 18), .inl (cy 0, 4, .inl f_t_sizeOf))] U.heap ∧ va_K (dC, dI) vwCl (tyX cy) U ∧ va_D (fun _ => True) [((a_t 0), oX8 a_t v_t_isKept v_t_bestPost v_t_mostSeen v_t_taped v_t_from v_t_to v_t_isWrong), ((a_t 17), .inl (cy 0, 4, .inl f_t_bitsOf)), ((a_t 5), .inl (cy 0, 7, .inl f_t_found)), ((a_t 19), .inl (cy 0, 160, .inl f_t_number)), ((a_t 18), .inl (cy 0, 4, .inl f_t_sizeOf))])) (va_Qi (fun (r2 : Int32) (_ : Unit) => r = r2) (fun _ t => va_P (dC, dI) vwCl [((a_t 0), oX8 a_t v_t_isKept v_t_bestPost v_t_mostSeen v_t_taped v_t_from v_t_to v_t_isWrong), ((a_t 17), .inl (cy 0, 4, .inl f_t_bitsOf_o)), ((a_t 5), .inl (cy 0, 7, .inl f_t_found_o)), ((a_t 19), .inl (cy 0, 160, .inl f_t_number_o)), ((a_t 18), .inl (cy 0, 4, .inl f_t_sizeOf_o))] t.heap ∧ va_K (dC, dI) vwCl (tyX cy) t ∧ va_D (va_A [((a_t 0), oX8 a_t v_t_isKept v_t_bestPost v_t_mostSeen v_t_taped v_t_from v_t_to v_t_isWrong), ((a_t 17), .inl (cy 0, 4, .inl f_t_bitsOf)), ((a_t 5), .inl (cy 0, 7, .inl f_t_found)), ((a_t 19), .inl (cy 0, 160, .inl f_t_number)), ((a_t 18), .inl (cy 0, 4, .inl f_t_sizeOf))] sz) [((a_t 0), oX8 a_t v_t_isKept v_t_bestPost v_t_mostSeen v_t_taped v_t_from v_t_to v_t_isWrong), ((a_t 17), .inl (cy 0, 4, .inl f_t_bitsOf_o)), ((a_t 5), .inl (cy 0, 7, .inl f_t_found_o)), ((a_t 19), .inl (cy 0, 160, .inl f_t_number_o)), ((a_t 18), .inl (cy 0, 4, .inl f_t_sizeOf_o))]) (va_A [((a_t 0), oX8 a_t v_t_isKept v_t_bestPost v_t_mostSeen v_t_taped v_t_from v_t_to v_t_isWrong), ((a_t 17), .inl (cy 0, 4, .inl f_t_bitsOf)), ((a_t 5), .inl (cy 0, 7, .inl f_t_found)), ((a_t 19), .inl (cy 0, 160, .inl f_t_number)), ((a_t 18), .inl (cy 0, 4, .inl f_t_sizeOf))] sz)) 0 0 (va_A [((a_t 0), oX8 a_t v_t_isKept v_t_bestPost v_t_mostSeen v_t_taped v_t_from v_t_to v_t_isWrong), ((a_t 17), .inl (cy 0, 4, .inl f_t_bitsOf)), ((a_t 5), .inl (cy 0, 7, .inl f_t_found)), ((a_t 19), .inl (cy 0, 160, .inl f_t_number)), ((a_t 18), .inl (cy 0, 4, .inl f_t_sizeOf))] sz) := by
  refine Met.ofW (cc := cX8_sheet) (maxL := 6) (ret := (some .int)) (by decide) rfl ?_
  intro p e s m args below meth c s₁ B hml hv
  obtain ⟨rfl, hsz, hP, hK, hD0⟩ := hv
  have hx := B.exec
  have hb := B.bytes
  have hr := B.returns
  have hts := atoms_spec (ws := wsX8_sheet) B.pre
  have hown : s.vm.findClass RX8 = some m.cls := findClass_of_methodNamed B.named
  have hlocks := B.notSynchronized
  have iwX8 : ∀ w ∈ wsX80, w ∈ wsX8_sheet := fun w h9 => List.mem_cons_of_mem _ (List.mem_append_right _ (h9))
  have lk1 := hts (Cond.fieldLink RX8 39 "BathBorderModel" "bitsOf" "[I") (List.mem_of_getElem? (i := 1) rfl)
  have lk2 := hts (Cond.fieldLink RX8 42 "BathBorderModel" "sizeOf" "[I") (List.mem_of_getElem? (i := 2) rfl)
  have lk3 := hts (Cond.fieldLink RX8 45 "BathBorderModel" "number" "[I") (List.mem_of_getElem? (i := 3) rfl)
  subst hsz
  have hD := hD0.self (sz := s.heap.size)
  generalize hAe : va_A [((a_t 0), oX8 a_t v_t_isKept v_t_bestPost v_t_mostSeen v_t_taped v_t_from v_t_to v_t_isWrong), ((a_t 17), .inl (cy 0, 4, .inl f_t_bitsOf)), ((a_t 5), .inl (cy 0, 7, .inl f_t_found)), ((a_t 19), .inl (cy 0, 160, .inl f_t_number)), ((a_t 18), .inl (cy 0, 4, .inl f_t_sizeOf))] s.heap.size = A at hD ⊢
  have hA : ∀ q : Nat, s.heap.size ≤ q → A q := fun q h => by rw [← hAe]; exact Or.inr h
  have hS : va_S A s.heap s.heap [] := va_S.rf
  have hP : va_P (dC, dI) vwCl [((a_t 0), oX8 a_t v_t_isKept v_t_bestPost v_t_mostSeen v_t_taped v_t_from v_t_to v_t_isWrong), ((a_t 17), .inl (cy 0, 4, .inl f_t_bitsOf)), ((a_t 5), .inl (cy 0, 7, .inl f_t_found)), ((a_t 19), .inl (cy 0, 160, .inl f_t_number)), ((a_t 18), .inl (cy 0, 4, .inl f_t_sizeOf))] s.heap := hP
  have hl := lv_entry ([.ref (a_t 0), .int p1, .int p2, .int p3]) (n := 6) (Nat.le_of_ble_eq_true rfl)
  rw [lg_entry_eq]
  generalize (lg_sl ([.ref (a_t 0), .int p1, .int p2, .int p3]) ++ List.replicate (6 - (lg_sl ([.ref (a_t 0), .int p1, .int p2, .int p3])).length) Slot.unset).toArray = ls at hl ⊢
  have hl : lv_has ls 6 [(0, .ref (a_t 0)), (1, .int p1), (2, .int p2), (3, .int p3)] := hl
  unfold uX8_sheet at h
  refine bb_cap (fun WW toW ofW => ?_)
  refine lv_iload_n hx hb dX8_sheet_0 rfl (lv_at hl 2 rfl) ?_
  obtain ⟨k2, ek2, h⟩ := bb_cut_o h
  have Jk2 : ∀ (z1 : Int32) (H : Heap) (locs : List Loc) (ls : Array Slot), k2 z1 = some (r, f_t_bitsOf_o, f_t_found_o, f_t_number_o, f_t_sizeOf_o) → va_P (dC, dI) vwCl [((a_t 0), oX8 a_t v_t_isKept v_t_bestPost v_t_mostSeen v_t_taped v_t_from v_t_to v_t_isWrong), ((a_t 17), .inl (cy 0, 4, .inl f_t_bitsOf)), ((a_t 5), .inl (cy 0, 7, .inl f_t_found)), ((a_t 19), .inl (cy 0, 160, .inl f_t_number)), ((a_t 18), .inl (cy 0, 4, .inl f_t_sizeOf))] H → va_D A [((a_t 0), oX8 a_t v_t_isKept v_t_bestPost v_t_mostSeen v_t_taped v_t_from v_t_to v_t_isWrong), ((a_t 17), .inl (cy 0, 4, .inl f_t_bitsOf)), ((a_t 5), .inl (cy 0, 7, .inl f_t_found)), ((a_t 19), .inl (cy 0, 160, .inl f_t_number)), ((a_t 18), .inl (cy 0, 4, .inl f_t_sizeOf))] → va_S A s.heap H locs → lv_has ls 6 [(0, .ref (a_t 0)), (1, .int p1), (2, .int p2), (3, .int p3)] → WW H locs (F0 m 27 ls [.int z1]) := by
    intro z1 H locs ls h hP hD hS hl
    refine ofW _ _ _ ?_
    subst ek2
    refine lv_istore (lv' := [(4, .int z1), (0, .ref (a_t 0)), (1, .int p1), (2, .int p2), (3, .int p3)]) hx hb dX8_sheet_27 hl (by decide) rfl (fun ls hl => ?_)
    refine lv_iload_n hx hb dX8_sheet_29 rfl (lv_at hl 2 rfl) ?_
    obtain ⟨r3, hc4, h⟩ := bb_b1_o h
    refine vp_callSi (W.runS (As := [.int p1]) (rest := []) ⟨hx, hb, hml, hown, hts⟩ (kX8_isSheet l dC dI cy p1 r3 hc4) (va_cwS 1 hts gX8_sheet_X8_isSheet rfl rfl rfl kdX8_isSheet ⟨Nat.le_of_ble_eq_true rfl, Nat.le_of_ble_eq_true rfl⟩) (bb_preS (hP.sub (ws' := []) [] rfl) hK) rfl rfl hl.1 rfl (lv_room (Nat.le_of_ble_eq_true rfl)) dX8_sheet_30 ⟨Nat.zero_le _, Nat.zero_le _⟩) (fun t5 et5 => ?_)
    obtain ⟨rfl, hz6⟩ := et5
    refine lv_if_eq (tgt := 41) hx hb dX8_sheet_33 (by decide) (fun c7 => ?_) (fun c7 => ?_)
    · replace h := bb_ifp c7 h
      refine lv_aload_n hx hb dX8_sheet_41 rfl (lv_at hl 1 rfl) ?_
      refine lv_iconst (v := (0 : Int32)) hx hb dX8_sheet_42 (by decide) ?_
      obtain ⟨r8, w9, hc10, h⟩ := bb_b2_o h
      refine bb_cwi (wr := [((a_t 17), .inl (cy 0, 4, .inl f_t_bitsOf)), ((a_t 19), .inl (cy 0, 160, .inl f_t_number)), ((a_t 18), .inl (cy 0, 4, .inl f_t_sizeOf))]) (w1 := [((a_t 0), oX8 a_t v_t_isKept v_t_bestPost v_t_mostSeen v_t_taped v_t_from v_t_to v_t_isWrong), ((a_t 5), .inl (cy 0, 7, .inl w9))]) (va_runV (As := [.int (0 : Int32)]) (rest := []) ⟨hx, hb, hml, hown, hts⟩ (kX8_finds l dC dI cy H.size a_t (0 : Int32) v_t_isKept v_t_bestPost v_t_mostSeen v_t_taped v_t_from v_t_to v_t_isWrong f_t_found r8 w9 hc10) (cwV 1 hts gX8_sheet_X8_finds rfl rfl rfl kdX8_finds ⟨Nat.le_of_ble_eq_true rfl, Nat.le_of_ble_eq_true rfl⟩) (bb_preVw (va_recv hK hP (ci := 7) (q0 := 0) rfl rfl) (hP.sub (ws' := [((a_t 0), oX8 a_t v_t_isKept v_t_bestPost v_t_mostSeen v_t_taped v_t_from v_t_to v_t_isWrong), ((a_t 5), .inl (cy 0, 7, .inl f_t_found))]) [0, 2] rfl) hK (hD.sub (ws' := [((a_t 0), oX8 a_t v_t_isKept v_t_bestPost v_t_mostSeen v_t_taped v_t_from v_t_to v_t_isWrong), ((a_t 5), .inl (cy 0, 7, .inl f_t_found))]) [0, 2] (by decide) rfl)) rfl rfl hl.1 rfl (lv_room (Nat.le_of_ble_eq_true rfl)) dX8_sheet_43 ⟨Nat.zero_le _, Nat.zero_le _⟩) hP hD hS hA [0, 2] [1, 3, 4] rfl rfl (by decide) (by decide) (fun H locs hP hD hS => ?_)
      have hP : va_P (dC, dI) vwCl [((a_t 17), .inl (cy 0, 4, .inl f_t_bitsOf)), ((a_t 19), .inl (cy 0, 160, .inl f_t_number)), ((a_t 18), .inl (cy 0, 4, .inl f_t_sizeOf)), ((a_t 0), oX8 a_t v_t_isKept v_t_bestPost v_t_mostSeen v_t_taped v_t_from v_t_to v_t_isWrong), ((a_t 5), .inl (cy 0, 7, .inl w9))] H := hP
      have hD : va_D A [((a_t 17), .inl (cy 0, 4, .inl f_t_bitsOf)), ((a_t 19), .inl (cy 0, 160, .inl f_t_number)), ((a_t 18), .inl (cy 0, 4, .inl f_t_sizeOf)), ((a_t 0), oX8 a_t v_t_isKept v_t_bestPost v_t_mostSeen v_t_taped v_t_from v_t_to v_t_isWrong), ((a_t 5), .inl (cy 0, 7, .inl w9))] := hD
      obtain ⟨rfl, rfl, rfl, rfl, rfl⟩ := bb_some5 h
      have hP9 := hP.sub (ws' := [((a_t 0), oX8 a_t v_t_isKept v_t_bestPost v_t_mostSeen v_t_taped v_t_from v_t_to v_t_isWrong), ((a_t 17), .inl (cy 0, 4, .inl f_t_bitsOf)), ((a_t 5), .inl (cy 0, 7, .inl w9)), ((a_t 19), .inl (cy 0, 160, .inl f_t_number)), ((a_t 18), .inl (cy 0, 4, .inl f_t_sizeOf))]) [3, 0, 4, 1, 2] rfl
      have hD9 := hD.sub (ws' := [((a_t 0), oX8 a_t v_t_isKept v_t_bestPost v_t_mostSeen v_t_taped v_t_from v_t_to v_t_isWrong), ((a_t 17), .inl (cy 0, 4, .inl f_t_bitsOf)), ((a_t 5), .inl (cy 0, 7, .inl w9)), ((a_t 19), .inl (cy 0, 160, .inl f_t_number)), ((a_t 18), .inl (cy 0, 4, .inl f_t_sizeOf))]) [3, 0, 4, 1, 2] (by decide) rfl
      exact W.iret hx hb hr (fun t ht hW => ⟨⟨_, (), rfl, rfl, by rw [ht]; exact hP9, va_K.moved hW.alike hK, hD9⟩, hS.F ht⟩) hS.2.2 dX8_sheet_46
    · replace h := bb_ifn c7 h
      refine lv_iload hx hb dX8_sheet_36 (lv_at hl 0 rfl) ?_
      refine lv_if_ne (tgt := 47) hx hb dX8_sheet_38 (by decide) (fun c11 => ?_) (fun c11 => ?_)
      · replace h := bb_ifn c11 h
        refine lv_iload_n hx hb dX8_sheet_47 rfl (lv_at hl 4 rfl) ?_
        refine lv_if_ge (tgt := 58) hx hb dX8_sheet_48 (by decide) (fun c12 => ?_) (fun c12 => ?_)
        · replace h := bb_ifp c12 h
          refine lv_iload_n hx hb dX8_sheet_58 rfl (lv_at hl 4 rfl) ?_
          refine lv_bipush (v := (40 : Int32)) hx hb dX8_sheet_59 (by decide) ?_
          refine lv_icmp_le (tgt := 70) hx hb dX8_sheet_61 (by decide) (fun c13 => ?_) (fun c13 => ?_)
          · replace h := bb_ifp c13 h
            refine lv_aload_n hx hb dX8_sheet_70 rfl (lv_at hl 1 rfl) ?_
            refine va_get (D := (dC, dI)) (ci := 7) (v := .ref (a_t 17)) (C := RX8) (T := TX8) (N := 20) hx hb hts iwX8 hown hK hP 0 rfl rfl 16 (by decide) lk1 (fun _ h9 => h9) rfl dX8_sheet_71 ?_
            refine lv_iload_n hx hb dX8_sheet_74 rfl (lv_at hl 2 rfl) ?_
            refine lv_iload_n hx hb dX8_sheet_75 rfl (lv_at hl 3 rfl) ?_
            obtain ⟨hi14, h⟩ := bb_ix_o h
            refine va_iast hx hb hK hP hD hS 1 0 rfl rfl hi14 dX8_sheet_76 (fun H locs hP hD hS => ?_)
            have hP : va_P (dC, dI) vwCl [((a_t 0), oX8 a_t v_t_isKept v_t_bestPost v_t_mostSeen v_t_taped v_t_from v_t_to v_t_isWrong), ((a_t 17), .inl (cy 0, 4, .inl (upd f_t_bitsOf p1.toNatClampNeg p2))), ((a_t 5), .inl (cy 0, 7, .inl f_t_found)), ((a_t 19), .inl (cy 0, 160, .inl f_t_number)), ((a_t 18), .inl (cy 0, 4, .inl f_t_sizeOf))] H := hP
            have hD : va_D A [((a_t 0), oX8 a_t v_t_isKept v_t_bestPost v_t_mostSeen v_t_taped v_t_from v_t_to v_t_isWrong), ((a_t 17), .inl (cy 0, 4, .inl (upd f_t_bitsOf p1.toNatClampNeg p2))), ((a_t 5), .inl (cy 0, 7, .inl f_t_found)), ((a_t 19), .inl (cy 0, 160, .inl f_t_number)), ((a_t 18), .inl (cy 0, 4, .inl f_t_sizeOf))] := hD
            refine lv_aload_n hx hb dX8_sheet_77 rfl (lv_at hl 1 rfl) ?_
            refine va_get (D := (dC, dI)) (ci := 7) (v := .ref (a_t 18)) (C := RX8) (T := TX8) (N := 20) hx hb hts iwX8 hown hK hP 0 rfl rfl 17 (by decide) lk2 (fun _ h9 => h9) rfl dX8_sheet_78 ?_
            refine lv_iload_n hx hb dX8_sheet_81 rfl (lv_at hl 2 rfl) ?_
            refine lv_iload_n hx hb dX8_sheet_82 rfl (lv_at hl 3 rfl) ?_
            obtain ⟨k16, ek16, h⟩ := bb_cut_o h
            have Jk16 : ∀ (z15 : Int32) (H : Heap) (locs : List Loc) (ls : Array Slot), k16 z15 = some (r, f_t_bitsOf_o, f_t_found_o, f_t_number_o, f_t_sizeOf_o) → va_P (dC, dI) vwCl [((a_t 0), oX8 a_t v_t_isKept v_t_bestPost v_t_mostSeen v_t_taped v_t_from v_t_to v_t_isWrong), ((a_t 17), .inl (cy 0, 4, .inl (upd f_t_bitsOf p1.toNatClampNeg p2))), ((a_t 5), .inl (cy 0, 7, .inl f_t_found)), ((a_t 19), .inl (cy 0, 160, .inl f_t_number)), ((a_t 18), .inl (cy 0, 4, .inl f_t_sizeOf))] H → va_D A [((a_t 0), oX8 a_t v_t_isKept v_t_bestPost v_t_mostSeen v_t_taped v_t_from v_t_to v_t_isWrong), ((a_t 17), .inl (cy 0, 4, .inl (upd f_t_bitsOf p1.toNatClampNeg p2))), ((a_t 5), .inl (cy 0, 7, .inl f_t_found)), ((a_t 19), .inl (cy 0, 160, .inl f_t_number)), ((a_t 18), .inl (cy 0, 4, .inl f_t_sizeOf))] → va_S A s.heap H locs → lv_has ls 6 [(0, .ref (a_t 0)), (1, .int p1)] → WW H locs (F0 m 91 ls [.int z15, .int p1, .ref (a_t 18)]) := by
              intro z15 H locs ls h hP hD hS hl
              refine ofW _ _ _ ?_
              subst ek16
              obtain ⟨hi17, h⟩ := bb_ix_o h
              refine va_iast hx hb hK hP hD hS 4 0 rfl rfl hi17 dX8_sheet_91 (fun H locs hP hD hS => ?_)
              have hP : va_P (dC, dI) vwCl [((a_t 0), oX8 a_t v_t_isKept v_t_bestPost v_t_mostSeen v_t_taped v_t_from v_t_to v_t_isWrong), ((a_t 17), .inl (cy 0, 4, .inl (upd f_t_bitsOf p1.toNatClampNeg p2))), ((a_t 5), .inl (cy 0, 7, .inl f_t_found)), ((a_t 19), .inl (cy 0, 160, .inl f_t_number)), ((a_t 18), .inl (cy 0, 4, .inl (upd f_t_sizeOf p1.toNatClampNeg z15)))] H := hP
              have hD : va_D A [((a_t 0), oX8 a_t v_t_isKept v_t_bestPost v_t_mostSeen v_t_taped v_t_from v_t_to v_t_isWrong), ((a_t 17), .inl (cy 0, 4, .inl (upd f_t_bitsOf p1.toNatClampNeg p2))), ((a_t 5), .inl (cy 0, 7, .inl f_t_found)), ((a_t 19), .inl (cy 0, 160, .inl f_t_number)), ((a_t 18), .inl (cy 0, 4, .inl (upd f_t_sizeOf p1.toNatClampNeg z15)))] := hD
              refine lv_iconst (v := (0 : Int32)) hx hb dX8_sheet_92 (by decide) ?_
              refine lv_istore (lv' := [(5, .int (0 : Int32)), (0, .ref (a_t 0)), (1, .int p1)]) hx hb dX8_sheet_93 hl (by decide) rfl (fun ls hl => ?_)
              obtain ⟨k19, ek19, h⟩ := bb_cut_o h
              have Jk19 : ∀ (f_t_number_18 : Nat → Int32) (H : Heap) (locs : List Loc) (ls : Array Slot), k19 f_t_number_18 = some (r, f_t_bitsOf_o, f_t_found_o, f_t_number_o, f_t_sizeOf_o) → va_P (dC, dI) vwCl [((a_t 0), oX8 a_t v_t_isKept v_t_bestPost v_t_mostSeen v_t_taped v_t_from v_t_to v_t_isWrong), ((a_t 17), .inl (cy 0, 4, .inl (upd f_t_bitsOf p1.toNatClampNeg p2))), ((a_t 5), .inl (cy 0, 7, .inl f_t_found)), ((a_t 19), .inl (cy 0, 160, .inl f_t_number_18)), ((a_t 18), .inl (cy 0, 4, .inl (upd f_t_sizeOf p1.toNatClampNeg z15)))] H → va_D A [((a_t 0), oX8 a_t v_t_isKept v_t_bestPost v_t_mostSeen v_t_taped v_t_from v_t_to v_t_isWrong), ((a_t 17), .inl (cy 0, 4, .inl (upd f_t_bitsOf p1.toNatClampNeg p2))), ((a_t 5), .inl (cy 0, 7, .inl f_t_found)), ((a_t 19), .inl (cy 0, 160, .inl f_t_number_18)), ((a_t 18), .inl (cy 0, 4, .inl (upd f_t_sizeOf p1.toNatClampNeg z15)))] → va_S A s.heap H locs → lv_has ls 6 [(0, .ref (a_t 0)), (1, .int p1)] → WW H locs (F0 m 121 ls []) := by
                intro f_t_number_18 H locs ls h hP hD hS hl
                refine ofW _ _ _ ?_
                subst ek19
                refine lv_aload_n hx hb dX8_sheet_121 rfl (lv_at hl 0 rfl) ?_
                refine va_get (D := (dC, dI)) (ci := 7) (v := .ref (a_t 18)) (C := RX8) (T := TX8) (N := 20) hx hb hts iwX8 hown hK hP 0 rfl rfl 17 (by decide) lk2 (fun _ h9 => h9) rfl dX8_sheet_122 ?_
                refine lv_iload_n hx hb dX8_sheet_125 rfl (lv_at hl 1 rfl) ?_
                obtain ⟨hi20, h⟩ := bb_ix_o h
                refine va_iald hx hb hK hP 4 0 rfl rfl hi20 dX8_sheet_126 ?_
                obtain ⟨rfl, rfl, rfl, rfl, rfl⟩ := bb_some5 h
                have hP9 := hP.sub (ws' := [((a_t 0), oX8 a_t v_t_isKept v_t_bestPost v_t_mostSeen v_t_taped v_t_from v_t_to v_t_isWrong), ((a_t 17), .inl (cy 0, 4, .inl (upd f_t_bitsOf p1.toNatClampNeg p2))), ((a_t 5), .inl (cy 0, 7, .inl f_t_found)), ((a_t 19), .inl (cy 0, 160, .inl f_t_number_18)), ((a_t 18), .inl (cy 0, 4, .inl (upd f_t_sizeOf p1.toNatClampNeg z15)))]) [0, 1, 2, 3, 4] rfl
                have hD9 := hD.sub (ws' := [((a_t 0), oX8 a_t v_t_isKept v_t_bestPost v_t_mostSeen v_t_taped v_t_from v_t_to v_t_isWrong), ((a_t 17), .inl (cy 0, 4, .inl (upd f_t_bitsOf p1.toNatClampNeg p2))), ((a_t 5), .inl (cy 0, 7, .inl f_t_found)), ((a_t 19), .inl (cy 0, 160, .inl f_t_number_18)), ((a_t 18), .inl (cy 0, 4, .inl (upd f_t_sizeOf p1.toNatClampNeg z15)))]) [0, 1, 2, 3, 4] (by decide) rfl
                exact W.iret hx hb hr (fun t ht hW => ⟨⟨_, (), rfl, rfl, by rw [ht]; exact hP9, va_K.moved hW.alike hK, hD9⟩, hS.F ht⟩) hS.2.2 dX8_sheet_127
              have L28 : ∀ (n : Nat) (x5_21 : Int32) (f_t_number_22 : Nat → Int32) (H : Heap) (locs : List Loc) (ls : Array Slot), bb_loop2 (uX8_sheet_s95 p1 k19) n x5_21 f_t_number_22 = some (r, f_t_bitsOf_o, f_t_found_o, f_t_number_o, f_t_sizeOf_o) → va_P (dC, dI) vwCl [((a_t 0), oX8 a_t v_t_isKept v_t_bestPost v_t_mostSeen v_t_taped v_t_from v_t_to v_t_isWrong), ((a_t 17), .inl (cy 0, 4, .inl (upd f_t_bitsOf p1.toNatClampNeg p2))), ((a_t 5), .inl (cy 0, 7, .inl f_t_found)), ((a_t 19), .inl (cy 0, 160, .inl f_t_number_22)), ((a_t 18), .inl (cy 0, 4, .inl (upd f_t_sizeOf p1.toNatClampNeg z15)))] H → va_D A [((a_t 0), oX8 a_t v_t_isKept v_t_bestPost v_t_mostSeen v_t_taped v_t_from v_t_to v_t_isWrong), ((a_t 17), .inl (cy 0, 4, .inl (upd f_t_bitsOf p1.toNatClampNeg p2))), ((a_t 5), .inl (cy 0, 7, .inl f_t_found)), ((a_t 19), .inl (cy 0, 160, .inl f_t_number_22)), ((a_t 18), .inl (cy 0, 4, .inl (upd f_t_sizeOf p1.toNatClampNeg z15)))] → va_S A s.heap H locs → lv_has ls 6 [(0, .ref (a_t 0)), (1, .int p1), (5, .int x5_21)] → WW H locs (F0 m 95 ls []) := by
                intro n
                induction n with
                | zero => intro x5_21 f_t_number_22 H locs ls h; exact (bb_no h).elim
                | succ n ih29 =>
                  intro x5_21 f_t_number_22 H locs ls h hP hD hS hl
                  refine ofW _ _ _ ?_
                  obtain ⟨rec27, erec27, h⟩ := bb_loop2_o h
                  unfold uX8_sheet_s95 at h
                  refine lv_iload hx hb dX8_sheet_95 (lv_at hl 2 rfl) ?_
                  refine lv_bipush (v := (40 : Int32)) hx hb dX8_sheet_97 (by decide) ?_
                  refine lv_icmp_ge (tgt := 121) hx hb dX8_sheet_99 (by decide) (fun c30 => ?_) (fun c30 => ?_)
                  · replace h := bb_ifp c30 h
                    exact toW _ _ _ (Jk19 f_t_number_22 _ _ _ h hP hD hS (lv_sub hl [0, 1] rfl))
                  · replace h := bb_ifn c30 h
                    refine lv_aload_n hx hb dX8_sheet_102 rfl (lv_at hl 0 rfl) ?_
                    refine va_get (D := (dC, dI)) (ci := 7) (v := .ref (a_t 19)) (C := RX8) (T := TX8) (N := 20) hx hb hts iwX8 hown hK hP 0 rfl rfl 18 (by decide) lk3 (fun _ h9 => h9) rfl dX8_sheet_103 ?_
                    refine lv_bipush (v := (40 : Int32)) hx hb dX8_sheet_106 (by decide) ?_
                    refine lv_iload_n hx hb dX8_sheet_108 rfl (lv_at hl 1 rfl) ?_
                    refine lv_imul hx hb dX8_sheet_109 ?_
                    refine lv_iload hx hb dX8_sheet_110 (lv_at hl 2 rfl) ?_
                    refine lv_iadd hx hb dX8_sheet_112 ?_
                    refine lv_iconst (v := (0 : Int32)) hx hb dX8_sheet_113 (by decide) ?_
                    obtain ⟨hi31, h⟩ := bb_ix_o h
                    refine va_iast hx hb hK hP hD hS 3 0 rfl rfl hi31 dX8_sheet_114 (fun H locs hP hD hS => ?_)
                    have hP : va_P (dC, dI) vwCl [((a_t 0), oX8 a_t v_t_isKept v_t_bestPost v_t_mostSeen v_t_taped v_t_from v_t_to v_t_isWrong), ((a_t 17), .inl (cy 0, 4, .inl (upd f_t_bitsOf p1.toNatClampNeg p2))), ((a_t 5), .inl (cy 0, 7, .inl f_t_found)), ((a_t 19), .inl (cy 0, 160, .inl (upd f_t_number_22 (((40 : Int32) * p1) + x5_21).toNatClampNeg (0 : Int32)))), ((a_t 18), .inl (cy 0, 4, .inl (upd f_t_sizeOf p1.toNatClampNeg z15)))] H := hP
                    have hD : va_D A [((a_t 0), oX8 a_t v_t_isKept v_t_bestPost v_t_mostSeen v_t_taped v_t_from v_t_to v_t_isWrong), ((a_t 17), .inl (cy 0, 4, .inl (upd f_t_bitsOf p1.toNatClampNeg p2))), ((a_t 5), .inl (cy 0, 7, .inl f_t_found)), ((a_t 19), .inl (cy 0, 160, .inl (upd f_t_number_22 (((40 : Int32) * p1) + x5_21).toNatClampNeg (0 : Int32)))), ((a_t 18), .inl (cy 0, 4, .inl (upd f_t_sizeOf p1.toNatClampNeg z15)))] := hD
                    refine lv_iinc (v := x5_21 + (1 : Int32)) (lv' := [(5, .int (x5_21 + (1 : Int32))), (0, .ref (a_t 0)), (1, .int p1)]) hx hb dX8_sheet_115 hl (k := 2) rfl rfl (by decide) rfl (fun ls hl => ?_)
                    refine lv_goto (tgt := 95) hx hb dX8_sheet_118 (by decide) ?_
                    rw [erec27] at h
                    exact toW _ _ _ (ih29 (x5_21 + (1 : Int32)) (upd f_t_number_22 (((40 : Int32) * p1) + x5_21).toNatClampNeg (0 : Int32)) _ _ _ h hP hD hS (lv_sub hl [1, 2, 0] rfl))
              exact toW _ _ _ (L28 nn (0 : Int32) f_t_number _ _ _ h hP hD hS (lv_sub hl [1, 2, 0] rfl))
            refine lv_if_ne (tgt := 90) hx hb dX8_sheet_83 (by decide) (fun c32 => ?_) (fun c32 => ?_)
            · replace h := bb_ifn c32 h
              refine lv_iload_n hx hb dX8_sheet_90 rfl (lv_at hl 4 rfl) ?_
              exact toW _ _ _ (Jk16 p3 _ _ _ h hP hD hS (lv_sub hl [1, 2] rfl))
            · replace h := bb_ifp c32 h
              refine lv_iconst (v := (0 : Int32)) hx hb dX8_sheet_86 (by decide) ?_
              refine lv_goto (tgt := 91) hx hb dX8_sheet_87 (by decide) ?_
              exact toW _ _ _ (Jk16 (0 : Int32) _ _ _ h hP hD hS (lv_sub hl [1, 2] rfl))
          · replace h := bb_ifn c13 h
            refine lv_aload_n hx hb dX8_sheet_64 rfl (lv_at hl 1 rfl) ?_
            refine lv_iconst (v := (0 : Int32)) hx hb dX8_sheet_65 (by decide) ?_
            obtain ⟨r33, w34, hc35, h⟩ := bb_b2_o h
            refine bb_cwi (wr := [((a_t 17), .inl (cy 0, 4, .inl f_t_bitsOf)), ((a_t 19), .inl (cy 0, 160, .inl f_t_number)), ((a_t 18), .inl (cy 0, 4, .inl f_t_sizeOf))]) (w1 := [((a_t 0), oX8 a_t v_t_isKept v_t_bestPost v_t_mostSeen v_t_taped v_t_from v_t_to v_t_isWrong), ((a_t 5), .inl (cy 0, 7, .inl w34))]) (va_runV (As := [.int (0 : Int32)]) (rest := []) ⟨hx, hb, hml, hown, hts⟩ (kX8_finds l dC dI cy H.size a_t (0 : Int32) v_t_isKept v_t_bestPost v_t_mostSeen v_t_taped v_t_from v_t_to v_t_isWrong f_t_found r33 w34 hc35) (cwV 1 hts gX8_sheet_X8_finds rfl rfl rfl kdX8_finds ⟨Nat.le_of_ble_eq_true rfl, Nat.le_of_ble_eq_true rfl⟩) (bb_preVw (va_recv hK hP (ci := 7) (q0 := 0) rfl rfl) (hP.sub (ws' := [((a_t 0), oX8 a_t v_t_isKept v_t_bestPost v_t_mostSeen v_t_taped v_t_from v_t_to v_t_isWrong), ((a_t 5), .inl (cy 0, 7, .inl f_t_found))]) [0, 2] rfl) hK (hD.sub (ws' := [((a_t 0), oX8 a_t v_t_isKept v_t_bestPost v_t_mostSeen v_t_taped v_t_from v_t_to v_t_isWrong), ((a_t 5), .inl (cy 0, 7, .inl f_t_found))]) [0, 2] (by decide) rfl)) rfl rfl hl.1 rfl (lv_room (Nat.le_of_ble_eq_true rfl)) dX8_sheet_66 ⟨Nat.zero_le _, Nat.zero_le _⟩) hP hD hS hA [0, 2] [1, 3, 4] rfl rfl (by decide) (by decide) (fun H locs hP hD hS => ?_)
            have hP : va_P (dC, dI) vwCl [((a_t 17), .inl (cy 0, 4, .inl f_t_bitsOf)), ((a_t 19), .inl (cy 0, 160, .inl f_t_number)), ((a_t 18), .inl (cy 0, 4, .inl f_t_sizeOf)), ((a_t 0), oX8 a_t v_t_isKept v_t_bestPost v_t_mostSeen v_t_taped v_t_from v_t_to v_t_isWrong), ((a_t 5), .inl (cy 0, 7, .inl w34))] H := hP
            have hD : va_D A [((a_t 17), .inl (cy 0, 4, .inl f_t_bitsOf)), ((a_t 19), .inl (cy 0, 160, .inl f_t_number)), ((a_t 18), .inl (cy 0, 4, .inl f_t_sizeOf)), ((a_t 0), oX8 a_t v_t_isKept v_t_bestPost v_t_mostSeen v_t_taped v_t_from v_t_to v_t_isWrong), ((a_t 5), .inl (cy 0, 7, .inl w34))] := hD
            obtain ⟨rfl, rfl, rfl, rfl, rfl⟩ := bb_some5 h
            have hP9 := hP.sub (ws' := [((a_t 0), oX8 a_t v_t_isKept v_t_bestPost v_t_mostSeen v_t_taped v_t_from v_t_to v_t_isWrong), ((a_t 17), .inl (cy 0, 4, .inl f_t_bitsOf)), ((a_t 5), .inl (cy 0, 7, .inl w34)), ((a_t 19), .inl (cy 0, 160, .inl f_t_number)), ((a_t 18), .inl (cy 0, 4, .inl f_t_sizeOf))]) [3, 0, 4, 1, 2] rfl
            have hD9 := hD.sub (ws' := [((a_t 0), oX8 a_t v_t_isKept v_t_bestPost v_t_mostSeen v_t_taped v_t_from v_t_to v_t_isWrong), ((a_t 17), .inl (cy 0, 4, .inl f_t_bitsOf)), ((a_t 5), .inl (cy 0, 7, .inl w34)), ((a_t 19), .inl (cy 0, 160, .inl f_t_number)), ((a_t 18), .inl (cy 0, 4, .inl f_t_sizeOf))]) [3, 0, 4, 1, 2] (by decide) rfl
            exact W.iret hx hb hr (fun t ht hW => ⟨⟨_, (), rfl, rfl, by rw [ht]; exact hP9, va_K.moved hW.alike hK, hD9⟩, hS.F ht⟩) hS.2.2 dX8_sheet_69
        · replace h := bb_ifn c12 h
          refine lv_aload_n hx hb dX8_sheet_51 rfl (lv_at hl 1 rfl) ?_
          refine lv_bipush (v := (6 : Int32)) hx hb dX8_sheet_52 (by decide) ?_
          obtain ⟨r36, w37, hc38, h⟩ := bb_b2_o h
          refine bb_cwi (wr := [((a_t 17), .inl (cy 0, 4, .inl f_t_bitsOf)), ((a_t 19), .inl (cy 0, 160, .inl f_t_number)), ((a_t 18), .inl (cy 0, 4, .inl f_t_sizeOf))]) (w1 := [((a_t 0), oX8 a_t v_t_isKept v_t_bestPost v_t_mostSeen v_t_taped v_t_from v_t_to v_t_isWrong), ((a_t 5), .inl (cy 0, 7, .inl w37))]) (va_runV (As := [.int (6 : Int32)]) (rest := []) ⟨hx, hb, hml, hown, hts⟩ (kX8_finds l dC dI cy H.size a_t (6 : Int32) v_t_isKept v_t_bestPost v_t_mostSeen v_t_taped v_t_from v_t_to v_t_isWrong f_t_found r36 w37 hc38) (cwV 1 hts gX8_sheet_X8_finds rfl rfl rfl kdX8_finds ⟨Nat.le_of_ble_eq_true rfl, Nat.le_of_ble_eq_true rfl⟩) (bb_preVw (va_recv hK hP (ci := 7) (q0 := 0) rfl rfl) (hP.sub (ws' := [((a_t 0), oX8 a_t v_t_isKept v_t_bestPost v_t_mostSeen v_t_taped v_t_from v_t_to v_t_isWrong), ((a_t 5), .inl (cy 0, 7, .inl f_t_found))]) [0, 2] rfl) hK (hD.sub (ws' := [((a_t 0), oX8 a_t v_t_isKept v_t_bestPost v_t_mostSeen v_t_taped v_t_from v_t_to v_t_isWrong), ((a_t 5), .inl (cy 0, 7, .inl f_t_found))]) [0, 2] (by decide) rfl)) rfl rfl hl.1 rfl (lv_room (Nat.le_of_ble_eq_true rfl)) dX8_sheet_54 ⟨Nat.zero_le _, Nat.zero_le _⟩) hP hD hS hA [0, 2] [1, 3, 4] rfl rfl (by decide) (by decide) (fun H locs hP hD hS => ?_)
          have hP : va_P (dC, dI) vwCl [((a_t 17), .inl (cy 0, 4, .inl f_t_bitsOf)), ((a_t 19), .inl (cy 0, 160, .inl f_t_number)), ((a_t 18), .inl (cy 0, 4, .inl f_t_sizeOf)), ((a_t 0), oX8 a_t v_t_isKept v_t_bestPost v_t_mostSeen v_t_taped v_t_from v_t_to v_t_isWrong), ((a_t 5), .inl (cy 0, 7, .inl w37))] H := hP
          have hD : va_D A [((a_t 17), .inl (cy 0, 4, .inl f_t_bitsOf)), ((a_t 19), .inl (cy 0, 160, .inl f_t_number)), ((a_t 18), .inl (cy 0, 4, .inl f_t_sizeOf)), ((a_t 0), oX8 a_t v_t_isKept v_t_bestPost v_t_mostSeen v_t_taped v_t_from v_t_to v_t_isWrong), ((a_t 5), .inl (cy 0, 7, .inl w37))] := hD
          obtain ⟨rfl, rfl, rfl, rfl, rfl⟩ := bb_some5 h
          have hP9 := hP.sub (ws' := [((a_t 0), oX8 a_t v_t_isKept v_t_bestPost v_t_mostSeen v_t_taped v_t_from v_t_to v_t_isWrong), ((a_t 17), .inl (cy 0, 4, .inl f_t_bitsOf)), ((a_t 5), .inl (cy 0, 7, .inl w37)), ((a_t 19), .inl (cy 0, 160, .inl f_t_number)), ((a_t 18), .inl (cy 0, 4, .inl f_t_sizeOf))]) [3, 0, 4, 1, 2] rfl
          have hD9 := hD.sub (ws' := [((a_t 0), oX8 a_t v_t_isKept v_t_bestPost v_t_mostSeen v_t_taped v_t_from v_t_to v_t_isWrong), ((a_t 17), .inl (cy 0, 4, .inl f_t_bitsOf)), ((a_t 5), .inl (cy 0, 7, .inl w37)), ((a_t 19), .inl (cy 0, 160, .inl f_t_number)), ((a_t 18), .inl (cy 0, 4, .inl f_t_sizeOf))]) [3, 0, 4, 1, 2] (by decide) rfl
          exact W.iret hx hb hr (fun t ht hW => ⟨⟨_, (), rfl, rfl, by rw [ht]; exact hP9, va_K.moved hW.alike hK, hD9⟩, hS.F ht⟩) hS.2.2 dX8_sheet_57
      · replace h := bb_ifp c11 h
        refine lv_aload_n hx hb dX8_sheet_41 rfl (lv_at hl 1 rfl) ?_
        refine lv_iconst (v := (0 : Int32)) hx hb dX8_sheet_42 (by decide) ?_
        obtain ⟨r39, w40, hc41, h⟩ := bb_b2_o h
        refine bb_cwi (wr := [((a_t 17), .inl (cy 0, 4, .inl f_t_bitsOf)), ((a_t 19), .inl (cy 0, 160, .inl f_t_number)), ((a_t 18), .inl (cy 0, 4, .inl f_t_sizeOf))]) (w1 := [((a_t 0), oX8 a_t v_t_isKept v_t_bestPost v_t_mostSeen v_t_taped v_t_from v_t_to v_t_isWrong), ((a_t 5), .inl (cy 0, 7, .inl w40))]) (va_runV (As := [.int (0 : Int32)]) (rest := []) ⟨hx, hb, hml, hown, hts⟩ (kX8_finds l dC dI cy H.size a_t (0 : Int32) v_t_isKept v_t_bestPost v_t_mostSeen v_t_taped v_t_from v_t_to v_t_isWrong f_t_found r39 w40 hc41) (cwV 1 hts gX8_sheet_X8_finds rfl rfl rfl kdX8_finds ⟨Nat.le_of_ble_eq_true rfl, Nat.le_of_ble_eq_true rfl⟩) (bb_preVw (va_recv hK hP (ci := 7) (q0 := 0) rfl rfl) (hP.sub (ws' := [((a_t 0), oX8 a_t v_t_isKept v_t_bestPost v_t_mostSeen v_t_taped v_t_from v_t_to v_t_isWrong), ((a_t 5), .inl (cy 0, 7, .inl f_t_found))]) [0, 2] rfl) hK (hD.sub (ws' := [((a_t 0), oX8 a_t v_t_isKept v_t_bestPost v_t_mostSeen v_t_taped v_t_from v_t_to v_t_isWrong), ((a_t 5), .inl (cy 0, 7, .inl f_t_found))]) [0, 2] (by decide) rfl)) rfl rfl hl.1 rfl (lv_room (Nat.le_of_ble_eq_true rfl)) dX8_sheet_43 ⟨Nat.zero_le _, Nat.zero_le _⟩) hP hD hS hA [0, 2] [1, 3, 4] rfl rfl (by decide) (by decide) (fun H locs hP hD hS => ?_)
        have hP : va_P (dC, dI) vwCl [((a_t 17), .inl (cy 0, 4, .inl f_t_bitsOf)), ((a_t 19), .inl (cy 0, 160, .inl f_t_number)), ((a_t 18), .inl (cy 0, 4, .inl f_t_sizeOf)), ((a_t 0), oX8 a_t v_t_isKept v_t_bestPost v_t_mostSeen v_t_taped v_t_from v_t_to v_t_isWrong), ((a_t 5), .inl (cy 0, 7, .inl w40))] H := hP
        have hD : va_D A [((a_t 17), .inl (cy 0, 4, .inl f_t_bitsOf)), ((a_t 19), .inl (cy 0, 160, .inl f_t_number)), ((a_t 18), .inl (cy 0, 4, .inl f_t_sizeOf)), ((a_t 0), oX8 a_t v_t_isKept v_t_bestPost v_t_mostSeen v_t_taped v_t_from v_t_to v_t_isWrong), ((a_t 5), .inl (cy 0, 7, .inl w40))] := hD
        obtain ⟨rfl, rfl, rfl, rfl, rfl⟩ := bb_some5 h
        have hP9 := hP.sub (ws' := [((a_t 0), oX8 a_t v_t_isKept v_t_bestPost v_t_mostSeen v_t_taped v_t_from v_t_to v_t_isWrong), ((a_t 17), .inl (cy 0, 4, .inl f_t_bitsOf)), ((a_t 5), .inl (cy 0, 7, .inl w40)), ((a_t 19), .inl (cy 0, 160, .inl f_t_number)), ((a_t 18), .inl (cy 0, 4, .inl f_t_sizeOf))]) [3, 0, 4, 1, 2] rfl
        have hD9 := hD.sub (ws' := [((a_t 0), oX8 a_t v_t_isKept v_t_bestPost v_t_mostSeen v_t_taped v_t_from v_t_to v_t_isWrong), ((a_t 17), .inl (cy 0, 4, .inl f_t_bitsOf)), ((a_t 5), .inl (cy 0, 7, .inl w40)), ((a_t 19), .inl (cy 0, 160, .inl f_t_number)), ((a_t 18), .inl (cy 0, 4, .inl f_t_sizeOf))]) [3, 0, 4, 1, 2] (by decide) rfl
        exact W.iret hx hb hr (fun t ht hW => ⟨⟨_, (), rfl, rfl, by rw [ht]; exact hP9, va_K.moved hW.alike hK, hD9⟩, hS.F ht⟩) hS.2.2 dX8_sheet_46
  obtain ⟨k43, ek43, h⟩ := bb_cut_o h
  have Jk43 : ∀ (u42 : Unit) (H : Heap) (locs : List Loc) (ls : Array Slot), k43 u42 = some (r, f_t_bitsOf_o, f_t_found_o, f_t_number_o, f_t_sizeOf_o) → va_P (dC, dI) vwCl [((a_t 0), oX8 a_t v_t_isKept v_t_bestPost v_t_mostSeen v_t_taped v_t_from v_t_to v_t_isWrong), ((a_t 17), .inl (cy 0, 4, .inl f_t_bitsOf)), ((a_t 5), .inl (cy 0, 7, .inl f_t_found)), ((a_t 19), .inl (cy 0, 160, .inl f_t_number)), ((a_t 18), .inl (cy 0, 4, .inl f_t_sizeOf))] H → va_D A [((a_t 0), oX8 a_t v_t_isKept v_t_bestPost v_t_mostSeen v_t_taped v_t_from v_t_to v_t_isWrong), ((a_t 17), .inl (cy 0, 4, .inl f_t_bitsOf)), ((a_t 5), .inl (cy 0, 7, .inl f_t_found)), ((a_t 19), .inl (cy 0, 160, .inl f_t_number)), ((a_t 18), .inl (cy 0, 4, .inl f_t_sizeOf))] → va_S A s.heap H locs → lv_has ls 6 [(0, .ref (a_t 0)), (1, .int p1), (2, .int p2), (3, .int p3)] → WW H locs (F0 m 22 ls []) := by
    intro u42 H locs ls h hP hD hS hl
    refine ofW _ _ _ ?_
    subst ek43
    refine lv_iconst (v := (1 : Int32)) hx hb dX8_sheet_22 (by decide) ?_
    refine lv_goto (tgt := 27) hx hb dX8_sheet_23 (by decide) ?_
    exact toW _ _ _ (Jk2 (1 : Int32) _ _ _ h hP hD hS (lv_sub hl [0, 1, 2, 3] rfl))
  refine lv_if_eq (tgt := 22) hx hb dX8_sheet_1 (by decide) (fun c44 => ?_) (fun c44 => ?_)
  · replace h := bb_ifp c44 h
    exact toW _ _ _ (Jk43 () _ _ _ h hP hD hS (lv_sub hl [0, 1, 2, 3] rfl))
  · replace h := bb_ifn c44 h
    refine lv_iload_n hx hb dX8_sheet_4 rfl (lv_at hl 2 rfl) ?_
    refine lv_bipush (v := (8 : Int32)) hx hb dX8_sheet_5 (by decide) ?_
    refine lv_icmp_eq (tgt := 22) hx hb dX8_sheet_7 (by decide) (fun c45 => ?_) (fun c45 => ?_)
    · replace h := bb_ifp c45 h
      exact toW _ _ _ (Jk43 () _ _ _ h hP hD hS (lv_sub hl [0, 1, 2, 3] rfl))
    · replace h := bb_ifn c45 h
      refine lv_iload_n hx hb dX8_sheet_10 rfl (lv_at hl 2 rfl) ?_
      refine lv_bipush (v := (16 : Int32)) hx hb dX8_sheet_11 (by decide) ?_
      refine lv_icmp_eq (tgt := 22) hx hb dX8_sheet_13 (by decide) (fun c46 => ?_) (fun c46 => ?_)
      · replace h := bb_ifp c46 h
        exact toW _ _ _ (Jk43 () _ _ _ h hP hD hS (lv_sub hl [0, 1, 2, 3] rfl))
      · replace h := bb_ifn c46 h
        refine lv_iload_n hx hb dX8_sheet_16 rfl (lv_at hl 2 rfl) ?_
        refine lv_bipush (v := (32 : Int32)) hx hb dX8_sheet_17 (by decide) ?_
        refine lv_icmp_ne (tgt := 26) hx hb dX8_sheet_19 (by decide) (fun c47 => ?_) (fun c47 => ?_)
        · replace h := bb_ifn c47 h
          refine lv_iconst (v := (0 : Int32)) hx hb dX8_sheet_26 (by decide) ?_
          exact toW _ _ _ (Jk2 (0 : Int32) _ _ _ h hP hD hS (lv_sub hl [0, 1, 2, 3] rfl))
        · replace h := bb_ifp c47 h
          exact toW _ _ _ (Jk43 () _ _ _ h hP hD hS (lv_sub hl [0, 1, 2, 3] rfl))
/-! X8_write -/
def uX8_write (p1 : Int32) (p2 : Int32) (p3 : Int32) (f_t_bitsOf : Nat → Int32) (f_t_found : Nat → Int32) (f_t_number : Nat → Int32) (f_t_sizeOf : Nat → Int32) : Option (Int32 × (Nat → Int32) × (Nat → Int32)) :=
  bb_b1 (uX8_lacks p1 f_t_bitsOf) (fun (r1 : Int32) => (if r1 < 0 then bb_ix p1 4 (bb_b1 (uX8_in p2.toInt64 (0 : Int64) (((f_t_sizeOf p1.toNatClampNeg) - (1 : Int32)).toInt64)) (fun (r6 : Int32) => (if r6 = 0 then bb_b2 (uX8_finds (0 : Int32) f_t_found) (fun (r18 : Int32) (w19 : Nat → Int32) => some (r18, w19, f_t_number)) else bb_ix p1 4 ((if (f_t_bitsOf p1.toNatClampNeg) = (8 : Int32) then bb_ix (((40 : Int32) * p1) + p2) 160 (some ((1 : Int32), f_t_found, upd f_t_number (((40 : Int32) * p1) + p2).toNatClampNeg p3.toInt8.toInt32)) else bb_ix p1 4 ((if (f_t_bitsOf p1.toNatClampNeg) = (16 : Int32) then bb_ix (((40 : Int32) * p1) + p2) 160 (some ((1 : Int32), f_t_found, upd f_t_number (((40 : Int32) * p1) + p2).toNatClampNeg p3.toInt16.toInt32)) else bb_ix (((40 : Int32) * p1) + p2) 160 (some ((1 : Int32), f_t_found, upd f_t_number (((40 : Int32) * p1) + p2).toNatClampNeg p3))))))))) else bb_b2 (uX8_finds r1 f_t_found) (fun (r21 : Int32) (w22 : Nat → Int32) => some (r21, w22, f_t_number))))
theorem kdX8_write : yX8_write.cls = RX8 ∧ yX8_write.cls ≠ "java/lang/invoke/MethodHandle" ∧ yX8_write.cls ≠ "java/lang/invoke/VarHandle" ∧ (parseMethodDescriptor yX8_write.desc).map (fun d => d.parameters.length) = some 3 := by decide +kernel
set_option maxHeartbeats 4000000 in
set_option maxRecDepth 100000 in
theorem kX8_write (l : Launch) (dC : Nat → ClassId) (dI : Nat → Nat → Nat) (cy : Nat → ClassId) (sz : Nat) (a_t : Nat → Nat) (p1 : Int32) (p2 : Int32) (p3 : Int32) (v_t_isKept : Int32) (v_t_bestPost : Int32) (v_t_mostSeen : Int32) (v_t_taped : Int32) (v_t_from : Int32) (v_t_to : Int32) (v_t_isWrong : Int32) (f_t_bitsOf : Nat → Int32) (f_t_found : Nat → Int32) (f_t_number : Nat → Int32) (f_t_sizeOf : Nat → Int32) (r : Int32) (f_t_found_o : Nat → Int32) (f_t_number_o : Nat → Int32) (h : uX8_write p1 p2 p3 f_t_bitsOf f_t_found f_t_number f_t_sizeOf = some (r, f_t_found_o, f_t_number_o)) : Met l yX8_write wsX8_write ({ frames := 3, cells := 0, slots := 0, locals := 66 }) (va_Pc [.ref (a_t 0), .int p1, .int p2, .int p3] (fun U => U.heap.size = sz ∧ va_P (dC, dI) vwCl [((a_t 0), oX8 a_t v_t_isKept v_t_bestPost v_t_mostSeen v_t_taped v_t_from v_t_to v_t_isWrong), ((a_t 17), .inl (cy 0, 4, .inl f_t_bitsOf)), ((a_t 5), .inl (cy 0, 7, .inl f_t_found)), ((a_t 19), .inl (cy 0, 160, .inl f_t_number)), ((a_t 18), .inl (cy 0, 4, .inl f_t_sizeOf))] U.heap ∧ va_K (dC, dI) vwCl (tyX cy) U ∧ va_D (fun _ => True) [((a_t 0), oX8 a_t v_t_isKept v_t_bestPost v_t_mostSeen v_t_taped v_t_from v_t_to v_t_isWrong), ((a_t 17), .inl (cy 0, 4, .inl f_t_bitsOf)), ((a_t 5), .inl (cy 0, 7, .inl f_t_found)), ((a_t 19), .inl (cy 0, 160, .inl f_t_number)), ((a_t 18), .inl (cy 0, 4, .inl f_t_sizeOf))])) (va_Qi (fun (r2 : Int32) (_ : Unit) => r = r2) (fun _ t => va_P (dC, dI) vwCl [((a_t 0), oX8 a_t v_t_isKept v_t_bestPost v_t_mostSeen v_t_taped v_t_from v_t_to v_t_isWrong), ((a_t 17), .inl (cy 0, 4, .inl f_t_bitsOf)), ((a_t 5), .inl (cy 0, 7, .inl f_t_found_o)), ((a_t 19), .inl (cy 0, 160, .inl f_t_number_o)), ((a_t 18), .inl (cy 0, 4, .inl f_t_sizeOf))] t.heap ∧ va_K (dC, dI) vwCl (tyX cy) t ∧ va_D (va_A [((a_t 0), oX8 a_t v_t_isKept v_t_bestPost v_t_mostSeen v_t_taped v_t_from v_t_to v_t_isWrong), ((a_t 17), .inl (cy 0, 4, .inl f_t_bitsOf)), ((a_t 5), .inl (cy 0, 7, .inl f_t_found)), ((a_t 19), .inl (cy 0, 160, .inl f_t_number)), ((a_t 18), .inl (cy 0, 4, .inl f_t_sizeOf))] sz) [((a_t 0), oX8 a_t v_t_isKept v_t_bestPost v_t_mostSeen v_t_taped v_t_from v_t_to v_t_isWrong), ((a_t 17), .inl (cy 0, 4, .inl f_t_bitsOf)), ((a_t 5), .inl (cy 0, 7, .inl f_t_found_o)), ((a_t 19), .inl (cy 0, 160, .inl f_t_number_o)), ((a_t 18), .inl (cy 0, 4, .inl f_t_sizeOf))]) (va_A [((a_t 0), oX8 a_t v_t_isKept v_t_bestPost v_t_mostSeen v_t_taped v_t_from v_t_to v_t_isWrong), ((a_t 17), .inl (cy 0, 4, .inl f_t_bitsOf)), ((a_t 5), .inl (cy 0, 7, .inl f_t_found)), ((a_t 19), .inl (cy 0, 160, .inl f_t_number)), ((a_t 18), .inl (cy 0, 4, .inl f_t_sizeOf))] sz)) 0 0 (va_A [((a_t 0), oX8 a_t v_t_isKept v_t_bestPost v_t_mostSeen v_t_taped v_t_from v_t_to v_t_isWrong), ((a_t 17), .inl (cy 0, 4, .inl f_t_bitsOf)), ((a_t 5), .inl (cy 0, 7, .inl f_t_found)), ((a_t 19), .inl (cy 0, 160, .inl f_t_number)), ((a_t 18), .inl (cy 0, 4, .inl f_t_sizeOf))] sz) := by
  refine Met.ofW (cc := cX8_write) (maxL := 5) (ret := (some .int)) (by decide) rfl ?_
  intro p e s m args below meth c s₁ B hml hv
  obtain ⟨rfl, hsz, hP, hK, hD0⟩ := hv
  have hx := B.exec
  have hb := B.bytes
  have hr := B.returns
  have hts := atoms_spec (ws := wsX8_write) B.pre
  have hown : s.vm.findClass RX8 = some m.cls := findClass_of_methodNamed B.named
  have hlocks := B.notSynchronized
  have iwX8 : ∀ w ∈ wsX80, w ∈ wsX8_write := fun w h9 => List.mem_cons_of_mem _ (List.mem_append_right _ (h9))
  have lk1 := hts (Cond.fieldLink RX8 42 "BathBorderModel" "sizeOf" "[I") (List.mem_of_getElem? (i := 1) rfl)
  have lk2 := hts (Cond.fieldLink RX8 45 "BathBorderModel" "number" "[I") (List.mem_of_getElem? (i := 2) rfl)
  have lk3 := hts (Cond.fieldLink RX8 39 "BathBorderModel" "bitsOf" "[I") (List.mem_of_getElem? (i := 3) rfl)
  subst hsz
  have hD := hD0.self (sz := s.heap.size)
  generalize hAe : va_A [((a_t 0), oX8 a_t v_t_isKept v_t_bestPost v_t_mostSeen v_t_taped v_t_from v_t_to v_t_isWrong), ((a_t 17), .inl (cy 0, 4, .inl f_t_bitsOf)), ((a_t 5), .inl (cy 0, 7, .inl f_t_found)), ((a_t 19), .inl (cy 0, 160, .inl f_t_number)), ((a_t 18), .inl (cy 0, 4, .inl f_t_sizeOf))] s.heap.size = A at hD ⊢
  have hA : ∀ q : Nat, s.heap.size ≤ q → A q := fun q h => by rw [← hAe]; exact Or.inr h
  have hS : va_S A s.heap s.heap [] := va_S.rf
  have hP : va_P (dC, dI) vwCl [((a_t 0), oX8 a_t v_t_isKept v_t_bestPost v_t_mostSeen v_t_taped v_t_from v_t_to v_t_isWrong), ((a_t 17), .inl (cy 0, 4, .inl f_t_bitsOf)), ((a_t 5), .inl (cy 0, 7, .inl f_t_found)), ((a_t 19), .inl (cy 0, 160, .inl f_t_number)), ((a_t 18), .inl (cy 0, 4, .inl f_t_sizeOf))] s.heap := hP
  have hl := lv_entry ([.ref (a_t 0), .int p1, .int p2, .int p3]) (n := 5) (Nat.le_of_ble_eq_true rfl)
  rw [lg_entry_eq]
  generalize (lg_sl ([.ref (a_t 0), .int p1, .int p2, .int p3]) ++ List.replicate (5 - (lg_sl ([.ref (a_t 0), .int p1, .int p2, .int p3])).length) Slot.unset).toArray = ls at hl ⊢
  have hl : lv_has ls 5 [(0, .ref (a_t 0)), (1, .int p1), (2, .int p2), (3, .int p3)] := hl
  unfold uX8_write at h
  refine bb_cap (fun WW toW ofW => ?_)
  refine lv_aload_n hx hb dX8_write_0 rfl (lv_at hl 0 rfl) ?_
  refine lv_iload_n hx hb dX8_write_1 rfl (lv_at hl 1 rfl) ?_
  obtain ⟨r1, hc2, h⟩ := bb_b1_o h
  refine vp_callSi (W.runV (As := [.int p1]) (rest := []) ⟨hx, hb, hml, hown, hts⟩ (kX8_lacks l dC dI cy a_t p1 v_t_isKept v_t_bestPost v_t_mostSeen v_t_taped v_t_from v_t_to v_t_isWrong f_t_bitsOf r1 hc2) (cwV 1 hts gX8_write_X8_lacks rfl rfl rfl kdX8_lacks ⟨Nat.le_of_ble_eq_true rfl, Nat.le_of_ble_eq_true rfl⟩) (bb_preV (va_recv hK hP (ci := 7) (q0 := 0) rfl rfl) (hP.sub (ws' := [((a_t 0), oX8 a_t v_t_isKept v_t_bestPost v_t_mostSeen v_t_taped v_t_from v_t_to v_t_isWrong), ((a_t 17), .inl (cy 0, 4, .inl f_t_bitsOf))]) [0, 1] rfl) hK) rfl rfl hl.1 rfl (lv_room (Nat.le_of_ble_eq_true rfl)) dX8_write_2 ⟨Nat.zero_le _, Nat.zero_le _⟩) (fun t3 et3 => ?_)
  obtain rfl := et3
  refine lv_istore (lv' := [(4, .int r1), (0, .ref (a_t 0)), (1, .int p1), (2, .int p2), (3, .int p3)]) hx hb dX8_write_5 hl (by decide) rfl (fun ls hl => ?_)
  refine lv_iload hx hb dX8_write_7 (lv_at hl 0 rfl) ?_
  refine lv_if_lt (tgt := 19) hx hb dX8_write_9 (by decide) (fun c4 => ?_) (fun c4 => ?_)
  · replace h := bb_ifp c4 h
    refine lv_iload_n hx hb dX8_write_19 rfl (lv_at hl 3 rfl) ?_
    refine lv_i2l hx hb dX8_write_20 rfl ?_
    refine lv_lconst (v := (0 : Int64)) hx hb dX8_write_21 (by decide) ?_
    refine lv_aload_n hx hb dX8_write_22 rfl (lv_at hl 1 rfl) ?_
    refine va_get (D := (dC, dI)) (ci := 7) (v := .ref (a_t 18)) (C := RX8) (T := TX8) (N := 20) hx hb hts iwX8 hown hK hP 0 rfl rfl 17 (by decide) lk1 (fun _ h9 => h9) rfl dX8_write_23 ?_
    refine lv_iload_n hx hb dX8_write_26 rfl (lv_at hl 2 rfl) ?_
    obtain ⟨hi5, h⟩ := bb_ix_o h
    refine va_iald hx hb hK hP 4 0 rfl rfl hi5 dX8_write_27 ?_
    refine lv_iconst (v := (1 : Int32)) hx hb dX8_write_28 (by decide) ?_
    refine lv_isub hx hb dX8_write_29 ?_
    refine lv_i2l hx hb dX8_write_30 rfl ?_
    obtain ⟨r6, hc7, h⟩ := bb_b1_o h
    refine vp_callSi (W.runS (As := [.long p2.toInt64, .long (0 : Int64), .long (((f_t_sizeOf p1.toNatClampNeg) - (1 : Int32)).toInt64)]) (rest := []) ⟨hx, hb, hml, hown, hts⟩ (kX8_in l dC dI cy p2.toInt64 (0 : Int64) (((f_t_sizeOf p1.toNatClampNeg) - (1 : Int32)).toInt64) r6 hc7) (va_cwS 3 hts gX8_write_X8_in rfl rfl rfl kdX8_in ⟨Nat.le_of_ble_eq_true rfl, Nat.le_of_ble_eq_true rfl⟩) (bb_preS (hP.sub (ws' := []) [] rfl) hK) rfl rfl hl.1 rfl (lv_room (Nat.le_of_ble_eq_true rfl)) dX8_write_31 ⟨Nat.zero_le _, Nat.zero_le _⟩) (fun t8 et8 => ?_)
    obtain ⟨rfl, hz9⟩ := et8
    refine lv_if_ne (tgt := 43) hx hb dX8_write_34 (by decide) (fun c10 => ?_) (fun c10 => ?_)
    · replace h := bb_ifn c10 h
      refine lv_aload_n hx hb dX8_write_43 rfl (lv_at hl 1 rfl) ?_
      refine va_get (D := (dC, dI)) (ci := 7) (v := .ref (a_t 19)) (C := RX8) (T := TX8) (N := 20) hx hb hts iwX8 hown hK hP 0 rfl rfl 18 (by decide) lk2 (fun _ h9 => h9) rfl dX8_write_44 ?_
      refine lv_bipush (v := (40 : Int32)) hx hb dX8_write_47 (by decide) ?_
      refine lv_iload_n hx hb dX8_write_49 rfl (lv_at hl 2 rfl) ?_
      refine lv_imul hx hb dX8_write_50 ?_
      refine lv_iload_n hx hb dX8_write_51 rfl (lv_at hl 3 rfl) ?_
      refine lv_iadd hx hb dX8_write_52 ?_
      refine lv_aload_n hx hb dX8_write_53 rfl (lv_at hl 1 rfl) ?_
      refine va_get (D := (dC, dI)) (ci := 7) (v := .ref (a_t 17)) (C := RX8) (T := TX8) (N := 20) hx hb hts iwX8 hown hK hP 0 rfl rfl 16 (by decide) lk3 (fun _ h9 => h9) rfl dX8_write_54 ?_
      refine lv_iload_n hx hb dX8_write_57 rfl (lv_at hl 2 rfl) ?_
      obtain ⟨hi11, h⟩ := bb_ix_o h
      refine va_iald hx hb hK hP 1 0 rfl rfl hi11 dX8_write_58 ?_
      refine lv_bipush (v := (8 : Int32)) hx hb dX8_write_59 (by decide) ?_
      refine lv_icmp_ne (tgt := 69) hx hb dX8_write_61 (by decide) (fun c12 => ?_) (fun c12 => ?_)
      · replace h := bb_ifn c12 h
        refine lv_aload_n hx hb dX8_write_69 rfl (lv_at hl 1 rfl) ?_
        refine va_get (D := (dC, dI)) (ci := 7) (v := .ref (a_t 17)) (C := RX8) (T := TX8) (N := 20) hx hb hts iwX8 hown hK hP 0 rfl rfl 16 (by decide) lk3 (fun _ h9 => h9) rfl dX8_write_70 ?_
        refine lv_iload_n hx hb dX8_write_73 rfl (lv_at hl 2 rfl) ?_
        obtain ⟨hi13, h⟩ := bb_ix_o h
        refine va_iald hx hb hK hP 1 0 rfl rfl hi13 dX8_write_74 ?_
        refine lv_bipush (v := (16 : Int32)) hx hb dX8_write_75 (by decide) ?_
        refine lv_icmp_ne (tgt := 85) hx hb dX8_write_77 (by decide) (fun c14 => ?_) (fun c14 => ?_)
        · replace h := bb_ifn c14 h
          refine lv_iload_n hx hb dX8_write_85 rfl (lv_at hl 4 rfl) ?_
          obtain ⟨hi15, h⟩ := bb_ix_o h
          refine va_iast hx hb hK hP hD hS 3 0 rfl rfl hi15 dX8_write_86 (fun H locs hP hD hS => ?_)
          have hP : va_P (dC, dI) vwCl [((a_t 0), oX8 a_t v_t_isKept v_t_bestPost v_t_mostSeen v_t_taped v_t_from v_t_to v_t_isWrong), ((a_t 17), .inl (cy 0, 4, .inl f_t_bitsOf)), ((a_t 5), .inl (cy 0, 7, .inl f_t_found)), ((a_t 19), .inl (cy 0, 160, .inl (upd f_t_number (((40 : Int32) * p1) + p2).toNatClampNeg p3))), ((a_t 18), .inl (cy 0, 4, .inl f_t_sizeOf))] H := hP
          have hD : va_D A [((a_t 0), oX8 a_t v_t_isKept v_t_bestPost v_t_mostSeen v_t_taped v_t_from v_t_to v_t_isWrong), ((a_t 17), .inl (cy 0, 4, .inl f_t_bitsOf)), ((a_t 5), .inl (cy 0, 7, .inl f_t_found)), ((a_t 19), .inl (cy 0, 160, .inl (upd f_t_number (((40 : Int32) * p1) + p2).toNatClampNeg p3))), ((a_t 18), .inl (cy 0, 4, .inl f_t_sizeOf))] := hD
          refine lv_iconst (v := (1 : Int32)) hx hb dX8_write_87 (by decide) ?_
          obtain ⟨rfl, rfl, rfl⟩ := bb_some3 h
          have hP9 := hP.sub (ws' := [((a_t 0), oX8 a_t v_t_isKept v_t_bestPost v_t_mostSeen v_t_taped v_t_from v_t_to v_t_isWrong), ((a_t 17), .inl (cy 0, 4, .inl f_t_bitsOf)), ((a_t 5), .inl (cy 0, 7, .inl f_t_found)), ((a_t 19), .inl (cy 0, 160, .inl (upd f_t_number (((40 : Int32) * p1) + p2).toNatClampNeg p3))), ((a_t 18), .inl (cy 0, 4, .inl f_t_sizeOf))]) [0, 1, 2, 3, 4] rfl
          have hD9 := hD.sub (ws' := [((a_t 0), oX8 a_t v_t_isKept v_t_bestPost v_t_mostSeen v_t_taped v_t_from v_t_to v_t_isWrong), ((a_t 17), .inl (cy 0, 4, .inl f_t_bitsOf)), ((a_t 5), .inl (cy 0, 7, .inl f_t_found)), ((a_t 19), .inl (cy 0, 160, .inl (upd f_t_number (((40 : Int32) * p1) + p2).toNatClampNeg p3))), ((a_t 18), .inl (cy 0, 4, .inl f_t_sizeOf))]) [0, 1, 2, 3, 4] (by decide) rfl
          exact W.iret hx hb hr (fun t ht hW => ⟨⟨_, (), rfl, rfl, by rw [ht]; exact hP9, va_K.moved hW.alike hK, hD9⟩, hS.F ht⟩) hS.2.2 dX8_write_88
        · replace h := bb_ifp c14 h
          refine lv_iload_n hx hb dX8_write_80 rfl (lv_at hl 4 rfl) ?_
          refine lv_i2s hx hb dX8_write_81 rfl ?_
          refine lv_goto (tgt := 86) hx hb dX8_write_82 (by decide) ?_
          obtain ⟨hi16, h⟩ := bb_ix_o h
          refine va_iast hx hb hK hP hD hS 3 0 rfl rfl hi16 dX8_write_86 (fun H locs hP hD hS => ?_)
          have hP : va_P (dC, dI) vwCl [((a_t 0), oX8 a_t v_t_isKept v_t_bestPost v_t_mostSeen v_t_taped v_t_from v_t_to v_t_isWrong), ((a_t 17), .inl (cy 0, 4, .inl f_t_bitsOf)), ((a_t 5), .inl (cy 0, 7, .inl f_t_found)), ((a_t 19), .inl (cy 0, 160, .inl (upd f_t_number (((40 : Int32) * p1) + p2).toNatClampNeg p3.toInt16.toInt32))), ((a_t 18), .inl (cy 0, 4, .inl f_t_sizeOf))] H := hP
          have hD : va_D A [((a_t 0), oX8 a_t v_t_isKept v_t_bestPost v_t_mostSeen v_t_taped v_t_from v_t_to v_t_isWrong), ((a_t 17), .inl (cy 0, 4, .inl f_t_bitsOf)), ((a_t 5), .inl (cy 0, 7, .inl f_t_found)), ((a_t 19), .inl (cy 0, 160, .inl (upd f_t_number (((40 : Int32) * p1) + p2).toNatClampNeg p3.toInt16.toInt32))), ((a_t 18), .inl (cy 0, 4, .inl f_t_sizeOf))] := hD
          refine lv_iconst (v := (1 : Int32)) hx hb dX8_write_87 (by decide) ?_
          obtain ⟨rfl, rfl, rfl⟩ := bb_some3 h
          have hP9 := hP.sub (ws' := [((a_t 0), oX8 a_t v_t_isKept v_t_bestPost v_t_mostSeen v_t_taped v_t_from v_t_to v_t_isWrong), ((a_t 17), .inl (cy 0, 4, .inl f_t_bitsOf)), ((a_t 5), .inl (cy 0, 7, .inl f_t_found)), ((a_t 19), .inl (cy 0, 160, .inl (upd f_t_number (((40 : Int32) * p1) + p2).toNatClampNeg p3.toInt16.toInt32))), ((a_t 18), .inl (cy 0, 4, .inl f_t_sizeOf))]) [0, 1, 2, 3, 4] rfl
          have hD9 := hD.sub (ws' := [((a_t 0), oX8 a_t v_t_isKept v_t_bestPost v_t_mostSeen v_t_taped v_t_from v_t_to v_t_isWrong), ((a_t 17), .inl (cy 0, 4, .inl f_t_bitsOf)), ((a_t 5), .inl (cy 0, 7, .inl f_t_found)), ((a_t 19), .inl (cy 0, 160, .inl (upd f_t_number (((40 : Int32) * p1) + p2).toNatClampNeg p3.toInt16.toInt32))), ((a_t 18), .inl (cy 0, 4, .inl f_t_sizeOf))]) [0, 1, 2, 3, 4] (by decide) rfl
          exact W.iret hx hb hr (fun t ht hW => ⟨⟨_, (), rfl, rfl, by rw [ht]; exact hP9, va_K.moved hW.alike hK, hD9⟩, hS.F ht⟩) hS.2.2 dX8_write_88
      · replace h := bb_ifp c12 h
        refine lv_iload_n hx hb dX8_write_64 rfl (lv_at hl 4 rfl) ?_
        refine lv_i2b hx hb dX8_write_65 rfl ?_
        refine lv_goto (tgt := 86) hx hb dX8_write_66 (by decide) ?_
        obtain ⟨hi17, h⟩ := bb_ix_o h
        refine va_iast hx hb hK hP hD hS 3 0 rfl rfl hi17 dX8_write_86 (fun H locs hP hD hS => ?_)
        have hP : va_P (dC, dI) vwCl [((a_t 0), oX8 a_t v_t_isKept v_t_bestPost v_t_mostSeen v_t_taped v_t_from v_t_to v_t_isWrong), ((a_t 17), .inl (cy 0, 4, .inl f_t_bitsOf)), ((a_t 5), .inl (cy 0, 7, .inl f_t_found)), ((a_t 19), .inl (cy 0, 160, .inl (upd f_t_number (((40 : Int32) * p1) + p2).toNatClampNeg p3.toInt8.toInt32))), ((a_t 18), .inl (cy 0, 4, .inl f_t_sizeOf))] H := hP
        have hD : va_D A [((a_t 0), oX8 a_t v_t_isKept v_t_bestPost v_t_mostSeen v_t_taped v_t_from v_t_to v_t_isWrong), ((a_t 17), .inl (cy 0, 4, .inl f_t_bitsOf)), ((a_t 5), .inl (cy 0, 7, .inl f_t_found)), ((a_t 19), .inl (cy 0, 160, .inl (upd f_t_number (((40 : Int32) * p1) + p2).toNatClampNeg p3.toInt8.toInt32))), ((a_t 18), .inl (cy 0, 4, .inl f_t_sizeOf))] := hD
        refine lv_iconst (v := (1 : Int32)) hx hb dX8_write_87 (by decide) ?_
        obtain ⟨rfl, rfl, rfl⟩ := bb_some3 h
        have hP9 := hP.sub (ws' := [((a_t 0), oX8 a_t v_t_isKept v_t_bestPost v_t_mostSeen v_t_taped v_t_from v_t_to v_t_isWrong), ((a_t 17), .inl (cy 0, 4, .inl f_t_bitsOf)), ((a_t 5), .inl (cy 0, 7, .inl f_t_found)), ((a_t 19), .inl (cy 0, 160, .inl (upd f_t_number (((40 : Int32) * p1) + p2).toNatClampNeg p3.toInt8.toInt32))), ((a_t 18), .inl (cy 0, 4, .inl f_t_sizeOf))]) [0, 1, 2, 3, 4] rfl
        have hD9 := hD.sub (ws' := [((a_t 0), oX8 a_t v_t_isKept v_t_bestPost v_t_mostSeen v_t_taped v_t_from v_t_to v_t_isWrong), ((a_t 17), .inl (cy 0, 4, .inl f_t_bitsOf)), ((a_t 5), .inl (cy 0, 7, .inl f_t_found)), ((a_t 19), .inl (cy 0, 160, .inl (upd f_t_number (((40 : Int32) * p1) + p2).toNatClampNeg p3.toInt8.toInt32))), ((a_t 18), .inl (cy 0, 4, .inl f_t_sizeOf))]) [0, 1, 2, 3, 4] (by decide) rfl
        exact W.iret hx hb hr (fun t ht hW => ⟨⟨_, (), rfl, rfl, by rw [ht]; exact hP9, va_K.moved hW.alike hK, hD9⟩, hS.F ht⟩) hS.2.2 dX8_write_88
    · replace h := bb_ifp c10 h
      refine lv_aload_n hx hb dX8_write_37 rfl (lv_at hl 1 rfl) ?_
      refine lv_iconst (v := (0 : Int32)) hx hb dX8_write_38 (by decide) ?_
      obtain ⟨r18, w19, hc20, h⟩ := bb_b2_o h
      refine bb_cwi (wr := [((a_t 17), .inl (cy 0, 4, .inl f_t_bitsOf)), ((a_t 19), .inl (cy 0, 160, .inl f_t_number)), ((a_t 18), .inl (cy 0, 4, .inl f_t_sizeOf))]) (w1 := [((a_t 0), oX8 a_t v_t_isKept v_t_bestPost v_t_mostSeen v_t_taped v_t_from v_t_to v_t_isWrong), ((a_t 5), .inl (cy 0, 7, .inl w19))]) (va_runV (As := [.int (0 : Int32)]) (rest := []) ⟨hx, hb, hml, hown, hts⟩ (kX8_finds l dC dI cy s.heap.size a_t (0 : Int32) v_t_isKept v_t_bestPost v_t_mostSeen v_t_taped v_t_from v_t_to v_t_isWrong f_t_found r18 w19 hc20) (cwV 1 hts gX8_write_X8_finds rfl rfl rfl kdX8_finds ⟨Nat.le_of_ble_eq_true rfl, Nat.le_of_ble_eq_true rfl⟩) (bb_preVw (va_recv hK hP (ci := 7) (q0 := 0) rfl rfl) (hP.sub (ws' := [((a_t 0), oX8 a_t v_t_isKept v_t_bestPost v_t_mostSeen v_t_taped v_t_from v_t_to v_t_isWrong), ((a_t 5), .inl (cy 0, 7, .inl f_t_found))]) [0, 2] rfl) hK (hD.sub (ws' := [((a_t 0), oX8 a_t v_t_isKept v_t_bestPost v_t_mostSeen v_t_taped v_t_from v_t_to v_t_isWrong), ((a_t 5), .inl (cy 0, 7, .inl f_t_found))]) [0, 2] (by decide) rfl)) rfl rfl hl.1 rfl (lv_room (Nat.le_of_ble_eq_true rfl)) dX8_write_39 ⟨Nat.zero_le _, Nat.zero_le _⟩) hP hD hS hA [0, 2] [1, 3, 4] rfl rfl (by decide) (by decide) (fun H locs hP hD hS => ?_)
      have hP : va_P (dC, dI) vwCl [((a_t 17), .inl (cy 0, 4, .inl f_t_bitsOf)), ((a_t 19), .inl (cy 0, 160, .inl f_t_number)), ((a_t 18), .inl (cy 0, 4, .inl f_t_sizeOf)), ((a_t 0), oX8 a_t v_t_isKept v_t_bestPost v_t_mostSeen v_t_taped v_t_from v_t_to v_t_isWrong), ((a_t 5), .inl (cy 0, 7, .inl w19))] H := hP
      have hD : va_D A [((a_t 17), .inl (cy 0, 4, .inl f_t_bitsOf)), ((a_t 19), .inl (cy 0, 160, .inl f_t_number)), ((a_t 18), .inl (cy 0, 4, .inl f_t_sizeOf)), ((a_t 0), oX8 a_t v_t_isKept v_t_bestPost v_t_mostSeen v_t_taped v_t_from v_t_to v_t_isWrong), ((a_t 5), .inl (cy 0, 7, .inl w19))] := hD
      obtain ⟨rfl, rfl, rfl⟩ := bb_some3 h
      have hP9 := hP.sub (ws' := [((a_t 0), oX8 a_t v_t_isKept v_t_bestPost v_t_mostSeen v_t_taped v_t_from v_t_to v_t_isWrong), ((a_t 17), .inl (cy 0, 4, .inl f_t_bitsOf)), ((a_t 5), .inl (cy 0, 7, .inl w19)), ((a_t 19), .inl (cy 0, 160, .inl f_t_number)), ((a_t 18), .inl (cy 0, 4, .inl f_t_sizeOf))]) [3, 0, 4, 1, 2] rfl
      have hD9 := hD.sub (ws' := [((a_t 0), oX8 a_t v_t_isKept v_t_bestPost v_t_mostSeen v_t_taped v_t_from v_t_to v_t_isWrong), ((a_t 17), .inl (cy 0, 4, .inl f_t_bitsOf)), ((a_t 5), .inl (cy 0, 7, .inl w19)), ((a_t 19), .inl (cy 0, 160, .inl f_t_number)), ((a_t 18), .inl (cy 0, 4, .inl f_t_sizeOf))]) [3, 0, 4, 1, 2] (by decide) rfl
      exact W.iret hx hb hr (fun t ht hW => ⟨⟨_, (), rfl, rfl, by rw [ht]; exact hP9, va_K.moved hW.alike hK, hD9⟩, hS.F ht⟩) hS.2.2 dX8_write_42
  · replace h := bb_ifn c4 h
    refine lv_aload_n hx hb dX8_write_12 rfl (lv_at hl 1 rfl) ?_
    refine lv_iload hx hb dX8_write_13 (lv_at hl 0 rfl) ?_
    obtain ⟨r21, w22, hc23, h⟩ := bb_b2_o h
    refine bb_cwi (wr := [((a_t 17), .inl (cy 0, 4, .inl f_t_bitsOf)), ((a_t 19), .inl (cy 0, 160, .inl f_t_number)), ((a_t 18), .inl (cy 0, 4, .inl f_t_sizeOf))]) (w1 := [((a_t 0), oX8 a_t v_t_isKept v_t_bestPost v_t_mostSeen v_t_taped v_t_from v_t_to v_t_isWrong), ((a_t 5), .inl (cy 0, 7, .inl w22))]) (va_runV (As := [.int r1]) (rest := []) ⟨hx, hb, hml, hown, hts⟩ (kX8_finds l dC dI cy s.heap.size a_t r1 v_t_isKept v_t_bestPost v_t_mostSeen v_t_taped v_t_from v_t_to v_t_isWrong f_t_found r21 w22 hc23) (cwV 1 hts gX8_write_X8_finds rfl rfl rfl kdX8_finds ⟨Nat.le_of_ble_eq_true rfl, Nat.le_of_ble_eq_true rfl⟩) (bb_preVw (va_recv hK hP (ci := 7) (q0 := 0) rfl rfl) (hP.sub (ws' := [((a_t 0), oX8 a_t v_t_isKept v_t_bestPost v_t_mostSeen v_t_taped v_t_from v_t_to v_t_isWrong), ((a_t 5), .inl (cy 0, 7, .inl f_t_found))]) [0, 2] rfl) hK (hD.sub (ws' := [((a_t 0), oX8 a_t v_t_isKept v_t_bestPost v_t_mostSeen v_t_taped v_t_from v_t_to v_t_isWrong), ((a_t 5), .inl (cy 0, 7, .inl f_t_found))]) [0, 2] (by decide) rfl)) rfl rfl hl.1 rfl (lv_room (Nat.le_of_ble_eq_true rfl)) dX8_write_15 ⟨Nat.zero_le _, Nat.zero_le _⟩) hP hD hS hA [0, 2] [1, 3, 4] rfl rfl (by decide) (by decide) (fun H locs hP hD hS => ?_)
    have hP : va_P (dC, dI) vwCl [((a_t 17), .inl (cy 0, 4, .inl f_t_bitsOf)), ((a_t 19), .inl (cy 0, 160, .inl f_t_number)), ((a_t 18), .inl (cy 0, 4, .inl f_t_sizeOf)), ((a_t 0), oX8 a_t v_t_isKept v_t_bestPost v_t_mostSeen v_t_taped v_t_from v_t_to v_t_isWrong), ((a_t 5), .inl (cy 0, 7, .inl w22))] H := hP
    have hD : va_D A [((a_t 17), .inl (cy 0, 4, .inl f_t_bitsOf)), ((a_t 19), .inl (cy 0, 160, .inl f_t_number)), ((a_t 18), .inl (cy 0, 4, .inl f_t_sizeOf)), ((a_t 0), oX8 a_t v_t_isKept v_t_bestPost v_t_mostSeen v_t_taped v_t_from v_t_to v_t_isWrong), ((a_t 5), .inl (cy 0, 7, .inl w22))] := hD
    obtain ⟨rfl, rfl, rfl⟩ := bb_some3 h
    have hP9 := hP.sub (ws' := [((a_t 0), oX8 a_t v_t_isKept v_t_bestPost v_t_mostSeen v_t_taped v_t_from v_t_to v_t_isWrong), ((a_t 17), .inl (cy 0, 4, .inl f_t_bitsOf)), ((a_t 5), .inl (cy 0, 7, .inl w22)), ((a_t 19), .inl (cy 0, 160, .inl f_t_number)), ((a_t 18), .inl (cy 0, 4, .inl f_t_sizeOf))]) [3, 0, 4, 1, 2] rfl
    have hD9 := hD.sub (ws' := [((a_t 0), oX8 a_t v_t_isKept v_t_bestPost v_t_mostSeen v_t_taped v_t_from v_t_to v_t_isWrong), ((a_t 17), .inl (cy 0, 4, .inl f_t_bitsOf)), ((a_t 5), .inl (cy 0, 7, .inl w22)), ((a_t 19), .inl (cy 0, 160, .inl f_t_number)), ((a_t 18), .inl (cy 0, 4, .inl f_t_sizeOf))]) [3, 0, 4, 1, 2] (by decide) rfl
    exact W.iret hx hb hr (fun t ht hW => ⟨⟨_, (), rfl, rfl, by rw [ht]; exact hP9, va_K.moved hW.alike hK, hD9⟩, hS.F ht⟩) hS.2.2 dX8_write_18
/-! X8_copy -/
def uX8_copy_s172 (x3_31 : Int32) (x4_32 : Int32) (x5_33 : Int32) (f_t_found_35 : Nat → Int32) (f_t_moved_36 : Nat → Int32) (rec38 : Int32 → (Nat → Int32) → Option (Int32 × (Nat → Int32) × (Nat → Int32) × (Nat → Int32))) (x7_29 : Int32) (f_t_number_30 : Nat → Int32) : Option (Int32 × (Nat → Int32) × (Nat → Int32) × (Nat → Int32)) :=
  (if x5_33 ≤ x7_29 then some (x5_33, f_t_found_35, f_t_moved_36, f_t_number_30) else bb_ix x7_29 40 (bb_ix ((((40 : Int32) * x3_31) + x4_32) + x7_29) 160 (rec38 (x7_29 + (1 : Int32)) (upd f_t_number_30 ((((40 : Int32) * x3_31) + x4_32) + x7_29).toNatClampNeg (f_t_moved_36 x7_29.toNatClampNeg)))))
def uX8_copy_s135 (x1_46 : Int32) (x2_47 : Int32) (x5_50 : Int32) (f_t_number_53 : Nat → Int32) (k_169 : (Nat → Int32) → Option (Int32 × (Nat → Int32) × (Nat → Int32) × (Nat → Int32))) (rec55 : Int32 → (Nat → Int32) → Option (Int32 × (Nat → Int32) × (Nat → Int32) × (Nat → Int32))) (x7_44 : Int32) (f_t_moved_45 : Nat → Int32) : Option (Int32 × (Nat → Int32) × (Nat → Int32) × (Nat → Int32)) :=
  (if x5_50 ≤ x7_44 then k_169 f_t_moved_45 else bb_ix ((((40 : Int32) * x1_46) + x2_47) + x7_44) 160 (bb_ix x7_44 40 (rec55 (x7_44 + (1 : Int32)) (upd f_t_moved_45 x7_44.toNatClampNeg (f_t_number_53 ((((40 : Int32) * x1_46) + x2_47) + x7_44).toNatClampNeg)))))
def uX8_copy (nn : Nat) (p1 : Int32) (p2 : Int32) (p3 : Int32) (p4 : Int32) (p5 : Int32) (f_t_bitsOf : Nat → Int32) (f_t_found : Nat → Int32) (f_t_moved : Nat → Int32) (f_t_number : Nat → Int32) (f_t_sizeOf : Nat → Int32) : Option (Int32 × (Nat → Int32) × (Nat → Int32) × (Nat → Int32)) :=
  bb_b1 (uX8_isSheet p1) (fun (r1 : Int32) => (if r1 = 0 then bb_b2 (uX8_finds (0 : Int32) f_t_found) (fun (r6 : Int32) (w7 : Nat → Int32) => some (r6, w7, f_t_moved, f_t_number)) else bb_b1 (uX8_isSheet p3) (fun (r9 : Int32) => (if r9 = 0 then bb_b2 (uX8_finds (0 : Int32) f_t_found) (fun (r79 : Int32) (w80 : Nat → Int32) => some (r79, w80, f_t_moved, f_t_number)) else bb_ix p1 4 ((if (f_t_bitsOf p1.toNatClampNeg) = 0 then bb_b2 (uX8_finds (5 : Int32) f_t_found) (fun (r16 : Int32) (w17 : Nat → Int32) => some (r16, w17, f_t_moved, f_t_number)) else bb_ix p3 4 ((if (f_t_bitsOf p3.toNatClampNeg) = 0 then bb_b2 (uX8_finds (5 : Int32) f_t_found) (fun (r76 : Int32) (w77 : Nat → Int32) => some (r76, w77, f_t_moved, f_t_number)) else bb_ix p1 4 (bb_ix p3 4 ((if (f_t_bitsOf p1.toNatClampNeg) = (f_t_bitsOf p3.toNatClampNeg) then bb_cut (fun (z24 : Int32) => (if z24 = 0 then bb_b2 (uX8_finds (0 : Int32) f_t_found) (fun (r61 : Int32) (w62 : Nat → Int32) => some (r61, w62, f_t_moved, f_t_number)) else bb_cut (fun (f_t_moved_27 : Nat → Int32) => bb_loop2 (uX8_copy_s172 p3 p4 p5 f_t_found f_t_moved_27) nn (0 : Int32) f_t_number) (fun k28 => bb_loop2 (uX8_copy_s135 p1 p2 p5 f_t_number k28) nn (0 : Int32) f_t_moved))) (fun k25 => bb_cut (fun (u64 : Unit) => k25 (0 : Int32)) (fun k65 => (if p5 < 0 then k65 () else (if p2 < 0 then k65 () else (if p4 < 0 then k65 () else bb_ix p1 4 ((if 0 < (lg_cmp (p2.toInt64 + p5.toInt64) ((f_t_sizeOf p1.toNatClampNeg).toInt64)) then k65 () else bb_ix p3 4 ((if 0 < (lg_cmp (p4.toInt64 + p5.toInt64) ((f_t_sizeOf p3.toNatClampNeg).toInt64)) then k65 () else k25 (1 : Int32)))))))))) else bb_b2 (uX8_finds (2 : Int32) f_t_found) (fun (r73 : Int32) (w74 : Nat → Int32) => some (r73, w74, f_t_moved, f_t_number)))))))))))))
theorem kdX8_copy : yX8_copy.cls = RX8 ∧ yX8_copy.cls ≠ "java/lang/invoke/MethodHandle" ∧ yX8_copy.cls ≠ "java/lang/invoke/VarHandle" ∧ (parseMethodDescriptor yX8_copy.desc).map (fun d => d.parameters.length) = some 5 := by decide +kernel
set_option maxHeartbeats 4000000 in
set_option maxRecDepth 100000 in
theorem kX8_copy (l : Launch) (dC : Nat → ClassId) (dI : Nat → Nat → Nat) (cy : Nat → ClassId) (sz : Nat) (a_t : Nat → Nat) (p1 : Int32) (p2 : Int32) (p3 : Int32) (p4 : Int32) (p5 : Int32) (v_t_isKept : Int32) (v_t_bestPost : Int32) (v_t_mostSeen : Int32) (v_t_taped : Int32) (v_t_from : Int32) (v_t_to : Int32) (v_t_isWrong : Int32) (f_t_bitsOf : Nat → Int32) (f_t_found : Nat → Int32) (f_t_moved : Nat → Int32) (f_t_number : Nat → Int32) (f_t_sizeOf : Nat → Int32) (nn : Nat) (r : Int32) (f_t_found_o : Nat → Int32) (f_t_moved_o : Nat → Int32) (f_t_number_o : Nat → Int32) (h : uX8_copy nn p1 p2 p3 p4 p5 f_t_bitsOf f_t_found f_t_moved f_t_number f_t_sizeOf = some (r, f_t_found_o, f_t_moved_o, f_t_number_o)) : Met l yX8_copy wsX8_copy ({ frames := 2, cells := 0, slots := 0, locals := 45 }) (va_Pc [.ref (a_t 0), .int p1, .int p2, .int p3, .int p4, .int p5] (fun U => U.heap.size = sz ∧ va_P (dC, dI) vwCl [((a_t 0), oX8 a_t v_t_isKept v_t_bestPost v_t_mostSeen v_t_taped v_t_from v_t_to v_t_isWrong), ((a_t 17), .inl (cy 0, 4, .inl f_t_bitsOf)), ((a_t 5), .inl (cy 0, 7, .inl f_t_found)), ((a_t 20), .inl (cy 0, 40, .inl f_t_moved)), ((a_t 19), .inl (cy 0, 160, .inl f_t_number)), ((a_t 18), .inl (cy 0, 4, .inl f_t_sizeOf))] U.heap ∧ va_K (dC, dI) vwCl (tyX cy) U ∧ va_D (fun _ => True) [((a_t 0), oX8 a_t v_t_isKept v_t_bestPost v_t_mostSeen v_t_taped v_t_from v_t_to v_t_isWrong), ((a_t 17), .inl (cy 0, 4, .inl f_t_bitsOf)), ((a_t 5), .inl (cy 0, 7, .inl f_t_found)), ((a_t 20), .inl (cy 0, 40, .inl f_t_moved)), ((a_t 19), .inl (cy 0, 160, .inl f_t_number)), ((a_t 18), .inl (cy 0, 4, .inl f_t_sizeOf))])) (va_Qi (fun (r2 : Int32) (_ : Unit) => r = r2) (fun _ t => va_P (dC, dI) vwCl [((a_t 0), oX8 a_t v_t_isKept v_t_bestPost v_t_mostSeen v_t_taped v_t_from v_t_to v_t_isWrong), ((a_t 17), .inl (cy 0, 4, .inl f_t_bitsOf)), ((a_t 5), .inl (cy 0, 7, .inl f_t_found_o)), ((a_t 20), .inl (cy 0, 40, .inl f_t_moved_o)), ((a_t 19), .inl (cy 0, 160, .inl f_t_number_o)), ((a_t 18), .inl (cy 0, 4, .inl f_t_sizeOf))] t.heap ∧ va_K (dC, dI) vwCl (tyX cy) t ∧ va_D (va_A [((a_t 0), oX8 a_t v_t_isKept v_t_bestPost v_t_mostSeen v_t_taped v_t_from v_t_to v_t_isWrong), ((a_t 17), .inl (cy 0, 4, .inl f_t_bitsOf)), ((a_t 5), .inl (cy 0, 7, .inl f_t_found)), ((a_t 20), .inl (cy 0, 40, .inl f_t_moved)), ((a_t 19), .inl (cy 0, 160, .inl f_t_number)), ((a_t 18), .inl (cy 0, 4, .inl f_t_sizeOf))] sz) [((a_t 0), oX8 a_t v_t_isKept v_t_bestPost v_t_mostSeen v_t_taped v_t_from v_t_to v_t_isWrong), ((a_t 17), .inl (cy 0, 4, .inl f_t_bitsOf)), ((a_t 5), .inl (cy 0, 7, .inl f_t_found_o)), ((a_t 20), .inl (cy 0, 40, .inl f_t_moved_o)), ((a_t 19), .inl (cy 0, 160, .inl f_t_number_o)), ((a_t 18), .inl (cy 0, 4, .inl f_t_sizeOf))]) (va_A [((a_t 0), oX8 a_t v_t_isKept v_t_bestPost v_t_mostSeen v_t_taped v_t_from v_t_to v_t_isWrong), ((a_t 17), .inl (cy 0, 4, .inl f_t_bitsOf)), ((a_t 5), .inl (cy 0, 7, .inl f_t_found)), ((a_t 20), .inl (cy 0, 40, .inl f_t_moved)), ((a_t 19), .inl (cy 0, 160, .inl f_t_number)), ((a_t 18), .inl (cy 0, 4, .inl f_t_sizeOf))] sz)) 0 0 (va_A [((a_t 0), oX8 a_t v_t_isKept v_t_bestPost v_t_mostSeen v_t_taped v_t_from v_t_to v_t_isWrong), ((a_t 17), .inl (cy 0, 4, .inl f_t_bitsOf)), ((a_t 5), .inl (cy 0, 7, .inl f_t_found)), ((a_t 20), .inl (cy 0, 40, .inl f_t_moved)), ((a_t 19), .inl (cy 0, 160, .inl f_t_number)), ((a_t 18), .inl (cy 0, 4, .inl f_t_sizeOf))] sz) := by
  refine Met.ofW (cc := cX8_copy) (maxL := 8) (ret := (some .int)) (by decide) rfl ?_
  intro p e s m args below meth c s₁ B hml hv
  obtain ⟨rfl, hsz, hP, hK, hD0⟩ := hv
  have hx := B.exec
  have hb := B.bytes
  have hr := B.returns
  have hts := atoms_spec (ws := wsX8_copy) B.pre
  have hown : s.vm.findClass RX8 = some m.cls := findClass_of_methodNamed B.named
  have hlocks := B.notSynchronized
  have iwX8 : ∀ w ∈ wsX80, w ∈ wsX8_copy := fun w h9 => List.mem_cons_of_mem _ (List.mem_append_right _ (h9))
  have lk1 := hts (Cond.fieldLink RX8 39 "BathBorderModel" "bitsOf" "[I") (List.mem_of_getElem? (i := 1) rfl)
  have lk2 := hts (Cond.fieldLink RX8 42 "BathBorderModel" "sizeOf" "[I") (List.mem_of_getElem? (i := 2) rfl)
  have lk3 := hts (Cond.fieldLink RX8 48 "BathBorderModel" "moved" "[I") (List.mem_of_getElem? (i := 3) rfl)
  have lk4 := hts (Cond.fieldLink RX8 45 "BathBorderModel" "number" "[I") (List.mem_of_getElem? (i := 4) rfl)
  subst hsz
  have hD := hD0.self (sz := s.heap.size)
  generalize hAe : va_A [((a_t 0), oX8 a_t v_t_isKept v_t_bestPost v_t_mostSeen v_t_taped v_t_from v_t_to v_t_isWrong), ((a_t 17), .inl (cy 0, 4, .inl f_t_bitsOf)), ((a_t 5), .inl (cy 0, 7, .inl f_t_found)), ((a_t 20), .inl (cy 0, 40, .inl f_t_moved)), ((a_t 19), .inl (cy 0, 160, .inl f_t_number)), ((a_t 18), .inl (cy 0, 4, .inl f_t_sizeOf))] s.heap.size = A at hD ⊢
  have hA : ∀ q : Nat, s.heap.size ≤ q → A q := fun q h => by rw [← hAe]; exact Or.inr h
  have hS : va_S A s.heap s.heap [] := va_S.rf
  have hP : va_P (dC, dI) vwCl [((a_t 0), oX8 a_t v_t_isKept v_t_bestPost v_t_mostSeen v_t_taped v_t_from v_t_to v_t_isWrong), ((a_t 17), .inl (cy 0, 4, .inl f_t_bitsOf)), ((a_t 5), .inl (cy 0, 7, .inl f_t_found)), ((a_t 20), .inl (cy 0, 40, .inl f_t_moved)), ((a_t 19), .inl (cy 0, 160, .inl f_t_number)), ((a_t 18), .inl (cy 0, 4, .inl f_t_sizeOf))] s.heap := hP
  have hl := lv_entry ([.ref (a_t 0), .int p1, .int p2, .int p3, .int p4, .int p5]) (n := 8) (Nat.le_of_ble_eq_true rfl)
  rw [lg_entry_eq]
  generalize (lg_sl ([.ref (a_t 0), .int p1, .int p2, .int p3, .int p4, .int p5]) ++ List.replicate (8 - (lg_sl ([.ref (a_t 0), .int p1, .int p2, .int p3, .int p4, .int p5])).length) Slot.unset).toArray = ls at hl ⊢
  have hl : lv_has ls 8 [(0, .ref (a_t 0)), (1, .int p1), (2, .int p2), (3, .int p3), (4, .int p4), (5, .int p5)] := hl
  unfold uX8_copy at h
  refine bb_cap (fun WW toW ofW => ?_)
  refine lv_iload_n hx hb dX8_copy_0 rfl (lv_at hl 1 rfl) ?_
  obtain ⟨r1, hc2, h⟩ := bb_b1_o h
  refine vp_callSi (W.runS (As := [.int p1]) (rest := []) ⟨hx, hb, hml, hown, hts⟩ (kX8_isSheet l dC dI cy p1 r1 hc2) (va_cwS 1 hts gX8_copy_X8_isSheet rfl rfl rfl kdX8_isSheet ⟨Nat.le_of_ble_eq_true rfl, Nat.le_of_ble_eq_true rfl⟩) (bb_preS (hP.sub (ws' := []) [] rfl) hK) rfl rfl hl.1 rfl (lv_room (Nat.le_of_ble_eq_true rfl)) dX8_copy_1 ⟨Nat.zero_le _, Nat.zero_le _⟩) (fun t3 et3 => ?_)
  obtain ⟨rfl, hz4⟩ := et3
  refine lv_if_eq (tgt := 14) hx hb dX8_copy_4 (by decide) (fun c5 => ?_) (fun c5 => ?_)
  · replace h := bb_ifp c5 h
    refine lv_aload_n hx hb dX8_copy_14 rfl (lv_at hl 0 rfl) ?_
    refine lv_iconst (v := (0 : Int32)) hx hb dX8_copy_15 (by decide) ?_
    obtain ⟨r6, w7, hc8, h⟩ := bb_b2_o h
    refine bb_cwi (wr := [((a_t 17), .inl (cy 0, 4, .inl f_t_bitsOf)), ((a_t 20), .inl (cy 0, 40, .inl f_t_moved)), ((a_t 19), .inl (cy 0, 160, .inl f_t_number)), ((a_t 18), .inl (cy 0, 4, .inl f_t_sizeOf))]) (w1 := [((a_t 0), oX8 a_t v_t_isKept v_t_bestPost v_t_mostSeen v_t_taped v_t_from v_t_to v_t_isWrong), ((a_t 5), .inl (cy 0, 7, .inl w7))]) (va_runV (As := [.int (0 : Int32)]) (rest := []) ⟨hx, hb, hml, hown, hts⟩ (kX8_finds l dC dI cy s.heap.size a_t (0 : Int32) v_t_isKept v_t_bestPost v_t_mostSeen v_t_taped v_t_from v_t_to v_t_isWrong f_t_found r6 w7 hc8) (cwV 1 hts gX8_copy_X8_finds rfl rfl rfl kdX8_finds ⟨Nat.le_of_ble_eq_true rfl, Nat.le_of_ble_eq_true rfl⟩) (bb_preVw (va_recv hK hP (ci := 7) (q0 := 0) rfl rfl) (hP.sub (ws' := [((a_t 0), oX8 a_t v_t_isKept v_t_bestPost v_t_mostSeen v_t_taped v_t_from v_t_to v_t_isWrong), ((a_t 5), .inl (cy 0, 7, .inl f_t_found))]) [0, 2] rfl) hK (hD.sub (ws' := [((a_t 0), oX8 a_t v_t_isKept v_t_bestPost v_t_mostSeen v_t_taped v_t_from v_t_to v_t_isWrong), ((a_t 5), .inl (cy 0, 7, .inl f_t_found))]) [0, 2] (by decide) rfl)) rfl rfl hl.1 rfl (lv_room (Nat.le_of_ble_eq_true rfl)) dX8_copy_16 ⟨Nat.zero_le _, Nat.zero_le _⟩) hP hD hS hA [0, 2] [1, 3, 4, 5] rfl rfl (by decide) (by decide) (fun H locs hP hD hS => ?_)
    have hP : va_P (dC, dI) vwCl [((a_t 17), .inl (cy 0, 4, .inl f_t_bitsOf)), ((a_t 20), .inl (cy 0, 40, .inl f_t_moved)), ((a_t 19), .inl (cy 0, 160, .inl f_t_number)), ((a_t 18), .inl (cy 0, 4, .inl f_t_sizeOf)), ((a_t 0), oX8 a_t v_t_isKept v_t_bestPost v_t_mostSeen v_t_taped v_t_from v_t_to v_t_isWrong), ((a_t 5), .inl (cy 0, 7, .inl w7))] H := hP
    have hD : va_D A [((a_t 17), .inl (cy 0, 4, .inl f_t_bitsOf)), ((a_t 20), .inl (cy 0, 40, .inl f_t_moved)), ((a_t 19), .inl (cy 0, 160, .inl f_t_number)), ((a_t 18), .inl (cy 0, 4, .inl f_t_sizeOf)), ((a_t 0), oX8 a_t v_t_isKept v_t_bestPost v_t_mostSeen v_t_taped v_t_from v_t_to v_t_isWrong), ((a_t 5), .inl (cy 0, 7, .inl w7))] := hD
    obtain ⟨rfl, rfl, rfl, rfl⟩ := bb_some4 h
    have hP9 := hP.sub (ws' := [((a_t 0), oX8 a_t v_t_isKept v_t_bestPost v_t_mostSeen v_t_taped v_t_from v_t_to v_t_isWrong), ((a_t 17), .inl (cy 0, 4, .inl f_t_bitsOf)), ((a_t 5), .inl (cy 0, 7, .inl w7)), ((a_t 20), .inl (cy 0, 40, .inl f_t_moved)), ((a_t 19), .inl (cy 0, 160, .inl f_t_number)), ((a_t 18), .inl (cy 0, 4, .inl f_t_sizeOf))]) [4, 0, 5, 1, 2, 3] rfl
    have hD9 := hD.sub (ws' := [((a_t 0), oX8 a_t v_t_isKept v_t_bestPost v_t_mostSeen v_t_taped v_t_from v_t_to v_t_isWrong), ((a_t 17), .inl (cy 0, 4, .inl f_t_bitsOf)), ((a_t 5), .inl (cy 0, 7, .inl w7)), ((a_t 20), .inl (cy 0, 40, .inl f_t_moved)), ((a_t 19), .inl (cy 0, 160, .inl f_t_number)), ((a_t 18), .inl (cy 0, 4, .inl f_t_sizeOf))]) [4, 0, 5, 1, 2, 3] (by decide) rfl
    exact W.iret hx hb hr (fun t ht hW => ⟨⟨_, (), rfl, rfl, by rw [ht]; exact hP9, va_K.moved hW.alike hK, hD9⟩, hS.F ht⟩) hS.2.2 dX8_copy_19
  · replace h := bb_ifn c5 h
    refine lv_iload_n hx hb dX8_copy_7 rfl (lv_at hl 3 rfl) ?_
    obtain ⟨r9, hc10, h⟩ := bb_b1_o h
    refine vp_callSi (W.runS (As := [.int p3]) (rest := []) ⟨hx, hb, hml, hown, hts⟩ (kX8_isSheet l dC dI cy p3 r9 hc10) (va_cwS 1 hts gX8_copy_X8_isSheet rfl rfl rfl kdX8_isSheet ⟨Nat.le_of_ble_eq_true rfl, Nat.le_of_ble_eq_true rfl⟩) (bb_preS (hP.sub (ws' := []) [] rfl) hK) rfl rfl hl.1 rfl (lv_room (Nat.le_of_ble_eq_true rfl)) dX8_copy_8 ⟨Nat.zero_le _, Nat.zero_le _⟩) (fun t11 et11 => ?_)
    obtain ⟨rfl, hz12⟩ := et11
    refine lv_if_ne (tgt := 20) hx hb dX8_copy_11 (by decide) (fun c13 => ?_) (fun c13 => ?_)
    · replace h := bb_ifn c13 h
      refine lv_aload_n hx hb dX8_copy_20 rfl (lv_at hl 0 rfl) ?_
      refine va_get (D := (dC, dI)) (ci := 7) (v := .ref (a_t 17)) (C := RX8) (T := TX8) (N := 20) hx hb hts iwX8 hown hK hP 0 rfl rfl 16 (by decide) lk1 (fun _ h9 => h9) rfl dX8_copy_21 ?_
      refine lv_iload_n hx hb dX8_copy_24 rfl (lv_at hl 1 rfl) ?_
      obtain ⟨hi14, h⟩ := bb_ix_o h
      refine va_iald hx hb hK hP 1 0 rfl rfl hi14 dX8_copy_25 ?_
      refine lv_if_eq (tgt := 38) hx hb dX8_copy_26 (by decide) (fun c15 => ?_) (fun c15 => ?_)
      · replace h := bb_ifp c15 h
        refine lv_aload_n hx hb dX8_copy_38 rfl (lv_at hl 0 rfl) ?_
        refine lv_iconst (v := (5 : Int32)) hx hb dX8_copy_39 (by decide) ?_
        obtain ⟨r16, w17, hc18, h⟩ := bb_b2_o h
        refine bb_cwi (wr := [((a_t 17), .inl (cy 0, 4, .inl f_t_bitsOf)), ((a_t 20), .inl (cy 0, 40, .inl f_t_moved)), ((a_t 19), .inl (cy 0, 160, .inl f_t_number)), ((a_t 18), .inl (cy 0, 4, .inl f_t_sizeOf))]) (w1 := [((a_t 0), oX8 a_t v_t_isKept v_t_bestPost v_t_mostSeen v_t_taped v_t_from v_t_to v_t_isWrong), ((a_t 5), .inl (cy 0, 7, .inl w17))]) (va_runV (As := [.int (5 : Int32)]) (rest := []) ⟨hx, hb, hml, hown, hts⟩ (kX8_finds l dC dI cy s.heap.size a_t (5 : Int32) v_t_isKept v_t_bestPost v_t_mostSeen v_t_taped v_t_from v_t_to v_t_isWrong f_t_found r16 w17 hc18) (cwV 1 hts gX8_copy_X8_finds rfl rfl rfl kdX8_finds ⟨Nat.le_of_ble_eq_true rfl, Nat.le_of_ble_eq_true rfl⟩) (bb_preVw (va_recv hK hP (ci := 7) (q0 := 0) rfl rfl) (hP.sub (ws' := [((a_t 0), oX8 a_t v_t_isKept v_t_bestPost v_t_mostSeen v_t_taped v_t_from v_t_to v_t_isWrong), ((a_t 5), .inl (cy 0, 7, .inl f_t_found))]) [0, 2] rfl) hK (hD.sub (ws' := [((a_t 0), oX8 a_t v_t_isKept v_t_bestPost v_t_mostSeen v_t_taped v_t_from v_t_to v_t_isWrong), ((a_t 5), .inl (cy 0, 7, .inl f_t_found))]) [0, 2] (by decide) rfl)) rfl rfl hl.1 rfl (lv_room (Nat.le_of_ble_eq_true rfl)) dX8_copy_40 ⟨Nat.zero_le _, Nat.zero_le _⟩) hP hD hS hA [0, 2] [1, 3, 4, 5] rfl rfl (by decide) (by decide) (fun H locs hP hD hS => ?_)
        have hP : va_P (dC, dI) vwCl [((a_t 17), .inl (cy 0, 4, .inl f_t_bitsOf)), ((a_t 20), .inl (cy 0, 40, .inl f_t_moved)), ((a_t 19), .inl (cy 0, 160, .inl f_t_number)), ((a_t 18), .inl (cy 0, 4, .inl f_t_sizeOf)), ((a_t 0), oX8 a_t v_t_isKept v_t_bestPost v_t_mostSeen v_t_taped v_t_from v_t_to v_t_isWrong), ((a_t 5), .inl (cy 0, 7, .inl w17))] H := hP
        have hD : va_D A [((a_t 17), .inl (cy 0, 4, .inl f_t_bitsOf)), ((a_t 20), .inl (cy 0, 40, .inl f_t_moved)), ((a_t 19), .inl (cy 0, 160, .inl f_t_number)), ((a_t 18), .inl (cy 0, 4, .inl f_t_sizeOf)), ((a_t 0), oX8 a_t v_t_isKept v_t_bestPost v_t_mostSeen v_t_taped v_t_from v_t_to v_t_isWrong), ((a_t 5), .inl (cy 0, 7, .inl w17))] := hD
        obtain ⟨rfl, rfl, rfl, rfl⟩ := bb_some4 h
        have hP9 := hP.sub (ws' := [((a_t 0), oX8 a_t v_t_isKept v_t_bestPost v_t_mostSeen v_t_taped v_t_from v_t_to v_t_isWrong), ((a_t 17), .inl (cy 0, 4, .inl f_t_bitsOf)), ((a_t 5), .inl (cy 0, 7, .inl w17)), ((a_t 20), .inl (cy 0, 40, .inl f_t_moved)), ((a_t 19), .inl (cy 0, 160, .inl f_t_number)), ((a_t 18), .inl (cy 0, 4, .inl f_t_sizeOf))]) [4, 0, 5, 1, 2, 3] rfl
        have hD9 := hD.sub (ws' := [((a_t 0), oX8 a_t v_t_isKept v_t_bestPost v_t_mostSeen v_t_taped v_t_from v_t_to v_t_isWrong), ((a_t 17), .inl (cy 0, 4, .inl f_t_bitsOf)), ((a_t 5), .inl (cy 0, 7, .inl w17)), ((a_t 20), .inl (cy 0, 40, .inl f_t_moved)), ((a_t 19), .inl (cy 0, 160, .inl f_t_number)), ((a_t 18), .inl (cy 0, 4, .inl f_t_sizeOf))]) [4, 0, 5, 1, 2, 3] (by decide) rfl
        exact W.iret hx hb hr (fun t ht hW => ⟨⟨_, (), rfl, rfl, by rw [ht]; exact hP9, va_K.moved hW.alike hK, hD9⟩, hS.F ht⟩) hS.2.2 dX8_copy_43
      · replace h := bb_ifn c15 h
        refine lv_aload_n hx hb dX8_copy_29 rfl (lv_at hl 0 rfl) ?_
        refine va_get (D := (dC, dI)) (ci := 7) (v := .ref (a_t 17)) (C := RX8) (T := TX8) (N := 20) hx hb hts iwX8 hown hK hP 0 rfl rfl 16 (by decide) lk1 (fun _ h9 => h9) rfl dX8_copy_30 ?_
        refine lv_iload_n hx hb dX8_copy_33 rfl (lv_at hl 3 rfl) ?_
        obtain ⟨hi19, h⟩ := bb_ix_o h
        refine va_iald hx hb hK hP 1 0 rfl rfl hi19 dX8_copy_34 ?_
        refine lv_if_ne (tgt := 44) hx hb dX8_copy_35 (by decide) (fun c20 => ?_) (fun c20 => ?_)
        · replace h := bb_ifn c20 h
          refine lv_aload_n hx hb dX8_copy_44 rfl (lv_at hl 0 rfl) ?_
          refine va_get (D := (dC, dI)) (ci := 7) (v := .ref (a_t 17)) (C := RX8) (T := TX8) (N := 20) hx hb hts iwX8 hown hK hP 0 rfl rfl 16 (by decide) lk1 (fun _ h9 => h9) rfl dX8_copy_45 ?_
          refine lv_iload_n hx hb dX8_copy_48 rfl (lv_at hl 1 rfl) ?_
          obtain ⟨hi21, h⟩ := bb_ix_o h
          refine va_iald hx hb hK hP 1 0 rfl rfl hi21 dX8_copy_49 ?_
          refine lv_aload_n hx hb dX8_copy_50 rfl (lv_at hl 0 rfl) ?_
          refine va_get (D := (dC, dI)) (ci := 7) (v := .ref (a_t 17)) (C := RX8) (T := TX8) (N := 20) hx hb hts iwX8 hown hK hP 0 rfl rfl 16 (by decide) lk1 (fun _ h9 => h9) rfl dX8_copy_51 ?_
          refine lv_iload_n hx hb dX8_copy_54 rfl (lv_at hl 3 rfl) ?_
          obtain ⟨hi22, h⟩ := bb_ix_o h
          refine va_iald hx hb hK hP 1 0 rfl rfl hi22 dX8_copy_55 ?_
          refine lv_icmp_eq (tgt := 65) hx hb dX8_copy_56 (by decide) (fun c23 => ?_) (fun c23 => ?_)
          · replace h := bb_ifp c23 h
            refine lv_iload hx hb dX8_copy_65 (lv_at hl 5 rfl) ?_
            obtain ⟨k25, ek25, h⟩ := bb_cut_o h
            have Jk25 : ∀ (z24 : Int32) (H : Heap) (locs : List Loc) (ls : Array Slot), k25 z24 = some (r, f_t_found_o, f_t_moved_o, f_t_number_o) → va_P (dC, dI) vwCl [((a_t 0), oX8 a_t v_t_isKept v_t_bestPost v_t_mostSeen v_t_taped v_t_from v_t_to v_t_isWrong), ((a_t 17), .inl (cy 0, 4, .inl f_t_bitsOf)), ((a_t 5), .inl (cy 0, 7, .inl f_t_found)), ((a_t 20), .inl (cy 0, 40, .inl f_t_moved)), ((a_t 19), .inl (cy 0, 160, .inl f_t_number)), ((a_t 18), .inl (cy 0, 4, .inl f_t_sizeOf))] H → va_D A [((a_t 0), oX8 a_t v_t_isKept v_t_bestPost v_t_mostSeen v_t_taped v_t_from v_t_to v_t_isWrong), ((a_t 17), .inl (cy 0, 4, .inl f_t_bitsOf)), ((a_t 5), .inl (cy 0, 7, .inl f_t_found)), ((a_t 20), .inl (cy 0, 40, .inl f_t_moved)), ((a_t 19), .inl (cy 0, 160, .inl f_t_number)), ((a_t 18), .inl (cy 0, 4, .inl f_t_sizeOf))] → va_S A s.heap H locs → lv_has ls 8 [(0, .ref (a_t 0)), (1, .int p1), (2, .int p2), (3, .int p3), (4, .int p4), (5, .int p5)] → WW H locs (F0 m 119 ls [.int z24]) := by
              intro z24 H locs ls h hP hD hS hl
              refine ofW _ _ _ ?_
              subst ek25
              refine lv_istore (lv' := [(6, .int z24), (0, .ref (a_t 0)), (1, .int p1), (2, .int p2), (3, .int p3), (4, .int p4), (5, .int p5)]) hx hb dX8_copy_119 hl (by decide) rfl (fun ls hl => ?_)
              refine lv_iload hx hb dX8_copy_121 (lv_at hl 0 rfl) ?_
              refine lv_if_ne (tgt := 132) hx hb dX8_copy_123 (by decide) (fun c26 => ?_) (fun c26 => ?_)
              · replace h := bb_ifn c26 h
                refine lv_iconst (v := (0 : Int32)) hx hb dX8_copy_132 (by decide) ?_
                refine lv_istore (lv' := [(7, .int (0 : Int32)), (6, .int z24), (0, .ref (a_t 0)), (1, .int p1), (2, .int p2), (3, .int p3), (4, .int p4), (5, .int p5)]) hx hb dX8_copy_133 hl (by decide) rfl (fun ls hl => ?_)
                obtain ⟨k28, ek28, h⟩ := bb_cut_o h
                have Jk28 : ∀ (f_t_moved_27 : Nat → Int32) (H : Heap) (locs : List Loc) (ls : Array Slot), k28 f_t_moved_27 = some (r, f_t_found_o, f_t_moved_o, f_t_number_o) → va_P (dC, dI) vwCl [((a_t 0), oX8 a_t v_t_isKept v_t_bestPost v_t_mostSeen v_t_taped v_t_from v_t_to v_t_isWrong), ((a_t 17), .inl (cy 0, 4, .inl f_t_bitsOf)), ((a_t 5), .inl (cy 0, 7, .inl f_t_found)), ((a_t 20), .inl (cy 0, 40, .inl f_t_moved_27)), ((a_t 19), .inl (cy 0, 160, .inl f_t_number)), ((a_t 18), .inl (cy 0, 4, .inl f_t_sizeOf))] H → va_D A [((a_t 0), oX8 a_t v_t_isKept v_t_bestPost v_t_mostSeen v_t_taped v_t_from v_t_to v_t_isWrong), ((a_t 17), .inl (cy 0, 4, .inl f_t_bitsOf)), ((a_t 5), .inl (cy 0, 7, .inl f_t_found)), ((a_t 20), .inl (cy 0, 40, .inl f_t_moved_27)), ((a_t 19), .inl (cy 0, 160, .inl f_t_number)), ((a_t 18), .inl (cy 0, 4, .inl f_t_sizeOf))] → va_S A s.heap H locs → lv_has ls 8 [(0, .ref (a_t 0)), (3, .int p3), (4, .int p4), (5, .int p5)] → WW H locs (F0 m 169 ls []) := by
                  intro f_t_moved_27 H locs ls h hP hD hS hl
                  refine ofW _ _ _ ?_
                  subst ek28
                  refine lv_iconst (v := (0 : Int32)) hx hb dX8_copy_169 (by decide) ?_
                  refine lv_istore (lv' := [(7, .int (0 : Int32)), (0, .ref (a_t 0)), (3, .int p3), (4, .int p4), (5, .int p5)]) hx hb dX8_copy_170 hl (by decide) rfl (fun ls hl => ?_)
                  have L39 : ∀ (n : Nat) (x7_29 : Int32) (f_t_number_30 : Nat → Int32) (H : Heap) (locs : List Loc) (ls : Array Slot), bb_loop2 (uX8_copy_s172 p3 p4 p5 f_t_found f_t_moved_27) n x7_29 f_t_number_30 = some (r, f_t_found_o, f_t_moved_o, f_t_number_o) → va_P (dC, dI) vwCl [((a_t 0), oX8 a_t v_t_isKept v_t_bestPost v_t_mostSeen v_t_taped v_t_from v_t_to v_t_isWrong), ((a_t 17), .inl (cy 0, 4, .inl f_t_bitsOf)), ((a_t 5), .inl (cy 0, 7, .inl f_t_found)), ((a_t 20), .inl (cy 0, 40, .inl f_t_moved_27)), ((a_t 19), .inl (cy 0, 160, .inl f_t_number_30)), ((a_t 18), .inl (cy 0, 4, .inl f_t_sizeOf))] H → va_D A [((a_t 0), oX8 a_t v_t_isKept v_t_bestPost v_t_mostSeen v_t_taped v_t_from v_t_to v_t_isWrong), ((a_t 17), .inl (cy 0, 4, .inl f_t_bitsOf)), ((a_t 5), .inl (cy 0, 7, .inl f_t_found)), ((a_t 20), .inl (cy 0, 40, .inl f_t_moved_27)), ((a_t 19), .inl (cy 0, 160, .inl f_t_number_30)), ((a_t 18), .inl (cy 0, 4, .inl f_t_sizeOf))] → va_S A s.heap H locs → lv_has ls 8 [(0, .ref (a_t 0)), (3, .int p3), (4, .int p4), (5, .int p5), (7, .int x7_29)] → WW H locs (F0 m 172 ls []) := by
                    intro n
                    induction n with
                    | zero => intro x7_29 f_t_number_30 H locs ls h; exact (bb_no h).elim
                    | succ n ih40 =>
                      intro x7_29 f_t_number_30 H locs ls h hP hD hS hl
                      refine ofW _ _ _ ?_
                      obtain ⟨rec38, erec38, h⟩ := bb_loop2_o h
                      unfold uX8_copy_s172 at h
                      refine lv_iload hx hb dX8_copy_172 (lv_at hl 4 rfl) ?_
                      refine lv_iload hx hb dX8_copy_174 (lv_at hl 3 rfl) ?_
                      refine lv_icmp_ge (tgt := 207) hx hb dX8_copy_176 (by decide) (fun c41 => ?_) (fun c41 => ?_)
                      · replace h := bb_ifp c41 h
                        refine lv_iload hx hb dX8_copy_207 (lv_at hl 3 rfl) ?_
                        obtain ⟨rfl, rfl, rfl, rfl⟩ := bb_some4 h
                        have hP9 := hP.sub (ws' := [((a_t 0), oX8 a_t v_t_isKept v_t_bestPost v_t_mostSeen v_t_taped v_t_from v_t_to v_t_isWrong), ((a_t 17), .inl (cy 0, 4, .inl f_t_bitsOf)), ((a_t 5), .inl (cy 0, 7, .inl f_t_found)), ((a_t 20), .inl (cy 0, 40, .inl f_t_moved_27)), ((a_t 19), .inl (cy 0, 160, .inl f_t_number_30)), ((a_t 18), .inl (cy 0, 4, .inl f_t_sizeOf))]) [0, 1, 2, 3, 4, 5] rfl
                        have hD9 := hD.sub (ws' := [((a_t 0), oX8 a_t v_t_isKept v_t_bestPost v_t_mostSeen v_t_taped v_t_from v_t_to v_t_isWrong), ((a_t 17), .inl (cy 0, 4, .inl f_t_bitsOf)), ((a_t 5), .inl (cy 0, 7, .inl f_t_found)), ((a_t 20), .inl (cy 0, 40, .inl f_t_moved_27)), ((a_t 19), .inl (cy 0, 160, .inl f_t_number_30)), ((a_t 18), .inl (cy 0, 4, .inl f_t_sizeOf))]) [0, 1, 2, 3, 4, 5] (by decide) rfl
                        exact W.iret hx hb hr (fun t ht hW => ⟨⟨_, (), rfl, rfl, by rw [ht]; exact hP9, va_K.moved hW.alike hK, hD9⟩, hS.F ht⟩) hS.2.2 dX8_copy_209
                      · replace h := bb_ifn c41 h
                        refine lv_aload_n hx hb dX8_copy_179 rfl (lv_at hl 0 rfl) ?_
                        refine va_get (D := (dC, dI)) (ci := 7) (v := .ref (a_t 19)) (C := RX8) (T := TX8) (N := 20) hx hb hts iwX8 hown hK hP 0 rfl rfl 18 (by decide) lk4 (fun _ h9 => h9) rfl dX8_copy_180 ?_
                        refine lv_bipush (v := (40 : Int32)) hx hb dX8_copy_183 (by decide) ?_
                        refine lv_iload_n hx hb dX8_copy_185 rfl (lv_at hl 1 rfl) ?_
                        refine lv_imul hx hb dX8_copy_186 ?_
                        refine lv_iload hx hb dX8_copy_187 (lv_at hl 2 rfl) ?_
                        refine lv_iadd hx hb dX8_copy_189 ?_
                        refine lv_iload hx hb dX8_copy_190 (lv_at hl 4 rfl) ?_
                        refine lv_iadd hx hb dX8_copy_192 ?_
                        refine lv_aload_n hx hb dX8_copy_193 rfl (lv_at hl 0 rfl) ?_
                        refine va_get (D := (dC, dI)) (ci := 7) (v := .ref (a_t 20)) (C := RX8) (T := TX8) (N := 20) hx hb hts iwX8 hown hK hP 0 rfl rfl 19 (by decide) lk3 (fun _ h9 => h9) rfl dX8_copy_194 ?_
                        refine lv_iload hx hb dX8_copy_197 (lv_at hl 4 rfl) ?_
                        obtain ⟨hi42, h⟩ := bb_ix_o h
                        refine va_iald hx hb hK hP 3 0 rfl rfl hi42 dX8_copy_199 ?_
                        obtain ⟨hi43, h⟩ := bb_ix_o h
                        refine va_iast hx hb hK hP hD hS 4 0 rfl rfl hi43 dX8_copy_200 (fun H locs hP hD hS => ?_)
                        have hP : va_P (dC, dI) vwCl [((a_t 0), oX8 a_t v_t_isKept v_t_bestPost v_t_mostSeen v_t_taped v_t_from v_t_to v_t_isWrong), ((a_t 17), .inl (cy 0, 4, .inl f_t_bitsOf)), ((a_t 5), .inl (cy 0, 7, .inl f_t_found)), ((a_t 20), .inl (cy 0, 40, .inl f_t_moved_27)), ((a_t 19), .inl (cy 0, 160, .inl (upd f_t_number_30 ((((40 : Int32) * p3) + p4) + x7_29).toNatClampNeg (f_t_moved_27 x7_29.toNatClampNeg)))), ((a_t 18), .inl (cy 0, 4, .inl f_t_sizeOf))] H := hP
                        have hD : va_D A [((a_t 0), oX8 a_t v_t_isKept v_t_bestPost v_t_mostSeen v_t_taped v_t_from v_t_to v_t_isWrong), ((a_t 17), .inl (cy 0, 4, .inl f_t_bitsOf)), ((a_t 5), .inl (cy 0, 7, .inl f_t_found)), ((a_t 20), .inl (cy 0, 40, .inl f_t_moved_27)), ((a_t 19), .inl (cy 0, 160, .inl (upd f_t_number_30 ((((40 : Int32) * p3) + p4) + x7_29).toNatClampNeg (f_t_moved_27 x7_29.toNatClampNeg)))), ((a_t 18), .inl (cy 0, 4, .inl f_t_sizeOf))] := hD
                        refine lv_iinc (v := x7_29 + (1 : Int32)) (lv' := [(7, .int (x7_29 + (1 : Int32))), (0, .ref (a_t 0)), (3, .int p3), (4, .int p4), (5, .int p5)]) hx hb dX8_copy_201 hl (k := 4) rfl rfl (by decide) rfl (fun ls hl => ?_)
                        refine lv_goto (tgt := 172) hx hb dX8_copy_204 (by decide) ?_
                        rw [erec38] at h
                        exact toW _ _ _ (ih40 (x7_29 + (1 : Int32)) (upd f_t_number_30 ((((40 : Int32) * p3) + p4) + x7_29).toNatClampNeg (f_t_moved_27 x7_29.toNatClampNeg)) _ _ _ h hP hD hS (lv_sub hl [1, 2, 3, 4, 0] rfl))
                  exact toW _ _ _ (L39 nn (0 : Int32) f_t_number _ _ _ h hP hD hS (lv_sub hl [1, 2, 3, 4, 0] rfl))
                have L56 : ∀ (n : Nat) (x7_44 : Int32) (f_t_moved_45 : Nat → Int32) (H : Heap) (locs : List Loc) (ls : Array Slot), bb_loop2 (uX8_copy_s135 p1 p2 p5 f_t_number k28) n x7_44 f_t_moved_45 = some (r, f_t_found_o, f_t_moved_o, f_t_number_o) → va_P (dC, dI) vwCl [((a_t 0), oX8 a_t v_t_isKept v_t_bestPost v_t_mostSeen v_t_taped v_t_from v_t_to v_t_isWrong), ((a_t 17), .inl (cy 0, 4, .inl f_t_bitsOf)), ((a_t 5), .inl (cy 0, 7, .inl f_t_found)), ((a_t 20), .inl (cy 0, 40, .inl f_t_moved_45)), ((a_t 19), .inl (cy 0, 160, .inl f_t_number)), ((a_t 18), .inl (cy 0, 4, .inl f_t_sizeOf))] H → va_D A [((a_t 0), oX8 a_t v_t_isKept v_t_bestPost v_t_mostSeen v_t_taped v_t_from v_t_to v_t_isWrong), ((a_t 17), .inl (cy 0, 4, .inl f_t_bitsOf)), ((a_t 5), .inl (cy 0, 7, .inl f_t_found)), ((a_t 20), .inl (cy 0, 40, .inl f_t_moved_45)), ((a_t 19), .inl (cy 0, 160, .inl f_t_number)), ((a_t 18), .inl (cy 0, 4, .inl f_t_sizeOf))] → va_S A s.heap H locs → lv_has ls 8 [(0, .ref (a_t 0)), (1, .int p1), (2, .int p2), (3, .int p3), (4, .int p4), (5, .int p5), (7, .int x7_44)] → WW H locs (F0 m 135 ls []) := by
                  intro n
                  induction n with
                  | zero => intro x7_44 f_t_moved_45 H locs ls h; exact (bb_no h).elim
                  | succ n ih57 =>
                    intro x7_44 f_t_moved_45 H locs ls h hP hD hS hl
                    refine ofW _ _ _ ?_
                    obtain ⟨rec55, erec55, h⟩ := bb_loop2_o h
                    unfold uX8_copy_s135 at h
                    refine lv_iload hx hb dX8_copy_135 (lv_at hl 6 rfl) ?_
                    refine lv_iload hx hb dX8_copy_137 (lv_at hl 5 rfl) ?_
                    refine lv_icmp_ge (tgt := 169) hx hb dX8_copy_139 (by decide) (fun c58 => ?_) (fun c58 => ?_)
                    · replace h := bb_ifp c58 h
                      exact toW _ _ _ (Jk28 f_t_moved_45 _ _ _ h hP hD hS (lv_sub hl [0, 3, 4, 5] rfl))
                    · replace h := bb_ifn c58 h
                      refine lv_aload_n hx hb dX8_copy_142 rfl (lv_at hl 0 rfl) ?_
                      refine va_get (D := (dC, dI)) (ci := 7) (v := .ref (a_t 20)) (C := RX8) (T := TX8) (N := 20) hx hb hts iwX8 hown hK hP 0 rfl rfl 19 (by decide) lk3 (fun _ h9 => h9) rfl dX8_copy_143 ?_
                      refine lv_iload hx hb dX8_copy_146 (lv_at hl 6 rfl) ?_
                      refine lv_aload_n hx hb dX8_copy_148 rfl (lv_at hl 0 rfl) ?_
                      refine va_get (D := (dC, dI)) (ci := 7) (v := .ref (a_t 19)) (C := RX8) (T := TX8) (N := 20) hx hb hts iwX8 hown hK hP 0 rfl rfl 18 (by decide) lk4 (fun _ h9 => h9) rfl dX8_copy_149 ?_
                      refine lv_bipush (v := (40 : Int32)) hx hb dX8_copy_152 (by decide) ?_
                      refine lv_iload_n hx hb dX8_copy_154 rfl (lv_at hl 1 rfl) ?_
                      refine lv_imul hx hb dX8_copy_155 ?_
                      refine lv_iload_n hx hb dX8_copy_156 rfl (lv_at hl 2 rfl) ?_
                      refine lv_iadd hx hb dX8_copy_157 ?_
                      refine lv_iload hx hb dX8_copy_158 (lv_at hl 6 rfl) ?_
                      refine lv_iadd hx hb dX8_copy_160 ?_
                      obtain ⟨hi59, h⟩ := bb_ix_o h
                      refine va_iald hx hb hK hP 4 0 rfl rfl hi59 dX8_copy_161 ?_
                      obtain ⟨hi60, h⟩ := bb_ix_o h
                      refine va_iast hx hb hK hP hD hS 3 0 rfl rfl hi60 dX8_copy_162 (fun H locs hP hD hS => ?_)
                      have hP : va_P (dC, dI) vwCl [((a_t 0), oX8 a_t v_t_isKept v_t_bestPost v_t_mostSeen v_t_taped v_t_from v_t_to v_t_isWrong), ((a_t 17), .inl (cy 0, 4, .inl f_t_bitsOf)), ((a_t 5), .inl (cy 0, 7, .inl f_t_found)), ((a_t 20), .inl (cy 0, 40, .inl (upd f_t_moved_45 x7_44.toNatClampNeg (f_t_number ((((40 : Int32) * p1) + p2) + x7_44).toNatClampNeg)))), ((a_t 19), .inl (cy 0, 160, .inl f_t_number)), ((a_t 18), .inl (cy 0, 4, .inl f_t_sizeOf))] H := hP
                      have hD : va_D A [((a_t 0), oX8 a_t v_t_isKept v_t_bestPost v_t_mostSeen v_t_taped v_t_from v_t_to v_t_isWrong), ((a_t 17), .inl (cy 0, 4, .inl f_t_bitsOf)), ((a_t 5), .inl (cy 0, 7, .inl f_t_found)), ((a_t 20), .inl (cy 0, 40, .inl (upd f_t_moved_45 x7_44.toNatClampNeg (f_t_number ((((40 : Int32) * p1) + p2) + x7_44).toNatClampNeg)))), ((a_t 19), .inl (cy 0, 160, .inl f_t_number)), ((a_t 18), .inl (cy 0, 4, .inl f_t_sizeOf))] := hD
                      refine lv_iinc (v := x7_44 + (1 : Int32)) (lv' := [(7, .int (x7_44 + (1 : Int32))), (0, .ref (a_t 0)), (1, .int p1), (2, .int p2), (3, .int p3), (4, .int p4), (5, .int p5)]) hx hb dX8_copy_163 hl (k := 6) rfl rfl (by decide) rfl (fun ls hl => ?_)
                      refine lv_goto (tgt := 135) hx hb dX8_copy_166 (by decide) ?_
                      rw [erec55] at h
                      exact toW _ _ _ (ih57 (x7_44 + (1 : Int32)) (upd f_t_moved_45 x7_44.toNatClampNeg (f_t_number ((((40 : Int32) * p1) + p2) + x7_44).toNatClampNeg)) _ _ _ h hP hD hS (lv_sub hl [1, 2, 3, 4, 5, 6, 0] rfl))
                exact toW _ _ _ (L56 nn (0 : Int32) f_t_moved _ _ _ h hP hD hS (lv_sub hl [2, 3, 4, 5, 6, 7, 0] rfl))
              · replace h := bb_ifp c26 h
                refine lv_aload_n hx hb dX8_copy_126 rfl (lv_at hl 1 rfl) ?_
                refine lv_iconst (v := (0 : Int32)) hx hb dX8_copy_127 (by decide) ?_
                obtain ⟨r61, w62, hc63, h⟩ := bb_b2_o h
                refine bb_cwi (wr := [((a_t 17), .inl (cy 0, 4, .inl f_t_bitsOf)), ((a_t 20), .inl (cy 0, 40, .inl f_t_moved)), ((a_t 19), .inl (cy 0, 160, .inl f_t_number)), ((a_t 18), .inl (cy 0, 4, .inl f_t_sizeOf))]) (w1 := [((a_t 0), oX8 a_t v_t_isKept v_t_bestPost v_t_mostSeen v_t_taped v_t_from v_t_to v_t_isWrong), ((a_t 5), .inl (cy 0, 7, .inl w62))]) (va_runV (As := [.int (0 : Int32)]) (rest := []) ⟨hx, hb, hml, hown, hts⟩ (kX8_finds l dC dI cy H.size a_t (0 : Int32) v_t_isKept v_t_bestPost v_t_mostSeen v_t_taped v_t_from v_t_to v_t_isWrong f_t_found r61 w62 hc63) (cwV 1 hts gX8_copy_X8_finds rfl rfl rfl kdX8_finds ⟨Nat.le_of_ble_eq_true rfl, Nat.le_of_ble_eq_true rfl⟩) (bb_preVw (va_recv hK hP (ci := 7) (q0 := 0) rfl rfl) (hP.sub (ws' := [((a_t 0), oX8 a_t v_t_isKept v_t_bestPost v_t_mostSeen v_t_taped v_t_from v_t_to v_t_isWrong), ((a_t 5), .inl (cy 0, 7, .inl f_t_found))]) [0, 2] rfl) hK (hD.sub (ws' := [((a_t 0), oX8 a_t v_t_isKept v_t_bestPost v_t_mostSeen v_t_taped v_t_from v_t_to v_t_isWrong), ((a_t 5), .inl (cy 0, 7, .inl f_t_found))]) [0, 2] (by decide) rfl)) rfl rfl hl.1 rfl (lv_room (Nat.le_of_ble_eq_true rfl)) dX8_copy_128 ⟨Nat.zero_le _, Nat.zero_le _⟩) hP hD hS hA [0, 2] [1, 3, 4, 5] rfl rfl (by decide) (by decide) (fun H locs hP hD hS => ?_)
                have hP : va_P (dC, dI) vwCl [((a_t 17), .inl (cy 0, 4, .inl f_t_bitsOf)), ((a_t 20), .inl (cy 0, 40, .inl f_t_moved)), ((a_t 19), .inl (cy 0, 160, .inl f_t_number)), ((a_t 18), .inl (cy 0, 4, .inl f_t_sizeOf)), ((a_t 0), oX8 a_t v_t_isKept v_t_bestPost v_t_mostSeen v_t_taped v_t_from v_t_to v_t_isWrong), ((a_t 5), .inl (cy 0, 7, .inl w62))] H := hP
                have hD : va_D A [((a_t 17), .inl (cy 0, 4, .inl f_t_bitsOf)), ((a_t 20), .inl (cy 0, 40, .inl f_t_moved)), ((a_t 19), .inl (cy 0, 160, .inl f_t_number)), ((a_t 18), .inl (cy 0, 4, .inl f_t_sizeOf)), ((a_t 0), oX8 a_t v_t_isKept v_t_bestPost v_t_mostSeen v_t_taped v_t_from v_t_to v_t_isWrong), ((a_t 5), .inl (cy 0, 7, .inl w62))] := hD
                obtain ⟨rfl, rfl, rfl, rfl⟩ := bb_some4 h
                have hP9 := hP.sub (ws' := [((a_t 0), oX8 a_t v_t_isKept v_t_bestPost v_t_mostSeen v_t_taped v_t_from v_t_to v_t_isWrong), ((a_t 17), .inl (cy 0, 4, .inl f_t_bitsOf)), ((a_t 5), .inl (cy 0, 7, .inl w62)), ((a_t 20), .inl (cy 0, 40, .inl f_t_moved)), ((a_t 19), .inl (cy 0, 160, .inl f_t_number)), ((a_t 18), .inl (cy 0, 4, .inl f_t_sizeOf))]) [4, 0, 5, 1, 2, 3] rfl
                have hD9 := hD.sub (ws' := [((a_t 0), oX8 a_t v_t_isKept v_t_bestPost v_t_mostSeen v_t_taped v_t_from v_t_to v_t_isWrong), ((a_t 17), .inl (cy 0, 4, .inl f_t_bitsOf)), ((a_t 5), .inl (cy 0, 7, .inl w62)), ((a_t 20), .inl (cy 0, 40, .inl f_t_moved)), ((a_t 19), .inl (cy 0, 160, .inl f_t_number)), ((a_t 18), .inl (cy 0, 4, .inl f_t_sizeOf))]) [4, 0, 5, 1, 2, 3] (by decide) rfl
                exact W.iret hx hb hr (fun t ht hW => ⟨⟨_, (), rfl, rfl, by rw [ht]; exact hP9, va_K.moved hW.alike hK, hD9⟩, hS.F ht⟩) hS.2.2 dX8_copy_131
            obtain ⟨k65, ek65, h⟩ := bb_cut_o h
            have Jk65 : ∀ (u64 : Unit) (H : Heap) (locs : List Loc) (ls : Array Slot), k65 u64 = some (r, f_t_found_o, f_t_moved_o, f_t_number_o) → va_P (dC, dI) vwCl [((a_t 0), oX8 a_t v_t_isKept v_t_bestPost v_t_mostSeen v_t_taped v_t_from v_t_to v_t_isWrong), ((a_t 17), .inl (cy 0, 4, .inl f_t_bitsOf)), ((a_t 5), .inl (cy 0, 7, .inl f_t_found)), ((a_t 20), .inl (cy 0, 40, .inl f_t_moved)), ((a_t 19), .inl (cy 0, 160, .inl f_t_number)), ((a_t 18), .inl (cy 0, 4, .inl f_t_sizeOf))] H → va_D A [((a_t 0), oX8 a_t v_t_isKept v_t_bestPost v_t_mostSeen v_t_taped v_t_from v_t_to v_t_isWrong), ((a_t 17), .inl (cy 0, 4, .inl f_t_bitsOf)), ((a_t 5), .inl (cy 0, 7, .inl f_t_found)), ((a_t 20), .inl (cy 0, 40, .inl f_t_moved)), ((a_t 19), .inl (cy 0, 160, .inl f_t_number)), ((a_t 18), .inl (cy 0, 4, .inl f_t_sizeOf))] → va_S A s.heap H locs → lv_has ls 8 [(0, .ref (a_t 0)), (1, .int p1), (2, .int p2), (3, .int p3), (4, .int p4), (5, .int p5)] → WW H locs (F0 m 118 ls []) := by
              intro u64 H locs ls h hP hD hS hl
              refine ofW _ _ _ ?_
              subst ek65
              refine lv_iconst (v := (0 : Int32)) hx hb dX8_copy_118 (by decide) ?_
              exact toW _ _ _ (Jk25 (0 : Int32) _ _ _ h hP hD hS (lv_sub hl [0, 1, 2, 3, 4, 5] rfl))
            refine lv_if_lt (tgt := 118) hx hb dX8_copy_67 (by decide) (fun c66 => ?_) (fun c66 => ?_)
            · replace h := bb_ifp c66 h
              exact toW _ _ _ (Jk65 () _ _ _ h hP hD hS (lv_sub hl [0, 1, 2, 3, 4, 5] rfl))
            · replace h := bb_ifn c66 h
              refine lv_iload_n hx hb dX8_copy_70 rfl (lv_at hl 2 rfl) ?_
              refine lv_if_lt (tgt := 118) hx hb dX8_copy_71 (by decide) (fun c67 => ?_) (fun c67 => ?_)
              · replace h := bb_ifp c67 h
                exact toW _ _ _ (Jk65 () _ _ _ h hP hD hS (lv_sub hl [0, 1, 2, 3, 4, 5] rfl))
              · replace h := bb_ifn c67 h
                refine lv_iload hx hb dX8_copy_74 (lv_at hl 4 rfl) ?_
                refine lv_if_lt (tgt := 118) hx hb dX8_copy_76 (by decide) (fun c68 => ?_) (fun c68 => ?_)
                · replace h := bb_ifp c68 h
                  exact toW _ _ _ (Jk65 () _ _ _ h hP hD hS (lv_sub hl [0, 1, 2, 3, 4, 5] rfl))
                · replace h := bb_ifn c68 h
                  refine lv_iload_n hx hb dX8_copy_79 rfl (lv_at hl 2 rfl) ?_
                  refine lv_i2l hx hb dX8_copy_80 rfl ?_
                  refine lv_iload hx hb dX8_copy_81 (lv_at hl 5 rfl) ?_
                  refine lv_i2l hx hb dX8_copy_83 rfl ?_
                  refine lv_ladd hx hb dX8_copy_84 ?_
                  refine lv_aload_n hx hb dX8_copy_85 rfl (lv_at hl 0 rfl) ?_
                  refine va_get (D := (dC, dI)) (ci := 7) (v := .ref (a_t 18)) (C := RX8) (T := TX8) (N := 20) hx hb hts iwX8 hown hK hP 0 rfl rfl 17 (by decide) lk2 (fun _ h9 => h9) rfl dX8_copy_86 ?_
                  refine lv_iload_n hx hb dX8_copy_89 rfl (lv_at hl 1 rfl) ?_
                  obtain ⟨hi69, h⟩ := bb_ix_o h
                  refine va_iald hx hb hK hP 5 0 rfl rfl hi69 dX8_copy_90 ?_
                  refine lv_i2l hx hb dX8_copy_91 rfl ?_
                  refine W.lcmp hx hb dX8_copy_92 ?_
                  refine lv_if_gt (tgt := 118) hx hb dX8_copy_93 (by decide) (fun c70 => ?_) (fun c70 => ?_)
                  · replace h := bb_ifp c70 h
                    exact toW _ _ _ (Jk65 () _ _ _ h hP hD hS (lv_sub hl [0, 1, 2, 3, 4, 5] rfl))
                  · replace h := bb_ifn c70 h
                    refine lv_iload hx hb dX8_copy_96 (lv_at hl 4 rfl) ?_
                    refine lv_i2l hx hb dX8_copy_98 rfl ?_
                    refine lv_iload hx hb dX8_copy_99 (lv_at hl 5 rfl) ?_
                    refine lv_i2l hx hb dX8_copy_101 rfl ?_
                    refine lv_ladd hx hb dX8_copy_102 ?_
                    refine lv_aload_n hx hb dX8_copy_103 rfl (lv_at hl 0 rfl) ?_
                    refine va_get (D := (dC, dI)) (ci := 7) (v := .ref (a_t 18)) (C := RX8) (T := TX8) (N := 20) hx hb hts iwX8 hown hK hP 0 rfl rfl 17 (by decide) lk2 (fun _ h9 => h9) rfl dX8_copy_104 ?_
                    refine lv_iload_n hx hb dX8_copy_107 rfl (lv_at hl 3 rfl) ?_
                    obtain ⟨hi71, h⟩ := bb_ix_o h
                    refine va_iald hx hb hK hP 5 0 rfl rfl hi71 dX8_copy_108 ?_
                    refine lv_i2l hx hb dX8_copy_109 rfl ?_
                    refine W.lcmp hx hb dX8_copy_110 ?_
                    refine lv_if_gt (tgt := 118) hx hb dX8_copy_111 (by decide) (fun c72 => ?_) (fun c72 => ?_)
                    · replace h := bb_ifp c72 h
                      exact toW _ _ _ (Jk65 () _ _ _ h hP hD hS (lv_sub hl [0, 1, 2, 3, 4, 5] rfl))
                    · replace h := bb_ifn c72 h
                      refine lv_iconst (v := (1 : Int32)) hx hb dX8_copy_114 (by decide) ?_
                      refine lv_goto (tgt := 119) hx hb dX8_copy_115 (by decide) ?_
                      exact toW _ _ _ (Jk25 (1 : Int32) _ _ _ h hP hD hS (lv_sub hl [0, 1, 2, 3, 4, 5] rfl))
          · replace h := bb_ifn c23 h
            refine lv_aload_n hx hb dX8_copy_59 rfl (lv_at hl 0 rfl) ?_
            refine lv_iconst (v := (2 : Int32)) hx hb dX8_copy_60 (by decide) ?_
            obtain ⟨r73, w74, hc75, h⟩ := bb_b2_o h
            refine bb_cwi (wr := [((a_t 17), .inl (cy 0, 4, .inl f_t_bitsOf)), ((a_t 20), .inl (cy 0, 40, .inl f_t_moved)), ((a_t 19), .inl (cy 0, 160, .inl f_t_number)), ((a_t 18), .inl (cy 0, 4, .inl f_t_sizeOf))]) (w1 := [((a_t 0), oX8 a_t v_t_isKept v_t_bestPost v_t_mostSeen v_t_taped v_t_from v_t_to v_t_isWrong), ((a_t 5), .inl (cy 0, 7, .inl w74))]) (va_runV (As := [.int (2 : Int32)]) (rest := []) ⟨hx, hb, hml, hown, hts⟩ (kX8_finds l dC dI cy s.heap.size a_t (2 : Int32) v_t_isKept v_t_bestPost v_t_mostSeen v_t_taped v_t_from v_t_to v_t_isWrong f_t_found r73 w74 hc75) (cwV 1 hts gX8_copy_X8_finds rfl rfl rfl kdX8_finds ⟨Nat.le_of_ble_eq_true rfl, Nat.le_of_ble_eq_true rfl⟩) (bb_preVw (va_recv hK hP (ci := 7) (q0 := 0) rfl rfl) (hP.sub (ws' := [((a_t 0), oX8 a_t v_t_isKept v_t_bestPost v_t_mostSeen v_t_taped v_t_from v_t_to v_t_isWrong), ((a_t 5), .inl (cy 0, 7, .inl f_t_found))]) [0, 2] rfl) hK (hD.sub (ws' := [((a_t 0), oX8 a_t v_t_isKept v_t_bestPost v_t_mostSeen v_t_taped v_t_from v_t_to v_t_isWrong), ((a_t 5), .inl (cy 0, 7, .inl f_t_found))]) [0, 2] (by decide) rfl)) rfl rfl hl.1 rfl (lv_room (Nat.le_of_ble_eq_true rfl)) dX8_copy_61 ⟨Nat.zero_le _, Nat.zero_le _⟩) hP hD hS hA [0, 2] [1, 3, 4, 5] rfl rfl (by decide) (by decide) (fun H locs hP hD hS => ?_)
            have hP : va_P (dC, dI) vwCl [((a_t 17), .inl (cy 0, 4, .inl f_t_bitsOf)), ((a_t 20), .inl (cy 0, 40, .inl f_t_moved)), ((a_t 19), .inl (cy 0, 160, .inl f_t_number)), ((a_t 18), .inl (cy 0, 4, .inl f_t_sizeOf)), ((a_t 0), oX8 a_t v_t_isKept v_t_bestPost v_t_mostSeen v_t_taped v_t_from v_t_to v_t_isWrong), ((a_t 5), .inl (cy 0, 7, .inl w74))] H := hP
            have hD : va_D A [((a_t 17), .inl (cy 0, 4, .inl f_t_bitsOf)), ((a_t 20), .inl (cy 0, 40, .inl f_t_moved)), ((a_t 19), .inl (cy 0, 160, .inl f_t_number)), ((a_t 18), .inl (cy 0, 4, .inl f_t_sizeOf)), ((a_t 0), oX8 a_t v_t_isKept v_t_bestPost v_t_mostSeen v_t_taped v_t_from v_t_to v_t_isWrong), ((a_t 5), .inl (cy 0, 7, .inl w74))] := hD
            obtain ⟨rfl, rfl, rfl, rfl⟩ := bb_some4 h
            have hP9 := hP.sub (ws' := [((a_t 0), oX8 a_t v_t_isKept v_t_bestPost v_t_mostSeen v_t_taped v_t_from v_t_to v_t_isWrong), ((a_t 17), .inl (cy 0, 4, .inl f_t_bitsOf)), ((a_t 5), .inl (cy 0, 7, .inl w74)), ((a_t 20), .inl (cy 0, 40, .inl f_t_moved)), ((a_t 19), .inl (cy 0, 160, .inl f_t_number)), ((a_t 18), .inl (cy 0, 4, .inl f_t_sizeOf))]) [4, 0, 5, 1, 2, 3] rfl
            have hD9 := hD.sub (ws' := [((a_t 0), oX8 a_t v_t_isKept v_t_bestPost v_t_mostSeen v_t_taped v_t_from v_t_to v_t_isWrong), ((a_t 17), .inl (cy 0, 4, .inl f_t_bitsOf)), ((a_t 5), .inl (cy 0, 7, .inl w74)), ((a_t 20), .inl (cy 0, 40, .inl f_t_moved)), ((a_t 19), .inl (cy 0, 160, .inl f_t_number)), ((a_t 18), .inl (cy 0, 4, .inl f_t_sizeOf))]) [4, 0, 5, 1, 2, 3] (by decide) rfl
            exact W.iret hx hb hr (fun t ht hW => ⟨⟨_, (), rfl, rfl, by rw [ht]; exact hP9, va_K.moved hW.alike hK, hD9⟩, hS.F ht⟩) hS.2.2 dX8_copy_64
        · replace h := bb_ifp c20 h
          refine lv_aload_n hx hb dX8_copy_38 rfl (lv_at hl 0 rfl) ?_
          refine lv_iconst (v := (5 : Int32)) hx hb dX8_copy_39 (by decide) ?_
          obtain ⟨r76, w77, hc78, h⟩ := bb_b2_o h
          refine bb_cwi (wr := [((a_t 17), .inl (cy 0, 4, .inl f_t_bitsOf)), ((a_t 20), .inl (cy 0, 40, .inl f_t_moved)), ((a_t 19), .inl (cy 0, 160, .inl f_t_number)), ((a_t 18), .inl (cy 0, 4, .inl f_t_sizeOf))]) (w1 := [((a_t 0), oX8 a_t v_t_isKept v_t_bestPost v_t_mostSeen v_t_taped v_t_from v_t_to v_t_isWrong), ((a_t 5), .inl (cy 0, 7, .inl w77))]) (va_runV (As := [.int (5 : Int32)]) (rest := []) ⟨hx, hb, hml, hown, hts⟩ (kX8_finds l dC dI cy s.heap.size a_t (5 : Int32) v_t_isKept v_t_bestPost v_t_mostSeen v_t_taped v_t_from v_t_to v_t_isWrong f_t_found r76 w77 hc78) (cwV 1 hts gX8_copy_X8_finds rfl rfl rfl kdX8_finds ⟨Nat.le_of_ble_eq_true rfl, Nat.le_of_ble_eq_true rfl⟩) (bb_preVw (va_recv hK hP (ci := 7) (q0 := 0) rfl rfl) (hP.sub (ws' := [((a_t 0), oX8 a_t v_t_isKept v_t_bestPost v_t_mostSeen v_t_taped v_t_from v_t_to v_t_isWrong), ((a_t 5), .inl (cy 0, 7, .inl f_t_found))]) [0, 2] rfl) hK (hD.sub (ws' := [((a_t 0), oX8 a_t v_t_isKept v_t_bestPost v_t_mostSeen v_t_taped v_t_from v_t_to v_t_isWrong), ((a_t 5), .inl (cy 0, 7, .inl f_t_found))]) [0, 2] (by decide) rfl)) rfl rfl hl.1 rfl (lv_room (Nat.le_of_ble_eq_true rfl)) dX8_copy_40 ⟨Nat.zero_le _, Nat.zero_le _⟩) hP hD hS hA [0, 2] [1, 3, 4, 5] rfl rfl (by decide) (by decide) (fun H locs hP hD hS => ?_)
          have hP : va_P (dC, dI) vwCl [((a_t 17), .inl (cy 0, 4, .inl f_t_bitsOf)), ((a_t 20), .inl (cy 0, 40, .inl f_t_moved)), ((a_t 19), .inl (cy 0, 160, .inl f_t_number)), ((a_t 18), .inl (cy 0, 4, .inl f_t_sizeOf)), ((a_t 0), oX8 a_t v_t_isKept v_t_bestPost v_t_mostSeen v_t_taped v_t_from v_t_to v_t_isWrong), ((a_t 5), .inl (cy 0, 7, .inl w77))] H := hP
          have hD : va_D A [((a_t 17), .inl (cy 0, 4, .inl f_t_bitsOf)), ((a_t 20), .inl (cy 0, 40, .inl f_t_moved)), ((a_t 19), .inl (cy 0, 160, .inl f_t_number)), ((a_t 18), .inl (cy 0, 4, .inl f_t_sizeOf)), ((a_t 0), oX8 a_t v_t_isKept v_t_bestPost v_t_mostSeen v_t_taped v_t_from v_t_to v_t_isWrong), ((a_t 5), .inl (cy 0, 7, .inl w77))] := hD
          obtain ⟨rfl, rfl, rfl, rfl⟩ := bb_some4 h
          have hP9 := hP.sub (ws' := [((a_t 0), oX8 a_t v_t_isKept v_t_bestPost v_t_mostSeen v_t_taped v_t_from v_t_to v_t_isWrong), ((a_t 17), .inl (cy 0, 4, .inl f_t_bitsOf)), ((a_t 5), .inl (cy 0, 7, .inl w77)), ((a_t 20), .inl (cy 0, 40, .inl f_t_moved)), ((a_t 19), .inl (cy 0, 160, .inl f_t_number)), ((a_t 18), .inl (cy 0, 4, .inl f_t_sizeOf))]) [4, 0, 5, 1, 2, 3] rfl
          have hD9 := hD.sub (ws' := [((a_t 0), oX8 a_t v_t_isKept v_t_bestPost v_t_mostSeen v_t_taped v_t_from v_t_to v_t_isWrong), ((a_t 17), .inl (cy 0, 4, .inl f_t_bitsOf)), ((a_t 5), .inl (cy 0, 7, .inl w77)), ((a_t 20), .inl (cy 0, 40, .inl f_t_moved)), ((a_t 19), .inl (cy 0, 160, .inl f_t_number)), ((a_t 18), .inl (cy 0, 4, .inl f_t_sizeOf))]) [4, 0, 5, 1, 2, 3] (by decide) rfl
          exact W.iret hx hb hr (fun t ht hW => ⟨⟨_, (), rfl, rfl, by rw [ht]; exact hP9, va_K.moved hW.alike hK, hD9⟩, hS.F ht⟩) hS.2.2 dX8_copy_43
    · replace h := bb_ifp c13 h
      refine lv_aload_n hx hb dX8_copy_14 rfl (lv_at hl 0 rfl) ?_
      refine lv_iconst (v := (0 : Int32)) hx hb dX8_copy_15 (by decide) ?_
      obtain ⟨r79, w80, hc81, h⟩ := bb_b2_o h
      refine bb_cwi (wr := [((a_t 17), .inl (cy 0, 4, .inl f_t_bitsOf)), ((a_t 20), .inl (cy 0, 40, .inl f_t_moved)), ((a_t 19), .inl (cy 0, 160, .inl f_t_number)), ((a_t 18), .inl (cy 0, 4, .inl f_t_sizeOf))]) (w1 := [((a_t 0), oX8 a_t v_t_isKept v_t_bestPost v_t_mostSeen v_t_taped v_t_from v_t_to v_t_isWrong), ((a_t 5), .inl (cy 0, 7, .inl w80))]) (va_runV (As := [.int (0 : Int32)]) (rest := []) ⟨hx, hb, hml, hown, hts⟩ (kX8_finds l dC dI cy s.heap.size a_t (0 : Int32) v_t_isKept v_t_bestPost v_t_mostSeen v_t_taped v_t_from v_t_to v_t_isWrong f_t_found r79 w80 hc81) (cwV 1 hts gX8_copy_X8_finds rfl rfl rfl kdX8_finds ⟨Nat.le_of_ble_eq_true rfl, Nat.le_of_ble_eq_true rfl⟩) (bb_preVw (va_recv hK hP (ci := 7) (q0 := 0) rfl rfl) (hP.sub (ws' := [((a_t 0), oX8 a_t v_t_isKept v_t_bestPost v_t_mostSeen v_t_taped v_t_from v_t_to v_t_isWrong), ((a_t 5), .inl (cy 0, 7, .inl f_t_found))]) [0, 2] rfl) hK (hD.sub (ws' := [((a_t 0), oX8 a_t v_t_isKept v_t_bestPost v_t_mostSeen v_t_taped v_t_from v_t_to v_t_isWrong), ((a_t 5), .inl (cy 0, 7, .inl f_t_found))]) [0, 2] (by decide) rfl)) rfl rfl hl.1 rfl (lv_room (Nat.le_of_ble_eq_true rfl)) dX8_copy_16 ⟨Nat.zero_le _, Nat.zero_le _⟩) hP hD hS hA [0, 2] [1, 3, 4, 5] rfl rfl (by decide) (by decide) (fun H locs hP hD hS => ?_)
      have hP : va_P (dC, dI) vwCl [((a_t 17), .inl (cy 0, 4, .inl f_t_bitsOf)), ((a_t 20), .inl (cy 0, 40, .inl f_t_moved)), ((a_t 19), .inl (cy 0, 160, .inl f_t_number)), ((a_t 18), .inl (cy 0, 4, .inl f_t_sizeOf)), ((a_t 0), oX8 a_t v_t_isKept v_t_bestPost v_t_mostSeen v_t_taped v_t_from v_t_to v_t_isWrong), ((a_t 5), .inl (cy 0, 7, .inl w80))] H := hP
      have hD : va_D A [((a_t 17), .inl (cy 0, 4, .inl f_t_bitsOf)), ((a_t 20), .inl (cy 0, 40, .inl f_t_moved)), ((a_t 19), .inl (cy 0, 160, .inl f_t_number)), ((a_t 18), .inl (cy 0, 4, .inl f_t_sizeOf)), ((a_t 0), oX8 a_t v_t_isKept v_t_bestPost v_t_mostSeen v_t_taped v_t_from v_t_to v_t_isWrong), ((a_t 5), .inl (cy 0, 7, .inl w80))] := hD
      obtain ⟨rfl, rfl, rfl, rfl⟩ := bb_some4 h
      have hP9 := hP.sub (ws' := [((a_t 0), oX8 a_t v_t_isKept v_t_bestPost v_t_mostSeen v_t_taped v_t_from v_t_to v_t_isWrong), ((a_t 17), .inl (cy 0, 4, .inl f_t_bitsOf)), ((a_t 5), .inl (cy 0, 7, .inl w80)), ((a_t 20), .inl (cy 0, 40, .inl f_t_moved)), ((a_t 19), .inl (cy 0, 160, .inl f_t_number)), ((a_t 18), .inl (cy 0, 4, .inl f_t_sizeOf))]) [4, 0, 5, 1, 2, 3] rfl
      have hD9 := hD.sub (ws' := [((a_t 0), oX8 a_t v_t_isKept v_t_bestPost v_t_mostSeen v_t_taped v_t_from v_t_to v_t_isWrong), ((a_t 17), .inl (cy 0, 4, .inl f_t_bitsOf)), ((a_t 5), .inl (cy 0, 7, .inl w80)), ((a_t 20), .inl (cy 0, 40, .inl f_t_moved)), ((a_t 19), .inl (cy 0, 160, .inl f_t_number)), ((a_t 18), .inl (cy 0, 4, .inl f_t_sizeOf))]) [4, 0, 5, 1, 2, 3] (by decide) rfl
      exact W.iret hx hb hr (fun t ht hW => ⟨⟨_, (), rfl, rfl, by rw [ht]; exact hP9, va_K.moved hW.alike hK, hD9⟩, hS.F ht⟩) hS.2.2 dX8_copy_19
/-! X8_load -/
def uX8_load_s18 (x1_7 : Int32) (f_t_found_9 : Nat → Int32) (f_t_number_10 : Nat → Int32) (f_t_sizeOf_11 : Nat → Int32) (rec12 : Int32 → (Nat → Int32) → Option (Int32 × (Nat → Int32) × (Nat → Int32))) (x3_5 : Int32) (f_t_s_6 : Nat → Int32) : Option (Int32 × (Nat → Int32) × (Nat → Int32)) :=
  bb_ix x1_7 4 ((if (f_t_sizeOf_11 x1_7.toNatClampNeg) ≤ x3_5 then some (x3_5, f_t_found_9, f_t_s_6) else bb_ix (((40 : Int32) * x1_7) + x3_5) 160 (bb_b1 (uX8_in ((f_t_number_10 (((40 : Int32) * x1_7) + x3_5).toNatClampNeg).toInt64) (0 : Int64) (9 : Int64)) (fun (r18 : Int32) => (if r18 = 0 then some (x3_5, f_t_found_9, f_t_s_6) else bb_ix (((40 : Int32) * x1_7) + x3_5) 160 (bb_ix ((9 : Int32) + x3_5) 155 (rec12 (x3_5 + (1 : Int32)) (upd f_t_s_6 ((9 : Int32) + x3_5).toNatClampNeg (f_t_number_10 (((40 : Int32) * x1_7) + x3_5).toNatClampNeg)))))))))
def uX8_load (nn : Nat) (p1 : Int32) (f_t_bitsOf : Nat → Int32) (f_t_found : Nat → Int32) (f_t_number : Nat → Int32) (f_t_s : Nat → Int32) (f_t_sizeOf : Nat → Int32) : Option (Int32 × (Nat → Int32) × (Nat → Int32)) :=
  bb_b1 (uX8_lacks p1 f_t_bitsOf) (fun (r1 : Int32) => (if r1 < 0 then bb_loop2 (uX8_load_s18 p1 f_t_found f_t_number f_t_sizeOf) nn (0 : Int32) f_t_s else bb_b2 (uX8_finds r1 f_t_found) (fun (r25 : Int32) (w26 : Nat → Int32) => some (r25, w26, f_t_s))))
theorem kdX8_load : yX8_load.cls = RX8 ∧ yX8_load.cls ≠ "java/lang/invoke/MethodHandle" ∧ yX8_load.cls ≠ "java/lang/invoke/VarHandle" ∧ (parseMethodDescriptor yX8_load.desc).map (fun d => d.parameters.length) = some 1 := by decide +kernel
set_option maxHeartbeats 4000000 in
set_option maxRecDepth 100000 in
theorem kX8_load (l : Launch) (dC : Nat → ClassId) (dI : Nat → Nat → Nat) (cy : Nat → ClassId) (sz : Nat) (a_t : Nat → Nat) (p1 : Int32) (v_t_isKept : Int32) (v_t_bestPost : Int32) (v_t_mostSeen : Int32) (v_t_taped : Int32) (v_t_from : Int32) (v_t_to : Int32) (v_t_isWrong : Int32) (f_t_bitsOf : Nat → Int32) (f_t_found : Nat → Int32) (f_t_number : Nat → Int32) (f_t_s : Nat → Int32) (f_t_sizeOf : Nat → Int32) (nn : Nat) (r : Int32) (f_t_found_o : Nat → Int32) (f_t_s_o : Nat → Int32) (h : uX8_load nn p1 f_t_bitsOf f_t_found f_t_number f_t_s f_t_sizeOf = some (r, f_t_found_o, f_t_s_o)) : Met l yX8_load wsX8_load ({ frames := 3, cells := 0, slots := 0, locals := 66 }) (va_Pc [.ref (a_t 0), .int p1] (fun U => U.heap.size = sz ∧ va_P (dC, dI) vwCl [((a_t 0), oX8 a_t v_t_isKept v_t_bestPost v_t_mostSeen v_t_taped v_t_from v_t_to v_t_isWrong), ((a_t 17), .inl (cy 0, 4, .inl f_t_bitsOf)), ((a_t 5), .inl (cy 0, 7, .inl f_t_found)), ((a_t 19), .inl (cy 0, 160, .inl f_t_number)), ((a_t 1), .inl (cy 0, 155, .inl f_t_s)), ((a_t 18), .inl (cy 0, 4, .inl f_t_sizeOf))] U.heap ∧ va_K (dC, dI) vwCl (tyX cy) U ∧ va_D (fun _ => True) [((a_t 0), oX8 a_t v_t_isKept v_t_bestPost v_t_mostSeen v_t_taped v_t_from v_t_to v_t_isWrong), ((a_t 17), .inl (cy 0, 4, .inl f_t_bitsOf)), ((a_t 5), .inl (cy 0, 7, .inl f_t_found)), ((a_t 19), .inl (cy 0, 160, .inl f_t_number)), ((a_t 1), .inl (cy 0, 155, .inl f_t_s)), ((a_t 18), .inl (cy 0, 4, .inl f_t_sizeOf))])) (va_Qi (fun (r2 : Int32) (_ : Unit) => r = r2) (fun _ t => va_P (dC, dI) vwCl [((a_t 0), oX8 a_t v_t_isKept v_t_bestPost v_t_mostSeen v_t_taped v_t_from v_t_to v_t_isWrong), ((a_t 17), .inl (cy 0, 4, .inl f_t_bitsOf)), ((a_t 5), .inl (cy 0, 7, .inl f_t_found_o)), ((a_t 19), .inl (cy 0, 160, .inl f_t_number)), ((a_t 1), .inl (cy 0, 155, .inl f_t_s_o)), ((a_t 18), .inl (cy 0, 4, .inl f_t_sizeOf))] t.heap ∧ va_K (dC, dI) vwCl (tyX cy) t ∧ va_D (va_A [((a_t 0), oX8 a_t v_t_isKept v_t_bestPost v_t_mostSeen v_t_taped v_t_from v_t_to v_t_isWrong), ((a_t 17), .inl (cy 0, 4, .inl f_t_bitsOf)), ((a_t 5), .inl (cy 0, 7, .inl f_t_found)), ((a_t 19), .inl (cy 0, 160, .inl f_t_number)), ((a_t 1), .inl (cy 0, 155, .inl f_t_s)), ((a_t 18), .inl (cy 0, 4, .inl f_t_sizeOf))] sz) [((a_t 0), oX8 a_t v_t_isKept v_t_bestPost v_t_mostSeen v_t_taped v_t_from v_t_to v_t_isWrong), ((a_t 17), .inl (cy 0, 4, .inl f_t_bitsOf)), ((a_t 5), .inl (cy 0, 7, .inl f_t_found_o)), ((a_t 19), .inl (cy 0, 160, .inl f_t_number)), ((a_t 1), .inl (cy 0, 155, .inl f_t_s_o)), ((a_t 18), .inl (cy 0, 4, .inl f_t_sizeOf))]) (va_A [((a_t 0), oX8 a_t v_t_isKept v_t_bestPost v_t_mostSeen v_t_taped v_t_from v_t_to v_t_isWrong), ((a_t 17), .inl (cy 0, 4, .inl f_t_bitsOf)), ((a_t 5), .inl (cy 0, 7, .inl f_t_found)), ((a_t 19), .inl (cy 0, 160, .inl f_t_number)), ((a_t 1), .inl (cy 0, 155, .inl f_t_s)), ((a_t 18), .inl (cy 0, 4, .inl f_t_sizeOf))] sz)) 0 0 (va_A [((a_t 0), oX8 a_t v_t_isKept v_t_bestPost v_t_mostSeen v_t_taped v_t_from v_t_to v_t_isWrong), ((a_t 17), .inl (cy 0, 4, .inl f_t_bitsOf)), ((a_t 5), .inl (cy 0, 7, .inl f_t_found)), ((a_t 19), .inl (cy 0, 160, .inl f_t_number)), ((a_t 1), .inl (cy 0, 155, .inl f_t_s)), ((a_t 18), .inl (cy 0, 4, .inl f_t_sizeOf))] sz) := by
  refine Met.ofW (cc := cX8_load) (maxL := 4) (ret := (some .int)) (by decide) rfl ?_
  intro p e s m args below meth c s₁ B hml hv
  obtain ⟨rfl, hsz, hP, hK, hD0⟩ := hv
  have hx := B.exec
  have hb := B.bytes
  have hr := B.returns
  have hts := atoms_spec (ws := wsX8_load) B.pre
  have hown : s.vm.findClass RX8 = some m.cls := findClass_of_methodNamed B.named
  have hlocks := B.notSynchronized
  have iwX8 : ∀ w ∈ wsX80, w ∈ wsX8_load := fun w h9 => List.mem_cons_of_mem _ (List.mem_append_right _ (h9))
  have lk1 := hts (Cond.fieldLink RX8 42 "BathBorderModel" "sizeOf" "[I") (List.mem_of_getElem? (i := 1) rfl)
  have lk2 := hts (Cond.fieldLink RX8 45 "BathBorderModel" "number" "[I") (List.mem_of_getElem? (i := 2) rfl)
  have lk3 := hts (Cond.constantLong RX8 89 (9)) (List.mem_of_getElem? (i := 3) rfl)
  have lk4 := hts (Cond.fieldLink RX8 9 "BathBorderModel" "s" "[I") (List.mem_of_getElem? (i := 4) rfl)
  subst hsz
  have hD := hD0.self (sz := s.heap.size)
  generalize hAe : va_A [((a_t 0), oX8 a_t v_t_isKept v_t_bestPost v_t_mostSeen v_t_taped v_t_from v_t_to v_t_isWrong), ((a_t 17), .inl (cy 0, 4, .inl f_t_bitsOf)), ((a_t 5), .inl (cy 0, 7, .inl f_t_found)), ((a_t 19), .inl (cy 0, 160, .inl f_t_number)), ((a_t 1), .inl (cy 0, 155, .inl f_t_s)), ((a_t 18), .inl (cy 0, 4, .inl f_t_sizeOf))] s.heap.size = A at hD ⊢
  have hA : ∀ q : Nat, s.heap.size ≤ q → A q := fun q h => by rw [← hAe]; exact Or.inr h
  have hS : va_S A s.heap s.heap [] := va_S.rf
  have hP : va_P (dC, dI) vwCl [((a_t 0), oX8 a_t v_t_isKept v_t_bestPost v_t_mostSeen v_t_taped v_t_from v_t_to v_t_isWrong), ((a_t 17), .inl (cy 0, 4, .inl f_t_bitsOf)), ((a_t 5), .inl (cy 0, 7, .inl f_t_found)), ((a_t 19), .inl (cy 0, 160, .inl f_t_number)), ((a_t 1), .inl (cy 0, 155, .inl f_t_s)), ((a_t 18), .inl (cy 0, 4, .inl f_t_sizeOf))] s.heap := hP
  have hl := lv_entry ([.ref (a_t 0), .int p1]) (n := 4) (Nat.le_of_ble_eq_true rfl)
  rw [lg_entry_eq]
  generalize (lg_sl ([.ref (a_t 0), .int p1]) ++ List.replicate (4 - (lg_sl ([.ref (a_t 0), .int p1])).length) Slot.unset).toArray = ls at hl ⊢
  have hl : lv_has ls 4 [(0, .ref (a_t 0)), (1, .int p1)] := hl
  unfold uX8_load at h
  refine bb_cap (fun WW toW ofW => ?_)
  refine lv_aload_n hx hb dX8_load_0 rfl (lv_at hl 0 rfl) ?_
  refine lv_iload_n hx hb dX8_load_1 rfl (lv_at hl 1 rfl) ?_
  obtain ⟨r1, hc2, h⟩ := bb_b1_o h
  refine vp_callSi (W.runV (As := [.int p1]) (rest := []) ⟨hx, hb, hml, hown, hts⟩ (kX8_lacks l dC dI cy a_t p1 v_t_isKept v_t_bestPost v_t_mostSeen v_t_taped v_t_from v_t_to v_t_isWrong f_t_bitsOf r1 hc2) (cwV 1 hts gX8_load_X8_lacks rfl rfl rfl kdX8_lacks ⟨Nat.le_of_ble_eq_true rfl, Nat.le_of_ble_eq_true rfl⟩) (bb_preV (va_recv hK hP (ci := 7) (q0 := 0) rfl rfl) (hP.sub (ws' := [((a_t 0), oX8 a_t v_t_isKept v_t_bestPost v_t_mostSeen v_t_taped v_t_from v_t_to v_t_isWrong), ((a_t 17), .inl (cy 0, 4, .inl f_t_bitsOf))]) [0, 1] rfl) hK) rfl rfl hl.1 rfl (lv_room (Nat.le_of_ble_eq_true rfl)) dX8_load_2 ⟨Nat.zero_le _, Nat.zero_le _⟩) (fun t3 et3 => ?_)
  obtain rfl := et3
  refine lv_istore_n (lv' := [(2, .int r1), (0, .ref (a_t 0)), (1, .int p1)]) hx hb dX8_load_5 rfl hl (by decide) rfl (fun ls hl => ?_)
  refine lv_iload_n hx hb dX8_load_6 rfl (lv_at hl 0 rfl) ?_
  refine lv_if_lt (tgt := 16) hx hb dX8_load_7 (by decide) (fun c4 => ?_) (fun c4 => ?_)
  · replace h := bb_ifp c4 h
    refine lv_iconst (v := (0 : Int32)) hx hb dX8_load_16 (by decide) ?_
    refine lv_istore_n (lv' := [(3, .int (0 : Int32)), (2, .int r1), (0, .ref (a_t 0)), (1, .int p1)]) hx hb dX8_load_17 rfl hl (by decide) rfl (fun ls hl => ?_)
    have L13 : ∀ (n : Nat) (x3_5 : Int32) (f_t_s_6 : Nat → Int32) (H : Heap) (locs : List Loc) (ls : Array Slot), bb_loop2 (uX8_load_s18 p1 f_t_found f_t_number f_t_sizeOf) n x3_5 f_t_s_6 = some (r, f_t_found_o, f_t_s_o) → va_P (dC, dI) vwCl [((a_t 0), oX8 a_t v_t_isKept v_t_bestPost v_t_mostSeen v_t_taped v_t_from v_t_to v_t_isWrong), ((a_t 17), .inl (cy 0, 4, .inl f_t_bitsOf)), ((a_t 5), .inl (cy 0, 7, .inl f_t_found)), ((a_t 19), .inl (cy 0, 160, .inl f_t_number)), ((a_t 1), .inl (cy 0, 155, .inl f_t_s_6)), ((a_t 18), .inl (cy 0, 4, .inl f_t_sizeOf))] H → va_D A [((a_t 0), oX8 a_t v_t_isKept v_t_bestPost v_t_mostSeen v_t_taped v_t_from v_t_to v_t_isWrong), ((a_t 17), .inl (cy 0, 4, .inl f_t_bitsOf)), ((a_t 5), .inl (cy 0, 7, .inl f_t_found)), ((a_t 19), .inl (cy 0, 160, .inl f_t_number)), ((a_t 1), .inl (cy 0, 155, .inl f_t_s_6)), ((a_t 18), .inl (cy 0, 4, .inl f_t_sizeOf))] → va_S A s.heap H locs → lv_has ls 4 [(0, .ref (a_t 0)), (1, .int p1), (3, .int x3_5)] → WW H locs (F0 m 18 ls []) := by
      intro n
      induction n with
      | zero => intro x3_5 f_t_s_6 H locs ls h; exact (bb_no h).elim
      | succ n ih14 =>
        intro x3_5 f_t_s_6 H locs ls h hP hD hS hl
        refine ofW _ _ _ ?_
        obtain ⟨rec12, erec12, h⟩ := bb_loop2_o h
        unfold uX8_load_s18 at h
        refine lv_iload_n hx hb dX8_load_18 rfl (lv_at hl 2 rfl) ?_
        refine lv_aload_n hx hb dX8_load_19 rfl (lv_at hl 0 rfl) ?_
        refine va_get (D := (dC, dI)) (ci := 7) (v := .ref (a_t 18)) (C := RX8) (T := TX8) (N := 20) hx hb hts iwX8 hown hK hP 0 rfl rfl 17 (by decide) lk1 (fun _ h9 => h9) rfl dX8_load_20 ?_
        refine lv_iload_n hx hb dX8_load_23 rfl (lv_at hl 1 rfl) ?_
        obtain ⟨hi15, h⟩ := bb_ix_o h
        refine va_iald hx hb hK hP 5 0 rfl rfl hi15 dX8_load_24 ?_
        refine lv_icmp_ge (tgt := 76) hx hb dX8_load_25 (by decide) (fun c16 => ?_) (fun c16 => ?_)
        · replace h := bb_ifp c16 h
          refine lv_iload_n hx hb dX8_load_76 rfl (lv_at hl 2 rfl) ?_
          obtain ⟨rfl, rfl, rfl⟩ := bb_some3 h
          have hP9 := hP.sub (ws' := [((a_t 0), oX8 a_t v_t_isKept v_t_bestPost v_t_mostSeen v_t_taped v_t_from v_t_to v_t_isWrong), ((a_t 17), .inl (cy 0, 4, .inl f_t_bitsOf)), ((a_t 5), .inl (cy 0, 7, .inl f_t_found)), ((a_t 19), .inl (cy 0, 160, .inl f_t_number)), ((a_t 1), .inl (cy 0, 155, .inl f_t_s_6)), ((a_t 18), .inl (cy 0, 4, .inl f_t_sizeOf))]) [0, 1, 2, 3, 4, 5] rfl
          have hD9 := hD.sub (ws' := [((a_t 0), oX8 a_t v_t_isKept v_t_bestPost v_t_mostSeen v_t_taped v_t_from v_t_to v_t_isWrong), ((a_t 17), .inl (cy 0, 4, .inl f_t_bitsOf)), ((a_t 5), .inl (cy 0, 7, .inl f_t_found)), ((a_t 19), .inl (cy 0, 160, .inl f_t_number)), ((a_t 1), .inl (cy 0, 155, .inl f_t_s_6)), ((a_t 18), .inl (cy 0, 4, .inl f_t_sizeOf))]) [0, 1, 2, 3, 4, 5] (by decide) rfl
          exact W.iret hx hb hr (fun t ht hW => ⟨⟨_, (), rfl, rfl, by rw [ht]; exact hP9, va_K.moved hW.alike hK, hD9⟩, hS.F ht⟩) hS.2.2 dX8_load_77
        · replace h := bb_ifn c16 h
          refine lv_aload_n hx hb dX8_load_28 rfl (lv_at hl 0 rfl) ?_
          refine va_get (D := (dC, dI)) (ci := 7) (v := .ref (a_t 19)) (C := RX8) (T := TX8) (N := 20) hx hb hts iwX8 hown hK hP 0 rfl rfl 18 (by decide) lk2 (fun _ h9 => h9) rfl dX8_load_29 ?_
          refine lv_bipush (v := (40 : Int32)) hx hb dX8_load_32 (by decide) ?_
          refine lv_iload_n hx hb dX8_load_34 rfl (lv_at hl 1 rfl) ?_
          refine lv_imul hx hb dX8_load_35 ?_
          refine lv_iload_n hx hb dX8_load_36 rfl (lv_at hl 2 rfl) ?_
          refine lv_iadd hx hb dX8_load_37 ?_
          obtain ⟨hi17, h⟩ := bb_ix_o h
          refine va_iald hx hb hK hP 3 0 rfl rfl hi17 dX8_load_38 ?_
          refine lv_i2l hx hb dX8_load_39 rfl ?_
          refine lv_lconst (v := (0 : Int64)) hx hb dX8_load_40 (by decide) ?_
          refine lv_ldc2 (v := (9 : Int64)) hx hb hown lk3 dX8_load_41 ?_
          obtain ⟨r18, hc19, h⟩ := bb_b1_o h
          refine vp_callSi (W.runS (As := [.long ((f_t_number (((40 : Int32) * p1) + x3_5).toNatClampNeg).toInt64), .long (0 : Int64), .long (9 : Int64)]) (rest := []) ⟨hx, hb, hml, hown, hts⟩ (kX8_in l dC dI cy ((f_t_number (((40 : Int32) * p1) + x3_5).toNatClampNeg).toInt64) (0 : Int64) (9 : Int64) r18 hc19) (va_cwS 3 hts gX8_load_X8_in rfl rfl rfl kdX8_in ⟨Nat.le_of_ble_eq_true rfl, Nat.le_of_ble_eq_true rfl⟩) (bb_preS (hP.sub (ws' := []) [] rfl) hK) rfl rfl hl.1 rfl (lv_room (Nat.le_of_ble_eq_true rfl)) dX8_load_44 ⟨Nat.zero_le _, Nat.zero_le _⟩) (fun t20 et20 => ?_)
          obtain ⟨rfl, hz21⟩ := et20
          refine lv_if_eq (tgt := 76) hx hb dX8_load_47 (by decide) (fun c22 => ?_) (fun c22 => ?_)
          · replace h := bb_ifp c22 h
            refine lv_iload_n hx hb dX8_load_76 rfl (lv_at hl 2 rfl) ?_
            obtain ⟨rfl, rfl, rfl⟩ := bb_some3 h
            have hP9 := hP.sub (ws' := [((a_t 0), oX8 a_t v_t_isKept v_t_bestPost v_t_mostSeen v_t_taped v_t_from v_t_to v_t_isWrong), ((a_t 17), .inl (cy 0, 4, .inl f_t_bitsOf)), ((a_t 5), .inl (cy 0, 7, .inl f_t_found)), ((a_t 19), .inl (cy 0, 160, .inl f_t_number)), ((a_t 1), .inl (cy 0, 155, .inl f_t_s_6)), ((a_t 18), .inl (cy 0, 4, .inl f_t_sizeOf))]) [0, 1, 2, 3, 4, 5] rfl
            have hD9 := hD.sub (ws' := [((a_t 0), oX8 a_t v_t_isKept v_t_bestPost v_t_mostSeen v_t_taped v_t_from v_t_to v_t_isWrong), ((a_t 17), .inl (cy 0, 4, .inl f_t_bitsOf)), ((a_t 5), .inl (cy 0, 7, .inl f_t_found)), ((a_t 19), .inl (cy 0, 160, .inl f_t_number)), ((a_t 1), .inl (cy 0, 155, .inl f_t_s_6)), ((a_t 18), .inl (cy 0, 4, .inl f_t_sizeOf))]) [0, 1, 2, 3, 4, 5] (by decide) rfl
            exact W.iret hx hb hr (fun t ht hW => ⟨⟨_, (), rfl, rfl, by rw [ht]; exact hP9, va_K.moved hW.alike hK, hD9⟩, hS.F ht⟩) hS.2.2 dX8_load_77
          · replace h := bb_ifn c22 h
            refine lv_aload_n hx hb dX8_load_50 rfl (lv_at hl 0 rfl) ?_
            refine va_get (D := (dC, dI)) (ci := 7) (v := .ref (a_t 1)) (C := RX8) (T := TX8) (N := 20) hx hb hts iwX8 hown hK hP 0 rfl rfl 0 (by decide) lk4 (fun _ h9 => h9) rfl dX8_load_51 ?_
            refine lv_bipush (v := (9 : Int32)) hx hb dX8_load_54 (by decide) ?_
            refine lv_iload_n hx hb dX8_load_56 rfl (lv_at hl 2 rfl) ?_
            refine lv_iadd hx hb dX8_load_57 ?_
            refine lv_aload_n hx hb dX8_load_58 rfl (lv_at hl 0 rfl) ?_
            refine va_get (D := (dC, dI)) (ci := 7) (v := .ref (a_t 19)) (C := RX8) (T := TX8) (N := 20) hx hb hts iwX8 hown hK hP 0 rfl rfl 18 (by decide) lk2 (fun _ h9 => h9) rfl dX8_load_59 ?_
            refine lv_bipush (v := (40 : Int32)) hx hb dX8_load_62 (by decide) ?_
            refine lv_iload_n hx hb dX8_load_64 rfl (lv_at hl 1 rfl) ?_
            refine lv_imul hx hb dX8_load_65 ?_
            refine lv_iload_n hx hb dX8_load_66 rfl (lv_at hl 2 rfl) ?_
            refine lv_iadd hx hb dX8_load_67 ?_
            obtain ⟨hi23, h⟩ := bb_ix_o h
            refine va_iald hx hb hK hP 3 0 rfl rfl hi23 dX8_load_68 ?_
            obtain ⟨hi24, h⟩ := bb_ix_o h
            refine va_iast hx hb hK hP hD hS 4 0 rfl rfl hi24 dX8_load_69 (fun H locs hP hD hS => ?_)
            have hP : va_P (dC, dI) vwCl [((a_t 0), oX8 a_t v_t_isKept v_t_bestPost v_t_mostSeen v_t_taped v_t_from v_t_to v_t_isWrong), ((a_t 17), .inl (cy 0, 4, .inl f_t_bitsOf)), ((a_t 5), .inl (cy 0, 7, .inl f_t_found)), ((a_t 19), .inl (cy 0, 160, .inl f_t_number)), ((a_t 1), .inl (cy 0, 155, .inl (upd f_t_s_6 ((9 : Int32) + x3_5).toNatClampNeg (f_t_number (((40 : Int32) * p1) + x3_5).toNatClampNeg)))), ((a_t 18), .inl (cy 0, 4, .inl f_t_sizeOf))] H := hP
            have hD : va_D A [((a_t 0), oX8 a_t v_t_isKept v_t_bestPost v_t_mostSeen v_t_taped v_t_from v_t_to v_t_isWrong), ((a_t 17), .inl (cy 0, 4, .inl f_t_bitsOf)), ((a_t 5), .inl (cy 0, 7, .inl f_t_found)), ((a_t 19), .inl (cy 0, 160, .inl f_t_number)), ((a_t 1), .inl (cy 0, 155, .inl (upd f_t_s_6 ((9 : Int32) + x3_5).toNatClampNeg (f_t_number (((40 : Int32) * p1) + x3_5).toNatClampNeg)))), ((a_t 18), .inl (cy 0, 4, .inl f_t_sizeOf))] := hD
            refine lv_iinc (v := x3_5 + (1 : Int32)) (lv' := [(3, .int (x3_5 + (1 : Int32))), (0, .ref (a_t 0)), (1, .int p1)]) hx hb dX8_load_70 hl (k := 2) rfl rfl (by decide) rfl (fun ls hl => ?_)
            refine lv_goto (tgt := 18) hx hb dX8_load_73 (by decide) ?_
            rw [erec12] at h
            exact toW _ _ _ (ih14 (x3_5 + (1 : Int32)) (upd f_t_s_6 ((9 : Int32) + x3_5).toNatClampNeg (f_t_number (((40 : Int32) * p1) + x3_5).toNatClampNeg)) _ _ _ h hP hD hS (lv_sub hl [1, 2, 0] rfl))
    exact toW _ _ _ (L13 nn (0 : Int32) f_t_s _ _ _ h hP hD hS (lv_sub hl [2, 3, 0] rfl))
  · replace h := bb_ifn c4 h
    refine lv_aload_n hx hb dX8_load_10 rfl (lv_at hl 1 rfl) ?_
    refine lv_iload_n hx hb dX8_load_11 rfl (lv_at hl 0 rfl) ?_
    obtain ⟨r25, w26, hc27, h⟩ := bb_b2_o h
    refine bb_cwi (wr := [((a_t 17), .inl (cy 0, 4, .inl f_t_bitsOf)), ((a_t 19), .inl (cy 0, 160, .inl f_t_number)), ((a_t 1), .inl (cy 0, 155, .inl f_t_s)), ((a_t 18), .inl (cy 0, 4, .inl f_t_sizeOf))]) (w1 := [((a_t 0), oX8 a_t v_t_isKept v_t_bestPost v_t_mostSeen v_t_taped v_t_from v_t_to v_t_isWrong), ((a_t 5), .inl (cy 0, 7, .inl w26))]) (va_runV (As := [.int r1]) (rest := []) ⟨hx, hb, hml, hown, hts⟩ (kX8_finds l dC dI cy s.heap.size a_t r1 v_t_isKept v_t_bestPost v_t_mostSeen v_t_taped v_t_from v_t_to v_t_isWrong f_t_found r25 w26 hc27) (cwV 1 hts gX8_load_X8_finds rfl rfl rfl kdX8_finds ⟨Nat.le_of_ble_eq_true rfl, Nat.le_of_ble_eq_true rfl⟩) (bb_preVw (va_recv hK hP (ci := 7) (q0 := 0) rfl rfl) (hP.sub (ws' := [((a_t 0), oX8 a_t v_t_isKept v_t_bestPost v_t_mostSeen v_t_taped v_t_from v_t_to v_t_isWrong), ((a_t 5), .inl (cy 0, 7, .inl f_t_found))]) [0, 2] rfl) hK (hD.sub (ws' := [((a_t 0), oX8 a_t v_t_isKept v_t_bestPost v_t_mostSeen v_t_taped v_t_from v_t_to v_t_isWrong), ((a_t 5), .inl (cy 0, 7, .inl f_t_found))]) [0, 2] (by decide) rfl)) rfl rfl hl.1 rfl (lv_room (Nat.le_of_ble_eq_true rfl)) dX8_load_12 ⟨Nat.zero_le _, Nat.zero_le _⟩) hP hD hS hA [0, 2] [1, 3, 4, 5] rfl rfl (by decide) (by decide) (fun H locs hP hD hS => ?_)
    have hP : va_P (dC, dI) vwCl [((a_t 17), .inl (cy 0, 4, .inl f_t_bitsOf)), ((a_t 19), .inl (cy 0, 160, .inl f_t_number)), ((a_t 1), .inl (cy 0, 155, .inl f_t_s)), ((a_t 18), .inl (cy 0, 4, .inl f_t_sizeOf)), ((a_t 0), oX8 a_t v_t_isKept v_t_bestPost v_t_mostSeen v_t_taped v_t_from v_t_to v_t_isWrong), ((a_t 5), .inl (cy 0, 7, .inl w26))] H := hP
    have hD : va_D A [((a_t 17), .inl (cy 0, 4, .inl f_t_bitsOf)), ((a_t 19), .inl (cy 0, 160, .inl f_t_number)), ((a_t 1), .inl (cy 0, 155, .inl f_t_s)), ((a_t 18), .inl (cy 0, 4, .inl f_t_sizeOf)), ((a_t 0), oX8 a_t v_t_isKept v_t_bestPost v_t_mostSeen v_t_taped v_t_from v_t_to v_t_isWrong), ((a_t 5), .inl (cy 0, 7, .inl w26))] := hD
    obtain ⟨rfl, rfl, rfl⟩ := bb_some3 h
    have hP9 := hP.sub (ws' := [((a_t 0), oX8 a_t v_t_isKept v_t_bestPost v_t_mostSeen v_t_taped v_t_from v_t_to v_t_isWrong), ((a_t 17), .inl (cy 0, 4, .inl f_t_bitsOf)), ((a_t 5), .inl (cy 0, 7, .inl w26)), ((a_t 19), .inl (cy 0, 160, .inl f_t_number)), ((a_t 1), .inl (cy 0, 155, .inl f_t_s)), ((a_t 18), .inl (cy 0, 4, .inl f_t_sizeOf))]) [4, 0, 5, 1, 2, 3] rfl
    have hD9 := hD.sub (ws' := [((a_t 0), oX8 a_t v_t_isKept v_t_bestPost v_t_mostSeen v_t_taped v_t_from v_t_to v_t_isWrong), ((a_t 17), .inl (cy 0, 4, .inl f_t_bitsOf)), ((a_t 5), .inl (cy 0, 7, .inl w26)), ((a_t 19), .inl (cy 0, 160, .inl f_t_number)), ((a_t 1), .inl (cy 0, 155, .inl f_t_s)), ((a_t 18), .inl (cy 0, 4, .inl f_t_sizeOf))]) [4, 0, 5, 1, 2, 3] (by decide) rfl
    exact W.iret hx hb hr (fun t ht hW => ⟨⟨_, (), rfl, rfl, by rw [ht]; exact hP9, va_K.moved hW.alike hK, hD9⟩, hS.F ht⟩) hS.2.2 dX8_load_15
/-! X8_goesOn -/
def uX8_goesOn (nn : Nat) (p1 : Int32) (p2 : Int32) (f_t_number : Nat → Int32) (f_t_s : Nat → Int32) : Option (Int32) :=
  bb_ix (((40 : Int32) * p1) + p2) 160 (bb_b1 (uX8_isCell (f_t_number (((40 : Int32) * p1) + p2).toNatClampNeg)) (fun (r2 : Int32) => (if r2 = 0 then some (0 : Int32) else bb_b1 (uX8_isSeen nn (f_t_number (((40 : Int32) * p1) + p2).toNatClampNeg) f_t_s) (fun (r7 : Int32) => (if r7 = 0 then (if p2 = 0 then some (1 : Int32) else bb_ix ((((40 : Int32) * p1) + p2) - (1 : Int32)) 160 (bb_b1 (uX8_apart (f_t_number (((40 : Int32) * p1) + p2).toNatClampNeg) (f_t_number ((((40 : Int32) * p1) + p2) - (1 : Int32)).toNatClampNeg)) (fun (r14 : Int32) => (if r14 = (1 : Int32) then some (1 : Int32) else some (0 : Int32))))) else some (0 : Int32))))))
theorem kdX8_goesOn : yX8_goesOn.cls = RX8 ∧ yX8_goesOn.cls ≠ "java/lang/invoke/MethodHandle" ∧ yX8_goesOn.cls ≠ "java/lang/invoke/VarHandle" ∧ (parseMethodDescriptor yX8_goesOn.desc).map (fun d => d.parameters.length) = some 2 := by decide +kernel
set_option maxHeartbeats 4000000 in
set_option maxRecDepth 100000 in
theorem kX8_goesOn (l : Launch) (dC : Nat → ClassId) (dI : Nat → Nat → Nat) (cy : Nat → ClassId) (a_t : Nat → Nat) (p1 : Int32) (p2 : Int32) (v_t_isKept : Int32) (v_t_bestPost : Int32) (v_t_mostSeen : Int32) (v_t_taped : Int32) (v_t_from : Int32) (v_t_to : Int32) (v_t_isWrong : Int32) (f_t_number : Nat → Int32) (f_t_s : Nat → Int32) (nn : Nat) (r : Int32) (h : uX8_goesOn nn p1 p2 f_t_number f_t_s = some r) : Met l yX8_goesOn wsX8_goesOn ({ frames := 5, cells := 0, slots := 0, locals := 108 }) (va_Pc [.ref (a_t 0), .int p1, .int p2] (fun U => va_P (dC, dI) vwCl [((a_t 0), oX8 a_t v_t_isKept v_t_bestPost v_t_mostSeen v_t_taped v_t_from v_t_to v_t_isWrong), ((a_t 19), .inl (cy 0, 160, .inl f_t_number)), ((a_t 1), .inl (cy 0, 155, .inl f_t_s))] U.heap ∧ va_K (dC, dI) vwCl (tyX cy) U)) (vp_Si (fun r2 => r = r2 ∧ narrow .boolean (.int r2) = .int r2)) 0 0 (fun _ => False) := by
  refine Met.ofW (cc := cX8_goesOn) (maxL := 4) (ret := (some .boolean)) (by decide) rfl ?_
  intro p e s m args below meth c s₁ B hml hv
  obtain ⟨rfl, hP, hK⟩ := hv
  have hx := B.exec
  have hb := B.bytes
  have hr := B.returns
  have hts := atoms_spec (ws := wsX8_goesOn) B.pre
  have hown : s.vm.findClass RX8 = some m.cls := findClass_of_methodNamed B.named
  have hlocks := B.notSynchronized
  have iwX8 : ∀ w ∈ wsX80, w ∈ wsX8_goesOn := fun w h9 => List.mem_cons_of_mem _ (List.mem_append_right _ (h9))
  have lk1 := hts (Cond.fieldLink RX8 45 "BathBorderModel" "number" "[I") (List.mem_of_getElem? (i := 1) rfl)
  have hl := lv_entry ([.ref (a_t 0), .int p1, .int p2]) (n := 4) (Nat.le_of_ble_eq_true rfl)
  rw [lg_entry_eq]
  generalize (lg_sl ([.ref (a_t 0), .int p1, .int p2]) ++ List.replicate (4 - (lg_sl ([.ref (a_t 0), .int p1, .int p2])).length) Slot.unset).toArray = ls at hl ⊢
  have hl : lv_has ls 4 [(0, .ref (a_t 0)), (1, .int p1), (2, .int p2)] := hl
  unfold uX8_goesOn at h
  refine bb_cap (fun WW toW ofW => ?_)
  refine lv_aload_n hx hb dX8_goesOn_0 rfl (lv_at hl 0 rfl) ?_
  refine va_get (D := (dC, dI)) (ci := 7) (v := .ref (a_t 19)) (C := RX8) (T := TX8) (N := 20) hx hb hts iwX8 hown hK hP 0 rfl rfl 18 (by decide) lk1 (fun _ h9 => h9) rfl dX8_goesOn_1 ?_
  refine lv_bipush (v := (40 : Int32)) hx hb dX8_goesOn_4 (by decide) ?_
  refine lv_iload_n hx hb dX8_goesOn_6 rfl (lv_at hl 1 rfl) ?_
  refine lv_imul hx hb dX8_goesOn_7 ?_
  refine lv_iload_n hx hb dX8_goesOn_8 rfl (lv_at hl 2 rfl) ?_
  refine lv_iadd hx hb dX8_goesOn_9 ?_
  obtain ⟨hi1, h⟩ := bb_ix_o h
  refine va_iald hx hb hK hP 1 0 rfl rfl hi1 dX8_goesOn_10 ?_
  refine lv_istore_n (lv' := [(3, .int (f_t_number (((40 : Int32) * p1) + p2).toNatClampNeg)), (0, .ref (a_t 0)), (1, .int p1), (2, .int p2)]) hx hb dX8_goesOn_11 rfl hl (by decide) rfl (fun ls hl => ?_)
  refine lv_iload_n hx hb dX8_goesOn_12 rfl (lv_at hl 0 rfl) ?_
  obtain ⟨r2, hc3, h⟩ := bb_b1_o h
  refine vp_callSi (W.runS (As := [.int (f_t_number (((40 : Int32) * p1) + p2).toNatClampNeg)]) (rest := []) ⟨hx, hb, hml, hown, hts⟩ (kX8_isCell l dC dI cy (f_t_number (((40 : Int32) * p1) + p2).toNatClampNeg) r2 hc3) (va_cwS 1 hts gX8_goesOn_X8_isCell rfl rfl rfl kdX8_isCell ⟨Nat.le_of_ble_eq_true rfl, Nat.le_of_ble_eq_true rfl⟩) (bb_preS (hP.sub (ws' := []) [] rfl) hK) rfl rfl hl.1 rfl (lv_room (Nat.le_of_ble_eq_true rfl)) dX8_goesOn_13 ⟨Nat.zero_le _, Nat.zero_le _⟩) (fun t4 et4 => ?_)
  obtain ⟨rfl, hz5⟩ := et4
  refine lv_if_eq (tgt := 27) hx hb dX8_goesOn_16 (by decide) (fun c6 => ?_) (fun c6 => ?_)
  · replace h := bb_ifp c6 h
    refine lv_iconst (v := (0 : Int32)) hx hb dX8_goesOn_27 (by decide) ?_
    obtain rfl := bb_some1 h
    exact W.zret hx hb hr (by decide) (fun t ht hW => ⟨_, rfl, ⟨rfl, (by decide)⟩, ht⟩) (fun q hq => by cases hq) dX8_goesOn_28
  · replace h := bb_ifn c6 h
    refine lv_aload_n hx hb dX8_goesOn_19 rfl (lv_at hl 1 rfl) ?_
    refine lv_iload_n hx hb dX8_goesOn_20 rfl (lv_at hl 0 rfl) ?_
    obtain ⟨r7, hc8, h⟩ := bb_b1_o h
    refine vp_callSi (W.runV (As := [.int (f_t_number (((40 : Int32) * p1) + p2).toNatClampNeg)]) (rest := []) ⟨hx, hb, hml, hown, hts⟩ (kX8_isSeen l dC dI cy a_t (f_t_number (((40 : Int32) * p1) + p2).toNatClampNeg) v_t_isKept v_t_bestPost v_t_mostSeen v_t_taped v_t_from v_t_to v_t_isWrong f_t_s nn r7 hc8) (cwV 1 hts gX8_goesOn_X8_isSeen rfl rfl rfl kdX8_isSeen ⟨Nat.le_of_ble_eq_true rfl, Nat.le_of_ble_eq_true rfl⟩) (bb_preV (va_recv hK hP (ci := 7) (q0 := 0) rfl rfl) (hP.sub (ws' := [((a_t 0), oX8 a_t v_t_isKept v_t_bestPost v_t_mostSeen v_t_taped v_t_from v_t_to v_t_isWrong), ((a_t 1), .inl (cy 0, 155, .inl f_t_s))]) [0, 2] rfl) hK) rfl rfl hl.1 rfl (lv_room (Nat.le_of_ble_eq_true rfl)) dX8_goesOn_21 ⟨Nat.zero_le _, Nat.zero_le _⟩) (fun t9 et9 => ?_)
    obtain ⟨rfl, hz10⟩ := et9
    refine lv_if_eq (tgt := 29) hx hb dX8_goesOn_24 (by decide) (fun c11 => ?_) (fun c11 => ?_)
    · replace h := bb_ifp c11 h
      refine lv_iload_n hx hb dX8_goesOn_29 rfl (lv_at hl 3 rfl) ?_
      refine lv_if_eq (tgt := 54) hx hb dX8_goesOn_30 (by decide) (fun c12 => ?_) (fun c12 => ?_)
      · replace h := bb_ifp c12 h
        refine lv_iconst (v := (1 : Int32)) hx hb dX8_goesOn_54 (by decide) ?_
        refine lv_goto (tgt := 59) hx hb dX8_goesOn_55 (by decide) ?_
        obtain rfl := bb_some1 h
        exact W.zret hx hb hr (by decide) (fun t ht hW => ⟨_, rfl, ⟨rfl, (by decide)⟩, ht⟩) (fun q hq => by cases hq) dX8_goesOn_59
      · replace h := bb_ifn c12 h
        refine lv_iload_n hx hb dX8_goesOn_33 rfl (lv_at hl 0 rfl) ?_
        refine lv_aload_n hx hb dX8_goesOn_34 rfl (lv_at hl 1 rfl) ?_
        refine va_get (D := (dC, dI)) (ci := 7) (v := .ref (a_t 19)) (C := RX8) (T := TX8) (N := 20) hx hb hts iwX8 hown hK hP 0 rfl rfl 18 (by decide) lk1 (fun _ h9 => h9) rfl dX8_goesOn_35 ?_
        refine lv_bipush (v := (40 : Int32)) hx hb dX8_goesOn_38 (by decide) ?_
        refine lv_iload_n hx hb dX8_goesOn_40 rfl (lv_at hl 2 rfl) ?_
        refine lv_imul hx hb dX8_goesOn_41 ?_
        refine lv_iload_n hx hb dX8_goesOn_42 rfl (lv_at hl 3 rfl) ?_
        refine lv_iadd hx hb dX8_goesOn_43 ?_
        refine lv_iconst (v := (1 : Int32)) hx hb dX8_goesOn_44 (by decide) ?_
        refine lv_isub hx hb dX8_goesOn_45 ?_
        obtain ⟨hi13, h⟩ := bb_ix_o h
        refine va_iald hx hb hK hP 1 0 rfl rfl hi13 dX8_goesOn_46 ?_
        obtain ⟨r14, hc15, h⟩ := bb_b1_o h
        refine vp_callSi (W.runS (As := [.int (f_t_number (((40 : Int32) * p1) + p2).toNatClampNeg), .int (f_t_number ((((40 : Int32) * p1) + p2) - (1 : Int32)).toNatClampNeg)]) (rest := []) ⟨hx, hb, hml, hown, hts⟩ (kX8_apart l dC dI cy (f_t_number (((40 : Int32) * p1) + p2).toNatClampNeg) (f_t_number ((((40 : Int32) * p1) + p2) - (1 : Int32)).toNatClampNeg) r14 hc15) (va_cwS 2 hts gX8_goesOn_X8_apart rfl rfl rfl kdX8_apart ⟨Nat.le_of_ble_eq_true rfl, Nat.le_of_ble_eq_true rfl⟩) (bb_preS (hP.sub (ws' := []) [] rfl) hK) rfl rfl hl.1 rfl (lv_room (Nat.le_of_ble_eq_true rfl)) dX8_goesOn_47 ⟨Nat.zero_le _, Nat.zero_le _⟩) (fun t16 et16 => ?_)
        obtain rfl := et16
        refine lv_iconst (v := (1 : Int32)) hx hb dX8_goesOn_50 (by decide) ?_
        refine lv_icmp_ne (tgt := 58) hx hb dX8_goesOn_51 (by decide) (fun c17 => ?_) (fun c17 => ?_)
        · replace h := bb_ifn c17 h
          refine lv_iconst (v := (0 : Int32)) hx hb dX8_goesOn_58 (by decide) ?_
          obtain rfl := bb_some1 h
          exact W.zret hx hb hr (by decide) (fun t ht hW => ⟨_, rfl, ⟨rfl, (by decide)⟩, ht⟩) (fun q hq => by cases hq) dX8_goesOn_59
        · replace h := bb_ifp c17 h
          refine lv_iconst (v := (1 : Int32)) hx hb dX8_goesOn_54 (by decide) ?_
          refine lv_goto (tgt := 59) hx hb dX8_goesOn_55 (by decide) ?_
          obtain rfl := bb_some1 h
          exact W.zret hx hb hr (by decide) (fun t ht hW => ⟨_, rfl, ⟨rfl, (by decide)⟩, ht⟩) (fun q hq => by cases hq) dX8_goesOn_59
    · replace h := bb_ifn c11 h
      refine lv_iconst (v := (0 : Int32)) hx hb dX8_goesOn_27 (by decide) ?_
      obtain rfl := bb_some1 h
      exact W.zret hx hb hr (by decide) (fun t ht hW => ⟨_, rfl, ⟨rfl, (by decide)⟩, ht⟩) (fun q hq => by cases hq) dX8_goesOn_28
/-! X8_judge -/
def uX8_judge_s18 (nn : Nat) (x1_10 : Int32) (f_t_number_13 : Nat → Int32) (f_t_s_14 : Nat → Int32) (f_t_sizeOf_15 : Nat → Int32) (k_43 : Int32 → Option (Int32 × (Nat → Int32))) (rec16 : Int32 → Option (Int32 × (Nat → Int32))) (x3_9 : Int32) : Option (Int32 × (Nat → Int32)) :=
  bb_ix x1_10 4 ((if (f_t_sizeOf_15 x1_10.toNatClampNeg) ≤ x3_9 then k_43 x3_9 else bb_b1 (uX8_goesOn nn x1_10 x3_9 f_t_number_13 f_t_s_14) (fun (r21 : Int32) => (if r21 = 0 then k_43 x3_9 else rec16 (x3_9 + (1 : Int32))))))
def uX8_judge (nn : Nat) (p1 : Int32) (f_t_bitsOf : Nat → Int32) (f_t_found : Nat → Int32) (f_t_number : Nat → Int32) (f_t_s : Nat → Int32) (f_t_sizeOf : Nat → Int32) : Option (Int32 × (Nat → Int32)) :=
  bb_b1 (uX8_lacks p1 f_t_bitsOf) (fun (r1 : Int32) => (if r1 < 0 then bb_cut (fun (x3_5 : Int32) => bb_ix p1 4 ((if x3_5 = (f_t_sizeOf p1.toNatClampNeg) then some ((0 : Int32), f_t_found) else some (x3_5 + (1 : Int32), f_t_found)))) (fun k6 => bb_loop1 (uX8_judge_s18 nn p1 f_t_number f_t_s f_t_sizeOf k6) nn (0 : Int32)) else bb_b2 (uX8_finds r1 f_t_found) (fun (r26 : Int32) (w27 : Nat → Int32) => some (r26, w27))))
theorem kdX8_judge : yX8_judge.cls = RX8 ∧ yX8_judge.cls ≠ "java/lang/invoke/MethodHandle" ∧ yX8_judge.cls ≠ "java/lang/invoke/VarHandle" ∧ (parseMethodDescriptor yX8_judge.desc).map (fun d => d.parameters.length) = some 1 := by decide +kernel
set_option maxHeartbeats 4000000 in
set_option maxRecDepth 100000 in
theorem kX8_judge (l : Launch) (dC : Nat → ClassId) (dI : Nat → Nat → Nat) (cy : Nat → ClassId) (sz : Nat) (a_t : Nat → Nat) (p1 : Int32) (v_t_isKept : Int32) (v_t_bestPost : Int32) (v_t_mostSeen : Int32) (v_t_taped : Int32) (v_t_from : Int32) (v_t_to : Int32) (v_t_isWrong : Int32) (f_t_bitsOf : Nat → Int32) (f_t_found : Nat → Int32) (f_t_number : Nat → Int32) (f_t_s : Nat → Int32) (f_t_sizeOf : Nat → Int32) (nn : Nat) (r : Int32) (f_t_found_o : Nat → Int32) (h : uX8_judge nn p1 f_t_bitsOf f_t_found f_t_number f_t_s f_t_sizeOf = some (r, f_t_found_o)) : Met l yX8_judge wsX8_judge ({ frames := 6, cells := 0, slots := 0, locals := 131 }) (va_Pc [.ref (a_t 0), .int p1] (fun U => U.heap.size = sz ∧ va_P (dC, dI) vwCl [((a_t 0), oX8 a_t v_t_isKept v_t_bestPost v_t_mostSeen v_t_taped v_t_from v_t_to v_t_isWrong), ((a_t 17), .inl (cy 0, 4, .inl f_t_bitsOf)), ((a_t 5), .inl (cy 0, 7, .inl f_t_found)), ((a_t 19), .inl (cy 0, 160, .inl f_t_number)), ((a_t 1), .inl (cy 0, 155, .inl f_t_s)), ((a_t 18), .inl (cy 0, 4, .inl f_t_sizeOf))] U.heap ∧ va_K (dC, dI) vwCl (tyX cy) U ∧ va_D (fun _ => True) [((a_t 0), oX8 a_t v_t_isKept v_t_bestPost v_t_mostSeen v_t_taped v_t_from v_t_to v_t_isWrong), ((a_t 17), .inl (cy 0, 4, .inl f_t_bitsOf)), ((a_t 5), .inl (cy 0, 7, .inl f_t_found)), ((a_t 19), .inl (cy 0, 160, .inl f_t_number)), ((a_t 1), .inl (cy 0, 155, .inl f_t_s)), ((a_t 18), .inl (cy 0, 4, .inl f_t_sizeOf))])) (va_Qi (fun (r2 : Int32) (_ : Unit) => r = r2) (fun _ t => va_P (dC, dI) vwCl [((a_t 0), oX8 a_t v_t_isKept v_t_bestPost v_t_mostSeen v_t_taped v_t_from v_t_to v_t_isWrong), ((a_t 17), .inl (cy 0, 4, .inl f_t_bitsOf)), ((a_t 5), .inl (cy 0, 7, .inl f_t_found_o)), ((a_t 19), .inl (cy 0, 160, .inl f_t_number)), ((a_t 1), .inl (cy 0, 155, .inl f_t_s)), ((a_t 18), .inl (cy 0, 4, .inl f_t_sizeOf))] t.heap ∧ va_K (dC, dI) vwCl (tyX cy) t ∧ va_D (va_A [((a_t 0), oX8 a_t v_t_isKept v_t_bestPost v_t_mostSeen v_t_taped v_t_from v_t_to v_t_isWrong), ((a_t 17), .inl (cy 0, 4, .inl f_t_bitsOf)), ((a_t 5), .inl (cy 0, 7, .inl f_t_found)), ((a_t 19), .inl (cy 0, 160, .inl f_t_number)), ((a_t 1), .inl (cy 0, 155, .inl f_t_s)), ((a_t 18), .inl (cy 0, 4, .inl f_t_sizeOf))] sz) [((a_t 0), oX8 a_t v_t_isKept v_t_bestPost v_t_mostSeen v_t_taped v_t_from v_t_to v_t_isWrong), ((a_t 17), .inl (cy 0, 4, .inl f_t_bitsOf)), ((a_t 5), .inl (cy 0, 7, .inl f_t_found_o)), ((a_t 19), .inl (cy 0, 160, .inl f_t_number)), ((a_t 1), .inl (cy 0, 155, .inl f_t_s)), ((a_t 18), .inl (cy 0, 4, .inl f_t_sizeOf))]) (va_A [((a_t 0), oX8 a_t v_t_isKept v_t_bestPost v_t_mostSeen v_t_taped v_t_from v_t_to v_t_isWrong), ((a_t 17), .inl (cy 0, 4, .inl f_t_bitsOf)), ((a_t 5), .inl (cy 0, 7, .inl f_t_found)), ((a_t 19), .inl (cy 0, 160, .inl f_t_number)), ((a_t 1), .inl (cy 0, 155, .inl f_t_s)), ((a_t 18), .inl (cy 0, 4, .inl f_t_sizeOf))] sz)) 0 0 (va_A [((a_t 0), oX8 a_t v_t_isKept v_t_bestPost v_t_mostSeen v_t_taped v_t_from v_t_to v_t_isWrong), ((a_t 17), .inl (cy 0, 4, .inl f_t_bitsOf)), ((a_t 5), .inl (cy 0, 7, .inl f_t_found)), ((a_t 19), .inl (cy 0, 160, .inl f_t_number)), ((a_t 1), .inl (cy 0, 155, .inl f_t_s)), ((a_t 18), .inl (cy 0, 4, .inl f_t_sizeOf))] sz) := by
  refine Met.ofW (cc := cX8_judge) (maxL := 4) (ret := (some .int)) (by decide) rfl ?_
  intro p e s m args below meth c s₁ B hml hv
  obtain ⟨rfl, hsz, hP, hK, hD0⟩ := hv
  have hx := B.exec
  have hb := B.bytes
  have hr := B.returns
  have hts := atoms_spec (ws := wsX8_judge) B.pre
  have hown : s.vm.findClass RX8 = some m.cls := findClass_of_methodNamed B.named
  have hlocks := B.notSynchronized
  have iwX8 : ∀ w ∈ wsX80, w ∈ wsX8_judge := fun w h9 => List.mem_cons_of_mem _ (List.mem_append_right _ (h9))
  have lk1 := hts (Cond.fieldLink RX8 42 "BathBorderModel" "sizeOf" "[I") (List.mem_of_getElem? (i := 1) rfl)
  subst hsz
  have hD := hD0.self (sz := s.heap.size)
  generalize hAe : va_A [((a_t 0), oX8 a_t v_t_isKept v_t_bestPost v_t_mostSeen v_t_taped v_t_from v_t_to v_t_isWrong), ((a_t 17), .inl (cy 0, 4, .inl f_t_bitsOf)), ((a_t 5), .inl (cy 0, 7, .inl f_t_found)), ((a_t 19), .inl (cy 0, 160, .inl f_t_number)), ((a_t 1), .inl (cy 0, 155, .inl f_t_s)), ((a_t 18), .inl (cy 0, 4, .inl f_t_sizeOf))] s.heap.size = A at hD ⊢
  have hA : ∀ q : Nat, s.heap.size ≤ q → A q := fun q h => by rw [← hAe]; exact Or.inr h
  have hS : va_S A s.heap s.heap [] := va_S.rf
  have hP : va_P (dC, dI) vwCl [((a_t 0), oX8 a_t v_t_isKept v_t_bestPost v_t_mostSeen v_t_taped v_t_from v_t_to v_t_isWrong), ((a_t 17), .inl (cy 0, 4, .inl f_t_bitsOf)), ((a_t 5), .inl (cy 0, 7, .inl f_t_found)), ((a_t 19), .inl (cy 0, 160, .inl f_t_number)), ((a_t 1), .inl (cy 0, 155, .inl f_t_s)), ((a_t 18), .inl (cy 0, 4, .inl f_t_sizeOf))] s.heap := hP
  have hl := lv_entry ([.ref (a_t 0), .int p1]) (n := 4) (Nat.le_of_ble_eq_true rfl)
  rw [lg_entry_eq]
  generalize (lg_sl ([.ref (a_t 0), .int p1]) ++ List.replicate (4 - (lg_sl ([.ref (a_t 0), .int p1])).length) Slot.unset).toArray = ls at hl ⊢
  have hl : lv_has ls 4 [(0, .ref (a_t 0)), (1, .int p1)] := hl
  unfold uX8_judge at h
  refine bb_cap (fun WW toW ofW => ?_)
  refine lv_aload_n hx hb dX8_judge_0 rfl (lv_at hl 0 rfl) ?_
  refine lv_iload_n hx hb dX8_judge_1 rfl (lv_at hl 1 rfl) ?_
  obtain ⟨r1, hc2, h⟩ := bb_b1_o h
  refine vp_callSi (W.runV (As := [.int p1]) (rest := []) ⟨hx, hb, hml, hown, hts⟩ (kX8_lacks l dC dI cy a_t p1 v_t_isKept v_t_bestPost v_t_mostSeen v_t_taped v_t_from v_t_to v_t_isWrong f_t_bitsOf r1 hc2) (cwV 1 hts gX8_judge_X8_lacks rfl rfl rfl kdX8_lacks ⟨Nat.le_of_ble_eq_true rfl, Nat.le_of_ble_eq_true rfl⟩) (bb_preV (va_recv hK hP (ci := 7) (q0 := 0) rfl rfl) (hP.sub (ws' := [((a_t 0), oX8 a_t v_t_isKept v_t_bestPost v_t_mostSeen v_t_taped v_t_from v_t_to v_t_isWrong), ((a_t 17), .inl (cy 0, 4, .inl f_t_bitsOf))]) [0, 1] rfl) hK) rfl rfl hl.1 rfl (lv_room (Nat.le_of_ble_eq_true rfl)) dX8_judge_2 ⟨Nat.zero_le _, Nat.zero_le _⟩) (fun t3 et3 => ?_)
  obtain rfl := et3
  refine lv_istore_n (lv' := [(2, .int r1), (0, .ref (a_t 0)), (1, .int p1)]) hx hb dX8_judge_5 rfl hl (by decide) rfl (fun ls hl => ?_)
  refine lv_iload_n hx hb dX8_judge_6 rfl (lv_at hl 0 rfl) ?_
  refine lv_if_lt (tgt := 16) hx hb dX8_judge_7 (by decide) (fun c4 => ?_) (fun c4 => ?_)
  · replace h := bb_ifp c4 h
    refine lv_iconst (v := (0 : Int32)) hx hb dX8_judge_16 (by decide) ?_
    refine lv_istore_n (lv' := [(3, .int (0 : Int32)), (2, .int r1), (0, .ref (a_t 0)), (1, .int p1)]) hx hb dX8_judge_17 rfl hl (by decide) rfl (fun ls hl => ?_)
    obtain ⟨k6, ek6, h⟩ := bb_cut_o h
    have Jk6 : ∀ (x3_5 : Int32) (H : Heap) (locs : List Loc) (ls : Array Slot), k6 x3_5 = some (r, f_t_found_o) → va_P (dC, dI) vwCl [((a_t 0), oX8 a_t v_t_isKept v_t_bestPost v_t_mostSeen v_t_taped v_t_from v_t_to v_t_isWrong), ((a_t 17), .inl (cy 0, 4, .inl f_t_bitsOf)), ((a_t 5), .inl (cy 0, 7, .inl f_t_found)), ((a_t 19), .inl (cy 0, 160, .inl f_t_number)), ((a_t 1), .inl (cy 0, 155, .inl f_t_s)), ((a_t 18), .inl (cy 0, 4, .inl f_t_sizeOf))] H → va_D A [((a_t 0), oX8 a_t v_t_isKept v_t_bestPost v_t_mostSeen v_t_taped v_t_from v_t_to v_t_isWrong), ((a_t 17), .inl (cy 0, 4, .inl f_t_bitsOf)), ((a_t 5), .inl (cy 0, 7, .inl f_t_found)), ((a_t 19), .inl (cy 0, 160, .inl f_t_number)), ((a_t 1), .inl (cy 0, 155, .inl f_t_s)), ((a_t 18), .inl (cy 0, 4, .inl f_t_sizeOf))] → va_S A s.heap H locs → lv_has ls 4 [(0, .ref (a_t 0)), (1, .int p1), (3, .int x3_5)] → WW H locs (F0 m 43 ls []) := by
      intro x3_5 H locs ls h hP hD hS hl
      refine ofW _ _ _ ?_
      subst ek6
      refine lv_iload_n hx hb dX8_judge_43 rfl (lv_at hl 2 rfl) ?_
      refine lv_aload_n hx hb dX8_judge_44 rfl (lv_at hl 0 rfl) ?_
      refine va_get (D := (dC, dI)) (ci := 7) (v := .ref (a_t 18)) (C := RX8) (T := TX8) (N := 20) hx hb hts iwX8 hown hK hP 0 rfl rfl 17 (by decide) lk1 (fun _ h9 => h9) rfl dX8_judge_45 ?_
      refine lv_iload_n hx hb dX8_judge_48 rfl (lv_at hl 1 rfl) ?_
      obtain ⟨hi7, h⟩ := bb_ix_o h
      refine va_iald hx hb hK hP 5 0 rfl rfl hi7 dX8_judge_49 ?_
      refine lv_icmp_ne (tgt := 57) hx hb dX8_judge_50 (by decide) (fun c8 => ?_) (fun c8 => ?_)
      · replace h := bb_ifn c8 h
        refine lv_iload_n hx hb dX8_judge_57 rfl (lv_at hl 2 rfl) ?_
        refine lv_iconst (v := (1 : Int32)) hx hb dX8_judge_58 (by decide) ?_
        refine lv_iadd hx hb dX8_judge_59 ?_
        obtain ⟨rfl, rfl⟩ := bb_some2 h
        have hP9 := hP.sub (ws' := [((a_t 0), oX8 a_t v_t_isKept v_t_bestPost v_t_mostSeen v_t_taped v_t_from v_t_to v_t_isWrong), ((a_t 17), .inl (cy 0, 4, .inl f_t_bitsOf)), ((a_t 5), .inl (cy 0, 7, .inl f_t_found)), ((a_t 19), .inl (cy 0, 160, .inl f_t_number)), ((a_t 1), .inl (cy 0, 155, .inl f_t_s)), ((a_t 18), .inl (cy 0, 4, .inl f_t_sizeOf))]) [0, 1, 2, 3, 4, 5] rfl
        have hD9 := hD.sub (ws' := [((a_t 0), oX8 a_t v_t_isKept v_t_bestPost v_t_mostSeen v_t_taped v_t_from v_t_to v_t_isWrong), ((a_t 17), .inl (cy 0, 4, .inl f_t_bitsOf)), ((a_t 5), .inl (cy 0, 7, .inl f_t_found)), ((a_t 19), .inl (cy 0, 160, .inl f_t_number)), ((a_t 1), .inl (cy 0, 155, .inl f_t_s)), ((a_t 18), .inl (cy 0, 4, .inl f_t_sizeOf))]) [0, 1, 2, 3, 4, 5] (by decide) rfl
        exact W.iret hx hb hr (fun t ht hW => ⟨⟨_, (), rfl, rfl, by rw [ht]; exact hP9, va_K.moved hW.alike hK, hD9⟩, hS.F ht⟩) hS.2.2 dX8_judge_60
      · replace h := bb_ifp c8 h
        refine lv_iconst (v := (0 : Int32)) hx hb dX8_judge_53 (by decide) ?_
        refine lv_goto (tgt := 60) hx hb dX8_judge_54 (by decide) ?_
        obtain ⟨rfl, rfl⟩ := bb_some2 h
        have hP9 := hP.sub (ws' := [((a_t 0), oX8 a_t v_t_isKept v_t_bestPost v_t_mostSeen v_t_taped v_t_from v_t_to v_t_isWrong), ((a_t 17), .inl (cy 0, 4, .inl f_t_bitsOf)), ((a_t 5), .inl (cy 0, 7, .inl f_t_found)), ((a_t 19), .inl (cy 0, 160, .inl f_t_number)), ((a_t 1), .inl (cy 0, 155, .inl f_t_s)), ((a_t 18), .inl (cy 0, 4, .inl f_t_sizeOf))]) [0, 1, 2, 3, 4, 5] rfl
        have hD9 := hD.sub (ws' := [((a_t 0), oX8 a_t v_t_isKept v_t_bestPost v_t_mostSeen v_t_taped v_t_from v_t_to v_t_isWrong), ((a_t 17), .inl (cy 0, 4, .inl f_t_bitsOf)), ((a_t 5), .inl (cy 0, 7, .inl f_t_found)), ((a_t 19), .inl (cy 0, 160, .inl f_t_number)), ((a_t 1), .inl (cy 0, 155, .inl f_t_s)), ((a_t 18), .inl (cy 0, 4, .inl f_t_sizeOf))]) [0, 1, 2, 3, 4, 5] (by decide) rfl
        exact W.iret hx hb hr (fun t ht hW => ⟨⟨_, (), rfl, rfl, by rw [ht]; exact hP9, va_K.moved hW.alike hK, hD9⟩, hS.F ht⟩) hS.2.2 dX8_judge_60
    have L17 : ∀ (n : Nat) (x3_9 : Int32) (H : Heap) (locs : List Loc) (ls : Array Slot), bb_loop1 (uX8_judge_s18 nn p1 f_t_number f_t_s f_t_sizeOf k6) n x3_9 = some (r, f_t_found_o) → va_P (dC, dI) vwCl [((a_t 0), oX8 a_t v_t_isKept v_t_bestPost v_t_mostSeen v_t_taped v_t_from v_t_to v_t_isWrong), ((a_t 17), .inl (cy 0, 4, .inl f_t_bitsOf)), ((a_t 5), .inl (cy 0, 7, .inl f_t_found)), ((a_t 19), .inl (cy 0, 160, .inl f_t_number)), ((a_t 1), .inl (cy 0, 155, .inl f_t_s)), ((a_t 18), .inl (cy 0, 4, .inl f_t_sizeOf))] H → va_D A [((a_t 0), oX8 a_t v_t_isKept v_t_bestPost v_t_mostSeen v_t_taped v_t_from v_t_to v_t_isWrong), ((a_t 17), .inl (cy 0, 4, .inl f_t_bitsOf)), ((a_t 5), .inl (cy 0, 7, .inl f_t_found)), ((a_t 19), .inl (cy 0, 160, .inl f_t_number)), ((a_t 1), .inl (cy 0, 155, .inl f_t_s)), ((a_t 18), .inl (cy 0, 4, .inl f_t_sizeOf))] → va_S A s.heap H locs → lv_has ls 4 [(0, .ref (a_t 0)), (1, .int p1), (3, .int x3_9)] → WW H locs (F0 m 18 ls []) := by
      intro n
      induction n with
      | zero => intro x3_9 H locs ls h; exact (bb_no h).elim
      | succ n ih18 =>
        intro x3_9 H locs ls h hP hD hS hl
        refine ofW _ _ _ ?_
        obtain ⟨rec16, erec16, h⟩ := bb_loop1_o h
        unfold uX8_judge_s18 at h
        refine lv_iload_n hx hb dX8_judge_18 rfl (lv_at hl 2 rfl) ?_
        refine lv_aload_n hx hb dX8_judge_19 rfl (lv_at hl 0 rfl) ?_
        refine va_get (D := (dC, dI)) (ci := 7) (v := .ref (a_t 18)) (C := RX8) (T := TX8) (N := 20) hx hb hts iwX8 hown hK hP 0 rfl rfl 17 (by decide) lk1 (fun _ h9 => h9) rfl dX8_judge_20 ?_
        refine lv_iload_n hx hb dX8_judge_23 rfl (lv_at hl 1 rfl) ?_
        obtain ⟨hi19, h⟩ := bb_ix_o h
        refine va_iald hx hb hK hP 5 0 rfl rfl hi19 dX8_judge_24 ?_
        refine lv_icmp_ge (tgt := 43) hx hb dX8_judge_25 (by decide) (fun c20 => ?_) (fun c20 => ?_)
        · replace h := bb_ifp c20 h
          exact toW _ _ _ (Jk6 x3_9 _ _ _ h hP hD hS (lv_sub hl [0, 1, 2] rfl))
        · replace h := bb_ifn c20 h
          refine lv_aload_n hx hb dX8_judge_28 rfl (lv_at hl 0 rfl) ?_
          refine lv_iload_n hx hb dX8_judge_29 rfl (lv_at hl 1 rfl) ?_
          refine lv_iload_n hx hb dX8_judge_30 rfl (lv_at hl 2 rfl) ?_
          obtain ⟨r21, hc22, h⟩ := bb_b1_o h
          refine vp_callSi (W.runV (As := [.int p1, .int x3_9]) (rest := []) ⟨hx, hb, hml, hown, hts⟩ (kX8_goesOn l dC dI cy a_t p1 x3_9 v_t_isKept v_t_bestPost v_t_mostSeen v_t_taped v_t_from v_t_to v_t_isWrong f_t_number f_t_s nn r21 hc22) (cwV 2 hts gX8_judge_X8_goesOn rfl rfl rfl kdX8_goesOn ⟨Nat.le_of_ble_eq_true rfl, Nat.le_of_ble_eq_true rfl⟩) (bb_preV (va_recv hK hP (ci := 7) (q0 := 0) rfl rfl) (hP.sub (ws' := [((a_t 0), oX8 a_t v_t_isKept v_t_bestPost v_t_mostSeen v_t_taped v_t_from v_t_to v_t_isWrong), ((a_t 19), .inl (cy 0, 160, .inl f_t_number)), ((a_t 1), .inl (cy 0, 155, .inl f_t_s))]) [0, 3, 4] rfl) hK) rfl rfl hl.1 rfl (lv_room (Nat.le_of_ble_eq_true rfl)) dX8_judge_31 ⟨Nat.zero_le _, Nat.zero_le _⟩) (fun t23 et23 => ?_)
          obtain ⟨rfl, hz24⟩ := et23
          refine lv_if_eq (tgt := 43) hx hb dX8_judge_34 (by decide) (fun c25 => ?_) (fun c25 => ?_)
          · replace h := bb_ifp c25 h
            exact toW _ _ _ (Jk6 x3_9 _ _ _ h hP hD hS (lv_sub hl [0, 1, 2] rfl))
          · replace h := bb_ifn c25 h
            refine lv_iinc (v := x3_9 + (1 : Int32)) (lv' := [(3, .int (x3_9 + (1 : Int32))), (0, .ref (a_t 0)), (1, .int p1)]) hx hb dX8_judge_37 hl (k := 2) rfl rfl (by decide) rfl (fun ls hl => ?_)
            refine lv_goto (tgt := 18) hx hb dX8_judge_40 (by decide) ?_
            rw [erec16] at h
            exact toW _ _ _ (ih18 (x3_9 + (1 : Int32)) _ _ _ h hP hD hS (lv_sub hl [1, 2, 0] rfl))
    exact toW _ _ _ (L17 nn (0 : Int32) _ _ _ h hP hD hS (lv_sub hl [2, 3, 0] rfl))
  · replace h := bb_ifn c4 h
    refine lv_aload_n hx hb dX8_judge_10 rfl (lv_at hl 1 rfl) ?_
    refine lv_iload_n hx hb dX8_judge_11 rfl (lv_at hl 0 rfl) ?_
    obtain ⟨r26, w27, hc28, h⟩ := bb_b2_o h
    refine bb_cwi (wr := [((a_t 17), .inl (cy 0, 4, .inl f_t_bitsOf)), ((a_t 19), .inl (cy 0, 160, .inl f_t_number)), ((a_t 1), .inl (cy 0, 155, .inl f_t_s)), ((a_t 18), .inl (cy 0, 4, .inl f_t_sizeOf))]) (w1 := [((a_t 0), oX8 a_t v_t_isKept v_t_bestPost v_t_mostSeen v_t_taped v_t_from v_t_to v_t_isWrong), ((a_t 5), .inl (cy 0, 7, .inl w27))]) (va_runV (As := [.int r1]) (rest := []) ⟨hx, hb, hml, hown, hts⟩ (kX8_finds l dC dI cy s.heap.size a_t r1 v_t_isKept v_t_bestPost v_t_mostSeen v_t_taped v_t_from v_t_to v_t_isWrong f_t_found r26 w27 hc28) (cwV 1 hts gX8_judge_X8_finds rfl rfl rfl kdX8_finds ⟨Nat.le_of_ble_eq_true rfl, Nat.le_of_ble_eq_true rfl⟩) (bb_preVw (va_recv hK hP (ci := 7) (q0 := 0) rfl rfl) (hP.sub (ws' := [((a_t 0), oX8 a_t v_t_isKept v_t_bestPost v_t_mostSeen v_t_taped v_t_from v_t_to v_t_isWrong), ((a_t 5), .inl (cy 0, 7, .inl f_t_found))]) [0, 2] rfl) hK (hD.sub (ws' := [((a_t 0), oX8 a_t v_t_isKept v_t_bestPost v_t_mostSeen v_t_taped v_t_from v_t_to v_t_isWrong), ((a_t 5), .inl (cy 0, 7, .inl f_t_found))]) [0, 2] (by decide) rfl)) rfl rfl hl.1 rfl (lv_room (Nat.le_of_ble_eq_true rfl)) dX8_judge_12 ⟨Nat.zero_le _, Nat.zero_le _⟩) hP hD hS hA [0, 2] [1, 3, 4, 5] rfl rfl (by decide) (by decide) (fun H locs hP hD hS => ?_)
    have hP : va_P (dC, dI) vwCl [((a_t 17), .inl (cy 0, 4, .inl f_t_bitsOf)), ((a_t 19), .inl (cy 0, 160, .inl f_t_number)), ((a_t 1), .inl (cy 0, 155, .inl f_t_s)), ((a_t 18), .inl (cy 0, 4, .inl f_t_sizeOf)), ((a_t 0), oX8 a_t v_t_isKept v_t_bestPost v_t_mostSeen v_t_taped v_t_from v_t_to v_t_isWrong), ((a_t 5), .inl (cy 0, 7, .inl w27))] H := hP
    have hD : va_D A [((a_t 17), .inl (cy 0, 4, .inl f_t_bitsOf)), ((a_t 19), .inl (cy 0, 160, .inl f_t_number)), ((a_t 1), .inl (cy 0, 155, .inl f_t_s)), ((a_t 18), .inl (cy 0, 4, .inl f_t_sizeOf)), ((a_t 0), oX8 a_t v_t_isKept v_t_bestPost v_t_mostSeen v_t_taped v_t_from v_t_to v_t_isWrong), ((a_t 5), .inl (cy 0, 7, .inl w27))] := hD
    obtain ⟨rfl, rfl⟩ := bb_some2 h
    have hP9 := hP.sub (ws' := [((a_t 0), oX8 a_t v_t_isKept v_t_bestPost v_t_mostSeen v_t_taped v_t_from v_t_to v_t_isWrong), ((a_t 17), .inl (cy 0, 4, .inl f_t_bitsOf)), ((a_t 5), .inl (cy 0, 7, .inl w27)), ((a_t 19), .inl (cy 0, 160, .inl f_t_number)), ((a_t 1), .inl (cy 0, 155, .inl f_t_s)), ((a_t 18), .inl (cy 0, 4, .inl f_t_sizeOf))]) [4, 0, 5, 1, 2, 3] rfl
    have hD9 := hD.sub (ws' := [((a_t 0), oX8 a_t v_t_isKept v_t_bestPost v_t_mostSeen v_t_taped v_t_from v_t_to v_t_isWrong), ((a_t 17), .inl (cy 0, 4, .inl f_t_bitsOf)), ((a_t 5), .inl (cy 0, 7, .inl w27)), ((a_t 19), .inl (cy 0, 160, .inl f_t_number)), ((a_t 1), .inl (cy 0, 155, .inl f_t_s)), ((a_t 18), .inl (cy 0, 4, .inl f_t_sizeOf))]) [4, 0, 5, 1, 2, 3] (by decide) rfl
    exact W.iret hx hb hr (fun t ht hW => ⟨⟨_, (), rfl, rfl, by rw [ht]; exact hP9, va_K.moved hW.alike hK, hD9⟩, hS.F ht⟩) hS.2.2 dX8_judge_15
/-! X8_image -/
def uX8_image (nn : Nat) (v_t_isKept : Int32) (f_t_kept : Nat → Int32) (f_t_s : Nat → Int32) : Option (Int32 × (Int32) × (Nat → Int32)) :=
  bb_b1 (uX8_become nn f_t_s f_t_kept) (fun (w1 : Nat → Int32) => some ((1 : Int32), (1 : Int32), w1))
theorem kdX8_image : yX8_image.cls = RX8 ∧ yX8_image.cls ≠ "java/lang/invoke/MethodHandle" ∧ yX8_image.cls ≠ "java/lang/invoke/VarHandle" ∧ (parseMethodDescriptor yX8_image.desc).map (fun d => d.parameters.length) = some 0 := by decide +kernel
set_option maxHeartbeats 4000000 in
set_option maxRecDepth 100000 in
theorem kX8_image (l : Launch) (dC : Nat → ClassId) (dI : Nat → Nat → Nat) (cy : Nat → ClassId) (sz : Nat) (a_t : Nat → Nat) (v_t_isKept : Int32) (v_t_bestPost : Int32) (v_t_mostSeen : Int32) (v_t_taped : Int32) (v_t_from : Int32) (v_t_to : Int32) (v_t_isWrong : Int32) (f_t_kept : Nat → Int32) (f_t_s : Nat → Int32) (nn : Nat) (r : Int32) (v_t_isKept_o : Int32) (f_t_kept_o : Nat → Int32) (h : uX8_image nn v_t_isKept f_t_kept f_t_s = some (r, v_t_isKept_o, f_t_kept_o)) : Met l yX8_image wsX8_image ({ frames := 1, cells := 0, slots := 0, locals := 22 }) (va_Pc [.ref (a_t 0)] (fun U => U.heap.size = sz ∧ va_P (dC, dI) vwCl [((a_t 0), oX8 a_t v_t_isKept v_t_bestPost v_t_mostSeen v_t_taped v_t_from v_t_to v_t_isWrong), ((a_t 2), .inl (cy 0, 155, .inl f_t_kept)), ((a_t 1), .inl (cy 0, 155, .inl f_t_s))] U.heap ∧ va_K (dC, dI) vwCl (tyX cy) U ∧ va_D (fun _ => True) [((a_t 0), oX8 a_t v_t_isKept v_t_bestPost v_t_mostSeen v_t_taped v_t_from v_t_to v_t_isWrong), ((a_t 2), .inl (cy 0, 155, .inl f_t_kept)), ((a_t 1), .inl (cy 0, 155, .inl f_t_s))])) (va_Qi (fun (r2 : Int32) (_ : Unit) => r = r2) (fun _ t => va_P (dC, dI) vwCl [((a_t 0), oX8 a_t v_t_isKept_o v_t_bestPost v_t_mostSeen v_t_taped v_t_from v_t_to v_t_isWrong), ((a_t 2), .inl (cy 0, 155, .inl f_t_kept_o)), ((a_t 1), .inl (cy 0, 155, .inl f_t_s))] t.heap ∧ va_K (dC, dI) vwCl (tyX cy) t ∧ va_D (va_A [((a_t 0), oX8 a_t v_t_isKept v_t_bestPost v_t_mostSeen v_t_taped v_t_from v_t_to v_t_isWrong), ((a_t 2), .inl (cy 0, 155, .inl f_t_kept)), ((a_t 1), .inl (cy 0, 155, .inl f_t_s))] sz) [((a_t 0), oX8 a_t v_t_isKept_o v_t_bestPost v_t_mostSeen v_t_taped v_t_from v_t_to v_t_isWrong), ((a_t 2), .inl (cy 0, 155, .inl f_t_kept_o)), ((a_t 1), .inl (cy 0, 155, .inl f_t_s))]) (va_A [((a_t 0), oX8 a_t v_t_isKept v_t_bestPost v_t_mostSeen v_t_taped v_t_from v_t_to v_t_isWrong), ((a_t 2), .inl (cy 0, 155, .inl f_t_kept)), ((a_t 1), .inl (cy 0, 155, .inl f_t_s))] sz)) 0 0 (va_A [((a_t 0), oX8 a_t v_t_isKept v_t_bestPost v_t_mostSeen v_t_taped v_t_from v_t_to v_t_isWrong), ((a_t 2), .inl (cy 0, 155, .inl f_t_kept)), ((a_t 1), .inl (cy 0, 155, .inl f_t_s))] sz) := by
  refine Met.ofW (cc := cX8_image) (maxL := 1) (ret := (some .int)) (by decide) rfl ?_
  intro p e s m args below meth c s₁ B hml hv
  obtain ⟨rfl, hsz, hP, hK, hD0⟩ := hv
  have hx := B.exec
  have hb := B.bytes
  have hr := B.returns
  have hts := atoms_spec (ws := wsX8_image) B.pre
  have hown : s.vm.findClass RX8 = some m.cls := findClass_of_methodNamed B.named
  have hlocks := B.notSynchronized
  have iwX8 : ∀ w ∈ wsX80, w ∈ wsX8_image := fun w h9 => List.mem_cons_of_mem _ (List.mem_append_right _ (h9))
  have lk1 := hts (Cond.fieldLink RX8 9 "BathBorderModel" "s" "[I") (List.mem_of_getElem? (i := 1) rfl)
  have lk2 := hts (Cond.fieldLink RX8 13 "BathBorderModel" "kept" "[I") (List.mem_of_getElem? (i := 2) rfl)
  have lk3 := hts (Cond.fieldLink RX8 363 "BathBorderModel" "isKept" "Z") (List.mem_of_getElem? (i := 3) rfl)
  subst hsz
  have hD := hD0.self (sz := s.heap.size)
  generalize hAe : va_A [((a_t 0), oX8 a_t v_t_isKept v_t_bestPost v_t_mostSeen v_t_taped v_t_from v_t_to v_t_isWrong), ((a_t 2), .inl (cy 0, 155, .inl f_t_kept)), ((a_t 1), .inl (cy 0, 155, .inl f_t_s))] s.heap.size = A at hD ⊢
  have hA : ∀ q : Nat, s.heap.size ≤ q → A q := fun q h => by rw [← hAe]; exact Or.inr h
  have hS : va_S A s.heap s.heap [] := va_S.rf
  have hP : va_P (dC, dI) vwCl [((a_t 0), oX8 a_t v_t_isKept v_t_bestPost v_t_mostSeen v_t_taped v_t_from v_t_to v_t_isWrong), ((a_t 2), .inl (cy 0, 155, .inl f_t_kept)), ((a_t 1), .inl (cy 0, 155, .inl f_t_s))] s.heap := hP
  have hl := lv_entry ([.ref (a_t 0)]) (n := 1) (Nat.le_of_ble_eq_true rfl)
  rw [lg_entry_eq]
  generalize (lg_sl ([.ref (a_t 0)]) ++ List.replicate (1 - (lg_sl ([.ref (a_t 0)])).length) Slot.unset).toArray = ls at hl ⊢
  have hl : lv_has ls 1 [(0, .ref (a_t 0))] := hl
  unfold uX8_image at h
  refine bb_cap (fun WW toW ofW => ?_)
  refine lv_aload_n hx hb dX8_image_0 rfl (lv_at hl 0 rfl) ?_
  refine va_get (D := (dC, dI)) (ci := 7) (v := .ref (a_t 1)) (C := RX8) (T := TX8) (N := 20) hx hb hts iwX8 hown hK hP 0 rfl rfl 0 (by decide) lk1 (fun _ h9 => h9) rfl dX8_image_1 ?_
  refine lv_aload_n hx hb dX8_image_4 rfl (lv_at hl 0 rfl) ?_
  refine va_get (D := (dC, dI)) (ci := 7) (v := .ref (a_t 2)) (C := RX8) (T := TX8) (N := 20) hx hb hts iwX8 hown hK hP 0 rfl rfl 1 (by decide) lk2 (fun _ h9 => h9) rfl dX8_image_5 ?_
  obtain ⟨w1, hc2, h⟩ := bb_b1_o h
  refine bb_cwv (wr := [((a_t 0), oX8 a_t v_t_isKept v_t_bestPost v_t_mostSeen v_t_taped v_t_from v_t_to v_t_isWrong)]) (w1 := [((a_t 1), .inl (cy 0, 155, .inl f_t_s)), ((a_t 2), .inl (cy 0, 155, .inl w1))]) (va_runS (As := [.ref (a_t 1), .ref (a_t 2)]) (rest := []) ⟨hx, hb, hml, hown, hts⟩ (kX8_become l dC dI cy s.heap.size (a_t 1) (a_t 2) f_t_s f_t_kept nn w1 hc2) (va_cwS 2 hts gX8_image_X8_become rfl rfl rfl kdX8_become ⟨Nat.le_of_ble_eq_true rfl, Nat.le_of_ble_eq_true rfl⟩) (bb_preSw (hP.sub (ws' := [((a_t 1), .inl (cy 0, 155, .inl f_t_s)), ((a_t 2), .inl (cy 0, 155, .inl f_t_kept))]) [2, 1] rfl) hK (hD.sub (ws' := [((a_t 1), .inl (cy 0, 155, .inl f_t_s)), ((a_t 2), .inl (cy 0, 155, .inl f_t_kept))]) [2, 1] (by decide) rfl)) rfl rfl hl.1 rfl (lv_room (Nat.le_of_ble_eq_true rfl)) dX8_image_8 ⟨Nat.zero_le _, Nat.zero_le _⟩) hP hD hS hA [2, 1] [0] rfl rfl (by decide) (by decide) (fun H locs hP hD hS => ?_)
  have hP : va_P (dC, dI) vwCl [((a_t 0), oX8 a_t v_t_isKept v_t_bestPost v_t_mostSeen v_t_taped v_t_from v_t_to v_t_isWrong), ((a_t 1), .inl (cy 0, 155, .inl f_t_s)), ((a_t 2), .inl (cy 0, 155, .inl w1))] H := hP
  have hD : va_D A [((a_t 0), oX8 a_t v_t_isKept v_t_bestPost v_t_mostSeen v_t_taped v_t_from v_t_to v_t_isWrong), ((a_t 1), .inl (cy 0, 155, .inl f_t_s)), ((a_t 2), .inl (cy 0, 155, .inl w1))] := hD
  refine lv_aload_n hx hb dX8_image_11 rfl (lv_at hl 0 rfl) ?_
  refine lv_iconst (v := (1 : Int32)) hx hb dX8_image_12 (by decide) ?_
  refine va_put (D := (dC, dI)) (ci := 7) (v := .int (1 : Int32)) (ty := .boolean) (C := RX8) (T := TX8) (N := 20) hx hb hts iwX8 tyX8 tyX8_ok nmX8 hown hK hP hD hS 0 rfl rfl 3 (by decide) lk3 (fun _ h9 => h9) rfl (by decide +kernel) (by decide) rfl (Nat.le_of_ble_eq_true rfl) dX8_image_13 (fun H locs hP hD hS => ?_)
  have hP : va_P (dC, dI) vwCl [((a_t 0), oX8 a_t (1 : Int32) v_t_bestPost v_t_mostSeen v_t_taped v_t_from v_t_to v_t_isWrong), ((a_t 1), .inl (cy 0, 155, .inl f_t_s)), ((a_t 2), .inl (cy 0, 155, .inl w1))] H := hP
  have hD : va_D A [((a_t 0), oX8 a_t (1 : Int32) v_t_bestPost v_t_mostSeen v_t_taped v_t_from v_t_to v_t_isWrong), ((a_t 1), .inl (cy 0, 155, .inl f_t_s)), ((a_t 2), .inl (cy 0, 155, .inl w1))] := hD
  refine lv_iconst (v := (1 : Int32)) hx hb dX8_image_16 (by decide) ?_
  obtain ⟨rfl, rfl, rfl⟩ := bb_some3 h
  have hP9 := hP.sub (ws' := [((a_t 0), oX8 a_t (1 : Int32) v_t_bestPost v_t_mostSeen v_t_taped v_t_from v_t_to v_t_isWrong), ((a_t 2), .inl (cy 0, 155, .inl w1)), ((a_t 1), .inl (cy 0, 155, .inl f_t_s))]) [0, 2, 1] rfl
  have hD9 := hD.sub (ws' := [((a_t 0), oX8 a_t (1 : Int32) v_t_bestPost v_t_mostSeen v_t_taped v_t_from v_t_to v_t_isWrong), ((a_t 2), .inl (cy 0, 155, .inl w1)), ((a_t 1), .inl (cy 0, 155, .inl f_t_s))]) [0, 2, 1] (by decide) rfl
  exact W.iret hx hb hr (fun t ht hW => ⟨⟨_, (), rfl, rfl, by rw [ht]; exact hP9, va_K.moved hW.alike hK, hD9⟩, hS.F ht⟩) hS.2.2 dX8_image_17
/-! X8_undo -/
def uX8_undo (nn : Nat) (v_t_isKept : Int32) (f_t_found : Nat → Int32) (f_t_kept : Nat → Int32) (f_t_s : Nat → Int32) : Option (Int32 × (Nat → Int32) × (Nat → Int32)) :=
  (if v_t_isKept = 0 then bb_b2 (uX8_finds (3 : Int32) f_t_found) (fun (r4 : Int32) (w5 : Nat → Int32) => some (r4, w5, f_t_s)) else bb_b1 (uX8_become nn f_t_kept f_t_s) (fun (w2 : Nat → Int32) => some (w2 (0 : Int32).toNatClampNeg, f_t_found, w2)))
theorem kdX8_undo : yX8_undo.cls = RX8 ∧ yX8_undo.cls ≠ "java/lang/invoke/MethodHandle" ∧ yX8_undo.cls ≠ "java/lang/invoke/VarHandle" ∧ (parseMethodDescriptor yX8_undo.desc).map (fun d => d.parameters.length) = some 0 := by decide +kernel
set_option maxHeartbeats 4000000 in
set_option maxRecDepth 100000 in
theorem kX8_undo (l : Launch) (dC : Nat → ClassId) (dI : Nat → Nat → Nat) (cy : Nat → ClassId) (sz : Nat) (a_t : Nat → Nat) (v_t_isKept : Int32) (v_t_bestPost : Int32) (v_t_mostSeen : Int32) (v_t_taped : Int32) (v_t_from : Int32) (v_t_to : Int32) (v_t_isWrong : Int32) (f_t_found : Nat → Int32) (f_t_kept : Nat → Int32) (f_t_s : Nat → Int32) (nn : Nat) (r : Int32) (f_t_found_o : Nat → Int32) (f_t_s_o : Nat → Int32) (h : uX8_undo nn v_t_isKept f_t_found f_t_kept f_t_s = some (r, f_t_found_o, f_t_s_o)) : Met l yX8_undo wsX8_undo ({ frames := 1, cells := 0, slots := 0, locals := 22 }) (va_Pc [.ref (a_t 0)] (fun U => U.heap.size = sz ∧ va_P (dC, dI) vwCl [((a_t 0), oX8 a_t v_t_isKept v_t_bestPost v_t_mostSeen v_t_taped v_t_from v_t_to v_t_isWrong), ((a_t 5), .inl (cy 0, 7, .inl f_t_found)), ((a_t 2), .inl (cy 0, 155, .inl f_t_kept)), ((a_t 1), .inl (cy 0, 155, .inl f_t_s))] U.heap ∧ va_K (dC, dI) vwCl (tyX cy) U ∧ va_D (fun _ => True) [((a_t 0), oX8 a_t v_t_isKept v_t_bestPost v_t_mostSeen v_t_taped v_t_from v_t_to v_t_isWrong), ((a_t 5), .inl (cy 0, 7, .inl f_t_found)), ((a_t 2), .inl (cy 0, 155, .inl f_t_kept)), ((a_t 1), .inl (cy 0, 155, .inl f_t_s))])) (va_Qi (fun (r2 : Int32) (_ : Unit) => r = r2) (fun _ t => va_P (dC, dI) vwCl [((a_t 0), oX8 a_t v_t_isKept v_t_bestPost v_t_mostSeen v_t_taped v_t_from v_t_to v_t_isWrong), ((a_t 5), .inl (cy 0, 7, .inl f_t_found_o)), ((a_t 2), .inl (cy 0, 155, .inl f_t_kept)), ((a_t 1), .inl (cy 0, 155, .inl f_t_s_o))] t.heap ∧ va_K (dC, dI) vwCl (tyX cy) t ∧ va_D (va_A [((a_t 0), oX8 a_t v_t_isKept v_t_bestPost v_t_mostSeen v_t_taped v_t_from v_t_to v_t_isWrong), ((a_t 5), .inl (cy 0, 7, .inl f_t_found)), ((a_t 2), .inl (cy 0, 155, .inl f_t_kept)), ((a_t 1), .inl (cy 0, 155, .inl f_t_s))] sz) [((a_t 0), oX8 a_t v_t_isKept v_t_bestPost v_t_mostSeen v_t_taped v_t_from v_t_to v_t_isWrong), ((a_t 5), .inl (cy 0, 7, .inl f_t_found_o)), ((a_t 2), .inl (cy 0, 155, .inl f_t_kept)), ((a_t 1), .inl (cy 0, 155, .inl f_t_s_o))]) (va_A [((a_t 0), oX8 a_t v_t_isKept v_t_bestPost v_t_mostSeen v_t_taped v_t_from v_t_to v_t_isWrong), ((a_t 5), .inl (cy 0, 7, .inl f_t_found)), ((a_t 2), .inl (cy 0, 155, .inl f_t_kept)), ((a_t 1), .inl (cy 0, 155, .inl f_t_s))] sz)) 0 0 (va_A [((a_t 0), oX8 a_t v_t_isKept v_t_bestPost v_t_mostSeen v_t_taped v_t_from v_t_to v_t_isWrong), ((a_t 5), .inl (cy 0, 7, .inl f_t_found)), ((a_t 2), .inl (cy 0, 155, .inl f_t_kept)), ((a_t 1), .inl (cy 0, 155, .inl f_t_s))] sz) := by
  refine Met.ofW (cc := cX8_undo) (maxL := 1) (ret := (some .int)) (by decide) rfl ?_
  intro p e s m args below meth c s₁ B hml hv
  obtain ⟨rfl, hsz, hP, hK, hD0⟩ := hv
  have hx := B.exec
  have hb := B.bytes
  have hr := B.returns
  have hts := atoms_spec (ws := wsX8_undo) B.pre
  have hown : s.vm.findClass RX8 = some m.cls := findClass_of_methodNamed B.named
  have hlocks := B.notSynchronized
  have iwX8 : ∀ w ∈ wsX80, w ∈ wsX8_undo := fun w h9 => List.mem_cons_of_mem _ (List.mem_append_right _ (h9))
  have lk1 := hts (Cond.fieldLink RX8 363 "BathBorderModel" "isKept" "Z") (List.mem_of_getElem? (i := 1) rfl)
  have lk2 := hts (Cond.fieldLink RX8 13 "BathBorderModel" "kept" "[I") (List.mem_of_getElem? (i := 2) rfl)
  have lk3 := hts (Cond.fieldLink RX8 9 "BathBorderModel" "s" "[I") (List.mem_of_getElem? (i := 3) rfl)
  subst hsz
  have hD := hD0.self (sz := s.heap.size)
  generalize hAe : va_A [((a_t 0), oX8 a_t v_t_isKept v_t_bestPost v_t_mostSeen v_t_taped v_t_from v_t_to v_t_isWrong), ((a_t 5), .inl (cy 0, 7, .inl f_t_found)), ((a_t 2), .inl (cy 0, 155, .inl f_t_kept)), ((a_t 1), .inl (cy 0, 155, .inl f_t_s))] s.heap.size = A at hD ⊢
  have hA : ∀ q : Nat, s.heap.size ≤ q → A q := fun q h => by rw [← hAe]; exact Or.inr h
  have hS : va_S A s.heap s.heap [] := va_S.rf
  have hP : va_P (dC, dI) vwCl [((a_t 0), oX8 a_t v_t_isKept v_t_bestPost v_t_mostSeen v_t_taped v_t_from v_t_to v_t_isWrong), ((a_t 5), .inl (cy 0, 7, .inl f_t_found)), ((a_t 2), .inl (cy 0, 155, .inl f_t_kept)), ((a_t 1), .inl (cy 0, 155, .inl f_t_s))] s.heap := hP
  have hl := lv_entry ([.ref (a_t 0)]) (n := 1) (Nat.le_of_ble_eq_true rfl)
  rw [lg_entry_eq]
  generalize (lg_sl ([.ref (a_t 0)]) ++ List.replicate (1 - (lg_sl ([.ref (a_t 0)])).length) Slot.unset).toArray = ls at hl ⊢
  have hl : lv_has ls 1 [(0, .ref (a_t 0))] := hl
  unfold uX8_undo at h
  refine bb_cap (fun WW toW ofW => ?_)
  refine lv_aload_n hx hb dX8_undo_0 rfl (lv_at hl 0 rfl) ?_
  refine va_get (D := (dC, dI)) (ci := 7) (v := .int v_t_isKept) (C := RX8) (T := TX8) (N := 20) hx hb hts iwX8 hown hK hP 0 rfl rfl 3 (by decide) lk1 (fun _ h9 => h9) rfl dX8_undo_1 ?_
  refine lv_if_ne (tgt := 13) hx hb dX8_undo_4 (by decide) (fun c1 => ?_) (fun c1 => ?_)
  · replace h := bb_ifn c1 h
    refine lv_aload_n hx hb dX8_undo_13 rfl (lv_at hl 0 rfl) ?_
    refine va_get (D := (dC, dI)) (ci := 7) (v := .ref (a_t 2)) (C := RX8) (T := TX8) (N := 20) hx hb hts iwX8 hown hK hP 0 rfl rfl 1 (by decide) lk2 (fun _ h9 => h9) rfl dX8_undo_14 ?_
    refine lv_aload_n hx hb dX8_undo_17 rfl (lv_at hl 0 rfl) ?_
    refine va_get (D := (dC, dI)) (ci := 7) (v := .ref (a_t 1)) (C := RX8) (T := TX8) (N := 20) hx hb hts iwX8 hown hK hP 0 rfl rfl 0 (by decide) lk3 (fun _ h9 => h9) rfl dX8_undo_18 ?_
    obtain ⟨w2, hc3, h⟩ := bb_b1_o h
    refine bb_cwv (wr := [((a_t 0), oX8 a_t v_t_isKept v_t_bestPost v_t_mostSeen v_t_taped v_t_from v_t_to v_t_isWrong), ((a_t 5), .inl (cy 0, 7, .inl f_t_found))]) (w1 := [((a_t 2), .inl (cy 0, 155, .inl f_t_kept)), ((a_t 1), .inl (cy 0, 155, .inl w2))]) (va_runS (As := [.ref (a_t 2), .ref (a_t 1)]) (rest := []) ⟨hx, hb, hml, hown, hts⟩ (kX8_become l dC dI cy s.heap.size (a_t 2) (a_t 1) f_t_kept f_t_s nn w2 hc3) (va_cwS 2 hts gX8_undo_X8_become rfl rfl rfl kdX8_become ⟨Nat.le_of_ble_eq_true rfl, Nat.le_of_ble_eq_true rfl⟩) (bb_preSw (hP.sub (ws' := [((a_t 2), .inl (cy 0, 155, .inl f_t_kept)), ((a_t 1), .inl (cy 0, 155, .inl f_t_s))]) [2, 3] rfl) hK (hD.sub (ws' := [((a_t 2), .inl (cy 0, 155, .inl f_t_kept)), ((a_t 1), .inl (cy 0, 155, .inl f_t_s))]) [2, 3] (by decide) rfl)) rfl rfl hl.1 rfl (lv_room (Nat.le_of_ble_eq_true rfl)) dX8_undo_21 ⟨Nat.zero_le _, Nat.zero_le _⟩) hP hD hS hA [2, 3] [0, 1] rfl rfl (by decide) (by decide) (fun H locs hP hD hS => ?_)
    have hP : va_P (dC, dI) vwCl [((a_t 0), oX8 a_t v_t_isKept v_t_bestPost v_t_mostSeen v_t_taped v_t_from v_t_to v_t_isWrong), ((a_t 5), .inl (cy 0, 7, .inl f_t_found)), ((a_t 2), .inl (cy 0, 155, .inl f_t_kept)), ((a_t 1), .inl (cy 0, 155, .inl w2))] H := hP
    have hD : va_D A [((a_t 0), oX8 a_t v_t_isKept v_t_bestPost v_t_mostSeen v_t_taped v_t_from v_t_to v_t_isWrong), ((a_t 5), .inl (cy 0, 7, .inl f_t_found)), ((a_t 2), .inl (cy 0, 155, .inl f_t_kept)), ((a_t 1), .inl (cy 0, 155, .inl w2))] := hD
    refine lv_aload_n hx hb dX8_undo_24 rfl (lv_at hl 0 rfl) ?_
    refine va_get (D := (dC, dI)) (ci := 7) (v := .ref (a_t 1)) (C := RX8) (T := TX8) (N := 20) hx hb hts iwX8 hown hK hP 0 rfl rfl 0 (by decide) lk3 (fun _ h9 => h9) rfl dX8_undo_25 ?_
    refine lv_iconst (v := (0 : Int32)) hx hb dX8_undo_28 (by decide) ?_
    refine va_iald hx hb hK hP 3 0 rfl rfl (bb_in (by decide)) dX8_undo_29 ?_
    obtain ⟨rfl, rfl, rfl⟩ := bb_some3 h
    have hP9 := hP.sub (ws' := [((a_t 0), oX8 a_t v_t_isKept v_t_bestPost v_t_mostSeen v_t_taped v_t_from v_t_to v_t_isWrong), ((a_t 5), .inl (cy 0, 7, .inl f_t_found)), ((a_t 2), .inl (cy 0, 155, .inl f_t_kept)), ((a_t 1), .inl (cy 0, 155, .inl w2))]) [0, 1, 2, 3] rfl
    have hD9 := hD.sub (ws' := [((a_t 0), oX8 a_t v_t_isKept v_t_bestPost v_t_mostSeen v_t_taped v_t_from v_t_to v_t_isWrong), ((a_t 5), .inl (cy 0, 7, .inl f_t_found)), ((a_t 2), .inl (cy 0, 155, .inl f_t_kept)), ((a_t 1), .inl (cy 0, 155, .inl w2))]) [0, 1, 2, 3] (by decide) rfl
    exact W.iret hx hb hr (fun t ht hW => ⟨⟨_, (), rfl, rfl, by rw [ht]; exact hP9, va_K.moved hW.alike hK, hD9⟩, hS.F ht⟩) hS.2.2 dX8_undo_30
  · replace h := bb_ifp c1 h
    refine lv_aload_n hx hb dX8_undo_7 rfl (lv_at hl 0 rfl) ?_
    refine lv_iconst (v := (3 : Int32)) hx hb dX8_undo_8 (by decide) ?_
    obtain ⟨r4, w5, hc6, h⟩ := bb_b2_o h
    refine bb_cwi (wr := [((a_t 2), .inl (cy 0, 155, .inl f_t_kept)), ((a_t 1), .inl (cy 0, 155, .inl f_t_s))]) (w1 := [((a_t 0), oX8 a_t v_t_isKept v_t_bestPost v_t_mostSeen v_t_taped v_t_from v_t_to v_t_isWrong), ((a_t 5), .inl (cy 0, 7, .inl w5))]) (va_runV (As := [.int (3 : Int32)]) (rest := []) ⟨hx, hb, hml, hown, hts⟩ (kX8_finds l dC dI cy s.heap.size a_t (3 : Int32) v_t_isKept v_t_bestPost v_t_mostSeen v_t_taped v_t_from v_t_to v_t_isWrong f_t_found r4 w5 hc6) (cwV 1 hts gX8_undo_X8_finds rfl rfl rfl kdX8_finds ⟨Nat.le_of_ble_eq_true rfl, Nat.le_of_ble_eq_true rfl⟩) (bb_preVw (va_recv hK hP (ci := 7) (q0 := 0) rfl rfl) (hP.sub (ws' := [((a_t 0), oX8 a_t v_t_isKept v_t_bestPost v_t_mostSeen v_t_taped v_t_from v_t_to v_t_isWrong), ((a_t 5), .inl (cy 0, 7, .inl f_t_found))]) [0, 1] rfl) hK (hD.sub (ws' := [((a_t 0), oX8 a_t v_t_isKept v_t_bestPost v_t_mostSeen v_t_taped v_t_from v_t_to v_t_isWrong), ((a_t 5), .inl (cy 0, 7, .inl f_t_found))]) [0, 1] (by decide) rfl)) rfl rfl hl.1 rfl (lv_room (Nat.le_of_ble_eq_true rfl)) dX8_undo_9 ⟨Nat.zero_le _, Nat.zero_le _⟩) hP hD hS hA [0, 1] [2, 3] rfl rfl (by decide) (by decide) (fun H locs hP hD hS => ?_)
    have hP : va_P (dC, dI) vwCl [((a_t 2), .inl (cy 0, 155, .inl f_t_kept)), ((a_t 1), .inl (cy 0, 155, .inl f_t_s)), ((a_t 0), oX8 a_t v_t_isKept v_t_bestPost v_t_mostSeen v_t_taped v_t_from v_t_to v_t_isWrong), ((a_t 5), .inl (cy 0, 7, .inl w5))] H := hP
    have hD : va_D A [((a_t 2), .inl (cy 0, 155, .inl f_t_kept)), ((a_t 1), .inl (cy 0, 155, .inl f_t_s)), ((a_t 0), oX8 a_t v_t_isKept v_t_bestPost v_t_mostSeen v_t_taped v_t_from v_t_to v_t_isWrong), ((a_t 5), .inl (cy 0, 7, .inl w5))] := hD
    obtain ⟨rfl, rfl, rfl⟩ := bb_some3 h
    have hP9 := hP.sub (ws' := [((a_t 0), oX8 a_t v_t_isKept v_t_bestPost v_t_mostSeen v_t_taped v_t_from v_t_to v_t_isWrong), ((a_t 5), .inl (cy 0, 7, .inl w5)), ((a_t 2), .inl (cy 0, 155, .inl f_t_kept)), ((a_t 1), .inl (cy 0, 155, .inl f_t_s))]) [2, 3, 0, 1] rfl
    have hD9 := hD.sub (ws' := [((a_t 0), oX8 a_t v_t_isKept v_t_bestPost v_t_mostSeen v_t_taped v_t_from v_t_to v_t_isWrong), ((a_t 5), .inl (cy 0, 7, .inl w5)), ((a_t 2), .inl (cy 0, 155, .inl f_t_kept)), ((a_t 1), .inl (cy 0, 155, .inl f_t_s))]) [2, 3, 0, 1] (by decide) rfl
    exact W.iret hx hb hr (fun t ht hW => ⟨⟨_, (), rfl, rfl, by rw [ht]; exact hP9, va_K.moved hW.alike hK, hD9⟩, hS.F ht⟩) hS.2.2 dX8_undo_12
/-! X8_tear -/
def uX8_tear (v_t_isKept : Int32) : Option (Int32 × (Int32)) :=
  (if v_t_isKept = 0 then some ((0 : Int32), (0 : Int32)) else some ((1 : Int32), (0 : Int32)))
theorem kdX8_tear : yX8_tear.cls = RX8 ∧ yX8_tear.cls ≠ "java/lang/invoke/MethodHandle" ∧ yX8_tear.cls ≠ "java/lang/invoke/VarHandle" ∧ (parseMethodDescriptor yX8_tear.desc).map (fun d => d.parameters.length) = some 0 := by decide +kernel
set_option maxHeartbeats 4000000 in
set_option maxRecDepth 100000 in
theorem kX8_tear (l : Launch) (dC : Nat → ClassId) (dI : Nat → Nat → Nat) (cy : Nat → ClassId) (sz : Nat) (a_t : Nat → Nat) (v_t_isKept : Int32) (v_t_bestPost : Int32) (v_t_mostSeen : Int32) (v_t_taped : Int32) (v_t_from : Int32) (v_t_to : Int32) (v_t_isWrong : Int32) (r : Int32) (v_t_isKept_o : Int32) (h : uX8_tear v_t_isKept = some (r, v_t_isKept_o)) : Met l yX8_tear wsX8_tear ({ frames := 0, cells := 0, slots := 0, locals := 0 }) (va_Pc [.ref (a_t 0)] (fun U => U.heap.size = sz ∧ va_P (dC, dI) vwCl [((a_t 0), oX8 a_t v_t_isKept v_t_bestPost v_t_mostSeen v_t_taped v_t_from v_t_to v_t_isWrong)] U.heap ∧ va_K (dC, dI) vwCl (tyX cy) U ∧ va_D (fun _ => True) [((a_t 0), oX8 a_t v_t_isKept v_t_bestPost v_t_mostSeen v_t_taped v_t_from v_t_to v_t_isWrong)])) (va_Qi (fun (r2 : Int32) (_ : Unit) => r = r2) (fun _ t => va_P (dC, dI) vwCl [((a_t 0), oX8 a_t v_t_isKept_o v_t_bestPost v_t_mostSeen v_t_taped v_t_from v_t_to v_t_isWrong)] t.heap ∧ va_K (dC, dI) vwCl (tyX cy) t ∧ va_D (va_A [((a_t 0), oX8 a_t v_t_isKept v_t_bestPost v_t_mostSeen v_t_taped v_t_from v_t_to v_t_isWrong)] sz) [((a_t 0), oX8 a_t v_t_isKept_o v_t_bestPost v_t_mostSeen v_t_taped v_t_from v_t_to v_t_isWrong)]) (va_A [((a_t 0), oX8 a_t v_t_isKept v_t_bestPost v_t_mostSeen v_t_taped v_t_from v_t_to v_t_isWrong)] sz)) 0 0 (va_A [((a_t 0), oX8 a_t v_t_isKept v_t_bestPost v_t_mostSeen v_t_taped v_t_from v_t_to v_t_isWrong)] sz) := by
  refine Met.ofW (cc := cX8_tear) (maxL := 2) (ret := (some .int)) (by decide) rfl ?_
  intro p e s m args below meth c s₁ B hml hv
  obtain ⟨rfl, hsz, hP, hK, hD0⟩ := hv
  have hx := B.exec
  have hb := B.bytes
  have hr := B.returns
  have hts := atoms_spec (ws := wsX8_tear) B.pre
  have hown : s.vm.findClass RX8 = some m.cls := findClass_of_methodNamed B.named
  have hlocks := B.notSynchronized
  have iwX8 : ∀ w ∈ wsX80, w ∈ wsX8_tear := fun w h9 => List.mem_cons_of_mem _ (List.mem_append_right _ (h9))
  have lk1 := hts (Cond.fieldLink RX8 363 "BathBorderModel" "isKept" "Z") (List.mem_of_getElem? (i := 1) rfl)
  subst hsz
  have hD := hD0.self (sz := s.heap.size)
  generalize hAe : va_A [((a_t 0), oX8 a_t v_t_isKept v_t_bestPost v_t_mostSeen v_t_taped v_t_from v_t_to v_t_isWrong)] s.heap.size = A at hD ⊢
  have hA : ∀ q : Nat, s.heap.size ≤ q → A q := fun q h => by rw [← hAe]; exact Or.inr h
  have hS : va_S A s.heap s.heap [] := va_S.rf
  have hP : va_P (dC, dI) vwCl [((a_t 0), oX8 a_t v_t_isKept v_t_bestPost v_t_mostSeen v_t_taped v_t_from v_t_to v_t_isWrong)] s.heap := hP
  have hl := lv_entry ([.ref (a_t 0)]) (n := 2) (Nat.le_of_ble_eq_true rfl)
  rw [lg_entry_eq]
  generalize (lg_sl ([.ref (a_t 0)]) ++ List.replicate (2 - (lg_sl ([.ref (a_t 0)])).length) Slot.unset).toArray = ls at hl ⊢
  have hl : lv_has ls 2 [(0, .ref (a_t 0))] := hl
  unfold uX8_tear at h
  refine bb_cap (fun WW toW ofW => ?_)
  refine lv_aload_n hx hb dX8_tear_0 rfl (lv_at hl 0 rfl) ?_
  refine va_get (D := (dC, dI)) (ci := 7) (v := .int v_t_isKept) (C := RX8) (T := TX8) (N := 20) hx hb hts iwX8 hown hK hP 0 rfl rfl 3 (by decide) lk1 (fun _ h9 => h9) rfl dX8_tear_1 ?_
  refine lv_if_eq (tgt := 11) hx hb dX8_tear_4 (by decide) (fun c1 => ?_) (fun c1 => ?_)
  · replace h := bb_ifp c1 h
    refine lv_iconst (v := (0 : Int32)) hx hb dX8_tear_11 (by decide) ?_
    refine lv_istore_n (lv' := [(1, .int (0 : Int32)), (0, .ref (a_t 0))]) hx hb dX8_tear_12 rfl hl (by decide) rfl (fun ls hl => ?_)
    refine lv_aload_n hx hb dX8_tear_13 rfl (lv_at hl 1 rfl) ?_
    refine lv_iconst (v := (0 : Int32)) hx hb dX8_tear_14 (by decide) ?_
    refine va_put (D := (dC, dI)) (ci := 7) (v := .int (0 : Int32)) (ty := .boolean) (C := RX8) (T := TX8) (N := 20) hx hb hts iwX8 tyX8 tyX8_ok nmX8 hown hK hP hD hS 0 rfl rfl 3 (by decide) lk1 (fun _ h9 => h9) rfl (by decide +kernel) (by decide) rfl (Nat.le_of_ble_eq_true rfl) dX8_tear_15 (fun H locs hP hD hS => ?_)
    have hP : va_P (dC, dI) vwCl [((a_t 0), oX8 a_t (0 : Int32) v_t_bestPost v_t_mostSeen v_t_taped v_t_from v_t_to v_t_isWrong)] H := hP
    have hD : va_D A [((a_t 0), oX8 a_t (0 : Int32) v_t_bestPost v_t_mostSeen v_t_taped v_t_from v_t_to v_t_isWrong)] := hD
    refine lv_iload_n hx hb dX8_tear_18 rfl (lv_at hl 0 rfl) ?_
    obtain ⟨rfl, rfl⟩ := bb_some2 h
    have hP9 := hP.sub (ws' := [((a_t 0), oX8 a_t (0 : Int32) v_t_bestPost v_t_mostSeen v_t_taped v_t_from v_t_to v_t_isWrong)]) [0] rfl
    have hD9 := hD.sub (ws' := [((a_t 0), oX8 a_t (0 : Int32) v_t_bestPost v_t_mostSeen v_t_taped v_t_from v_t_to v_t_isWrong)]) [0] (by decide) rfl
    exact W.iret hx hb hr (fun t ht hW => ⟨⟨_, (), rfl, rfl, by rw [ht]; exact hP9, va_K.moved hW.alike hK, hD9⟩, hS.F ht⟩) hS.2.2 dX8_tear_19
  · replace h := bb_ifn c1 h
    refine lv_iconst (v := (1 : Int32)) hx hb dX8_tear_7 (by decide) ?_
    refine lv_goto (tgt := 12) hx hb dX8_tear_8 (by decide) ?_
    refine lv_istore_n (lv' := [(1, .int (1 : Int32)), (0, .ref (a_t 0))]) hx hb dX8_tear_12 rfl hl (by decide) rfl (fun ls hl => ?_)
    refine lv_aload_n hx hb dX8_tear_13 rfl (lv_at hl 1 rfl) ?_
    refine lv_iconst (v := (0 : Int32)) hx hb dX8_tear_14 (by decide) ?_
    refine va_put (D := (dC, dI)) (ci := 7) (v := .int (0 : Int32)) (ty := .boolean) (C := RX8) (T := TX8) (N := 20) hx hb hts iwX8 tyX8 tyX8_ok nmX8 hown hK hP hD hS 0 rfl rfl 3 (by decide) lk1 (fun _ h9 => h9) rfl (by decide +kernel) (by decide) rfl (Nat.le_of_ble_eq_true rfl) dX8_tear_15 (fun H locs hP hD hS => ?_)
    have hP : va_P (dC, dI) vwCl [((a_t 0), oX8 a_t (0 : Int32) v_t_bestPost v_t_mostSeen v_t_taped v_t_from v_t_to v_t_isWrong)] H := hP
    have hD : va_D A [((a_t 0), oX8 a_t (0 : Int32) v_t_bestPost v_t_mostSeen v_t_taped v_t_from v_t_to v_t_isWrong)] := hD
    refine lv_iload_n hx hb dX8_tear_18 rfl (lv_at hl 0 rfl) ?_
    obtain ⟨rfl, rfl⟩ := bb_some2 h
    have hP9 := hP.sub (ws' := [((a_t 0), oX8 a_t (0 : Int32) v_t_bestPost v_t_mostSeen v_t_taped v_t_from v_t_to v_t_isWrong)]) [0] rfl
    have hD9 := hD.sub (ws' := [((a_t 0), oX8 a_t (0 : Int32) v_t_bestPost v_t_mostSeen v_t_taped v_t_from v_t_to v_t_isWrong)]) [0] (by decide) rfl
    exact W.iret hx hb hr (fun t ht hW => ⟨⟨_, (), rfl, rfl, by rw [ht]; exact hP9, va_K.moved hW.alike hK, hD9⟩, hS.F ht⟩) hS.2.2 dX8_tear_19
/-! X8_allSteam -/
def uX8_allSteam_s4 (f_t_s_3 : Nat → Int32) (rec4 : Int32 → Int32 → Option (Int32)) (x1_1 : Int32) (x2_2 : Int32) : Option (Int32) :=
  (if (48 : Int32) ≤ x2_2 then some x1_1 else bb_ix ((9 : Int32) + x2_2) 155 (rec4 (x1_1 + (f_t_s_3 ((9 : Int32) + x2_2).toNatClampNeg)) (x2_2 + (1 : Int32))))
def uX8_allSteam (nn : Nat) (f_t_s : Nat → Int32) : Option (Int32) :=
  bb_loop2 (uX8_allSteam_s4 f_t_s) nn (0 : Int32) (0 : Int32)
theorem kdX8_allSteam : yX8_allSteam.cls = RX8 ∧ yX8_allSteam.cls ≠ "java/lang/invoke/MethodHandle" ∧ yX8_allSteam.cls ≠ "java/lang/invoke/VarHandle" ∧ (parseMethodDescriptor yX8_allSteam.desc).map (fun d => d.parameters.length) = some 0 := by decide +kernel
set_option maxHeartbeats 4000000 in
set_option maxRecDepth 100000 in
theorem kX8_allSteam (l : Launch) (dC : Nat → ClassId) (dI : Nat → Nat → Nat) (cy : Nat → ClassId) (a_t : Nat → Nat) (v_t_isKept : Int32) (v_t_bestPost : Int32) (v_t_mostSeen : Int32) (v_t_taped : Int32) (v_t_from : Int32) (v_t_to : Int32) (v_t_isWrong : Int32) (f_t_s : Nat → Int32) (nn : Nat) (r : Int32) (h : uX8_allSteam nn f_t_s = some r) : Met l yX8_allSteam wsX8_allSteam ({ frames := 0, cells := 0, slots := 0, locals := 0 }) (va_Pc [.ref (a_t 0)] (fun U => va_P (dC, dI) vwCl [((a_t 0), oX8 a_t v_t_isKept v_t_bestPost v_t_mostSeen v_t_taped v_t_from v_t_to v_t_isWrong), ((a_t 1), .inl (cy 0, 155, .inl f_t_s))] U.heap ∧ va_K (dC, dI) vwCl (tyX cy) U)) (vp_Si (fun r2 => r = r2)) 0 0 (fun _ => False) := by
  refine Met.ofW (cc := cX8_allSteam) (maxL := 3) (ret := (some .int)) (by decide) rfl ?_
  intro p e s m args below meth c s₁ B hml hv
  obtain ⟨rfl, hP, hK⟩ := hv
  have hx := B.exec
  have hb := B.bytes
  have hr := B.returns
  have hts := atoms_spec (ws := wsX8_allSteam) B.pre
  have hown : s.vm.findClass RX8 = some m.cls := findClass_of_methodNamed B.named
  have hlocks := B.notSynchronized
  have iwX8 : ∀ w ∈ wsX80, w ∈ wsX8_allSteam := fun w h9 => List.mem_cons_of_mem _ (List.mem_append_right _ (h9))
  have lk1 := hts (Cond.fieldLink RX8 9 "BathBorderModel" "s" "[I") (List.mem_of_getElem? (i := 1) rfl)
  have hl := lv_entry ([.ref (a_t 0)]) (n := 3) (Nat.le_of_ble_eq_true rfl)
  rw [lg_entry_eq]
  generalize (lg_sl ([.ref (a_t 0)]) ++ List.replicate (3 - (lg_sl ([.ref (a_t 0)])).length) Slot.unset).toArray = ls at hl ⊢
  have hl : lv_has ls 3 [(0, .ref (a_t 0))] := hl
  unfold uX8_allSteam at h
  refine bb_cap (fun WW toW ofW => ?_)
  refine lv_iconst (v := (0 : Int32)) hx hb dX8_allSteam_0 (by decide) ?_
  refine lv_istore_n (lv' := [(1, .int (0 : Int32)), (0, .ref (a_t 0))]) hx hb dX8_allSteam_1 rfl hl (by decide) rfl (fun ls hl => ?_)
  refine lv_iconst (v := (0 : Int32)) hx hb dX8_allSteam_2 (by decide) ?_
  refine lv_istore_n (lv' := [(2, .int (0 : Int32)), (1, .int (0 : Int32)), (0, .ref (a_t 0))]) hx hb dX8_allSteam_3 rfl hl (by decide) rfl (fun ls hl => ?_)
  have L5 : ∀ (n : Nat) (x1_1 : Int32) (x2_2 : Int32) (ls : Array Slot), bb_loop2 (uX8_allSteam_s4 f_t_s) n x1_1 x2_2 = some r → lv_has ls 3 [(0, .ref (a_t 0)), (1, .int x1_1), (2, .int x2_2)] → WW s.heap [] (F0 m 4 ls []) := by
    intro n
    induction n with
    | zero => intro x1_1 x2_2 ls h; exact (bb_no h).elim
    | succ n ih6 =>
      intro x1_1 x2_2 ls h hl
      refine ofW _ _ _ ?_
      obtain ⟨rec4, erec4, h⟩ := bb_loop2_o h
      unfold uX8_allSteam_s4 at h
      refine lv_iload_n hx hb dX8_allSteam_4 rfl (lv_at hl 2 rfl) ?_
      refine lv_bipush (v := (48 : Int32)) hx hb dX8_allSteam_5 (by decide) ?_
      refine lv_icmp_ge (tgt := 28) hx hb dX8_allSteam_7 (by decide) (fun c7 => ?_) (fun c7 => ?_)
      · replace h := bb_ifp c7 h
        refine lv_iload_n hx hb dX8_allSteam_28 rfl (lv_at hl 1 rfl) ?_
        obtain rfl := bb_some1 h
        exact W.iret hx hb hr (fun t ht hW => ⟨_, rfl, rfl, ht⟩) (fun q hq => by cases hq) dX8_allSteam_29
      · replace h := bb_ifn c7 h
        refine lv_iload_n hx hb dX8_allSteam_10 rfl (lv_at hl 1 rfl) ?_
        refine lv_aload_n hx hb dX8_allSteam_11 rfl (lv_at hl 0 rfl) ?_
        refine va_get (D := (dC, dI)) (ci := 7) (v := .ref (a_t 1)) (C := RX8) (T := TX8) (N := 20) hx hb hts iwX8 hown hK hP 0 rfl rfl 0 (by decide) lk1 (fun _ h9 => h9) rfl dX8_allSteam_12 ?_
        refine lv_bipush (v := (9 : Int32)) hx hb dX8_allSteam_15 (by decide) ?_
        refine lv_iload_n hx hb dX8_allSteam_17 rfl (lv_at hl 2 rfl) ?_
        refine lv_iadd hx hb dX8_allSteam_18 ?_
        obtain ⟨hi8, h⟩ := bb_ix_o h
        refine va_iald hx hb hK hP 1 0 rfl rfl hi8 dX8_allSteam_19 ?_
        refine lv_iadd hx hb dX8_allSteam_20 ?_
        refine lv_istore_n (lv' := [(1, .int (x1_1 + (f_t_s ((9 : Int32) + x2_2).toNatClampNeg))), (0, .ref (a_t 0)), (2, .int x2_2)]) hx hb dX8_allSteam_21 rfl hl (by decide) rfl (fun ls hl => ?_)
        refine lv_iinc (v := x2_2 + (1 : Int32)) (lv' := [(2, .int (x2_2 + (1 : Int32))), (1, .int (x1_1 + (f_t_s ((9 : Int32) + x2_2).toNatClampNeg))), (0, .ref (a_t 0))]) hx hb dX8_allSteam_22 hl (k := 2) rfl rfl (by decide) rfl (fun ls hl => ?_)
        refine lv_goto (tgt := 4) hx hb dX8_allSteam_25 (by decide) ?_
        rw [erec4] at h
        exact toW _ _ _ (ih6 (x1_1 + (f_t_s ((9 : Int32) + x2_2).toNatClampNeg)) (x2_2 + (1 : Int32)) _ h (lv_sub hl [2, 1, 0] rfl))
  exact toW _ _ _ (L5 nn (0 : Int32) (0 : Int32) _ h (lv_sub hl [2, 1, 0] rfl))
/-! X8_held -/
def uX8_held_s4 (f_t_s_3 : Nat → Int32) (rec4 : Int32 → Int32 → Option (Int32)) (x1_1 : Int32) (x2_2 : Int32) : Option (Int32) :=
  (if (10 : Int32) ≤ x2_2 then some x1_1 else bb_ix ((145 : Int32) + x2_2) 155 (bb_cut (fun (z9 : Int32) => rec4 (x1_1 + z9) (x2_2 + (1 : Int32))) (fun k10 => (if 0 ≤ (f_t_s_3 ((145 : Int32) + x2_2).toNatClampNeg) then k10 (1 : Int32) else k10 (0 : Int32)))))
def uX8_held (nn : Nat) (f_t_s : Nat → Int32) : Option (Int32) :=
  bb_loop2 (uX8_held_s4 f_t_s) nn (0 : Int32) (0 : Int32)
theorem kdX8_held : yX8_held.cls = RX8 ∧ yX8_held.cls ≠ "java/lang/invoke/MethodHandle" ∧ yX8_held.cls ≠ "java/lang/invoke/VarHandle" ∧ (parseMethodDescriptor yX8_held.desc).map (fun d => d.parameters.length) = some 0 := by decide +kernel
set_option maxHeartbeats 4000000 in
set_option maxRecDepth 100000 in
theorem kX8_held (l : Launch) (dC : Nat → ClassId) (dI : Nat → Nat → Nat) (cy : Nat → ClassId) (a_t : Nat → Nat) (v_t_isKept : Int32) (v_t_bestPost : Int32) (v_t_mostSeen : Int32) (v_t_taped : Int32) (v_t_from : Int32) (v_t_to : Int32) (v_t_isWrong : Int32) (f_t_s : Nat → Int32) (nn : Nat) (r : Int32) (h : uX8_held nn f_t_s = some r) : Met l yX8_held wsX8_held ({ frames := 0, cells := 0, slots := 0, locals := 0 }) (va_Pc [.ref (a_t 0)] (fun U => va_P (dC, dI) vwCl [((a_t 0), oX8 a_t v_t_isKept v_t_bestPost v_t_mostSeen v_t_taped v_t_from v_t_to v_t_isWrong), ((a_t 1), .inl (cy 0, 155, .inl f_t_s))] U.heap ∧ va_K (dC, dI) vwCl (tyX cy) U)) (vp_Si (fun r2 => r = r2)) 0 0 (fun _ => False) := by
  refine Met.ofW (cc := cX8_held) (maxL := 3) (ret := (some .int)) (by decide) rfl ?_
  intro p e s m args below meth c s₁ B hml hv
  obtain ⟨rfl, hP, hK⟩ := hv
  have hx := B.exec
  have hb := B.bytes
  have hr := B.returns
  have hts := atoms_spec (ws := wsX8_held) B.pre
  have hown : s.vm.findClass RX8 = some m.cls := findClass_of_methodNamed B.named
  have hlocks := B.notSynchronized
  have iwX8 : ∀ w ∈ wsX80, w ∈ wsX8_held := fun w h9 => List.mem_cons_of_mem _ (List.mem_append_right _ (h9))
  have lk1 := hts (Cond.fieldLink RX8 9 "BathBorderModel" "s" "[I") (List.mem_of_getElem? (i := 1) rfl)
  have hl := lv_entry ([.ref (a_t 0)]) (n := 3) (Nat.le_of_ble_eq_true rfl)
  rw [lg_entry_eq]
  generalize (lg_sl ([.ref (a_t 0)]) ++ List.replicate (3 - (lg_sl ([.ref (a_t 0)])).length) Slot.unset).toArray = ls at hl ⊢
  have hl : lv_has ls 3 [(0, .ref (a_t 0))] := hl
  unfold uX8_held at h
  refine bb_cap (fun WW toW ofW => ?_)
  refine lv_iconst (v := (0 : Int32)) hx hb dX8_held_0 (by decide) ?_
  refine lv_istore_n (lv' := [(1, .int (0 : Int32)), (0, .ref (a_t 0))]) hx hb dX8_held_1 rfl hl (by decide) rfl (fun ls hl => ?_)
  refine lv_iconst (v := (0 : Int32)) hx hb dX8_held_2 (by decide) ?_
  refine lv_istore_n (lv' := [(2, .int (0 : Int32)), (1, .int (0 : Int32)), (0, .ref (a_t 0))]) hx hb dX8_held_3 rfl hl (by decide) rfl (fun ls hl => ?_)
  have L5 : ∀ (n : Nat) (x1_1 : Int32) (x2_2 : Int32) (ls : Array Slot), bb_loop2 (uX8_held_s4 f_t_s) n x1_1 x2_2 = some r → lv_has ls 3 [(0, .ref (a_t 0)), (1, .int x1_1), (2, .int x2_2)] → WW s.heap [] (F0 m 4 ls []) := by
    intro n
    induction n with
    | zero => intro x1_1 x2_2 ls h; exact (bb_no h).elim
    | succ n ih6 =>
      intro x1_1 x2_2 ls h hl
      refine ofW _ _ _ ?_
      obtain ⟨rec4, erec4, h⟩ := bb_loop2_o h
      unfold uX8_held_s4 at h
      refine lv_iload_n hx hb dX8_held_4 rfl (lv_at hl 2 rfl) ?_
      refine lv_bipush (v := (10 : Int32)) hx hb dX8_held_5 (by decide) ?_
      refine lv_icmp_ge (tgt := 37) hx hb dX8_held_7 (by decide) (fun c7 => ?_) (fun c7 => ?_)
      · replace h := bb_ifp c7 h
        refine lv_iload_n hx hb dX8_held_37 rfl (lv_at hl 1 rfl) ?_
        obtain rfl := bb_some1 h
        exact W.iret hx hb hr (fun t ht hW => ⟨_, rfl, rfl, ht⟩) (fun q hq => by cases hq) dX8_held_38
      · replace h := bb_ifn c7 h
        refine lv_iload_n hx hb dX8_held_10 rfl (lv_at hl 1 rfl) ?_
        refine lv_aload_n hx hb dX8_held_11 rfl (lv_at hl 0 rfl) ?_
        refine va_get (D := (dC, dI)) (ci := 7) (v := .ref (a_t 1)) (C := RX8) (T := TX8) (N := 20) hx hb hts iwX8 hown hK hP 0 rfl rfl 0 (by decide) lk1 (fun _ h9 => h9) rfl dX8_held_12 ?_
        refine lv_sipush (v := (145 : Int32)) hx hb dX8_held_15 (by decide) ?_
        refine lv_iload_n hx hb dX8_held_18 rfl (lv_at hl 2 rfl) ?_
        refine lv_iadd hx hb dX8_held_19 ?_
        obtain ⟨hi8, h⟩ := bb_ix_o h
        refine va_iald hx hb hK hP 1 0 rfl rfl hi8 dX8_held_20 ?_
        obtain ⟨k10, ek10, h⟩ := bb_cut_o h
        have Jk10 : ∀ (z9 : Int32) (ls : Array Slot), k10 z9 = some r → lv_has ls 3 [(0, .ref (a_t 0)), (2, .int x2_2)] → WW s.heap [] (F0 m 29 ls [.int z9, .int x1_1]) := by
          intro z9 ls h hl
          refine ofW _ _ _ ?_
          subst ek10
          refine lv_iadd hx hb dX8_held_29 ?_
          refine lv_istore_n (lv' := [(1, .int (x1_1 + z9)), (0, .ref (a_t 0)), (2, .int x2_2)]) hx hb dX8_held_30 rfl hl (by decide) rfl (fun ls hl => ?_)
          refine lv_iinc (v := x2_2 + (1 : Int32)) (lv' := [(2, .int (x2_2 + (1 : Int32))), (1, .int (x1_1 + z9)), (0, .ref (a_t 0))]) hx hb dX8_held_31 hl (k := 2) rfl rfl (by decide) rfl (fun ls hl => ?_)
          refine lv_goto (tgt := 4) hx hb dX8_held_34 (by decide) ?_
          rw [erec4] at h
          exact toW _ _ _ (ih6 (x1_1 + z9) (x2_2 + (1 : Int32)) _ h (lv_sub hl [2, 1, 0] rfl))
        refine lv_if_ge (tgt := 28) hx hb dX8_held_21 (by decide) (fun c11 => ?_) (fun c11 => ?_)
        · replace h := bb_ifp c11 h
          refine lv_iconst (v := (1 : Int32)) hx hb dX8_held_28 (by decide) ?_
          exact toW _ _ _ (Jk10 (1 : Int32) _ h (lv_sub hl [0, 2] rfl))
        · replace h := bb_ifn c11 h
          refine lv_iconst (v := (0 : Int32)) hx hb dX8_held_24 (by decide) ?_
          refine lv_goto (tgt := 29) hx hb dX8_held_25 (by decide) ?_
          exact toW _ _ _ (Jk10 (0 : Int32) _ h (lv_sub hl [0, 2] rfl))
  exact toW _ _ _ (L5 nn (0 : Int32) (0 : Int32) _ h (lv_sub hl [2, 1, 0] rfl))
/-! X8_count -/
def uX8_count (nn : Nat) (p1 : Int32) (v_t_taped : Int32) (f_t_found : Nat → Int32) (f_t_s : Nat → Int32) : Option (Int32 × (Nat → Int32)) :=
  (if p1 = (0 : Int32) then some (f_t_s (0 : Int32).toNatClampNeg, f_t_found) else (if p1 = (1 : Int32) then some (f_t_s (1 : Int32).toNatClampNeg, f_t_found) else (if p1 = (2 : Int32) then bb_b1 (uX8_outMany nn f_t_s) (fun (r4 : Int32) => some (r4, f_t_found)) else (if p1 = (3 : Int32) then some (f_t_s (3 : Int32).toNatClampNeg, f_t_found) else (if p1 = (4 : Int32) then bb_b1 (uX8_allSteam nn f_t_s) (fun (r9 : Int32) => some (r9, f_t_found)) else (if p1 = (5 : Int32) then some (v_t_taped, f_t_found) else (if p1 = (6 : Int32) then some (f_t_s (4 : Int32).toNatClampNeg, f_t_found) else (if p1 = (7 : Int32) then bb_b1 (uX8_held nn f_t_s) (fun (r15 : Int32) => some (r15, f_t_found)) else bb_b2 (uX8_finds (0 : Int32) f_t_found) (fun (r26 : Int32) (w27 : Nat → Int32) => some (r26, w27))))))))))
theorem kdX8_count : yX8_count.cls = RX8 ∧ yX8_count.cls ≠ "java/lang/invoke/MethodHandle" ∧ yX8_count.cls ≠ "java/lang/invoke/VarHandle" ∧ (parseMethodDescriptor yX8_count.desc).map (fun d => d.parameters.length) = some 1 := by decide +kernel
set_option maxHeartbeats 4000000 in
set_option maxRecDepth 100000 in
theorem kX8_count (l : Launch) (dC : Nat → ClassId) (dI : Nat → Nat → Nat) (cy : Nat → ClassId) (sz : Nat) (a_t : Nat → Nat) (p1 : Int32) (v_t_isKept : Int32) (v_t_bestPost : Int32) (v_t_mostSeen : Int32) (v_t_taped : Int32) (v_t_from : Int32) (v_t_to : Int32) (v_t_isWrong : Int32) (f_t_found : Nat → Int32) (f_t_s : Nat → Int32) (nn : Nat) (r : Int32) (f_t_found_o : Nat → Int32) (h : uX8_count nn p1 v_t_taped f_t_found f_t_s = some (r, f_t_found_o)) : Met l yX8_count wsX8_count ({ frames := 3, cells := 0, slots := 0, locals := 65 }) (va_Pc [.ref (a_t 0), .int p1] (fun U => U.heap.size = sz ∧ va_P (dC, dI) vwCl [((a_t 0), oX8 a_t v_t_isKept v_t_bestPost v_t_mostSeen v_t_taped v_t_from v_t_to v_t_isWrong), ((a_t 5), .inl (cy 0, 7, .inl f_t_found)), ((a_t 1), .inl (cy 0, 155, .inl f_t_s))] U.heap ∧ va_K (dC, dI) vwCl (tyX cy) U ∧ va_D (fun _ => True) [((a_t 0), oX8 a_t v_t_isKept v_t_bestPost v_t_mostSeen v_t_taped v_t_from v_t_to v_t_isWrong), ((a_t 5), .inl (cy 0, 7, .inl f_t_found)), ((a_t 1), .inl (cy 0, 155, .inl f_t_s))])) (va_Qi (fun (r2 : Int32) (_ : Unit) => r = r2) (fun _ t => va_P (dC, dI) vwCl [((a_t 0), oX8 a_t v_t_isKept v_t_bestPost v_t_mostSeen v_t_taped v_t_from v_t_to v_t_isWrong), ((a_t 5), .inl (cy 0, 7, .inl f_t_found_o)), ((a_t 1), .inl (cy 0, 155, .inl f_t_s))] t.heap ∧ va_K (dC, dI) vwCl (tyX cy) t ∧ va_D (va_A [((a_t 0), oX8 a_t v_t_isKept v_t_bestPost v_t_mostSeen v_t_taped v_t_from v_t_to v_t_isWrong), ((a_t 5), .inl (cy 0, 7, .inl f_t_found)), ((a_t 1), .inl (cy 0, 155, .inl f_t_s))] sz) [((a_t 0), oX8 a_t v_t_isKept v_t_bestPost v_t_mostSeen v_t_taped v_t_from v_t_to v_t_isWrong), ((a_t 5), .inl (cy 0, 7, .inl f_t_found_o)), ((a_t 1), .inl (cy 0, 155, .inl f_t_s))]) (va_A [((a_t 0), oX8 a_t v_t_isKept v_t_bestPost v_t_mostSeen v_t_taped v_t_from v_t_to v_t_isWrong), ((a_t 5), .inl (cy 0, 7, .inl f_t_found)), ((a_t 1), .inl (cy 0, 155, .inl f_t_s))] sz)) 0 0 (va_A [((a_t 0), oX8 a_t v_t_isKept v_t_bestPost v_t_mostSeen v_t_taped v_t_from v_t_to v_t_isWrong), ((a_t 5), .inl (cy 0, 7, .inl f_t_found)), ((a_t 1), .inl (cy 0, 155, .inl f_t_s))] sz) := by
  refine Met.ofW (cc := cX8_count) (maxL := 2) (ret := (some .int)) (by decide) rfl ?_
  intro p e s m args below meth c s₁ B hml hv
  obtain ⟨rfl, hsz, hP, hK, hD0⟩ := hv
  have hx := B.exec
  have hb := B.bytes
  have hr := B.returns
  have hts := atoms_spec (ws := wsX8_count) B.pre
  have hown : s.vm.findClass RX8 = some m.cls := findClass_of_methodNamed B.named
  have hlocks := B.notSynchronized
  have iwX8 : ∀ w ∈ wsX80, w ∈ wsX8_count := fun w h9 => List.mem_cons_of_mem _ (List.mem_append_right _ (h9))
  have lk1 := hts (Cond.fieldLink RX8 9 "BathBorderModel" "s" "[I") (List.mem_of_getElem? (i := 1) rfl)
  have lk2 := hts (Cond.fieldLink RX8 265 "BathBorderModel" "taped" "I") (List.mem_of_getElem? (i := 2) rfl)
  subst hsz
  have hD := hD0.self (sz := s.heap.size)
  generalize hAe : va_A [((a_t 0), oX8 a_t v_t_isKept v_t_bestPost v_t_mostSeen v_t_taped v_t_from v_t_to v_t_isWrong), ((a_t 5), .inl (cy 0, 7, .inl f_t_found)), ((a_t 1), .inl (cy 0, 155, .inl f_t_s))] s.heap.size = A at hD ⊢
  have hA : ∀ q : Nat, s.heap.size ≤ q → A q := fun q h => by rw [← hAe]; exact Or.inr h
  have hS : va_S A s.heap s.heap [] := va_S.rf
  have hP : va_P (dC, dI) vwCl [((a_t 0), oX8 a_t v_t_isKept v_t_bestPost v_t_mostSeen v_t_taped v_t_from v_t_to v_t_isWrong), ((a_t 5), .inl (cy 0, 7, .inl f_t_found)), ((a_t 1), .inl (cy 0, 155, .inl f_t_s))] s.heap := hP
  have hl := lv_entry ([.ref (a_t 0), .int p1]) (n := 2) (Nat.le_of_ble_eq_true rfl)
  rw [lg_entry_eq]
  generalize (lg_sl ([.ref (a_t 0), .int p1]) ++ List.replicate (2 - (lg_sl ([.ref (a_t 0), .int p1])).length) Slot.unset).toArray = ls at hl ⊢
  have hl : lv_has ls 2 [(0, .ref (a_t 0)), (1, .int p1)] := hl
  unfold uX8_count at h
  refine bb_cap (fun WW toW ofW => ?_)
  refine lv_iload_n hx hb dX8_count_0 rfl (lv_at hl 1 rfl) ?_
  by_cases c1 : p1 = (0 : Int32)
  · replace h := bb_ifp c1 h
    refine lv_tableIn (tgt := 48) (off := 47) hx hb dX8_count_1 (by rw [c1]; decide) (by rw [c1]; decide) (by rw [c1]; decide) (by decide) ?_
    refine lv_aload_n hx hb dX8_count_48 rfl (lv_at hl 0 rfl) ?_
    refine va_get (D := (dC, dI)) (ci := 7) (v := .ref (a_t 1)) (C := RX8) (T := TX8) (N := 20) hx hb hts iwX8 hown hK hP 0 rfl rfl 0 (by decide) lk1 (fun _ h9 => h9) rfl dX8_count_49 ?_
    refine lv_iconst (v := (0 : Int32)) hx hb dX8_count_52 (by decide) ?_
    refine va_iald hx hb hK hP 2 0 rfl rfl (bb_in (by decide)) dX8_count_53 ?_
    obtain ⟨rfl, rfl⟩ := bb_some2 h
    have hP9 := hP.sub (ws' := [((a_t 0), oX8 a_t v_t_isKept v_t_bestPost v_t_mostSeen v_t_taped v_t_from v_t_to v_t_isWrong), ((a_t 5), .inl (cy 0, 7, .inl f_t_found)), ((a_t 1), .inl (cy 0, 155, .inl f_t_s))]) [0, 1, 2] rfl
    have hD9 := hD.sub (ws' := [((a_t 0), oX8 a_t v_t_isKept v_t_bestPost v_t_mostSeen v_t_taped v_t_from v_t_to v_t_isWrong), ((a_t 5), .inl (cy 0, 7, .inl f_t_found)), ((a_t 1), .inl (cy 0, 155, .inl f_t_s))]) [0, 1, 2] (by decide) rfl
    exact W.iret hx hb hr (fun t ht hW => ⟨⟨_, (), rfl, rfl, by rw [ht]; exact hP9, va_K.moved hW.alike hK, hD9⟩, hS.F ht⟩) hS.2.2 dX8_count_54
  · replace h := bb_ifn c1 h
    by_cases c2 : p1 = (1 : Int32)
    · replace h := bb_ifp c2 h
      refine lv_tableIn (tgt := 55) (off := 54) hx hb dX8_count_1 (by rw [c2]; decide) (by rw [c2]; decide) (by rw [c2]; decide) (by decide) ?_
      refine lv_aload_n hx hb dX8_count_55 rfl (lv_at hl 0 rfl) ?_
      refine va_get (D := (dC, dI)) (ci := 7) (v := .ref (a_t 1)) (C := RX8) (T := TX8) (N := 20) hx hb hts iwX8 hown hK hP 0 rfl rfl 0 (by decide) lk1 (fun _ h9 => h9) rfl dX8_count_56 ?_
      refine lv_iconst (v := (1 : Int32)) hx hb dX8_count_59 (by decide) ?_
      refine va_iald hx hb hK hP 2 0 rfl rfl (bb_in (by decide)) dX8_count_60 ?_
      obtain ⟨rfl, rfl⟩ := bb_some2 h
      have hP9 := hP.sub (ws' := [((a_t 0), oX8 a_t v_t_isKept v_t_bestPost v_t_mostSeen v_t_taped v_t_from v_t_to v_t_isWrong), ((a_t 5), .inl (cy 0, 7, .inl f_t_found)), ((a_t 1), .inl (cy 0, 155, .inl f_t_s))]) [0, 1, 2] rfl
      have hD9 := hD.sub (ws' := [((a_t 0), oX8 a_t v_t_isKept v_t_bestPost v_t_mostSeen v_t_taped v_t_from v_t_to v_t_isWrong), ((a_t 5), .inl (cy 0, 7, .inl f_t_found)), ((a_t 1), .inl (cy 0, 155, .inl f_t_s))]) [0, 1, 2] (by decide) rfl
      exact W.iret hx hb hr (fun t ht hW => ⟨⟨_, (), rfl, rfl, by rw [ht]; exact hP9, va_K.moved hW.alike hK, hD9⟩, hS.F ht⟩) hS.2.2 dX8_count_61
    · replace h := bb_ifn c2 h
      by_cases c3 : p1 = (2 : Int32)
      · replace h := bb_ifp c3 h
        refine lv_tableIn (tgt := 62) (off := 61) hx hb dX8_count_1 (by rw [c3]; decide) (by rw [c3]; decide) (by rw [c3]; decide) (by decide) ?_
        refine lv_aload_n hx hb dX8_count_62 rfl (lv_at hl 0 rfl) ?_
        obtain ⟨r4, hc5, h⟩ := bb_b1_o h
        refine vp_callSi (W.runV (As := []) (rest := []) ⟨hx, hb, hml, hown, hts⟩ (kX8_outMany l dC dI cy a_t v_t_isKept v_t_bestPost v_t_mostSeen v_t_taped v_t_from v_t_to v_t_isWrong f_t_s nn r4 hc5) (cwV 0 hts gX8_count_X8_outMany rfl rfl rfl kdX8_outMany ⟨Nat.le_of_ble_eq_true rfl, Nat.le_of_ble_eq_true rfl⟩) (bb_preV (va_recv hK hP (ci := 7) (q0 := 0) rfl rfl) (hP.sub (ws' := [((a_t 0), oX8 a_t v_t_isKept v_t_bestPost v_t_mostSeen v_t_taped v_t_from v_t_to v_t_isWrong), ((a_t 1), .inl (cy 0, 155, .inl f_t_s))]) [0, 2] rfl) hK) rfl rfl hl.1 rfl (lv_room (Nat.le_of_ble_eq_true rfl)) dX8_count_63 ⟨Nat.zero_le _, Nat.zero_le _⟩) (fun t6 et6 => ?_)
        obtain rfl := et6
        obtain ⟨rfl, rfl⟩ := bb_some2 h
        have hP9 := hP.sub (ws' := [((a_t 0), oX8 a_t v_t_isKept v_t_bestPost v_t_mostSeen v_t_taped v_t_from v_t_to v_t_isWrong), ((a_t 5), .inl (cy 0, 7, .inl f_t_found)), ((a_t 1), .inl (cy 0, 155, .inl f_t_s))]) [0, 1, 2] rfl
        have hD9 := hD.sub (ws' := [((a_t 0), oX8 a_t v_t_isKept v_t_bestPost v_t_mostSeen v_t_taped v_t_from v_t_to v_t_isWrong), ((a_t 5), .inl (cy 0, 7, .inl f_t_found)), ((a_t 1), .inl (cy 0, 155, .inl f_t_s))]) [0, 1, 2] (by decide) rfl
        exact W.iret hx hb hr (fun t ht hW => ⟨⟨_, (), rfl, rfl, by rw [ht]; exact hP9, va_K.moved hW.alike hK, hD9⟩, hS.F ht⟩) hS.2.2 dX8_count_66
      · replace h := bb_ifn c3 h
        by_cases c7 : p1 = (3 : Int32)
        · replace h := bb_ifp c7 h
          refine lv_tableIn (tgt := 67) (off := 66) hx hb dX8_count_1 (by rw [c7]; decide) (by rw [c7]; decide) (by rw [c7]; decide) (by decide) ?_
          refine lv_aload_n hx hb dX8_count_67 rfl (lv_at hl 0 rfl) ?_
          refine va_get (D := (dC, dI)) (ci := 7) (v := .ref (a_t 1)) (C := RX8) (T := TX8) (N := 20) hx hb hts iwX8 hown hK hP 0 rfl rfl 0 (by decide) lk1 (fun _ h9 => h9) rfl dX8_count_68 ?_
          refine lv_iconst (v := (3 : Int32)) hx hb dX8_count_71 (by decide) ?_
          refine va_iald hx hb hK hP 2 0 rfl rfl (bb_in (by decide)) dX8_count_72 ?_
          obtain ⟨rfl, rfl⟩ := bb_some2 h
          have hP9 := hP.sub (ws' := [((a_t 0), oX8 a_t v_t_isKept v_t_bestPost v_t_mostSeen v_t_taped v_t_from v_t_to v_t_isWrong), ((a_t 5), .inl (cy 0, 7, .inl f_t_found)), ((a_t 1), .inl (cy 0, 155, .inl f_t_s))]) [0, 1, 2] rfl
          have hD9 := hD.sub (ws' := [((a_t 0), oX8 a_t v_t_isKept v_t_bestPost v_t_mostSeen v_t_taped v_t_from v_t_to v_t_isWrong), ((a_t 5), .inl (cy 0, 7, .inl f_t_found)), ((a_t 1), .inl (cy 0, 155, .inl f_t_s))]) [0, 1, 2] (by decide) rfl
          exact W.iret hx hb hr (fun t ht hW => ⟨⟨_, (), rfl, rfl, by rw [ht]; exact hP9, va_K.moved hW.alike hK, hD9⟩, hS.F ht⟩) hS.2.2 dX8_count_73
        · replace h := bb_ifn c7 h
          by_cases c8 : p1 = (4 : Int32)
          · replace h := bb_ifp c8 h
            refine lv_tableIn (tgt := 74) (off := 73) hx hb dX8_count_1 (by rw [c8]; decide) (by rw [c8]; decide) (by rw [c8]; decide) (by decide) ?_
            refine lv_aload_n hx hb dX8_count_74 rfl (lv_at hl 0 rfl) ?_
            obtain ⟨r9, hc10, h⟩ := bb_b1_o h
            refine vp_callSi (W.runV (As := []) (rest := []) ⟨hx, hb, hml, hown, hts⟩ (kX8_allSteam l dC dI cy a_t v_t_isKept v_t_bestPost v_t_mostSeen v_t_taped v_t_from v_t_to v_t_isWrong f_t_s nn r9 hc10) (cwV 0 hts gX8_count_X8_allSteam rfl rfl rfl kdX8_allSteam ⟨Nat.le_of_ble_eq_true rfl, Nat.le_of_ble_eq_true rfl⟩) (bb_preV (va_recv hK hP (ci := 7) (q0 := 0) rfl rfl) (hP.sub (ws' := [((a_t 0), oX8 a_t v_t_isKept v_t_bestPost v_t_mostSeen v_t_taped v_t_from v_t_to v_t_isWrong), ((a_t 1), .inl (cy 0, 155, .inl f_t_s))]) [0, 2] rfl) hK) rfl rfl hl.1 rfl (lv_room (Nat.le_of_ble_eq_true rfl)) dX8_count_75 ⟨Nat.zero_le _, Nat.zero_le _⟩) (fun t11 et11 => ?_)
            obtain rfl := et11
            obtain ⟨rfl, rfl⟩ := bb_some2 h
            have hP9 := hP.sub (ws' := [((a_t 0), oX8 a_t v_t_isKept v_t_bestPost v_t_mostSeen v_t_taped v_t_from v_t_to v_t_isWrong), ((a_t 5), .inl (cy 0, 7, .inl f_t_found)), ((a_t 1), .inl (cy 0, 155, .inl f_t_s))]) [0, 1, 2] rfl
            have hD9 := hD.sub (ws' := [((a_t 0), oX8 a_t v_t_isKept v_t_bestPost v_t_mostSeen v_t_taped v_t_from v_t_to v_t_isWrong), ((a_t 5), .inl (cy 0, 7, .inl f_t_found)), ((a_t 1), .inl (cy 0, 155, .inl f_t_s))]) [0, 1, 2] (by decide) rfl
            exact W.iret hx hb hr (fun t ht hW => ⟨⟨_, (), rfl, rfl, by rw [ht]; exact hP9, va_K.moved hW.alike hK, hD9⟩, hS.F ht⟩) hS.2.2 dX8_count_78
          · replace h := bb_ifn c8 h
            by_cases c12 : p1 = (5 : Int32)
            · replace h := bb_ifp c12 h
              refine lv_tableIn (tgt := 79) (off := 78) hx hb dX8_count_1 (by rw [c12]; decide) (by rw [c12]; decide) (by rw [c12]; decide) (by decide) ?_
              refine lv_aload_n hx hb dX8_count_79 rfl (lv_at hl 0 rfl) ?_
              refine va_get (D := (dC, dI)) (ci := 7) (v := .int v_t_taped) (C := RX8) (T := TX8) (N := 20) hx hb hts iwX8 hown hK hP 0 rfl rfl 12 (by decide) lk2 (fun _ h9 => h9) rfl dX8_count_80 ?_
              obtain ⟨rfl, rfl⟩ := bb_some2 h
              have hP9 := hP.sub (ws' := [((a_t 0), oX8 a_t v_t_isKept v_t_bestPost v_t_mostSeen v_t_taped v_t_from v_t_to v_t_isWrong), ((a_t 5), .inl (cy 0, 7, .inl f_t_found)), ((a_t 1), .inl (cy 0, 155, .inl f_t_s))]) [0, 1, 2] rfl
              have hD9 := hD.sub (ws' := [((a_t 0), oX8 a_t v_t_isKept v_t_bestPost v_t_mostSeen v_t_taped v_t_from v_t_to v_t_isWrong), ((a_t 5), .inl (cy 0, 7, .inl f_t_found)), ((a_t 1), .inl (cy 0, 155, .inl f_t_s))]) [0, 1, 2] (by decide) rfl
              exact W.iret hx hb hr (fun t ht hW => ⟨⟨_, (), rfl, rfl, by rw [ht]; exact hP9, va_K.moved hW.alike hK, hD9⟩, hS.F ht⟩) hS.2.2 dX8_count_83
            · replace h := bb_ifn c12 h
              by_cases c13 : p1 = (6 : Int32)
              · replace h := bb_ifp c13 h
                refine lv_tableIn (tgt := 84) (off := 83) hx hb dX8_count_1 (by rw [c13]; decide) (by rw [c13]; decide) (by rw [c13]; decide) (by decide) ?_
                refine lv_aload_n hx hb dX8_count_84 rfl (lv_at hl 0 rfl) ?_
                refine va_get (D := (dC, dI)) (ci := 7) (v := .ref (a_t 1)) (C := RX8) (T := TX8) (N := 20) hx hb hts iwX8 hown hK hP 0 rfl rfl 0 (by decide) lk1 (fun _ h9 => h9) rfl dX8_count_85 ?_
                refine lv_iconst (v := (4 : Int32)) hx hb dX8_count_88 (by decide) ?_
                refine va_iald hx hb hK hP 2 0 rfl rfl (bb_in (by decide)) dX8_count_89 ?_
                obtain ⟨rfl, rfl⟩ := bb_some2 h
                have hP9 := hP.sub (ws' := [((a_t 0), oX8 a_t v_t_isKept v_t_bestPost v_t_mostSeen v_t_taped v_t_from v_t_to v_t_isWrong), ((a_t 5), .inl (cy 0, 7, .inl f_t_found)), ((a_t 1), .inl (cy 0, 155, .inl f_t_s))]) [0, 1, 2] rfl
                have hD9 := hD.sub (ws' := [((a_t 0), oX8 a_t v_t_isKept v_t_bestPost v_t_mostSeen v_t_taped v_t_from v_t_to v_t_isWrong), ((a_t 5), .inl (cy 0, 7, .inl f_t_found)), ((a_t 1), .inl (cy 0, 155, .inl f_t_s))]) [0, 1, 2] (by decide) rfl
                exact W.iret hx hb hr (fun t ht hW => ⟨⟨_, (), rfl, rfl, by rw [ht]; exact hP9, va_K.moved hW.alike hK, hD9⟩, hS.F ht⟩) hS.2.2 dX8_count_90
              · replace h := bb_ifn c13 h
                by_cases c14 : p1 = (7 : Int32)
                · replace h := bb_ifp c14 h
                  refine lv_tableIn (tgt := 91) (off := 90) hx hb dX8_count_1 (by rw [c14]; decide) (by rw [c14]; decide) (by rw [c14]; decide) (by decide) ?_
                  refine lv_aload_n hx hb dX8_count_91 rfl (lv_at hl 0 rfl) ?_
                  obtain ⟨r15, hc16, h⟩ := bb_b1_o h
                  refine vp_callSi (W.runV (As := []) (rest := []) ⟨hx, hb, hml, hown, hts⟩ (kX8_held l dC dI cy a_t v_t_isKept v_t_bestPost v_t_mostSeen v_t_taped v_t_from v_t_to v_t_isWrong f_t_s nn r15 hc16) (cwV 0 hts gX8_count_X8_held rfl rfl rfl kdX8_held ⟨Nat.le_of_ble_eq_true rfl, Nat.le_of_ble_eq_true rfl⟩) (bb_preV (va_recv hK hP (ci := 7) (q0 := 0) rfl rfl) (hP.sub (ws' := [((a_t 0), oX8 a_t v_t_isKept v_t_bestPost v_t_mostSeen v_t_taped v_t_from v_t_to v_t_isWrong), ((a_t 1), .inl (cy 0, 155, .inl f_t_s))]) [0, 2] rfl) hK) rfl rfl hl.1 rfl (lv_room (Nat.le_of_ble_eq_true rfl)) dX8_count_92 ⟨Nat.zero_le _, Nat.zero_le _⟩) (fun t17 et17 => ?_)
                  obtain rfl := et17
                  obtain ⟨rfl, rfl⟩ := bb_some2 h
                  have hP9 := hP.sub (ws' := [((a_t 0), oX8 a_t v_t_isKept v_t_bestPost v_t_mostSeen v_t_taped v_t_from v_t_to v_t_isWrong), ((a_t 5), .inl (cy 0, 7, .inl f_t_found)), ((a_t 1), .inl (cy 0, 155, .inl f_t_s))]) [0, 1, 2] rfl
                  have hD9 := hD.sub (ws' := [((a_t 0), oX8 a_t v_t_isKept v_t_bestPost v_t_mostSeen v_t_taped v_t_from v_t_to v_t_isWrong), ((a_t 5), .inl (cy 0, 7, .inl f_t_found)), ((a_t 1), .inl (cy 0, 155, .inl f_t_s))]) [0, 1, 2] (by decide) rfl
                  exact W.iret hx hb hr (fun t ht hW => ⟨⟨_, (), rfl, rfl, by rw [ht]; exact hP9, va_K.moved hW.alike hK, hD9⟩, hS.F ht⟩) hS.2.2 dX8_count_95
                · replace h := bb_ifn c14 h
                  have q18 := bb_ne (n := 0) (by decide) c1
                  have q19 := bb_ne (n := 1) (by decide) c2
                  have q20 := bb_ne (n := 2) (by decide) c3
                  have q21 := bb_ne (n := 3) (by decide) c7
                  have q22 := bb_ne (n := 4) (by decide) c8
                  have q23 := bb_ne (n := 5) (by decide) c12
                  have q24 := bb_ne (n := 6) (by decide) c13
                  have q25 := bb_ne (n := 7) (by decide) c14
                  refine lv_tableOut (tgt := 96) hx hb dX8_count_1 (by omega) (by decide) ?_
                  refine lv_aload_n hx hb dX8_count_96 rfl (lv_at hl 0 rfl) ?_
                  refine lv_iconst (v := (0 : Int32)) hx hb dX8_count_97 (by decide) ?_
                  obtain ⟨r26, w27, hc28, h⟩ := bb_b2_o h
                  refine bb_cwi (wr := [((a_t 1), .inl (cy 0, 155, .inl f_t_s))]) (w1 := [((a_t 0), oX8 a_t v_t_isKept v_t_bestPost v_t_mostSeen v_t_taped v_t_from v_t_to v_t_isWrong), ((a_t 5), .inl (cy 0, 7, .inl w27))]) (va_runV (As := [.int (0 : Int32)]) (rest := []) ⟨hx, hb, hml, hown, hts⟩ (kX8_finds l dC dI cy s.heap.size a_t (0 : Int32) v_t_isKept v_t_bestPost v_t_mostSeen v_t_taped v_t_from v_t_to v_t_isWrong f_t_found r26 w27 hc28) (cwV 1 hts gX8_count_X8_finds rfl rfl rfl kdX8_finds ⟨Nat.le_of_ble_eq_true rfl, Nat.le_of_ble_eq_true rfl⟩) (bb_preVw (va_recv hK hP (ci := 7) (q0 := 0) rfl rfl) (hP.sub (ws' := [((a_t 0), oX8 a_t v_t_isKept v_t_bestPost v_t_mostSeen v_t_taped v_t_from v_t_to v_t_isWrong), ((a_t 5), .inl (cy 0, 7, .inl f_t_found))]) [0, 1] rfl) hK (hD.sub (ws' := [((a_t 0), oX8 a_t v_t_isKept v_t_bestPost v_t_mostSeen v_t_taped v_t_from v_t_to v_t_isWrong), ((a_t 5), .inl (cy 0, 7, .inl f_t_found))]) [0, 1] (by decide) rfl)) rfl rfl hl.1 rfl (lv_room (Nat.le_of_ble_eq_true rfl)) dX8_count_98 ⟨Nat.zero_le _, Nat.zero_le _⟩) hP hD hS hA [0, 1] [2] rfl rfl (by decide) (by decide) (fun H locs hP hD hS => ?_)
                  have hP : va_P (dC, dI) vwCl [((a_t 1), .inl (cy 0, 155, .inl f_t_s)), ((a_t 0), oX8 a_t v_t_isKept v_t_bestPost v_t_mostSeen v_t_taped v_t_from v_t_to v_t_isWrong), ((a_t 5), .inl (cy 0, 7, .inl w27))] H := hP
                  have hD : va_D A [((a_t 1), .inl (cy 0, 155, .inl f_t_s)), ((a_t 0), oX8 a_t v_t_isKept v_t_bestPost v_t_mostSeen v_t_taped v_t_from v_t_to v_t_isWrong), ((a_t 5), .inl (cy 0, 7, .inl w27))] := hD
                  obtain ⟨rfl, rfl⟩ := bb_some2 h
                  have hP9 := hP.sub (ws' := [((a_t 0), oX8 a_t v_t_isKept v_t_bestPost v_t_mostSeen v_t_taped v_t_from v_t_to v_t_isWrong), ((a_t 5), .inl (cy 0, 7, .inl w27)), ((a_t 1), .inl (cy 0, 155, .inl f_t_s))]) [1, 2, 0] rfl
                  have hD9 := hD.sub (ws' := [((a_t 0), oX8 a_t v_t_isKept v_t_bestPost v_t_mostSeen v_t_taped v_t_from v_t_to v_t_isWrong), ((a_t 5), .inl (cy 0, 7, .inl w27)), ((a_t 1), .inl (cy 0, 155, .inl f_t_s))]) [1, 2, 0] (by decide) rfl
                  exact W.iret hx hb hr (fun t ht hW => ⟨⟨_, (), rfl, rfl, by rw [ht]; exact hP9, va_K.moved hW.alike hK, hD9⟩, hS.F ht⟩) hS.2.2 dX8_count_101
/-! X8_status -/
def uX8_status_s24 (x1_8 : Int32) (f_t_found_9 : Nat → Int32) (rec10 : Int32 → Int32 → Option (Int32 × (Nat → Int32))) (x2_6 : Int32) (x3_7 : Int32) : Option (Int32 × (Nat → Int32)) :=
  (if (7 : Int32) ≤ x3_7 then some (x2_6, f_t_found_9) else bb_cut (fun (z14 : Int32) => rec10 (x2_6 + z14) (x3_7 + (1 : Int32))) (fun k15 => bb_cut (fun (u16 : Unit) => bb_ix x3_7 7 (k15 (f_t_found_9 x3_7.toNatClampNeg))) (fun k17 => (if x1_8 < 0 then k17 () else (if x1_8 = x3_7 then k17 () else k15 (0 : Int32))))))
def uX8_status (nn : Nat) (p1 : Int32) (f_t_found : Nat → Int32) : Option (Int32 × (Nat → Int32)) :=
  bb_b1 (uX8_in p1.toInt64 (-1 : Int64) (6 : Int64)) (fun (r1 : Int32) => (if r1 = 0 then bb_b2 (uX8_finds (0 : Int32) f_t_found) (fun (r21 : Int32) (w22 : Nat → Int32) => some (r21, w22)) else bb_loop2 (uX8_status_s24 p1 f_t_found) nn (0 : Int32) (0 : Int32)))
theorem kdX8_status : yX8_status.cls = RX8 ∧ yX8_status.cls ≠ "java/lang/invoke/MethodHandle" ∧ yX8_status.cls ≠ "java/lang/invoke/VarHandle" ∧ (parseMethodDescriptor yX8_status.desc).map (fun d => d.parameters.length) = some 1 := by decide +kernel
set_option maxHeartbeats 4000000 in
set_option maxRecDepth 100000 in
theorem kX8_status (l : Launch) (dC : Nat → ClassId) (dI : Nat → Nat → Nat) (cy : Nat → ClassId) (sz : Nat) (a_t : Nat → Nat) (p1 : Int32) (v_t_isKept : Int32) (v_t_bestPost : Int32) (v_t_mostSeen : Int32) (v_t_taped : Int32) (v_t_from : Int32) (v_t_to : Int32) (v_t_isWrong : Int32) (f_t_found : Nat → Int32) (nn : Nat) (r : Int32) (f_t_found_o : Nat → Int32) (h : uX8_status nn p1 f_t_found = some (r, f_t_found_o)) : Met l yX8_status wsX8_status ({ frames := 1, cells := 0, slots := 0, locals := 25 }) (va_Pc [.ref (a_t 0), .int p1] (fun U => U.heap.size = sz ∧ va_P (dC, dI) vwCl [((a_t 0), oX8 a_t v_t_isKept v_t_bestPost v_t_mostSeen v_t_taped v_t_from v_t_to v_t_isWrong), ((a_t 5), .inl (cy 0, 7, .inl f_t_found))] U.heap ∧ va_K (dC, dI) vwCl (tyX cy) U ∧ va_D (fun _ => True) [((a_t 0), oX8 a_t v_t_isKept v_t_bestPost v_t_mostSeen v_t_taped v_t_from v_t_to v_t_isWrong), ((a_t 5), .inl (cy 0, 7, .inl f_t_found))])) (va_Qi (fun (r2 : Int32) (_ : Unit) => r = r2) (fun _ t => va_P (dC, dI) vwCl [((a_t 0), oX8 a_t v_t_isKept v_t_bestPost v_t_mostSeen v_t_taped v_t_from v_t_to v_t_isWrong), ((a_t 5), .inl (cy 0, 7, .inl f_t_found_o))] t.heap ∧ va_K (dC, dI) vwCl (tyX cy) t ∧ va_D (va_A [((a_t 0), oX8 a_t v_t_isKept v_t_bestPost v_t_mostSeen v_t_taped v_t_from v_t_to v_t_isWrong), ((a_t 5), .inl (cy 0, 7, .inl f_t_found))] sz) [((a_t 0), oX8 a_t v_t_isKept v_t_bestPost v_t_mostSeen v_t_taped v_t_from v_t_to v_t_isWrong), ((a_t 5), .inl (cy 0, 7, .inl f_t_found_o))]) (va_A [((a_t 0), oX8 a_t v_t_isKept v_t_bestPost v_t_mostSeen v_t_taped v_t_from v_t_to v_t_isWrong), ((a_t 5), .inl (cy 0, 7, .inl f_t_found))] sz)) 0 0 (va_A [((a_t 0), oX8 a_t v_t_isKept v_t_bestPost v_t_mostSeen v_t_taped v_t_from v_t_to v_t_isWrong), ((a_t 5), .inl (cy 0, 7, .inl f_t_found))] sz) := by
  refine Met.ofW (cc := cX8_status) (maxL := 4) (ret := (some .int)) (by decide) rfl ?_
  intro p e s m args below meth c s₁ B hml hv
  obtain ⟨rfl, hsz, hP, hK, hD0⟩ := hv
  have hx := B.exec
  have hb := B.bytes
  have hr := B.returns
  have hts := atoms_spec (ws := wsX8_status) B.pre
  have hown : s.vm.findClass RX8 = some m.cls := findClass_of_methodNamed B.named
  have hlocks := B.notSynchronized
  have iwX8 : ∀ w ∈ wsX80, w ∈ wsX8_status := fun w h9 => List.mem_cons_of_mem _ (List.mem_append_right _ (h9))
  have lk1 := hts (Cond.constantLong RX8 108 (-1)) (List.mem_of_getElem? (i := 1) rfl)
  have lk2 := hts (Cond.constantLong RX8 115 (6)) (List.mem_of_getElem? (i := 2) rfl)
  have lk3 := hts (Cond.fieldLink RX8 19 "BathBorderModel" "found" "[I") (List.mem_of_getElem? (i := 3) rfl)
  subst hsz
  have hD := hD0.self (sz := s.heap.size)
  generalize hAe : va_A [((a_t 0), oX8 a_t v_t_isKept v_t_bestPost v_t_mostSeen v_t_taped v_t_from v_t_to v_t_isWrong), ((a_t 5), .inl (cy 0, 7, .inl f_t_found))] s.heap.size = A at hD ⊢
  have hA : ∀ q : Nat, s.heap.size ≤ q → A q := fun q h => by rw [← hAe]; exact Or.inr h
  have hS : va_S A s.heap s.heap [] := va_S.rf
  have hP : va_P (dC, dI) vwCl [((a_t 0), oX8 a_t v_t_isKept v_t_bestPost v_t_mostSeen v_t_taped v_t_from v_t_to v_t_isWrong), ((a_t 5), .inl (cy 0, 7, .inl f_t_found))] s.heap := hP
  have hl := lv_entry ([.ref (a_t 0), .int p1]) (n := 4) (Nat.le_of_ble_eq_true rfl)
  rw [lg_entry_eq]
  generalize (lg_sl ([.ref (a_t 0), .int p1]) ++ List.replicate (4 - (lg_sl ([.ref (a_t 0), .int p1])).length) Slot.unset).toArray = ls at hl ⊢
  have hl : lv_has ls 4 [(0, .ref (a_t 0)), (1, .int p1)] := hl
  unfold uX8_status at h
  refine bb_cap (fun WW toW ofW => ?_)
  refine lv_iload_n hx hb dX8_status_0 rfl (lv_at hl 1 rfl) ?_
  refine lv_i2l hx hb dX8_status_1 rfl ?_
  refine lv_ldc2 (v := (-1 : Int64)) hx hb hown lk1 dX8_status_2 ?_
  refine lv_ldc2 (v := (6 : Int64)) hx hb hown lk2 dX8_status_5 ?_
  obtain ⟨r1, hc2, h⟩ := bb_b1_o h
  refine vp_callSi (W.runS (As := [.long p1.toInt64, .long (-1 : Int64), .long (6 : Int64)]) (rest := []) ⟨hx, hb, hml, hown, hts⟩ (kX8_in l dC dI cy p1.toInt64 (-1 : Int64) (6 : Int64) r1 hc2) (va_cwS 3 hts gX8_status_X8_in rfl rfl rfl kdX8_in ⟨Nat.le_of_ble_eq_true rfl, Nat.le_of_ble_eq_true rfl⟩) (bb_preS (hP.sub (ws' := []) [] rfl) hK) rfl rfl hl.1 rfl (lv_room (Nat.le_of_ble_eq_true rfl)) dX8_status_8 ⟨Nat.zero_le _, Nat.zero_le _⟩) (fun t3 et3 => ?_)
  obtain ⟨rfl, hz4⟩ := et3
  refine lv_if_ne (tgt := 20) hx hb dX8_status_11 (by decide) (fun c5 => ?_) (fun c5 => ?_)
  · replace h := bb_ifn c5 h
    refine lv_iconst (v := (0 : Int32)) hx hb dX8_status_20 (by decide) ?_
    refine lv_istore_n (lv' := [(2, .int (0 : Int32)), (0, .ref (a_t 0)), (1, .int p1)]) hx hb dX8_status_21 rfl hl (by decide) rfl (fun ls hl => ?_)
    refine lv_iconst (v := (0 : Int32)) hx hb dX8_status_22 (by decide) ?_
    refine lv_istore_n (lv' := [(3, .int (0 : Int32)), (2, .int (0 : Int32)), (0, .ref (a_t 0)), (1, .int p1)]) hx hb dX8_status_23 rfl hl (by decide) rfl (fun ls hl => ?_)
    have L11 : ∀ (n : Nat) (x2_6 : Int32) (x3_7 : Int32) (H : Heap) (locs : List Loc) (ls : Array Slot), bb_loop2 (uX8_status_s24 p1 f_t_found) n x2_6 x3_7 = some (r, f_t_found_o) → va_P (dC, dI) vwCl [((a_t 0), oX8 a_t v_t_isKept v_t_bestPost v_t_mostSeen v_t_taped v_t_from v_t_to v_t_isWrong), ((a_t 5), .inl (cy 0, 7, .inl f_t_found))] H → va_D A [((a_t 0), oX8 a_t v_t_isKept v_t_bestPost v_t_mostSeen v_t_taped v_t_from v_t_to v_t_isWrong), ((a_t 5), .inl (cy 0, 7, .inl f_t_found))] → va_S A s.heap H locs → lv_has ls 4 [(0, .ref (a_t 0)), (1, .int p1), (2, .int x2_6), (3, .int x3_7)] → WW H locs (F0 m 24 ls []) := by
      intro n
      induction n with
      | zero => intro x2_6 x3_7 H locs ls h; exact (bb_no h).elim
      | succ n ih12 =>
        intro x2_6 x3_7 H locs ls h hP hD hS hl
        refine ofW _ _ _ ?_
        obtain ⟨rec10, erec10, h⟩ := bb_loop2_o h
        unfold uX8_status_s24 at h
        refine lv_iload_n hx hb dX8_status_24 rfl (lv_at hl 3 rfl) ?_
        refine lv_bipush (v := (7 : Int32)) hx hb dX8_status_25 (by decide) ?_
        refine lv_icmp_ge (tgt := 58) hx hb dX8_status_27 (by decide) (fun c13 => ?_) (fun c13 => ?_)
        · replace h := bb_ifp c13 h
          refine lv_iload_n hx hb dX8_status_58 rfl (lv_at hl 2 rfl) ?_
          obtain ⟨rfl, rfl⟩ := bb_some2 h
          have hP9 := hP.sub (ws' := [((a_t 0), oX8 a_t v_t_isKept v_t_bestPost v_t_mostSeen v_t_taped v_t_from v_t_to v_t_isWrong), ((a_t 5), .inl (cy 0, 7, .inl f_t_found))]) [0, 1] rfl
          have hD9 := hD.sub (ws' := [((a_t 0), oX8 a_t v_t_isKept v_t_bestPost v_t_mostSeen v_t_taped v_t_from v_t_to v_t_isWrong), ((a_t 5), .inl (cy 0, 7, .inl f_t_found))]) [0, 1] (by decide) rfl
          exact W.iret hx hb hr (fun t ht hW => ⟨⟨_, (), rfl, rfl, by rw [ht]; exact hP9, va_K.moved hW.alike hK, hD9⟩, hS.F ht⟩) hS.2.2 dX8_status_59
        · replace h := bb_ifn c13 h
          refine lv_iload_n hx hb dX8_status_30 rfl (lv_at hl 2 rfl) ?_
          refine lv_iload_n hx hb dX8_status_31 rfl (lv_at hl 1 rfl) ?_
          obtain ⟨k15, ek15, h⟩ := bb_cut_o h
          have Jk15 : ∀ (z14 : Int32) (H : Heap) (locs : List Loc) (ls : Array Slot), k15 z14 = some (r, f_t_found_o) → va_P (dC, dI) vwCl [((a_t 0), oX8 a_t v_t_isKept v_t_bestPost v_t_mostSeen v_t_taped v_t_from v_t_to v_t_isWrong), ((a_t 5), .inl (cy 0, 7, .inl f_t_found))] H → va_D A [((a_t 0), oX8 a_t v_t_isKept v_t_bestPost v_t_mostSeen v_t_taped v_t_from v_t_to v_t_isWrong), ((a_t 5), .inl (cy 0, 7, .inl f_t_found))] → va_S A s.heap H locs → lv_has ls 4 [(0, .ref (a_t 0)), (1, .int p1), (3, .int x3_7)] → WW H locs (F0 m 50 ls [.int z14, .int x2_6]) := by
            intro z14 H locs ls h hP hD hS hl
            refine ofW _ _ _ ?_
            subst ek15
            refine lv_iadd hx hb dX8_status_50 ?_
            refine lv_istore_n (lv' := [(2, .int (x2_6 + z14)), (0, .ref (a_t 0)), (1, .int p1), (3, .int x3_7)]) hx hb dX8_status_51 rfl hl (by decide) rfl (fun ls hl => ?_)
            refine lv_iinc (v := x3_7 + (1 : Int32)) (lv' := [(3, .int (x3_7 + (1 : Int32))), (2, .int (x2_6 + z14)), (0, .ref (a_t 0)), (1, .int p1)]) hx hb dX8_status_52 hl (k := 3) rfl rfl (by decide) rfl (fun ls hl => ?_)
            refine lv_goto (tgt := 24) hx hb dX8_status_55 (by decide) ?_
            rw [erec10] at h
            exact toW _ _ _ (ih12 (x2_6 + z14) (x3_7 + (1 : Int32)) _ _ _ h hP hD hS (lv_sub hl [2, 3, 1, 0] rfl))
          obtain ⟨k17, ek17, h⟩ := bb_cut_o h
          have Jk17 : ∀ (u16 : Unit) (H : Heap) (locs : List Loc) (ls : Array Slot), k17 u16 = some (r, f_t_found_o) → va_P (dC, dI) vwCl [((a_t 0), oX8 a_t v_t_isKept v_t_bestPost v_t_mostSeen v_t_taped v_t_from v_t_to v_t_isWrong), ((a_t 5), .inl (cy 0, 7, .inl f_t_found))] H → va_D A [((a_t 0), oX8 a_t v_t_isKept v_t_bestPost v_t_mostSeen v_t_taped v_t_from v_t_to v_t_isWrong), ((a_t 5), .inl (cy 0, 7, .inl f_t_found))] → va_S A s.heap H locs → lv_has ls 4 [(0, .ref (a_t 0)), (1, .int p1), (3, .int x3_7)] → WW H locs (F0 m 40 ls [.int x2_6]) := by
            intro u16 H locs ls h hP hD hS hl
            refine ofW _ _ _ ?_
            subst ek17
            refine lv_aload_n hx hb dX8_status_40 rfl (lv_at hl 0 rfl) ?_
            refine va_get (D := (dC, dI)) (ci := 7) (v := .ref (a_t 5)) (C := RX8) (T := TX8) (N := 20) hx hb hts iwX8 hown hK hP 0 rfl rfl 4 (by decide) lk3 (fun _ h9 => h9) rfl dX8_status_41 ?_
            refine lv_iload_n hx hb dX8_status_44 rfl (lv_at hl 2 rfl) ?_
            obtain ⟨hi18, h⟩ := bb_ix_o h
            refine va_iald hx hb hK hP 1 0 rfl rfl hi18 dX8_status_45 ?_
            refine lv_goto (tgt := 50) hx hb dX8_status_46 (by decide) ?_
            exact toW _ _ _ (Jk15 (f_t_found x3_7.toNatClampNeg) _ _ _ h hP hD hS (lv_sub hl [0, 1, 2] rfl))
          refine lv_if_lt (tgt := 40) hx hb dX8_status_32 (by decide) (fun c19 => ?_) (fun c19 => ?_)
          · replace h := bb_ifp c19 h
            exact toW _ _ _ (Jk17 () _ _ _ h hP hD hS (lv_sub hl [0, 1, 3] rfl))
          · replace h := bb_ifn c19 h
            refine lv_iload_n hx hb dX8_status_35 rfl (lv_at hl 1 rfl) ?_
            refine lv_iload_n hx hb dX8_status_36 rfl (lv_at hl 3 rfl) ?_
            refine lv_icmp_ne (tgt := 49) hx hb dX8_status_37 (by decide) (fun c20 => ?_) (fun c20 => ?_)
            · replace h := bb_ifn c20 h
              refine lv_iconst (v := (0 : Int32)) hx hb dX8_status_49 (by decide) ?_
              exact toW _ _ _ (Jk15 (0 : Int32) _ _ _ h hP hD hS (lv_sub hl [0, 1, 3] rfl))
            · replace h := bb_ifp c20 h
              exact toW _ _ _ (Jk17 () _ _ _ h hP hD hS (lv_sub hl [0, 1, 3] rfl))
    exact toW _ _ _ (L11 nn (0 : Int32) (0 : Int32) _ _ _ h hP hD hS (lv_sub hl [2, 3, 1, 0] rfl))
  · replace h := bb_ifp c5 h
    refine lv_aload_n hx hb dX8_status_14 rfl (lv_at hl 0 rfl) ?_
    refine lv_iconst (v := (0 : Int32)) hx hb dX8_status_15 (by decide) ?_
    obtain ⟨r21, w22, hc23, h⟩ := bb_b2_o h
    refine bb_cwi (wr := []) (w1 := [((a_t 0), oX8 a_t v_t_isKept v_t_bestPost v_t_mostSeen v_t_taped v_t_from v_t_to v_t_isWrong), ((a_t 5), .inl (cy 0, 7, .inl w22))]) (va_runV (As := [.int (0 : Int32)]) (rest := []) ⟨hx, hb, hml, hown, hts⟩ (kX8_finds l dC dI cy s.heap.size a_t (0 : Int32) v_t_isKept v_t_bestPost v_t_mostSeen v_t_taped v_t_from v_t_to v_t_isWrong f_t_found r21 w22 hc23) (cwV 1 hts gX8_status_X8_finds rfl rfl rfl kdX8_finds ⟨Nat.le_of_ble_eq_true rfl, Nat.le_of_ble_eq_true rfl⟩) (bb_preVw (va_recv hK hP (ci := 7) (q0 := 0) rfl rfl) hP hK (hD.sub (ws' := [((a_t 0), oX8 a_t v_t_isKept v_t_bestPost v_t_mostSeen v_t_taped v_t_from v_t_to v_t_isWrong), ((a_t 5), .inl (cy 0, 7, .inl f_t_found))]) [0, 1] (by decide) rfl)) rfl rfl hl.1 rfl (lv_room (Nat.le_of_ble_eq_true rfl)) dX8_status_16 ⟨Nat.zero_le _, Nat.zero_le _⟩) hP hD hS hA [0, 1] [] rfl rfl (by decide) (by decide) (fun H locs hP hD hS => ?_)
    have hP : va_P (dC, dI) vwCl [((a_t 0), oX8 a_t v_t_isKept v_t_bestPost v_t_mostSeen v_t_taped v_t_from v_t_to v_t_isWrong), ((a_t 5), .inl (cy 0, 7, .inl w22))] H := hP
    have hD : va_D A [((a_t 0), oX8 a_t v_t_isKept v_t_bestPost v_t_mostSeen v_t_taped v_t_from v_t_to v_t_isWrong), ((a_t 5), .inl (cy 0, 7, .inl w22))] := hD
    obtain ⟨rfl, rfl⟩ := bb_some2 h
    have hP9 := hP.sub (ws' := [((a_t 0), oX8 a_t v_t_isKept v_t_bestPost v_t_mostSeen v_t_taped v_t_from v_t_to v_t_isWrong), ((a_t 5), .inl (cy 0, 7, .inl w22))]) [0, 1] rfl
    have hD9 := hD.sub (ws' := [((a_t 0), oX8 a_t v_t_isKept v_t_bestPost v_t_mostSeen v_t_taped v_t_from v_t_to v_t_isWrong), ((a_t 5), .inl (cy 0, 7, .inl w22))]) [0, 1] (by decide) rfl
    exact W.iret hx hb hr (fun t ht hW => ⟨⟨_, (), rfl, rfl, by rw [ht]; exact hP9, va_K.moved hW.alike hK, hD9⟩, hS.F ht⟩) hS.2.2 dX8_status_19
