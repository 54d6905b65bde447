/-! X4_take -/
def uX4_take (p1 : Int32) (v_t_kind : Int32) (v_t_at : Int32) (v_t_wish : Int32) (v_t_wrinkles : Int32) (f_t_world_at : Nat → Int32) (f_t_world_kind : Nat → Int32) (f_t_world_wish : Nat → Int32) (f_t_world_wrinkles : Nat → Int32) : Option ((Int32) × (Int32) × (Int32) × (Int32)) :=
  bb_ix p1 8 (bb_ix p1 8 (bb_ix p1 8 (bb_ix p1 8 (some (f_t_world_kind p1.toNatClampNeg, f_t_world_at p1.toNatClampNeg, f_t_world_wish p1.toNatClampNeg, f_t_world_wrinkles p1.toNatClampNeg)))))
theorem kdX4_take : yX4_take.cls = RX4 ∧ yX4_take.cls ≠ "java/lang/invoke/MethodHandle" ∧ yX4_take.cls ≠ "java/lang/invoke/VarHandle" ∧ (parseMethodDescriptor yX4_take.desc).map (fun d => d.parameters.length) = some 1 := by decide +kernel
set_option maxHeartbeats 4000000 in
set_option maxRecDepth 100000 in
theorem kX4_take (l : Launch) (dC : Nat → ClassId) (dI : Nat → Nat → Nat) (cy : Nat → ClassId) (sz : Nat) (a_t : Nat → Nat) (a_t_world : Nat → Nat) (p1 : Int32) (v_t_kind : Int32) (v_t_at : Int32) (v_t_wish : Int32) (v_t_wrinkles : Int32) (v_t_world_sight : Int32) (v_t_world_bathers : Int32) (v_t_world_minute : Int32) (v_t_world_seenEver : Int32) (v_t_world_z : Int32) (f_t_world_at : Nat → Int32) (f_t_world_kind : Nat → Int32) (f_t_world_wish : Nat → Int32) (f_t_world_wrinkles : Nat → Int32) (v_t_kind_o : Int32) (v_t_at_o : Int32) (v_t_wish_o : Int32) (v_t_wrinkles_o : Int32) (h : uX4_take p1 v_t_kind v_t_at v_t_wish v_t_wrinkles f_t_world_at f_t_world_kind f_t_world_wish f_t_world_wrinkles = some (v_t_kind_o, v_t_at_o, v_t_wish_o, v_t_wrinkles_o)) : Met l yX4_take wsX4_take ({ frames := 0, cells := 0, slots := 0, locals := 0 }) (va_Pc [.ref (a_t 0), .int p1] (fun U => U.heap.size = sz ∧ va_P (dC, dI) vwCl [((a_t 0), oX4 a_t a_t_world v_t_kind v_t_at v_t_wish v_t_wrinkles), ((a_t_world 0), oX6 a_t_world v_t_world_sight v_t_world_bathers v_t_world_minute v_t_world_seenEver v_t_world_z), ((a_t_world 5), .inl (cy 0, 8, .inl f_t_world_at)), ((a_t_world 4), .inl (cy 0, 8, .inl f_t_world_kind)), ((a_t_world 6), .inl (cy 0, 8, .inl f_t_world_wish)), ((a_t_world 7), .inl (cy 0, 8, .inl f_t_world_wrinkles))] U.heap ∧ va_K (dC, dI) vwCl (tyX cy) U ∧ va_D (fun _ => True) [((a_t 0), oX4 a_t a_t_world v_t_kind v_t_at v_t_wish v_t_wrinkles), ((a_t_world 0), oX6 a_t_world v_t_world_sight v_t_world_bathers v_t_world_minute v_t_world_seenEver v_t_world_z), ((a_t_world 5), .inl (cy 0, 8, .inl f_t_world_at)), ((a_t_world 4), .inl (cy 0, 8, .inl f_t_world_kind)), ((a_t_world 6), .inl (cy 0, 8, .inl f_t_world_wish)), ((a_t_world 7), .inl (cy 0, 8, .inl f_t_world_wrinkles))])) (va_Qv (fun (_ : Unit) => True) (fun _ t => va_P (dC, dI) vwCl [((a_t 0), oX4 a_t a_t_world v_t_kind_o v_t_at_o v_t_wish_o v_t_wrinkles_o), ((a_t_world 0), oX6 a_t_world v_t_world_sight v_t_world_bathers v_t_world_minute v_t_world_seenEver v_t_world_z), ((a_t_world 5), .inl (cy 0, 8, .inl f_t_world_at)), ((a_t_world 4), .inl (cy 0, 8, .inl f_t_world_kind)), ((a_t_world 6), .inl (cy 0, 8, .inl f_t_world_wish)), ((a_t_world 7), .inl (cy 0, 8, .inl f_t_world_wrinkles))] t.heap ∧ va_K (dC, dI) vwCl (tyX cy) t ∧ va_D (va_A [((a_t 0), oX4 a_t a_t_world v_t_kind v_t_at v_t_wish v_t_wrinkles), ((a_t_world 0), oX6 a_t_world v_t_world_sight v_t_world_bathers v_t_world_minute v_t_world_seenEver v_t_world_z), ((a_t_world 5), .inl (cy 0, 8, .inl f_t_world_at)), ((a_t_world 4), .inl (cy 0, 8, .inl f_t_world_kind)), ((a_t_world 6), .inl (cy 0, 8, .inl f_t_world_wish)), ((a_t_world 7), .inl (cy 0, 8, .inl f_t_world_wrinkles))] sz) [((a_t 0), oX4 a_t a_t_world v_t_kind_o v_t_at_o v_t_wish_o v_t_wrinkles_o), ((a_t_world 0), oX6 a_t_world v_t_world_sight v_t_world_bathers v_t_world_minute v_t_world_seenEver v_t_world_z), ((a_t_world 5), .inl (cy 0, 8, .inl f_t_world_at)), ((a_t_world 4), .inl (cy 0, 8, .inl f_t_world_kind)), ((a_t_world 6), .inl (cy 0, 8, .inl f_t_world_wish)), ((a_t_world 7), .inl (cy 0, 8, .inl f_t_world_wrinkles))]) (va_A [((a_t 0), oX4 a_t a_t_world v_t_kind v_t_at v_t_wish v_t_wrinkles), ((a_t_world 0), oX6 a_t_world v_t_world_sight v_t_world_bathers v_t_world_minute v_t_world_seenEver v_t_world_z), ((a_t_world 5), .inl (cy 0, 8, .inl f_t_world_at)), ((a_t_world 4), .inl (cy 0, 8, .inl f_t_world_kind)), ((a_t_world 6), .inl (cy 0, 8, .inl f_t_world_wish)), ((a_t_world 7), .inl (cy 0, 8, .inl f_t_world_wrinkles))] sz)) 0 0 (va_A [((a_t 0), oX4 a_t a_t_world v_t_kind v_t_at v_t_wish v_t_wrinkles), ((a_t_world 0), oX6 a_t_world v_t_world_sight v_t_world_bathers v_t_world_minute v_t_world_seenEver v_t_world_z), ((a_t_world 5), .inl (cy 0, 8, .inl f_t_world_at)), ((a_t_world 4), .inl (cy 0, 8, .inl f_t_world_kind)), ((a_t_world 6), .inl (cy 0, 8, .inl f_t_world_wish)), ((a_t_world 7), .inl (cy 0, 8, .inl f_t_world_wrinkles))] sz) := by
  refine Met.ofW (cc := cX4_take) (maxL := 2) (ret := none) (by decide) rfl ?_
  intro p e s m args below meth c s₁ B hml hv
  obtain ⟨rfl, hsz, hP, hK, hD0⟩ := hv
  have hx := B.exec
  have hb := B.bytes
  have hr := B.returns
  have hts := atoms_spec (ws := wsX4_take) B.pre
  have hown : s.vm.findClass RX4 = some m.cls := findClass_of_methodNamed B.named
  have hlocks := B.notSynchronized
  have iwX4 : ∀ w ∈ wsX40, w ∈ wsX4_take := fun w h9 => List.mem_cons_of_mem _ (List.mem_append_left _ (List.mem_append_right _ (h9)))
  have iwX6 : ∀ w ∈ wsX60, w ∈ wsX4_take := fun w h9 => List.mem_cons_of_mem _ (List.mem_append_right _ (h9))
  have lk1 := hts (Cond.fieldLink RX4 9 "BathBorder$Walker" "world" "LBathBorder$World;") (List.mem_of_getElem? (i := 1) rfl)
  have lk2 := hts (Cond.fieldLink RX4 19 "BathBorder$World" "kind" "[I") (List.mem_of_getElem? (i := 2) rfl)
  have lk3 := hts (Cond.fieldLink RX4 24 "BathBorder$Walker" "kind" "I") (List.mem_of_getElem? (i := 3) rfl)
  have lk4 := hts (Cond.fieldLink RX4 27 "BathBorder$World" "at" "[I") (List.mem_of_getElem? (i := 4) rfl)
  have lk5 := hts (Cond.fieldLink RX4 30 "BathBorder$Walker" "at" "I") (List.mem_of_getElem? (i := 5) rfl)
  have lk6 := hts (Cond.fieldLink RX4 32 "BathBorder$World" "wish" "[I") (List.mem_of_getElem? (i := 6) rfl)
  have lk7 := hts (Cond.fieldLink RX4 35 "BathBorder$Walker" "wish" "I") (List.mem_of_getElem? (i := 7) rfl)
  have lk8 := hts (Cond.fieldLink RX4 37 "BathBorder$World" "wrinkles" "[I") (List.mem_of_getElem? (i := 8) rfl)
  have lk9 := hts (Cond.fieldLink RX4 40 "BathBorder$Walker" "wrinkles" "I") (List.mem_of_getElem? (i := 9) rfl)
  subst hsz
  have hD := hD0.self (sz := s.heap.size)
  generalize hAe : va_A [((a_t 0), oX4 a_t a_t_world v_t_kind v_t_at v_t_wish v_t_wrinkles), ((a_t_world 0), oX6 a_t_world v_t_world_sight v_t_world_bathers v_t_world_minute v_t_world_seenEver v_t_world_z), ((a_t_world 5), .inl (cy 0, 8, .inl f_t_world_at)), ((a_t_world 4), .inl (cy 0, 8, .inl f_t_world_kind)), ((a_t_world 6), .inl (cy 0, 8, .inl f_t_world_wish)), ((a_t_world 7), .inl (cy 0, 8, .inl f_t_world_wrinkles))] s.heap.size = A at hD ⊢
  have hA : ∀ q : Nat, s.heap.size ≤ q → A q := fun q h => by rw [← hAe]; exact Or.inr h
  have hS : va_S A s.heap s.heap [] := va_S.rf
  have hP : va_P (dC, dI) vwCl [((a_t 0), oX4 a_t a_t_world v_t_kind v_t_at v_t_wish v_t_wrinkles), ((a_t_world 0), oX6 a_t_world v_t_world_sight v_t_world_bathers v_t_world_minute v_t_world_seenEver v_t_world_z), ((a_t_world 5), .inl (cy 0, 8, .inl f_t_world_at)), ((a_t_world 4), .inl (cy 0, 8, .inl f_t_world_kind)), ((a_t_world 6), .inl (cy 0, 8, .inl f_t_world_wish)), ((a_t_world 7), .inl (cy 0, 8, .inl f_t_world_wrinkles))] s.heap := hP
  have hl := lv_entry ([.ref (a_t 0), .int p1]) (n := 2) (Nat.le_of_ble_eq_true rfl)
  rw [lg_entry_eq]
  generalize (lg_sl ([.ref (a_t 0), .int p1]) ++ List.replicate (2 - (lg_sl ([.ref (a_t 0), .int p1])).length) Slot.unset).toArray = ls at hl ⊢
  have hl : lv_has ls 2 [(0, .ref (a_t 0)), (1, .int p1)] := hl
  unfold uX4_take at h
  refine bb_cap (fun WW toW ofW => ?_)
  refine lv_aload_n hx hb dX4_take_0 rfl (lv_at hl 0 rfl) ?_
  refine lv_aload_n hx hb dX4_take_1 rfl (lv_at hl 0 rfl) ?_
  refine va_get (D := (dC, dI)) (ci := 3) (v := .ref (a_t_world 0)) (C := RX4) (T := TX4) (N := 5) hx hb hts iwX4 hown hK hP 0 rfl rfl 0 (by decide) lk1 (fun _ h9 => h9) rfl dX4_take_2 ?_
  refine va_get (D := (dC, dI)) (ci := 5) (v := .ref (a_t_world 4)) (C := RX6) (T := TX6) (N := 14) hx hb hts iwX6 hown hK hP 1 rfl rfl 3 (by decide) lk2 (fun _ h9 => h9) rfl dX4_take_5 ?_
  refine lv_iload_n hx hb dX4_take_8 rfl (lv_at hl 1 rfl) ?_
  obtain ⟨hi1, h⟩ := bb_ix_o h
  refine va_iald hx hb hK hP 3 0 rfl rfl hi1 dX4_take_9 ?_
  refine va_put (D := (dC, dI)) (ci := 3) (v := .int (f_t_world_kind p1.toNatClampNeg)) (ty := .int) (C := RX4) (T := TX4) (N := 5) hx hb hts iwX4 tyX4 tyX4_ok nmX4 hown hK hP hD hS 0 rfl rfl 1 (by decide) lk3 (fun _ h9 => h9) rfl (by decide +kernel) rfl rfl (Nat.le_of_ble_eq_true rfl) dX4_take_10 (fun H locs hP hD hS => ?_)
  have hP : va_P (dC, dI) vwCl [((a_t 0), oX4 a_t a_t_world (f_t_world_kind p1.toNatClampNeg) v_t_at v_t_wish v_t_wrinkles), ((a_t_world 0), oX6 a_t_world v_t_world_sight v_t_world_bathers v_t_world_minute v_t_world_seenEver v_t_world_z), ((a_t_world 5), .inl (cy 0, 8, .inl f_t_world_at)), ((a_t_world 4), .inl (cy 0, 8, .inl f_t_world_kind)), ((a_t_world 6), .inl (cy 0, 8, .inl f_t_world_wish)), ((a_t_world 7), .inl (cy 0, 8, .inl f_t_world_wrinkles))] H := hP
  have hD : va_D A [((a_t 0), oX4 a_t a_t_world (f_t_world_kind p1.toNatClampNeg) v_t_at v_t_wish v_t_wrinkles), ((a_t_world 0), oX6 a_t_world v_t_world_sight v_t_world_bathers v_t_world_minute v_t_world_seenEver v_t_world_z), ((a_t_world 5), .inl (cy 0, 8, .inl f_t_world_at)), ((a_t_world 4), .inl (cy 0, 8, .inl f_t_world_kind)), ((a_t_world 6), .inl (cy 0, 8, .inl f_t_world_wish)), ((a_t_world 7), .inl (cy 0, 8, .inl f_t_world_wrinkles))] := hD
  refine lv_aload_n hx hb dX4_take_13 rfl (lv_at hl 0 rfl) ?_
  refine lv_aload_n hx hb dX4_take_14 rfl (lv_at hl 0 rfl) ?_
  refine va_get (D := (dC, dI)) (ci := 3) (v := .ref (a_t_world 0)) (C := RX4) (T := TX4) (N := 5) hx hb hts iwX4 hown hK hP 0 rfl rfl 0 (by decide) lk1 (fun _ h9 => h9) rfl dX4_take_15 ?_
  refine va_get (D := (dC, dI)) (ci := 5) (v := .ref (a_t_world 5)) (C := RX6) (T := TX6) (N := 14) hx hb hts iwX6 hown hK hP 1 rfl rfl 4 (by decide) lk4 (fun _ h9 => h9) rfl dX4_take_18 ?_
  refine lv_iload_n hx hb dX4_take_21 rfl (lv_at hl 1 rfl) ?_
  obtain ⟨hi2, h⟩ := bb_ix_o h
  refine va_iald hx hb hK hP 2 0 rfl rfl hi2 dX4_take_22 ?_
  refine va_put (D := (dC, dI)) (ci := 3) (v := .int (f_t_world_at p1.toNatClampNeg)) (ty := .int) (C := RX4) (T := TX4) (N := 5) hx hb hts iwX4 tyX4 tyX4_ok nmX4 hown hK hP hD hS 0 rfl rfl 2 (by decide) lk5 (fun _ h9 => h9) rfl (by decide +kernel) rfl rfl (Nat.le_of_ble_eq_true rfl) dX4_take_23 (fun H locs hP hD hS => ?_)
  have hP : va_P (dC, dI) vwCl [((a_t 0), oX4 a_t a_t_world (f_t_world_kind p1.toNatClampNeg) (f_t_world_at p1.toNatClampNeg) v_t_wish v_t_wrinkles), ((a_t_world 0), oX6 a_t_world v_t_world_sight v_t_world_bathers v_t_world_minute v_t_world_seenEver v_t_world_z), ((a_t_world 5), .inl (cy 0, 8, .inl f_t_world_at)), ((a_t_world 4), .inl (cy 0, 8, .inl f_t_world_kind)), ((a_t_world 6), .inl (cy 0, 8, .inl f_t_world_wish)), ((a_t_world 7), .inl (cy 0, 8, .inl f_t_world_wrinkles))] H := hP
  have hD : va_D A [((a_t 0), oX4 a_t a_t_world (f_t_world_kind p1.toNatClampNeg) (f_t_world_at p1.toNatClampNeg) v_t_wish v_t_wrinkles), ((a_t_world 0), oX6 a_t_world v_t_world_sight v_t_world_bathers v_t_world_minute v_t_world_seenEver v_t_world_z), ((a_t_world 5), .inl (cy 0, 8, .inl f_t_world_at)), ((a_t_world 4), .inl (cy 0, 8, .inl f_t_world_kind)), ((a_t_world 6), .inl (cy 0, 8, .inl f_t_world_wish)), ((a_t_world 7), .inl (cy 0, 8, .inl f_t_world_wrinkles))] := hD
  refine lv_aload_n hx hb dX4_take_26 rfl (lv_at hl 0 rfl) ?_
  refine lv_aload_n hx hb dX4_take_27 rfl (lv_at hl 0 rfl) ?_
  refine va_get (D := (dC, dI)) (ci := 3) (v := .ref (a_t_world 0)) (C := RX4) (T := TX4) (N := 5) hx hb hts iwX4 hown hK hP 0 rfl rfl 0 (by decide) lk1 (fun _ h9 => h9) rfl dX4_take_28 ?_
  refine va_get (D := (dC, dI)) (ci := 5) (v := .ref (a_t_world 6)) (C := RX6) (T := TX6) (N := 14) hx hb hts iwX6 hown hK hP 1 rfl rfl 5 (by decide) lk6 (fun _ h9 => h9) rfl dX4_take_31 ?_
  refine lv_iload_n hx hb dX4_take_34 rfl (lv_at hl 1 rfl) ?_
  obtain ⟨hi3, h⟩ := bb_ix_o h
  refine va_iald hx hb hK hP 4 0 rfl rfl hi3 dX4_take_35 ?_
  refine va_put (D := (dC, dI)) (ci := 3) (v := .int (f_t_world_wish p1.toNatClampNeg)) (ty := .int) (C := RX4) (T := TX4) (N := 5) hx hb hts iwX4 tyX4 tyX4_ok nmX4 hown hK hP hD hS 0 rfl rfl 3 (by decide) lk7 (fun _ h9 => h9) rfl (by decide +kernel) rfl rfl (Nat.le_of_ble_eq_true rfl) dX4_take_36 (fun H locs hP hD hS => ?_)
  have hP : va_P (dC, dI) vwCl [((a_t 0), oX4 a_t a_t_world (f_t_world_kind p1.toNatClampNeg) (f_t_world_at p1.toNatClampNeg) (f_t_world_wish p1.toNatClampNeg) v_t_wrinkles), ((a_t_world 0), oX6 a_t_world v_t_world_sight v_t_world_bathers v_t_world_minute v_t_world_seenEver v_t_world_z), ((a_t_world 5), .inl (cy 0, 8, .inl f_t_world_at)), ((a_t_world 4), .inl (cy 0, 8, .inl f_t_world_kind)), ((a_t_world 6), .inl (cy 0, 8, .inl f_t_world_wish)), ((a_t_world 7), .inl (cy 0, 8, .inl f_t_world_wrinkles))] H := hP
  have hD : va_D A [((a_t 0), oX4 a_t a_t_world (f_t_world_kind p1.toNatClampNeg) (f_t_world_at p1.toNatClampNeg) (f_t_world_wish p1.toNatClampNeg) v_t_wrinkles), ((a_t_world 0), oX6 a_t_world v_t_world_sight v_t_world_bathers v_t_world_minute v_t_world_seenEver v_t_world_z), ((a_t_world 5), .inl (cy 0, 8, .inl f_t_world_at)), ((a_t_world 4), .inl (cy 0, 8, .inl f_t_world_kind)), ((a_t_world 6), .inl (cy 0, 8, .inl f_t_world_wish)), ((a_t_world 7), .inl (cy 0, 8, .inl f_t_world_wrinkles))] := hD
  refine lv_aload_n hx hb dX4_take_39 rfl (lv_at hl 0 rfl) ?_
  refine lv_aload_n hx hb dX4_take_40 rfl (lv_at hl 0 rfl) ?_
  refine va_get (D := (dC, dI)) (ci := 3) (v := .ref (a_t_world 0)) (C := RX4) (T := TX4) (N := 5) hx hb hts iwX4 hown hK hP 0 rfl rfl 0 (by decide) lk1 (fun _ h9 => h9) rfl dX4_take_41 ?_
  refine va_get (D := (dC, dI)) (ci := 5) (v := .ref (a_t_world 7)) (C := RX6) (T := TX6) (N := 14) hx hb hts iwX6 hown hK hP 1 rfl rfl 6 (by decide) lk8 (fun _ h9 => h9) rfl dX4_take_44 ?_
  refine lv_iload_n hx hb dX4_take_47 rfl (lv_at hl 1 rfl) ?_
  obtain ⟨hi4, h⟩ := bb_ix_o h
  refine va_iald hx hb hK hP 5 0 rfl rfl hi4 dX4_take_48 ?_
  refine va_put (D := (dC, dI)) (ci := 3) (v := .int (f_t_world_wrinkles p1.toNatClampNeg)) (ty := .int) (C := RX4) (T := TX4) (N := 5) hx hb hts iwX4 tyX4 tyX4_ok nmX4 hown hK hP hD hS 0 rfl rfl 4 (by decide) lk9 (fun _ h9 => h9) rfl (by decide +kernel) rfl rfl (Nat.le_of_ble_eq_true rfl) dX4_take_49 (fun H locs hP hD hS => ?_)
  have hP : va_P (dC, dI) vwCl [((a_t 0), oX4 a_t a_t_world (f_t_world_kind p1.toNatClampNeg) (f_t_world_at p1.toNatClampNeg) (f_t_world_wish p1.toNatClampNeg) (f_t_world_wrinkles p1.toNatClampNeg)), ((a_t_world 0), oX6 a_t_world v_t_world_sight v_t_world_bathers v_t_world_minute v_t_world_seenEver v_t_world_z), ((a_t_world 5), .inl (cy 0, 8, .inl f_t_world_at)), ((a_t_world 4), .inl (cy 0, 8, .inl f_t_world_kind)), ((a_t_world 6), .inl (cy 0, 8, .inl f_t_world_wish)), ((a_t_world 7), .inl (cy 0, 8, .inl f_t_world_wrinkles))] H := hP
  have hD : va_D A [((a_t 0), oX4 a_t a_t_world (f_t_world_kind p1.toNatClampNeg) (f_t_world_at p1.toNatClampNeg) (f_t_world_wish p1.toNatClampNeg) (f_t_world_wrinkles p1.toNatClampNeg)), ((a_t_world 0), oX6 a_t_world v_t_world_sight v_t_world_bathers v_t_world_minute v_t_world_seenEver v_t_world_z), ((a_t_world 5), .inl (cy 0, 8, .inl f_t_world_at)), ((a_t_world 4), .inl (cy 0, 8, .inl f_t_world_kind)), ((a_t_world 6), .inl (cy 0, 8, .inl f_t_world_wish)), ((a_t_world 7), .inl (cy 0, 8, .inl f_t_world_wrinkles))] := hD
  obtain ⟨rfl, rfl, rfl, rfl⟩ := bb_some4 h
  have hP9 := hP.sub (ws' := [((a_t 0), oX4 a_t a_t_world (f_t_world_kind p1.toNatClampNeg) (f_t_world_at p1.toNatClampNeg) (f_t_world_wish p1.toNatClampNeg) (f_t_world_wrinkles p1.toNatClampNeg)), ((a_t_world 0), oX6 a_t_world v_t_world_sight v_t_world_bathers v_t_world_minute v_t_world_seenEver v_t_world_z), ((a_t_world 5), .inl (cy 0, 8, .inl f_t_world_at)), ((a_t_world 4), .inl (cy 0, 8, .inl f_t_world_kind)), ((a_t_world 6), .inl (cy 0, 8, .inl f_t_world_wish)), ((a_t_world 7), .inl (cy 0, 8, .inl f_t_world_wrinkles))]) [0, 1, 2, 3, 4, 5] rfl
  have hD9 := hD.sub (ws' := [((a_t 0), oX4 a_t a_t_world (f_t_world_kind p1.toNatClampNeg) (f_t_world_at p1.toNatClampNeg) (f_t_world_wish p1.toNatClampNeg) (f_t_world_wrinkles p1.toNatClampNeg)), ((a_t_world 0), oX6 a_t_world v_t_world_sight v_t_world_bathers v_t_world_minute v_t_world_seenEver v_t_world_z), ((a_t_world 5), .inl (cy 0, 8, .inl f_t_world_at)), ((a_t_world 4), .inl (cy 0, 8, .inl f_t_world_kind)), ((a_t_world 6), .inl (cy 0, 8, .inl f_t_world_wish)), ((a_t_world 7), .inl (cy 0, 8, .inl f_t_world_wrinkles))]) [0, 1, 2, 3, 4, 5] (by decide) rfl
  exact W.vret hx hb hr (fun t ht hW => ⟨⟨(), rfl, trivial, by rw [ht]; exact hP9, va_K.moved hW.alike hK, hD9⟩, hS.F ht⟩) hS.2.2 dX4_take_52
/-! X4_putBack -/
def uX4_putBack (p1 : Int32) (v_t_at : Int32) (v_t_wrinkles : Int32) (f_t_world_at : Nat → Int32) (f_t_world_wrinkles : Nat → Int32) : Option ((Nat → Int32) × (Nat → Int32)) :=
  bb_ix p1 8 (bb_ix p1 8 (some (upd f_t_world_at p1.toNatClampNeg v_t_at, upd f_t_world_wrinkles p1.toNatClampNeg v_t_wrinkles)))
theorem kdX4_putBack : yX4_putBack.cls = RX4 ∧ yX4_putBack.cls ≠ "java/lang/invoke/MethodHandle" ∧ yX4_putBack.cls ≠ "java/lang/invoke/VarHandle" ∧ (parseMethodDescriptor yX4_putBack.desc).map (fun d => d.parameters.length) = some 1 := by decide +kernel
set_option maxHeartbeats 4000000 in
set_option maxRecDepth 100000 in
theorem kX4_putBack (l : Launch) (dC : Nat → ClassId) (dI : Nat → Nat → Nat) (cy : Nat → ClassId) (sz : Nat) (a_t : Nat → Nat) (a_t_world : Nat → Nat) (p1 : Int32) (v_t_kind : Int32) (v_t_at : Int32) (v_t_wish : Int32) (v_t_wrinkles : Int32) (v_t_world_sight : Int32) (v_t_world_bathers : Int32) (v_t_world_minute : Int32) (v_t_world_seenEver : Int32) (v_t_world_z : Int32) (f_t_world_at : Nat → Int32) (f_t_world_wrinkles : Nat → Int32) (f_t_world_at_o : Nat → Int32) (f_t_world_wrinkles_o : Nat → Int32) (h : uX4_putBack p1 v_t_at v_t_wrinkles f_t_world_at f_t_world_wrinkles = some (f_t_world_at_o, f_t_world_wrinkles_o)) : Met l yX4_putBack wsX4_putBack ({ frames := 0, cells := 0, slots := 0, locals := 0 }) (va_Pc [.ref (a_t 0), .int p1] (fun U => U.heap.size = sz ∧ va_P (dC, dI) vwCl [((a_t 0), oX4 a_t a_t_world v_t_kind v_t_at v_t_wish v_t_wrinkles), ((a_t_world 0), oX6 a_t_world v_t_world_sight v_t_world_bathers v_t_world_minute v_t_world_seenEver v_t_world_z), ((a_t_world 5), .inl (cy 0, 8, .inl f_t_world_at)), ((a_t_world 7), .inl (cy 0, 8, .inl f_t_world_wrinkles))] U.heap ∧ va_K (dC, dI) vwCl (tyX cy) U ∧ va_D (fun _ => True) [((a_t 0), oX4 a_t a_t_world v_t_kind v_t_at v_t_wish v_t_wrinkles), ((a_t_world 0), oX6 a_t_world v_t_world_sight v_t_world_bathers v_t_world_minute v_t_world_seenEver v_t_world_z), ((a_t_world 5), .inl (cy 0, 8, .inl f_t_world_at)), ((a_t_world 7), .inl (cy 0, 8, .inl f_t_world_wrinkles))])) (va_Qv (fun (_ : Unit) => True) (fun _ t => va_P (dC, dI) vwCl [((a_t 0), oX4 a_t a_t_world v_t_kind v_t_at v_t_wish v_t_wrinkles), ((a_t_world 0), oX6 a_t_world v_t_world_sight v_t_world_bathers v_t_world_minute v_t_world_seenEver v_t_world_z), ((a_t_world 5), .inl (cy 0, 8, .inl f_t_world_at_o)), ((a_t_world 7), .inl (cy 0, 8, .inl f_t_world_wrinkles_o))] t.heap ∧ va_K (dC, dI) vwCl (tyX cy) t ∧ va_D (va_A [((a_t 0), oX4 a_t a_t_world v_t_kind v_t_at v_t_wish v_t_wrinkles), ((a_t_world 0), oX6 a_t_world v_t_world_sight v_t_world_bathers v_t_world_minute v_t_world_seenEver v_t_world_z), ((a_t_world 5), .inl (cy 0, 8, .inl f_t_world_at)), ((a_t_world 7), .inl (cy 0, 8, .inl f_t_world_wrinkles))] sz) [((a_t 0), oX4 a_t a_t_world v_t_kind v_t_at v_t_wish v_t_wrinkles), ((a_t_world 0), oX6 a_t_world v_t_world_sight v_t_world_bathers v_t_world_minute v_t_world_seenEver v_t_world_z), ((a_t_world 5), .inl (cy 0, 8, .inl f_t_world_at_o)), ((a_t_world 7), .inl (cy 0, 8, .inl f_t_world_wrinkles_o))]) (va_A [((a_t 0), oX4 a_t a_t_world v_t_kind v_t_at v_t_wish v_t_wrinkles), ((a_t_world 0), oX6 a_t_world v_t_world_sight v_t_world_bathers v_t_world_minute v_t_world_seenEver v_t_world_z), ((a_t_world 5), .inl (cy 0, 8, .inl f_t_world_at)), ((a_t_world 7), .inl (cy 0, 8, .inl f_t_world_wrinkles))] sz)) 0 0 (va_A [((a_t 0), oX4 a_t a_t_world v_t_kind v_t_at v_t_wish v_t_wrinkles), ((a_t_world 0), oX6 a_t_world v_t_world_sight v_t_world_bathers v_t_world_minute v_t_world_seenEver v_t_world_z), ((a_t_world 5), .inl (cy 0, 8, .inl f_t_world_at)), ((a_t_world 7), .inl (cy 0, 8, .inl f_t_world_wrinkles))] sz) := by
  refine Met.ofW (cc := cX4_putBack) (maxL := 2) (ret := none) (by decide) rfl ?_
  intro p e s m args below meth c s₁ B hml hv
  obtain ⟨rfl, hsz, hP, hK, hD0⟩ := hv
  have hx := B.exec
  have hb := B.bytes
  have hr := B.returns
  have hts := atoms_spec (ws := wsX4_putBack) B.pre
  have hown : s.vm.findClass RX4 = some m.cls := findClass_of_methodNamed B.named
  have hlocks := B.notSynchronized
  have iwX4 : ∀ w ∈ wsX40, w ∈ wsX4_putBack := fun w h9 => List.mem_cons_of_mem _ (List.mem_append_left _ (List.mem_append_right _ (h9)))
  have iwX6 : ∀ w ∈ wsX60, w ∈ wsX4_putBack := fun w h9 => List.mem_cons_of_mem _ (List.mem_append_right _ (h9))
  have lk1 := hts (Cond.fieldLink RX4 9 "BathBorder$Walker" "world" "LBathBorder$World;") (List.mem_of_getElem? (i := 1) rfl)
  have lk2 := hts (Cond.fieldLink RX4 27 "BathBorder$World" "at" "[I") (List.mem_of_getElem? (i := 2) rfl)
  have lk3 := hts (Cond.fieldLink RX4 30 "BathBorder$Walker" "at" "I") (List.mem_of_getElem? (i := 3) rfl)
  have lk4 := hts (Cond.fieldLink RX4 37 "BathBorder$World" "wrinkles" "[I") (List.mem_of_getElem? (i := 4) rfl)
  have lk5 := hts (Cond.fieldLink RX4 40 "BathBorder$Walker" "wrinkles" "I") (List.mem_of_getElem? (i := 5) rfl)
  subst hsz
  have hD := hD0.self (sz := s.heap.size)
  generalize hAe : va_A [((a_t 0), oX4 a_t a_t_world v_t_kind v_t_at v_t_wish v_t_wrinkles), ((a_t_world 0), oX6 a_t_world v_t_world_sight v_t_world_bathers v_t_world_minute v_t_world_seenEver v_t_world_z), ((a_t_world 5), .inl (cy 0, 8, .inl f_t_world_at)), ((a_t_world 7), .inl (cy 0, 8, .inl f_t_world_wrinkles))] s.heap.size = A at hD ⊢
  have hA : ∀ q : Nat, s.heap.size ≤ q → A q := fun q h => by rw [← hAe]; exact Or.inr h
  have hS : va_S A s.heap s.heap [] := va_S.rf
  have hP : va_P (dC, dI) vwCl [((a_t 0), oX4 a_t a_t_world v_t_kind v_t_at v_t_wish v_t_wrinkles), ((a_t_world 0), oX6 a_t_world v_t_world_sight v_t_world_bathers v_t_world_minute v_t_world_seenEver v_t_world_z), ((a_t_world 5), .inl (cy 0, 8, .inl f_t_world_at)), ((a_t_world 7), .inl (cy 0, 8, .inl f_t_world_wrinkles))] s.heap := hP
  have hl := lv_entry ([.ref (a_t 0), .int p1]) (n := 2) (Nat.le_of_ble_eq_true rfl)
  rw [lg_entry_eq]
  generalize (lg_sl ([.ref (a_t 0), .int p1]) ++ List.replicate (2 - (lg_sl ([.ref (a_t 0), .int p1])).length) Slot.unset).toArray = ls at hl ⊢
  have hl : lv_has ls 2 [(0, .ref (a_t 0)), (1, .int p1)] := hl
  unfold uX4_putBack at h
  refine bb_cap (fun WW toW ofW => ?_)
  refine lv_aload_n hx hb dX4_putBack_0 rfl (lv_at hl 0 rfl) ?_
  refine va_get (D := (dC, dI)) (ci := 3) (v := .ref (a_t_world 0)) (C := RX4) (T := TX4) (N := 5) hx hb hts iwX4 hown hK hP 0 rfl rfl 0 (by decide) lk1 (fun _ h9 => h9) rfl dX4_putBack_1 ?_
  refine va_get (D := (dC, dI)) (ci := 5) (v := .ref (a_t_world 5)) (C := RX6) (T := TX6) (N := 14) hx hb hts iwX6 hown hK hP 1 rfl rfl 4 (by decide) lk2 (fun _ h9 => h9) rfl dX4_putBack_4 ?_
  refine lv_iload_n hx hb dX4_putBack_7 rfl (lv_at hl 1 rfl) ?_
  refine lv_aload_n hx hb dX4_putBack_8 rfl (lv_at hl 0 rfl) ?_
  refine va_get (D := (dC, dI)) (ci := 3) (v := .int v_t_at) (C := RX4) (T := TX4) (N := 5) hx hb hts iwX4 hown hK hP 0 rfl rfl 2 (by decide) lk3 (fun _ h9 => h9) rfl dX4_putBack_9 ?_
  obtain ⟨hi1, h⟩ := bb_ix_o h
  refine va_iast hx hb hK hP hD hS 2 0 rfl rfl hi1 dX4_putBack_12 (fun H locs hP hD hS => ?_)
  have hP : va_P (dC, dI) vwCl [((a_t 0), oX4 a_t a_t_world v_t_kind v_t_at v_t_wish v_t_wrinkles), ((a_t_world 0), oX6 a_t_world v_t_world_sight v_t_world_bathers v_t_world_minute v_t_world_seenEver v_t_world_z), ((a_t_world 5), .inl (cy 0, 8, .inl (upd f_t_world_at p1.toNatClampNeg v_t_at))), ((a_t_world 7), .inl (cy 0, 8, .inl f_t_world_wrinkles))] H := hP
  have hD : va_D A [((a_t 0), oX4 a_t a_t_world v_t_kind v_t_at v_t_wish v_t_wrinkles), ((a_t_world 0), oX6 a_t_world v_t_world_sight v_t_world_bathers v_t_world_minute v_t_world_seenEver v_t_world_z), ((a_t_world 5), .inl (cy 0, 8, .inl (upd f_t_world_at p1.toNatClampNeg v_t_at))), ((a_t_world 7), .inl (cy 0, 8, .inl f_t_world_wrinkles))] := hD
  refine lv_aload_n hx hb dX4_putBack_13 rfl (lv_at hl 0 rfl) ?_
  refine va_get (D := (dC, dI)) (ci := 3) (v := .ref (a_t_world 0)) (C := RX4) (T := TX4) (N := 5) hx hb hts iwX4 hown hK hP 0 rfl rfl 0 (by decide) lk1 (fun _ h9 => h9) rfl dX4_putBack_14 ?_
  refine va_get (D := (dC, dI)) (ci := 5) (v := .ref (a_t_world 7)) (C := RX6) (T := TX6) (N := 14) hx hb hts iwX6 hown hK hP 1 rfl rfl 6 (by decide) lk4 (fun _ h9 => h9) rfl dX4_putBack_17 ?_
  refine lv_iload_n hx hb dX4_putBack_20 rfl (lv_at hl 1 rfl) ?_
  refine lv_aload_n hx hb dX4_putBack_21 rfl (lv_at hl 0 rfl) ?_
  refine va_get (D := (dC, dI)) (ci := 3) (v := .int v_t_wrinkles) (C := RX4) (T := TX4) (N := 5) hx hb hts iwX4 hown hK hP 0 rfl rfl 4 (by decide) lk5 (fun _ h9 => h9) rfl dX4_putBack_22 ?_
  obtain ⟨hi2, h⟩ := bb_ix_o h
  refine va_iast hx hb hK hP hD hS 3 0 rfl rfl hi2 dX4_putBack_25 (fun H locs hP hD hS => ?_)
  have hP : va_P (dC, dI) vwCl [((a_t 0), oX4 a_t a_t_world v_t_kind v_t_at v_t_wish v_t_wrinkles), ((a_t_world 0), oX6 a_t_world v_t_world_sight v_t_world_bathers v_t_world_minute v_t_world_seenEver v_t_world_z), ((a_t_world 5), .inl (cy 0, 8, .inl (upd f_t_world_at p1.toNatClampNeg v_t_at))), ((a_t_world 7), .inl (cy 0, 8, .inl (upd f_t_world_wrinkles p1.toNatClampNeg v_t_wrinkles)))] H := hP
  have hD : va_D A [((a_t 0), oX4 a_t a_t_world v_t_kind v_t_at v_t_wish v_t_wrinkles), ((a_t_world 0), oX6 a_t_world v_t_world_sight v_t_world_bathers v_t_world_minute v_t_world_seenEver v_t_world_z), ((a_t_world 5), .inl (cy 0, 8, .inl (upd f_t_world_at p1.toNatClampNeg v_t_at))), ((a_t_world 7), .inl (cy 0, 8, .inl (upd f_t_world_wrinkles p1.toNatClampNeg v_t_wrinkles)))] := hD
  obtain ⟨rfl, rfl⟩ := bb_some2 h
  have hP9 := hP.sub (ws' := [((a_t 0), oX4 a_t a_t_world v_t_kind v_t_at v_t_wish v_t_wrinkles), ((a_t_world 0), oX6 a_t_world v_t_world_sight v_t_world_bathers v_t_world_minute v_t_world_seenEver v_t_world_z), ((a_t_world 5), .inl (cy 0, 8, .inl (upd f_t_world_at p1.toNatClampNeg v_t_at))), ((a_t_world 7), .inl (cy 0, 8, .inl (upd f_t_world_wrinkles p1.toNatClampNeg v_t_wrinkles)))]) [0, 1, 2, 3] rfl
  have hD9 := hD.sub (ws' := [((a_t 0), oX4 a_t a_t_world v_t_kind v_t_at v_t_wish v_t_wrinkles), ((a_t_world 0), oX6 a_t_world v_t_world_sight v_t_world_bathers v_t_world_minute v_t_world_seenEver v_t_world_z), ((a_t_world 5), .inl (cy 0, 8, .inl (upd f_t_world_at p1.toNatClampNeg v_t_at))), ((a_t_world 7), .inl (cy 0, 8, .inl (upd f_t_world_wrinkles p1.toNatClampNeg v_t_wrinkles)))]) [0, 1, 2, 3] (by decide) rfl
  exact W.vret hx hb hr (fun t ht hW => ⟨⟨(), rfl, trivial, by rw [ht]; exact hP9, va_K.moved hW.alike hK, hD9⟩, hS.F ht⟩) hS.2.2 dX4_putBack_26
/-! X4_isIn -/
def uX4_isIn (v_t_at : Int32) : Option (Int32) :=
  bb_b1 (uX0_isCell v_t_at) (fun (r1 : Int32) => some r1)
theorem kdX4_isIn : yX4_isIn.cls = RX4 ∧ yX4_isIn.cls ≠ "java/lang/invoke/MethodHandle" ∧ yX4_isIn.cls ≠ "java/lang/invoke/VarHandle" ∧ (parseMethodDescriptor yX4_isIn.desc).map (fun d => d.parameters.length) = some 0 := by decide +kernel
set_option maxHeartbeats 4000000 in
set_option maxRecDepth 100000 in
theorem kX4_isIn (l : Launch) (dC : Nat → ClassId) (dI : Nat → Nat → Nat) (cy : Nat → ClassId) (a_t : Nat → Nat) (a_t_world : Nat → Nat) (v_t_kind : Int32) (v_t_at : Int32) (v_t_wish : Int32) (v_t_wrinkles : Int32) (r : Int32) (h : uX4_isIn v_t_at = some r) : Met l yX4_isIn wsX4_isIn ({ frames := 1, cells := 0, slots := 0, locals := 20 }) (va_Pc [.ref (a_t 0)] (fun U => va_P (dC, dI) vwCl [((a_t 0), oX4 a_t a_t_world v_t_kind v_t_at v_t_wish v_t_wrinkles)] U.heap ∧ va_K (dC, dI) vwCl (tyX cy) U)) (vp_Si (fun r2 => r = r2 ∧ narrow .boolean (.int r2) = .int r2)) 0 0 (fun _ => False) := by
  refine Met.ofW (cc := cX4_isIn) (maxL := 1) (ret := (some .boolean)) (by decide) rfl ?_
  intro p e s m args below meth c s₁ B hml hv
  obtain ⟨rfl, hP, hK⟩ := hv
  have hx := B.exec
  have hb := B.bytes
  have hr := B.returns
  have hts := atoms_spec (ws := wsX4_isIn) B.pre
  have hown : s.vm.findClass RX4 = some m.cls := findClass_of_methodNamed B.named
  have hlocks := B.notSynchronized
  have iwX4 : ∀ w ∈ wsX40, w ∈ wsX4_isIn := fun w h9 => List.mem_cons_of_mem _ (List.mem_append_right _ (h9))
  have lk1 := hts (Cond.fieldLink RX4 30 "BathBorder$Walker" "at" "I") (List.mem_of_getElem? (i := 1) rfl)
  have hl := lv_entry ([.ref (a_t 0)]) (n := 1) (Nat.le_of_ble_eq_true rfl)
  rw [lg_entry_eq]
  generalize (lg_sl ([.ref (a_t 0)]) ++ List.replicate (1 - (lg_sl ([.ref (a_t 0)])).length) Slot.unset).toArray = ls at hl ⊢
  have hl : lv_has ls 1 [(0, .ref (a_t 0))] := hl
  unfold uX4_isIn at h
  refine bb_cap (fun WW toW ofW => ?_)
  refine lv_aload_n hx hb dX4_isIn_0 rfl (lv_at hl 0 rfl) ?_
  refine va_get (D := (dC, dI)) (ci := 3) (v := .int v_t_at) (C := RX4) (T := TX4) (N := 5) hx hb hts iwX4 hown hK hP 0 rfl rfl 2 (by decide) lk1 (fun _ h9 => h9) rfl dX4_isIn_1 ?_
  obtain ⟨r1, hc2, h⟩ := bb_b1_o h
  refine vp_callSi (W.runS (As := [.int v_t_at]) (rest := []) ⟨hx, hb, hml, hown, hts⟩ (kX0_isCell l dC dI cy v_t_at r1 hc2) (va_cwS 1 hts gX4_isIn_X0_isCell rfl rfl rfl kdX0_isCell ⟨Nat.le_of_ble_eq_true rfl, Nat.le_of_ble_eq_true rfl⟩) (bb_preS (hP.sub (ws' := []) [] rfl) hK) rfl rfl hl.1 rfl (lv_room (Nat.le_of_ble_eq_true rfl)) dX4_isIn_4 ⟨Nat.zero_le _, Nat.zero_le _⟩) (fun t3 et3 => ?_)
  obtain ⟨rfl, hz4⟩ := et3
  obtain rfl := bb_some1 h
  exact W.zret hx hb hr hz4 (fun t ht hW => ⟨_, rfl, ⟨rfl, hz4⟩, ht⟩) (fun q hq => by cases hq) dX4_isIn_7
/-! X4_isSeen -/
def uX4_isSeen (p1 : Int64) (v_t_at : Int32) : Option (Int32) :=
  bb_b1 (uX4_isIn v_t_at) (fun (r1 : Int32) => (if r1 = 0 then some (0 : Int32) else bb_b1 (uX0_has p1 v_t_at) (fun (r6 : Int32) => (if r6 = 0 then some (0 : Int32) else some (1 : Int32)))))
theorem kdX4_isSeen : yX4_isSeen.cls = RX4 ∧ yX4_isSeen.cls ≠ "java/lang/invoke/MethodHandle" ∧ yX4_isSeen.cls ≠ "java/lang/invoke/VarHandle" ∧ (parseMethodDescriptor yX4_isSeen.desc).map (fun d => d.parameters.length) = some 1 := by decide +kernel
set_option maxHeartbeats 4000000 in
set_option maxRecDepth 100000 in
theorem kX4_isSeen (l : Launch) (dC : Nat → ClassId) (dI : Nat → Nat → Nat) (cy : Nat → ClassId) (a_t : Nat → Nat) (a_t_world : Nat → Nat) (p1 : Int64) (v_t_kind : Int32) (v_t_at : Int32) (v_t_wish : Int32) (v_t_wrinkles : Int32) (r : Int32) (h : uX4_isSeen p1 v_t_at = some r) : Met l yX4_isSeen wsX4_isSeen ({ frames := 2, cells := 0, slots := 0, locals := 40 }) (va_Pc [.ref (a_t 0), .long p1] (fun U => va_P (dC, dI) vwCl [((a_t 0), oX4 a_t a_t_world v_t_kind v_t_at v_t_wish v_t_wrinkles)] U.heap ∧ va_K (dC, dI) vwCl (tyX cy) U)) (vp_Si (fun r2 => r = r2 ∧ narrow .boolean (.int r2) = .int r2)) 0 0 (fun _ => False) := by
  refine Met.ofW (cc := cX4_isSeen) (maxL := 3) (ret := (some .boolean)) (by decide) rfl ?_
  intro p e s m args below meth c s₁ B hml hv
  obtain ⟨rfl, hP, hK⟩ := hv
  have hx := B.exec
  have hb := B.bytes
  have hr := B.returns
  have hts := atoms_spec (ws := wsX4_isSeen) B.pre
  have hown : s.vm.findClass RX4 = some m.cls := findClass_of_methodNamed B.named
  have hlocks := B.notSynchronized
  have iwX4 : ∀ w ∈ wsX40, w ∈ wsX4_isSeen := fun w h9 => List.mem_cons_of_mem _ (List.mem_append_right _ (h9))
  have lk1 := hts (Cond.fieldLink RX4 30 "BathBorder$Walker" "at" "I") (List.mem_of_getElem? (i := 1) rfl)
  have hl := lv_entry ([.ref (a_t 0), .long p1]) (n := 3) (Nat.le_of_ble_eq_true rfl)
  rw [lg_entry_eq]
  generalize (lg_sl ([.ref (a_t 0), .long p1]) ++ List.replicate (3 - (lg_sl ([.ref (a_t 0), .long p1])).length) Slot.unset).toArray = ls at hl ⊢
  have hl : lv_has ls 3 [(0, .ref (a_t 0)), (1, .long p1)] := hl
  unfold uX4_isSeen at h
  refine bb_cap (fun WW toW ofW => ?_)
  refine lv_aload_n hx hb dX4_isSeen_0 rfl (lv_at hl 0 rfl) ?_
  obtain ⟨r1, hc2, h⟩ := bb_b1_o h
  refine vp_callSi (W.runV (As := []) (rest := []) ⟨hx, hb, hml, hown, hts⟩ (kX4_isIn l dC dI cy a_t a_t_world v_t_kind v_t_at v_t_wish v_t_wrinkles r1 hc2) (cwV 0 hts gX4_isSeen_X4_isIn rfl rfl rfl kdX4_isIn ⟨Nat.le_of_ble_eq_true rfl, Nat.le_of_ble_eq_true rfl⟩) (bb_preV (va_recv hK hP (ci := 3) (q0 := 0) rfl rfl) hP hK) rfl rfl hl.1 rfl (lv_room (Nat.le_of_ble_eq_true rfl)) dX4_isSeen_1 ⟨Nat.zero_le _, Nat.zero_le _⟩) (fun t3 et3 => ?_)
  obtain ⟨rfl, hz4⟩ := et3
  refine lv_if_eq (tgt := 22) hx hb dX4_isSeen_4 (by decide) (fun c5 => ?_) (fun c5 => ?_)
  · replace h := bb_ifp c5 h
    refine lv_iconst (v := (0 : Int32)) hx hb dX4_isSeen_22 (by decide) ?_
    obtain rfl := bb_some1 h
    exact W.zret hx hb hr (by decide) (fun t ht hW => ⟨_, rfl, ⟨rfl, (by decide)⟩, ht⟩) (fun q hq => by cases hq) dX4_isSeen_23
  · replace h := bb_ifn c5 h
    refine lv_lload_n hx hb dX4_isSeen_7 rfl (lv_at hl 1 rfl) ?_
    refine lv_aload_n hx hb dX4_isSeen_8 rfl (lv_at hl 0 rfl) ?_
    refine va_get (D := (dC, dI)) (ci := 3) (v := .int v_t_at) (C := RX4) (T := TX4) (N := 5) hx hb hts iwX4 hown hK hP 0 rfl rfl 2 (by decide) lk1 (fun _ h9 => h9) rfl dX4_isSeen_9 ?_
    obtain ⟨r6, hc7, h⟩ := bb_b1_o h
    refine vp_callSi (W.runS (As := [.long p1, .int v_t_at]) (rest := []) ⟨hx, hb, hml, hown, hts⟩ (kX0_has l dC dI cy p1 v_t_at r6 hc7) (va_cwS 2 hts gX4_isSeen_X0_has rfl rfl rfl kdX0_has ⟨Nat.le_of_ble_eq_true rfl, Nat.le_of_ble_eq_true rfl⟩) (bb_preS (hP.sub (ws' := []) [] rfl) hK) rfl rfl hl.1 rfl (lv_room (Nat.le_of_ble_eq_true rfl)) dX4_isSeen_12 ⟨Nat.zero_le _, Nat.zero_le _⟩) (fun t8 et8 => ?_)
    obtain ⟨rfl, hz9⟩ := et8
    refine lv_if_eq (tgt := 22) hx hb dX4_isSeen_15 (by decide) (fun c10 => ?_) (fun c10 => ?_)
    · replace h := bb_ifp c10 h
      refine lv_iconst (v := (0 : Int32)) hx hb dX4_isSeen_22 (by decide) ?_
      obtain rfl := bb_some1 h
      exact W.zret hx hb hr (by decide) (fun t ht hW => ⟨_, rfl, ⟨rfl, (by decide)⟩, ht⟩) (fun q hq => by cases hq) dX4_isSeen_23
    · replace h := bb_ifn c10 h
      refine lv_iconst (v := (1 : Int32)) hx hb dX4_isSeen_18 (by decide) ?_
      refine lv_goto (tgt := 23) hx hb dX4_isSeen_19 (by decide) ?_
      obtain rfl := bb_some1 h
      exact W.zret hx hb hr (by decide) (fun t ht hW => ⟨_, rfl, ⟨rfl, (by decide)⟩, ht⟩) (fun q hq => by cases hq) dX4_isSeen_23
/-! X4_nearer -/
def uX4_nearer (p1 : Int32) (p2 : Int32) : Option (Int32) :=
  (if (p1 - p1 / (8 : Int32) * (8 : Int32)) = p2 then some p1 else (if p2 ≤ (p1 - p1 / (8 : Int32) * (8 : Int32)) then some (p1 - (1 : Int32)) else some (p1 + (1 : Int32))))
theorem kdX4_nearer : yX4_nearer.cls ≠ "java/lang/invoke/MethodHandle" ∧ yX4_nearer.cls ≠ "java/lang/invoke/VarHandle" ∧ (parseMethodDescriptor yX4_nearer.desc).map (fun d => d.parameters.length) = some 2 := by decide +kernel
set_option maxHeartbeats 4000000 in
set_option maxRecDepth 100000 in
theorem kX4_nearer (l : Launch) (dC : Nat → ClassId) (dI : Nat → Nat → Nat) (cy : Nat → ClassId) (p1 : Int32) (p2 : Int32) (r : Int32) (h : uX4_nearer p1 p2 = some r) : Met l yX4_nearer wsX4_nearer ({ frames := 0, cells := 0, slots := 0, locals := 0 }) (va_Pc [.int p1, .int p2] (fun U => va_P (dC, dI) vwCl [] U.heap ∧ va_K (dC, dI) vwCl (tyX cy) U)) (vp_Si (fun r2 => r = r2)) 0 0 (fun _ => False) := by
  refine Met.ofW (cc := cX4_nearer) (maxL := 3) (ret := (some .int)) (by decide) rfl ?_
  intro p e s m args below meth c s₁ B hml hv
  obtain ⟨rfl, hP, hK⟩ := hv
  have hx := B.exec
  have hb := B.bytes
  have hr := B.returns
  have hts := atoms_spec (ws := wsX4_nearer) B.pre
  have hown : s.vm.findClass RX4 = some m.cls := findClass_of_methodNamed B.named
  have hlocks := B.notSynchronized
  have hl := lv_entry ([.int p1, .int p2]) (n := 3) (Nat.le_of_ble_eq_true rfl)
  rw [lg_entry_eq]
  generalize (lg_sl ([.int p1, .int p2]) ++ List.replicate (3 - (lg_sl ([.int p1, .int p2])).length) Slot.unset).toArray = ls at hl ⊢
  have hl : lv_has ls 3 [(0, .int p1), (1, .int p2)] := hl
  unfold uX4_nearer at h
  refine bb_cap (fun WW toW ofW => ?_)
  refine lv_iload_n hx hb dX4_nearer_0 rfl (lv_at hl 0 rfl) ?_
  refine lv_bipush (v := (8 : Int32)) hx hb dX4_nearer_1 (by decide) ?_
  refine lv_irem hx hb dX4_nearer_3 (by decide) ?_
  refine lv_istore_n (lv' := [(2, .int (p1 - p1 / (8 : Int32) * (8 : Int32))), (0, .int p1), (1, .int p2)]) hx hb dX4_nearer_4 rfl hl (by decide) rfl (fun ls hl => ?_)
  refine lv_iload_n hx hb dX4_nearer_5 rfl (lv_at hl 0 rfl) ?_
  refine lv_iload_n hx hb dX4_nearer_6 rfl (lv_at hl 2 rfl) ?_
  refine lv_icmp_ne (tgt := 12) hx hb dX4_nearer_7 (by decide) (fun c1 => ?_) (fun c1 => ?_)
  · replace h := bb_ifn c1 h
    refine lv_iload_n hx hb dX4_nearer_12 rfl (lv_at hl 0 rfl) ?_
    refine lv_iload_n hx hb dX4_nearer_13 rfl (lv_at hl 2 rfl) ?_
    refine lv_icmp_ge (tgt := 23) hx hb dX4_nearer_14 (by decide) (fun c2 => ?_) (fun c2 => ?_)
    · replace h := bb_ifp c2 h
      refine lv_iload_n hx hb dX4_nearer_23 rfl (lv_at hl 1 rfl) ?_
      refine lv_iconst (v := (1 : Int32)) hx hb dX4_nearer_24 (by decide) ?_
      refine lv_isub hx hb dX4_nearer_25 ?_
      obtain rfl := bb_some1 h
      exact W.iret hx hb hr (fun t ht hW => ⟨_, rfl, rfl, ht⟩) (fun q hq => by cases hq) dX4_nearer_26
    · replace h := bb_ifn c2 h
      refine lv_iload_n hx hb dX4_nearer_17 rfl (lv_at hl 1 rfl) ?_
      refine lv_iconst (v := (1 : Int32)) hx hb dX4_nearer_18 (by decide) ?_
      refine lv_iadd hx hb dX4_nearer_19 ?_
      refine lv_goto (tgt := 26) hx hb dX4_nearer_20 (by decide) ?_
      obtain rfl := bb_some1 h
      exact W.iret hx hb hr (fun t ht hW => ⟨_, rfl, rfl, ht⟩) (fun q hq => by cases hq) dX4_nearer_26
  · replace h := bb_ifp c1 h
    refine lv_iload_n hx hb dX4_nearer_10 rfl (lv_at hl 1 rfl) ?_
    obtain rfl := bb_some1 h
    exact W.iret hx hb hr (fun t ht hW => ⟨_, rfl, rfl, ht⟩) (fun q hq => by cases hq) dX4_nearer_11
/-! X4_spyTarget -/
def uX4_spyTarget (p1 : Int64) (v_t_at : Int32) (v_t_wish : Int32) : Option (Int32) :=
  bb_b1 (uX0_columnOfSide v_t_wish) (fun (r1 : Int32) => bb_b1 (uX4_nearer v_t_at r1) (fun (r4 : Int32) => bb_b1 (uX0_has p1 r4) (fun (r7 : Int32) => (if r7 = 0 then some r4 else some v_t_at))))
theorem kdX4_spyTarget : yX4_spyTarget.cls = RX4 ∧ yX4_spyTarget.cls ≠ "java/lang/invoke/MethodHandle" ∧ yX4_spyTarget.cls ≠ "java/lang/invoke/VarHandle" ∧ (parseMethodDescriptor yX4_spyTarget.desc).map (fun d => d.parameters.length) = some 1 := by decide +kernel
set_option maxHeartbeats 4000000 in
set_option maxRecDepth 100000 in
theorem kX4_spyTarget (l : Launch) (dC : Nat → ClassId) (dI : Nat → Nat → Nat) (cy : Nat → ClassId) (a_t : Nat → Nat) (a_t_world : Nat → Nat) (p1 : Int64) (v_t_kind : Int32) (v_t_at : Int32) (v_t_wish : Int32) (v_t_wrinkles : Int32) (r : Int32) (h : uX4_spyTarget p1 v_t_at v_t_wish = some r) : Met l yX4_spyTarget wsX4_spyTarget ({ frames := 1, cells := 0, slots := 0, locals := 22 }) (va_Pc [.ref (a_t 0), .long p1] (fun U => va_P (dC, dI) vwCl [((a_t 0), oX4 a_t a_t_world v_t_kind v_t_at v_t_wish v_t_wrinkles)] U.heap ∧ va_K (dC, dI) vwCl (tyX cy) U)) (vp_Si (fun r2 => r = r2)) 0 0 (fun _ => False) := by
  refine Met.ofW (cc := cX4_spyTarget) (maxL := 4) (ret := (some .int)) (by decide) rfl ?_
  intro p e s m args below meth c s₁ B hml hv
  obtain ⟨rfl, hP, hK⟩ := hv
  have hx := B.exec
  have hb := B.bytes
  have hr := B.returns
  have hts := atoms_spec (ws := wsX4_spyTarget) B.pre
  have hown : s.vm.findClass RX4 = some m.cls := findClass_of_methodNamed B.named
  have hlocks := B.notSynchronized
  have iwX4 : ∀ w ∈ wsX40, w ∈ wsX4_spyTarget := fun w h9 => List.mem_cons_of_mem _ (List.mem_append_right _ (h9))
  have lk1 := hts (Cond.fieldLink RX4 30 "BathBorder$Walker" "at" "I") (List.mem_of_getElem? (i := 1) rfl)
  have lk2 := hts (Cond.fieldLink RX4 35 "BathBorder$Walker" "wish" "I") (List.mem_of_getElem? (i := 2) rfl)
  have hl := lv_entry ([.ref (a_t 0), .long p1]) (n := 4) (Nat.le_of_ble_eq_true rfl)
  rw [lg_entry_eq]
  generalize (lg_sl ([.ref (a_t 0), .long p1]) ++ List.replicate (4 - (lg_sl ([.ref (a_t 0), .long p1])).length) Slot.unset).toArray = ls at hl ⊢
  have hl : lv_has ls 4 [(0, .ref (a_t 0)), (1, .long p1)] := hl
  unfold uX4_spyTarget at h
  refine bb_cap (fun WW toW ofW => ?_)
  refine lv_aload_n hx hb dX4_spyTarget_0 rfl (lv_at hl 0 rfl) ?_
  refine va_get (D := (dC, dI)) (ci := 3) (v := .int v_t_at) (C := RX4) (T := TX4) (N := 5) hx hb hts iwX4 hown hK hP 0 rfl rfl 2 (by decide) lk1 (fun _ h9 => h9) rfl dX4_spyTarget_1 ?_
  refine lv_aload_n hx hb dX4_spyTarget_4 rfl (lv_at hl 0 rfl) ?_
  refine va_get (D := (dC, dI)) (ci := 3) (v := .int v_t_wish) (C := RX4) (T := TX4) (N := 5) hx hb hts iwX4 hown hK hP 0 rfl rfl 3 (by decide) lk2 (fun _ h9 => h9) rfl dX4_spyTarget_5 ?_
  obtain ⟨r1, hc2, h⟩ := bb_b1_o h
  refine vp_callSi (W.runS (As := [.int v_t_wish]) (rest := [.int v_t_at]) ⟨hx, hb, hml, hown, hts⟩ (kX0_columnOfSide l dC dI cy v_t_wish r1 hc2) (va_cwS 1 hts gX4_spyTarget_X0_columnOfSide rfl rfl rfl kdX0_columnOfSide ⟨Nat.le_of_ble_eq_true rfl, Nat.le_of_ble_eq_true rfl⟩) (bb_preS (hP.sub (ws' := []) [] rfl) hK) rfl rfl hl.1 rfl (lv_room (Nat.le_of_ble_eq_true rfl)) dX4_spyTarget_8 ⟨Nat.zero_le _, Nat.zero_le _⟩) (fun t3 et3 => ?_)
  obtain rfl := et3
  obtain ⟨r4, hc5, h⟩ := bb_b1_o h
  refine vp_callSi (W.runS (As := [.int v_t_at, .int r1]) (rest := []) ⟨hx, hb, hml, hown, hts⟩ (kX4_nearer l dC dI cy v_t_at r1 r4 hc5) (va_cwS 2 hts gX4_spyTarget_X4_nearer rfl rfl rfl kdX4_nearer ⟨Nat.le_of_ble_eq_true rfl, Nat.le_of_ble_eq_true rfl⟩) (bb_preS (hP.sub (ws' := []) [] rfl) hK) rfl rfl hl.1 rfl (lv_room (Nat.le_of_ble_eq_true rfl)) dX4_spyTarget_11 ⟨Nat.zero_le _, Nat.zero_le _⟩) (fun t6 et6 => ?_)
  obtain rfl := et6
  refine lv_istore_n (lv' := [(3, .int r4), (0, .ref (a_t 0)), (1, .long p1)]) hx hb dX4_spyTarget_14 rfl hl (by decide) rfl (fun ls hl => ?_)
  refine lv_lload_n hx hb dX4_spyTarget_15 rfl (lv_at hl 2 rfl) ?_
  refine lv_iload_n hx hb dX4_spyTarget_16 rfl (lv_at hl 0 rfl) ?_
  obtain ⟨r7, hc8, h⟩ := bb_b1_o h
  refine vp_callSi (W.runS (As := [.long p1, .int r4]) (rest := []) ⟨hx, hb, hml, hown, hts⟩ (kX0_has l dC dI cy p1 r4 r7 hc8) (va_cwS 2 hts gX4_spyTarget_X0_has rfl rfl rfl kdX0_has ⟨Nat.le_of_ble_eq_true rfl, Nat.le_of_ble_eq_true rfl⟩) (bb_preS (hP.sub (ws' := []) [] rfl) hK) rfl rfl hl.1 rfl (lv_room (Nat.le_of_ble_eq_true rfl)) dX4_spyTarget_17 ⟨Nat.zero_le _, Nat.zero_le _⟩) (fun t9 et9 => ?_)
  obtain ⟨rfl, hz10⟩ := et9
  refine lv_if_eq (tgt := 30) hx hb dX4_spyTarget_20 (by decide) (fun c11 => ?_) (fun c11 => ?_)
  · replace h := bb_ifp c11 h
    refine lv_iload_n hx hb dX4_spyTarget_30 rfl (lv_at hl 0 rfl) ?_
    obtain rfl := bb_some1 h
    exact W.iret hx hb hr (fun t ht hW => ⟨_, rfl, rfl, ht⟩) (fun q hq => by cases hq) dX4_spyTarget_31
  · replace h := bb_ifn c11 h
    refine lv_aload_n hx hb dX4_spyTarget_23 rfl (lv_at hl 1 rfl) ?_
    refine va_get (D := (dC, dI)) (ci := 3) (v := .int v_t_at) (C := RX4) (T := TX4) (N := 5) hx hb hts iwX4 hown hK hP 0 rfl rfl 2 (by decide) lk1 (fun _ h9 => h9) rfl dX4_spyTarget_24 ?_
    refine lv_goto (tgt := 31) hx hb dX4_spyTarget_27 (by decide) ?_
    obtain rfl := bb_some1 h
    exact W.iret hx hb hr (fun t ht hW => ⟨_, rfl, rfl, ht⟩) (fun q hq => by cases hq) dX4_spyTarget_31
/-! X4_generalTarget -/
def uX4_generalTarget (p1 : Int64) (v_t_at : Int32) (v_t_wish : Int32) : Option (Int32) :=
  bb_b1 (uX4_spyTarget p1 v_t_at v_t_wish) (fun (r1 : Int32) => (if r1 = v_t_at then bb_b1 (uX0_beside v_t_at (3 : Int32)) (fun (r5 : Int32) => (if r5 < 0 then some v_t_at else bb_b1 (uX0_has p1 r5) (fun (r9 : Int32) => (if r9 = 0 then some r5 else some v_t_at)))) else some r1))
theorem kdX4_generalTarget : yX4_generalTarget.cls = RX4 ∧ yX4_generalTarget.cls ≠ "java/lang/invoke/MethodHandle" ∧ yX4_generalTarget.cls ≠ "java/lang/invoke/VarHandle" ∧ (parseMethodDescriptor yX4_generalTarget.desc).map (fun d => d.parameters.length) = some 1 := by decide +kernel
set_option maxHeartbeats 4000000 in
set_option maxRecDepth 100000 in
theorem kX4_generalTarget (l : Launch) (dC : Nat → ClassId) (dI : Nat → Nat → Nat) (cy : Nat → ClassId) (a_t : Nat → Nat) (a_t_world : Nat → Nat) (p1 : Int64) (v_t_kind : Int32) (v_t_at : Int32) (v_t_wish : Int32) (v_t_wrinkles : Int32) (r : Int32) (h : uX4_generalTarget p1 v_t_at v_t_wish = some r) : Met l yX4_generalTarget wsX4_generalTarget ({ frames := 2, cells := 0, slots := 0, locals := 45 }) (va_Pc [.ref (a_t 0), .long p1] (fun U => va_P (dC, dI) vwCl [((a_t 0), oX4 a_t a_t_world v_t_kind v_t_at v_t_wish v_t_wrinkles)] U.heap ∧ va_K (dC, dI) vwCl (tyX cy) U)) (vp_Si (fun r2 => r = r2)) 0 0 (fun _ => False) := by
  refine Met.ofW (cc := cX4_generalTarget) (maxL := 5) (ret := (some .int)) (by decide) rfl ?_
  intro p e s m args below meth c s₁ B hml hv
  obtain ⟨rfl, hP, hK⟩ := hv
  have hx := B.exec
  have hb := B.bytes
  have hr := B.returns
  have hts := atoms_spec (ws := wsX4_generalTarget) B.pre
  have hown : s.vm.findClass RX4 = some m.cls := findClass_of_methodNamed B.named
  have hlocks := B.notSynchronized
  have iwX4 : ∀ w ∈ wsX40, w ∈ wsX4_generalTarget := fun w h9 => List.mem_cons_of_mem _ (List.mem_append_right _ (h9))
  have lk1 := hts (Cond.fieldLink RX4 30 "BathBorder$Walker" "at" "I") (List.mem_of_getElem? (i := 1) rfl)
  have hl := lv_entry ([.ref (a_t 0), .long p1]) (n := 5) (Nat.le_of_ble_eq_true rfl)
  rw [lg_entry_eq]
  generalize (lg_sl ([.ref (a_t 0), .long p1]) ++ List.replicate (5 - (lg_sl ([.ref (a_t 0), .long p1])).length) Slot.unset).toArray = ls at hl ⊢
  have hl : lv_has ls 5 [(0, .ref (a_t 0)), (1, .long p1)] := hl
  unfold uX4_generalTarget at h
  refine bb_cap (fun WW toW ofW => ?_)
  refine lv_aload_n hx hb dX4_generalTarget_0 rfl (lv_at hl 0 rfl) ?_
  refine lv_lload_n hx hb dX4_generalTarget_1 rfl (lv_at hl 1 rfl) ?_
  obtain ⟨r1, hc2, h⟩ := bb_b1_o h
  refine vp_callSi (W.runV (As := [.long p1]) (rest := []) ⟨hx, hb, hml, hown, hts⟩ (kX4_spyTarget l dC dI cy a_t a_t_world p1 v_t_kind v_t_at v_t_wish v_t_wrinkles r1 hc2) (cwV 1 hts gX4_generalTarget_X4_spyTarget rfl rfl rfl kdX4_spyTarget ⟨Nat.le_of_ble_eq_true rfl, Nat.le_of_ble_eq_true rfl⟩) (bb_preV (va_recv hK hP (ci := 3) (q0 := 0) rfl rfl) hP hK) rfl rfl hl.1 rfl (lv_room (Nat.le_of_ble_eq_true rfl)) dX4_generalTarget_2 ⟨Nat.zero_le _, Nat.zero_le _⟩) (fun t3 et3 => ?_)
  obtain rfl := et3
  refine lv_istore_n (lv' := [(3, .int r1), (0, .ref (a_t 0)), (1, .long p1)]) hx hb dX4_generalTarget_5 rfl hl (by decide) rfl (fun ls hl => ?_)
  refine lv_iload_n hx hb dX4_generalTarget_6 rfl (lv_at hl 0 rfl) ?_
  refine lv_aload_n hx hb dX4_generalTarget_7 rfl (lv_at hl 1 rfl) ?_
  refine va_get (D := (dC, dI)) (ci := 3) (v := .int v_t_at) (C := RX4) (T := TX4) (N := 5) hx hb hts iwX4 hown hK hP 0 rfl rfl 2 (by decide) lk1 (fun _ h9 => h9) rfl dX4_generalTarget_8 ?_
  refine lv_icmp_eq (tgt := 16) hx hb dX4_generalTarget_11 (by decide) (fun c4 => ?_) (fun c4 => ?_)
  · replace h := bb_ifp c4 h
    refine lv_aload_n hx hb dX4_generalTarget_16 rfl (lv_at hl 1 rfl) ?_
    refine va_get (D := (dC, dI)) (ci := 3) (v := .int v_t_at) (C := RX4) (T := TX4) (N := 5) hx hb hts iwX4 hown hK hP 0 rfl rfl 2 (by decide) lk1 (fun _ h9 => h9) rfl dX4_generalTarget_17 ?_
    refine lv_iconst (v := (3 : Int32)) hx hb dX4_generalTarget_20 (by decide) ?_
    obtain ⟨r5, hc6, h⟩ := bb_b1_o h
    refine vp_callSi (W.runS (As := [.int v_t_at, .int (3 : Int32)]) (rest := []) ⟨hx, hb, hml, hown, hts⟩ (kX0_beside l dC dI cy v_t_at (3 : Int32) r5 hc6) (va_cwS 2 hts gX4_generalTarget_X0_beside rfl rfl rfl kdX0_beside ⟨Nat.le_of_ble_eq_true rfl, Nat.le_of_ble_eq_true rfl⟩) (bb_preS (hP.sub (ws' := []) [] rfl) hK) rfl rfl hl.1 rfl (lv_room (Nat.le_of_ble_eq_true rfl)) dX4_generalTarget_21 ⟨Nat.zero_le _, Nat.zero_le _⟩) (fun t7 et7 => ?_)
    obtain rfl := et7
    refine lv_istore (lv' := [(4, .int r5), (3, .int r1), (0, .ref (a_t 0)), (1, .long p1)]) hx hb dX4_generalTarget_24 hl (by decide) rfl (fun ls hl => ?_)
    refine lv_iload hx hb dX4_generalTarget_26 (lv_at hl 0 rfl) ?_
    refine lv_if_lt (tgt := 40) hx hb dX4_generalTarget_28 (by decide) (fun c8 => ?_) (fun c8 => ?_)
    · replace h := bb_ifp c8 h
      refine lv_aload_n hx hb dX4_generalTarget_40 rfl (lv_at hl 2 rfl) ?_
      refine va_get (D := (dC, dI)) (ci := 3) (v := .int v_t_at) (C := RX4) (T := TX4) (N := 5) hx hb hts iwX4 hown hK hP 0 rfl rfl 2 (by decide) lk1 (fun _ h9 => h9) rfl dX4_generalTarget_41 ?_
      refine lv_goto (tgt := 49) hx hb dX4_generalTarget_44 (by decide) ?_
      obtain rfl := bb_some1 h
      exact W.iret hx hb hr (fun t ht hW => ⟨_, rfl, rfl, ht⟩) (fun q hq => by cases hq) dX4_generalTarget_49
    · replace h := bb_ifn c8 h
      refine lv_lload_n hx hb dX4_generalTarget_31 rfl (lv_at hl 3 rfl) ?_
      refine lv_iload hx hb dX4_generalTarget_32 (lv_at hl 0 rfl) ?_
      obtain ⟨r9, hc10, h⟩ := bb_b1_o h
      refine vp_callSi (W.runS (As := [.long p1, .int r5]) (rest := []) ⟨hx, hb, hml, hown, hts⟩ (kX0_has l dC dI cy p1 r5 r9 hc10) (va_cwS 2 hts gX4_generalTarget_X0_has rfl rfl rfl kdX0_has ⟨Nat.le_of_ble_eq_true rfl, Nat.le_of_ble_eq_true rfl⟩) (bb_preS (hP.sub (ws' := []) [] rfl) hK) rfl rfl hl.1 rfl (lv_room (Nat.le_of_ble_eq_true rfl)) dX4_generalTarget_34 ⟨Nat.zero_le _, Nat.zero_le _⟩) (fun t11 et11 => ?_)
      obtain ⟨rfl, hz12⟩ := et11
      refine lv_if_eq (tgt := 47) hx hb dX4_generalTarget_37 (by decide) (fun c13 => ?_) (fun c13 => ?_)
      · replace h := bb_ifp c13 h
        refine lv_iload hx hb dX4_generalTarget_47 (lv_at hl 0 rfl) ?_
        obtain rfl := bb_some1 h
        exact W.iret hx hb hr (fun t ht hW => ⟨_, rfl, rfl, ht⟩) (fun q hq => by cases hq) dX4_generalTarget_49
      · replace h := bb_ifn c13 h
        refine lv_aload_n hx hb dX4_generalTarget_40 rfl (lv_at hl 2 rfl) ?_
        refine va_get (D := (dC, dI)) (ci := 3) (v := .int v_t_at) (C := RX4) (T := TX4) (N := 5) hx hb hts iwX4 hown hK hP 0 rfl rfl 2 (by decide) lk1 (fun _ h9 => h9) rfl dX4_generalTarget_41 ?_
        refine lv_goto (tgt := 49) hx hb dX4_generalTarget_44 (by decide) ?_
        obtain rfl := bb_some1 h
        exact W.iret hx hb hr (fun t ht hW => ⟨_, rfl, rfl, ht⟩) (fun q hq => by cases hq) dX4_generalTarget_49
  · replace h := bb_ifn c4 h
    refine lv_iload_n hx hb dX4_generalTarget_14 rfl (lv_at hl 0 rfl) ?_
    obtain rfl := bb_some1 h
    exact W.iret hx hb hr (fun t ht hW => ⟨_, rfl, rfl, ht⟩) (fun q hq => by cases hq) dX4_generalTarget_15
/-! X4_floaterTarget -/
def uX4_floaterTarget (v_t_at : Int32) (f_t_world_current : Nat → Int32) : Option (Int32) :=
  bb_ix v_t_at 48 (bb_b1 (uX0_beside v_t_at (f_t_world_current v_t_at.toNatClampNeg)) (fun (r2 : Int32) => (if 0 ≤ r2 then some r2 else some v_t_at)))
theorem kdX4_floaterTarget : yX4_floaterTarget.cls = RX4 ∧ yX4_floaterTarget.cls ≠ "java/lang/invoke/MethodHandle" ∧ yX4_floaterTarget.cls ≠ "java/lang/invoke/VarHandle" ∧ (parseMethodDescriptor yX4_floaterTarget.desc).map (fun d => d.parameters.length) = some 0 := by decide +kernel
set_option maxHeartbeats 4000000 in
set_option maxRecDepth 100000 in
theorem kX4_floaterTarget (l : Launch) (dC : Nat → ClassId) (dI : Nat → Nat → Nat) (cy : Nat → ClassId) (a_t : Nat → Nat) (a_t_world : Nat → Nat) (v_t_kind : Int32) (v_t_at : Int32) (v_t_wish : Int32) (v_t_wrinkles : Int32) (v_t_world_sight : Int32) (v_t_world_bathers : Int32) (v_t_world_minute : Int32) (v_t_world_seenEver : Int32) (v_t_world_z : Int32) (f_t_world_current : Nat → Int32) (r : Int32) (h : uX4_floaterTarget v_t_at f_t_world_current = some r) : Met l yX4_floaterTarget wsX4_floaterTarget ({ frames := 2, cells := 0, slots := 0, locals := 41 }) (va_Pc [.ref (a_t 0)] (fun U => va_P (dC, dI) vwCl [((a_t 0), oX4 a_t a_t_world v_t_kind v_t_at v_t_wish v_t_wrinkles), ((a_t_world 0), oX6 a_t_world v_t_world_sight v_t_world_bathers v_t_world_minute v_t_world_seenEver v_t_world_z), ((a_t_world 2), .inl (cy 0, 48, .inl f_t_world_current))] U.heap ∧ va_K (dC, dI) vwCl (tyX cy) U)) (vp_Si (fun r2 => r = r2)) 0 0 (fun _ => False) := by
  refine Met.ofW (cc := cX4_floaterTarget) (maxL := 2) (ret := (some .int)) (by decide) rfl ?_
  intro p e s m args below meth c s₁ B hml hv
  obtain ⟨rfl, hP, hK⟩ := hv
  have hx := B.exec
  have hb := B.bytes
  have hr := B.returns
  have hts := atoms_spec (ws := wsX4_floaterTarget) B.pre
  have hown : s.vm.findClass RX4 = some m.cls := findClass_of_methodNamed B.named
  have hlocks := B.notSynchronized
  have iwX4 : ∀ w ∈ wsX40, w ∈ wsX4_floaterTarget := fun w h9 => List.mem_cons_of_mem _ (List.mem_append_left _ (List.mem_append_right _ (h9)))
  have iwX6 : ∀ w ∈ wsX60, w ∈ wsX4_floaterTarget := fun w h9 => List.mem_cons_of_mem _ (List.mem_append_right _ (h9))
  have lk1 := hts (Cond.fieldLink RX4 30 "BathBorder$Walker" "at" "I") (List.mem_of_getElem? (i := 1) rfl)
  have lk2 := hts (Cond.fieldLink RX4 9 "BathBorder$Walker" "world" "LBathBorder$World;") (List.mem_of_getElem? (i := 2) rfl)
  have lk3 := hts (Cond.fieldLink RX4 92 "BathBorder$World" "current" "[I") (List.mem_of_getElem? (i := 3) rfl)
  have hl := lv_entry ([.ref (a_t 0)]) (n := 2) (Nat.le_of_ble_eq_true rfl)
  rw [lg_entry_eq]
  generalize (lg_sl ([.ref (a_t 0)]) ++ List.replicate (2 - (lg_sl ([.ref (a_t 0)])).length) Slot.unset).toArray = ls at hl ⊢
  have hl : lv_has ls 2 [(0, .ref (a_t 0))] := hl
  unfold uX4_floaterTarget at h
  refine bb_cap (fun WW toW ofW => ?_)
  refine lv_aload_n hx hb dX4_floaterTarget_0 rfl (lv_at hl 0 rfl) ?_
  refine va_get (D := (dC, dI)) (ci := 3) (v := .int v_t_at) (C := RX4) (T := TX4) (N := 5) hx hb hts iwX4 hown hK hP 0 rfl rfl 2 (by decide) lk1 (fun _ h9 => h9) rfl dX4_floaterTarget_1 ?_
  refine lv_aload_n hx hb dX4_floaterTarget_4 rfl (lv_at hl 0 rfl) ?_
  refine va_get (D := (dC, dI)) (ci := 3) (v := .ref (a_t_world 0)) (C := RX4) (T := TX4) (N := 5) hx hb hts iwX4 hown hK hP 0 rfl rfl 0 (by decide) lk2 (fun _ h9 => h9) rfl dX4_floaterTarget_5 ?_
  refine va_get (D := (dC, dI)) (ci := 5) (v := .ref (a_t_world 2)) (C := RX6) (T := TX6) (N := 14) hx hb hts iwX6 hown hK hP 1 rfl rfl 1 (by decide) lk3 (fun _ h9 => h9) rfl dX4_floaterTarget_8 ?_
  refine lv_aload_n hx hb dX4_floaterTarget_11 rfl (lv_at hl 0 rfl) ?_
  refine va_get (D := (dC, dI)) (ci := 3) (v := .int v_t_at) (C := RX4) (T := TX4) (N := 5) hx hb hts iwX4 hown hK hP 0 rfl rfl 2 (by decide) lk1 (fun _ h9 => h9) rfl dX4_floaterTarget_12 ?_
  obtain ⟨hi1, h⟩ := bb_ix_o h
  refine va_iald hx hb hK hP 2 0 rfl rfl hi1 dX4_floaterTarget_15 ?_
  obtain ⟨r2, hc3, h⟩ := bb_b1_o h
  refine vp_callSi (W.runS (As := [.int v_t_at, .int (f_t_world_current v_t_at.toNatClampNeg)]) (rest := []) ⟨hx, hb, hml, hown, hts⟩ (kX0_beside l dC dI cy v_t_at (f_t_world_current v_t_at.toNatClampNeg) r2 hc3) (va_cwS 2 hts gX4_floaterTarget_X0_beside rfl rfl rfl kdX0_beside ⟨Nat.le_of_ble_eq_true rfl, Nat.le_of_ble_eq_true rfl⟩) (bb_preS (hP.sub (ws' := []) [] rfl) hK) rfl rfl hl.1 rfl (lv_room (Nat.le_of_ble_eq_true rfl)) dX4_floaterTarget_16 ⟨Nat.zero_le _, Nat.zero_le _⟩) (fun t4 et4 => ?_)
  obtain rfl := et4
  refine lv_istore_n (lv' := [(1, .int r2), (0, .ref (a_t 0))]) hx hb dX4_floaterTarget_19 rfl hl (by decide) rfl (fun ls hl => ?_)
  refine lv_iload_n hx hb dX4_floaterTarget_20 rfl (lv_at hl 0 rfl) ?_
  refine lv_if_ge (tgt := 31) hx hb dX4_floaterTarget_21 (by decide) (fun c5 => ?_) (fun c5 => ?_)
  · replace h := bb_ifp c5 h
    refine lv_iload_n hx hb dX4_floaterTarget_31 rfl (lv_at hl 0 rfl) ?_
    obtain rfl := bb_some1 h
    exact W.iret hx hb hr (fun t ht hW => ⟨_, rfl, rfl, ht⟩) (fun q hq => by cases hq) dX4_floaterTarget_32
  · replace h := bb_ifn c5 h
    refine lv_aload_n hx hb dX4_floaterTarget_24 rfl (lv_at hl 1 rfl) ?_
    refine va_get (D := (dC, dI)) (ci := 3) (v := .int v_t_at) (C := RX4) (T := TX4) (N := 5) hx hb hts iwX4 hown hK hP 0 rfl rfl 2 (by decide) lk1 (fun _ h9 => h9) rfl dX4_floaterTarget_25 ?_
    refine lv_goto (tgt := 32) hx hb dX4_floaterTarget_28 (by decide) ?_
    obtain rfl := bb_some1 h
    exact W.iret hx hb hr (fun t ht hW => ⟨_, rfl, rfl, ht⟩) (fun q hq => by cases hq) dX4_floaterTarget_32
/-! X4_loverTarget -/
def uX4_loverTarget (v_t_at : Int32) (f_t_world_current : Nat → Int32) : Option (Int32) :=
  bb_ix v_t_at 48 ((if (f_t_world_current v_t_at.toNatClampNeg) = 0 then bb_b1 (uX0_columnOf v_t_at) (fun (r3 : Int32) => (if (4 : Int32) ≤ r3 then bb_b1 (uX4_nearer v_t_at (4 : Int32)) (fun (r7 : Int32) => some r7) else bb_b1 (uX4_nearer v_t_at (3 : Int32)) (fun (r10 : Int32) => some r10))) else bb_b1 (uX4_floaterTarget v_t_at f_t_world_current) (fun (r13 : Int32) => some r13)))
theorem kdX4_loverTarget : yX4_loverTarget.cls = RX4 ∧ yX4_loverTarget.cls ≠ "java/lang/invoke/MethodHandle" ∧ yX4_loverTarget.cls ≠ "java/lang/invoke/VarHandle" ∧ (parseMethodDescriptor yX4_loverTarget.desc).map (fun d => d.parameters.length) = some 0 := by decide +kernel
set_option maxHeartbeats 4000000 in
set_option maxRecDepth 100000 in
theorem kX4_loverTarget (l : Launch) (dC : Nat → ClassId) (dI : Nat → Nat → Nat) (cy : Nat → ClassId) (a_t : Nat → Nat) (a_t_world : Nat → Nat) (v_t_kind : Int32) (v_t_at : Int32) (v_t_wish : Int32) (v_t_wrinkles : Int32) (v_t_world_sight : Int32) (v_t_world_bathers : Int32) (v_t_world_minute : Int32) (v_t_world_seenEver : Int32) (v_t_world_z : Int32) (f_t_world_current : Nat → Int32) (r : Int32) (h : uX4_loverTarget v_t_at f_t_world_current = some r) : Met l yX4_loverTarget wsX4_loverTarget ({ frames := 3, cells := 0, slots := 0, locals := 62 }) (va_Pc [.ref (a_t 0)] (fun U => va_P (dC, dI) vwCl [((a_t 0), oX4 a_t a_t_world v_t_kind v_t_at v_t_wish v_t_wrinkles), ((a_t_world 0), oX6 a_t_world v_t_world_sight v_t_world_bathers v_t_world_minute v_t_world_seenEver v_t_world_z), ((a_t_world 2), .inl (cy 0, 48, .inl f_t_world_current))] U.heap ∧ va_K (dC, dI) vwCl (tyX cy) U)) (vp_Si (fun r2 => r = r2)) 0 0 (fun _ => False) := by
  refine Met.ofW (cc := cX4_loverTarget) (maxL := 1) (ret := (some .int)) (by decide) rfl ?_
  intro p e s m args below meth c s₁ B hml hv
  obtain ⟨rfl, hP, hK⟩ := hv
  have hx := B.exec
  have hb := B.bytes
  have hr := B.returns
  have hts := atoms_spec (ws := wsX4_loverTarget) B.pre
  have hown : s.vm.findClass RX4 = some m.cls := findClass_of_methodNamed B.named
  have hlocks := B.notSynchronized
  have iwX4 : ∀ w ∈ wsX40, w ∈ wsX4_loverTarget := fun w h9 => List.mem_cons_of_mem _ (List.mem_append_left _ (List.mem_append_right _ (h9)))
  have iwX6 : ∀ w ∈ wsX60, w ∈ wsX4_loverTarget := fun w h9 => List.mem_cons_of_mem _ (List.mem_append_right _ (h9))
  have lk1 := hts (Cond.fieldLink RX4 9 "BathBorder$Walker" "world" "LBathBorder$World;") (List.mem_of_getElem? (i := 1) rfl)
  have lk2 := hts (Cond.fieldLink RX4 92 "BathBorder$World" "current" "[I") (List.mem_of_getElem? (i := 2) rfl)
  have lk3 := hts (Cond.fieldLink RX4 30 "BathBorder$Walker" "at" "I") (List.mem_of_getElem? (i := 3) rfl)
  have hl := lv_entry ([.ref (a_t 0)]) (n := 1) (Nat.le_of_ble_eq_true rfl)
  rw [lg_entry_eq]
  generalize (lg_sl ([.ref (a_t 0)]) ++ List.replicate (1 - (lg_sl ([.ref (a_t 0)])).length) Slot.unset).toArray = ls at hl ⊢
  have hl : lv_has ls 1 [(0, .ref (a_t 0))] := hl
  unfold uX4_loverTarget at h
  refine bb_cap (fun WW toW ofW => ?_)
  refine lv_aload_n hx hb dX4_loverTarget_0 rfl (lv_at hl 0 rfl) ?_
  refine va_get (D := (dC, dI)) (ci := 3) (v := .ref (a_t_world 0)) (C := RX4) (T := TX4) (N := 5) hx hb hts iwX4 hown hK hP 0 rfl rfl 0 (by decide) lk1 (fun _ h9 => h9) rfl dX4_loverTarget_1 ?_
  refine va_get (D := (dC, dI)) (ci := 5) (v := .ref (a_t_world 2)) (C := RX6) (T := TX6) (N := 14) hx hb hts iwX6 hown hK hP 1 rfl rfl 1 (by decide) lk2 (fun _ h9 => h9) rfl dX4_loverTarget_4 ?_
  refine lv_aload_n hx hb dX4_loverTarget_7 rfl (lv_at hl 0 rfl) ?_
  refine va_get (D := (dC, dI)) (ci := 3) (v := .int v_t_at) (C := RX4) (T := TX4) (N := 5) hx hb hts iwX4 hown hK hP 0 rfl rfl 2 (by decide) lk3 (fun _ h9 => h9) rfl dX4_loverTarget_8 ?_
  obtain ⟨hi1, h⟩ := bb_ix_o h
  refine va_iald hx hb hK hP 2 0 rfl rfl hi1 dX4_loverTarget_11 ?_
  refine lv_if_eq (tgt := 20) hx hb dX4_loverTarget_12 (by decide) (fun c2 => ?_) (fun c2 => ?_)
  · replace h := bb_ifp c2 h
    refine lv_aload_n hx hb dX4_loverTarget_20 rfl (lv_at hl 0 rfl) ?_
    refine va_get (D := (dC, dI)) (ci := 3) (v := .int v_t_at) (C := RX4) (T := TX4) (N := 5) hx hb hts iwX4 hown hK hP 0 rfl rfl 2 (by decide) lk3 (fun _ h9 => h9) rfl dX4_loverTarget_21 ?_
    refine lv_aload_n hx hb dX4_loverTarget_24 rfl (lv_at hl 0 rfl) ?_
    refine va_get (D := (dC, dI)) (ci := 3) (v := .int v_t_at) (C := RX4) (T := TX4) (N := 5) hx hb hts iwX4 hown hK hP 0 rfl rfl 2 (by decide) lk3 (fun _ h9 => h9) rfl dX4_loverTarget_25 ?_
    obtain ⟨r3, hc4, h⟩ := bb_b1_o h
    refine vp_callSi (W.runS (As := [.int v_t_at]) (rest := [.int v_t_at]) ⟨hx, hb, hml, hown, hts⟩ (kX0_columnOf l dC dI cy v_t_at r3 hc4) (va_cwS 1 hts gX4_loverTarget_X0_columnOf rfl rfl rfl kdX0_columnOf ⟨Nat.le_of_ble_eq_true rfl, Nat.le_of_ble_eq_true rfl⟩) (bb_preS (hP.sub (ws' := []) [] rfl) hK) rfl rfl hl.1 rfl (lv_room (Nat.le_of_ble_eq_true rfl)) dX4_loverTarget_28 ⟨Nat.zero_le _, Nat.zero_le _⟩) (fun t5 et5 => ?_)
    obtain rfl := et5
    refine lv_iconst (v := (4 : Int32)) hx hb dX4_loverTarget_31 (by decide) ?_
    refine lv_icmp_ge (tgt := 39) hx hb dX4_loverTarget_32 (by decide) (fun c6 => ?_) (fun c6 => ?_)
    · replace h := bb_ifp c6 h
      refine lv_iconst (v := (4 : Int32)) hx hb dX4_loverTarget_39 (by decide) ?_
      obtain ⟨r7, hc8, h⟩ := bb_b1_o h
      refine vp_callSi (W.runS (As := [.int v_t_at, .int (4 : Int32)]) (rest := []) ⟨hx, hb, hml, hown, hts⟩ (kX4_nearer l dC dI cy v_t_at (4 : Int32) r7 hc8) (va_cwS 2 hts gX4_loverTarget_X4_nearer rfl rfl rfl kdX4_nearer ⟨Nat.le_of_ble_eq_true rfl, Nat.le_of_ble_eq_true rfl⟩) (bb_preS (hP.sub (ws' := []) [] rfl) hK) rfl rfl hl.1 rfl (lv_room (Nat.le_of_ble_eq_true rfl)) dX4_loverTarget_40 ⟨Nat.zero_le _, Nat.zero_le _⟩) (fun t9 et9 => ?_)
      obtain rfl := et9
      obtain rfl := bb_some1 h
      exact W.iret hx hb hr (fun t ht hW => ⟨_, rfl, rfl, ht⟩) (fun q hq => by cases hq) dX4_loverTarget_43
    · replace h := bb_ifn c6 h
      refine lv_iconst (v := (3 : Int32)) hx hb dX4_loverTarget_35 (by decide) ?_
      refine lv_goto (tgt := 40) hx hb dX4_loverTarget_36 (by decide) ?_
      obtain ⟨r10, hc11, h⟩ := bb_b1_o h
      refine vp_callSi (W.runS (As := [.int v_t_at, .int (3 : Int32)]) (rest := []) ⟨hx, hb, hml, hown, hts⟩ (kX4_nearer l dC dI cy v_t_at (3 : Int32) r10 hc11) (va_cwS 2 hts gX4_loverTarget_X4_nearer rfl rfl rfl kdX4_nearer ⟨Nat.le_of_ble_eq_true rfl, Nat.le_of_ble_eq_true rfl⟩) (bb_preS (hP.sub (ws' := []) [] rfl) hK) rfl rfl hl.1 rfl (lv_room (Nat.le_of_ble_eq_true rfl)) dX4_loverTarget_40 ⟨Nat.zero_le _, Nat.zero_le _⟩) (fun t12 et12 => ?_)
      obtain rfl := et12
      obtain rfl := bb_some1 h
      exact W.iret hx hb hr (fun t ht hW => ⟨_, rfl, rfl, ht⟩) (fun q hq => by cases hq) dX4_loverTarget_43
  · replace h := bb_ifn c2 h
    refine lv_aload_n hx hb dX4_loverTarget_15 rfl (lv_at hl 0 rfl) ?_
    obtain ⟨r13, hc14, h⟩ := bb_b1_o h
    refine vp_callSi (W.runV (As := []) (rest := []) ⟨hx, hb, hml, hown, hts⟩ (kX4_floaterTarget l dC dI cy a_t a_t_world v_t_kind v_t_at v_t_wish v_t_wrinkles v_t_world_sight v_t_world_bathers v_t_world_minute v_t_world_seenEver v_t_world_z f_t_world_current r13 hc14) (cwV 0 hts gX4_loverTarget_X4_floaterTarget rfl rfl rfl kdX4_floaterTarget ⟨Nat.le_of_ble_eq_true rfl, Nat.le_of_ble_eq_true rfl⟩) (bb_preV (va_recv hK hP (ci := 3) (q0 := 0) rfl rfl) hP hK) rfl rfl hl.1 rfl (lv_room (Nat.le_of_ble_eq_true rfl)) dX4_loverTarget_16 ⟨Nat.zero_le _, Nat.zero_le _⟩) (fun t15 et15 => ?_)
    obtain rfl := et15
    obtain rfl := bb_some1 h
    exact W.iret hx hb hr (fun t ht hW => ⟨_, rfl, rfl, ht⟩) (fun q hq => by cases hq) dX4_loverTarget_19
/-! X4_target -/
def uX4_target (p1 : Int64) (v_t_kind : Int32) (v_t_at : Int32) (v_t_wish : Int32) (f_t_world_current : Nat → Int32) : Option (Int32) :=
  bb_b1 (uX4_isIn v_t_at) (fun (r1 : Int32) => (if r1 = 0 then some v_t_at else (if v_t_kind = (1 : Int32) then bb_b1 (uX4_spyTarget p1 v_t_at v_t_wish) (fun (r7 : Int32) => some r7) else (if v_t_kind = (2 : Int32) then bb_b1 (uX4_floaterTarget v_t_at f_t_world_current) (fun (r11 : Int32) => some r11) else (if v_t_kind = (3 : Int32) then bb_b1 (uX4_loverTarget v_t_at f_t_world_current) (fun (r15 : Int32) => some r15) else (if v_t_kind = (4 : Int32) then bb_b1 (uX4_loverTarget v_t_at f_t_world_current) (fun (r19 : Int32) => some r19) else (if v_t_kind = (5 : Int32) then bb_b1 (uX0_columnOfSide v_t_wish) (fun (r23 : Int32) => bb_b1 (uX4_nearer v_t_at r23) (fun (r26 : Int32) => bb_b1 (uX0_columnOfSide v_t_wish) (fun (r29 : Int32) => bb_b1 (uX4_nearer r26 r29) (fun (r32 : Int32) => some r32)))) else (if v_t_kind = (6 : Int32) then bb_b1 (uX4_generalTarget p1 v_t_at v_t_wish) (fun (r36 : Int32) => some r36) else bb_b1 (uX0_columnOfSide v_t_wish) (fun (r45 : Int32) => bb_b1 (uX4_nearer v_t_at r45) (fun (r48 : Int32) => some r48))))))))))
theorem kdX4_target : yX4_target.cls = RX4 ∧ yX4_target.cls ≠ "java/lang/invoke/MethodHandle" ∧ yX4_target.cls ≠ "java/lang/invoke/VarHandle" ∧ (parseMethodDescriptor yX4_target.desc).map (fun d => d.parameters.length) = some 1 := by decide +kernel
set_option maxHeartbeats 4000000 in
set_option maxRecDepth 100000 in
theorem kX4_target (l : Launch) (dC : Nat → ClassId) (dI : Nat → Nat → Nat) (cy : Nat → ClassId) (a_t : Nat → Nat) (a_t_world : Nat → Nat) (p1 : Int64) (v_t_kind : Int32) (v_t_at : Int32) (v_t_wish : Int32) (v_t_wrinkles : Int32) (v_t_world_sight : Int32) (v_t_world_bathers : Int32) (v_t_world_minute : Int32) (v_t_world_seenEver : Int32) (v_t_world_z : Int32) (f_t_world_current : Nat → Int32) (r : Int32) (h : uX4_target p1 v_t_kind v_t_at v_t_wish f_t_world_current = some r) : Met l yX4_target wsX4_target ({ frames := 4, cells := 0, slots := 0, locals := 82 }) (va_Pc [.ref (a_t 0), .long p1] (fun U => va_P (dC, dI) vwCl [((a_t 0), oX4 a_t a_t_world v_t_kind v_t_at v_t_wish v_t_wrinkles), ((a_t_world 0), oX6 a_t_world v_t_world_sight v_t_world_bathers v_t_world_minute v_t_world_seenEver v_t_world_z), ((a_t_world 2), .inl (cy 0, 48, .inl f_t_world_current))] U.heap ∧ va_K (dC, dI) vwCl (tyX cy) U)) (vp_Si (fun r2 => r = r2)) 0 0 (fun _ => False) := by
  refine Met.ofW (cc := cX4_target) (maxL := 3) (ret := (some .int)) (by decide) rfl ?_
  intro p e s m args below meth c s₁ B hml hv
  obtain ⟨rfl, hP, hK⟩ := hv
  have hx := B.exec
  have hb := B.bytes
  have hr := B.returns
  have hts := atoms_spec (ws := wsX4_target) B.pre
  have hown : s.vm.findClass RX4 = some m.cls := findClass_of_methodNamed B.named
  have hlocks := B.notSynchronized
  have iwX4 : ∀ w ∈ wsX40, w ∈ wsX4_target := fun w h9 => List.mem_cons_of_mem _ (List.mem_append_left _ (List.mem_append_right _ (h9)))
  have lk1 := hts (Cond.fieldLink RX4 30 "BathBorder$Walker" "at" "I") (List.mem_of_getElem? (i := 1) rfl)
  have lk2 := hts (Cond.fieldLink RX4 24 "BathBorder$Walker" "kind" "I") (List.mem_of_getElem? (i := 2) rfl)
  have lk3 := hts (Cond.fieldLink RX4 35 "BathBorder$Walker" "wish" "I") (List.mem_of_getElem? (i := 3) rfl)
  have hl := lv_entry ([.ref (a_t 0), .long p1]) (n := 3) (Nat.le_of_ble_eq_true rfl)
  rw [lg_entry_eq]
  generalize (lg_sl ([.ref (a_t 0), .long p1]) ++ List.replicate (3 - (lg_sl ([.ref (a_t 0), .long p1])).length) Slot.unset).toArray = ls at hl ⊢
  have hl : lv_has ls 3 [(0, .ref (a_t 0)), (1, .long p1)] := hl
  unfold uX4_target at h
  refine bb_cap (fun WW toW ofW => ?_)
  refine lv_aload_n hx hb dX4_target_0 rfl (lv_at hl 0 rfl) ?_
  obtain ⟨r1, hc2, h⟩ := bb_b1_o h
  refine vp_callSi (W.runV (As := []) (rest := []) ⟨hx, hb, hml, hown, hts⟩ (kX4_isIn l dC dI cy a_t a_t_world v_t_kind v_t_at v_t_wish v_t_wrinkles r1 hc2) (cwV 0 hts gX4_target_X4_isIn rfl rfl rfl kdX4_isIn ⟨Nat.le_of_ble_eq_true rfl, Nat.le_of_ble_eq_true rfl⟩) (bb_preV (va_recv hK hP (ci := 3) (q0 := 0) rfl rfl) (hP.sub (ws' := [((a_t 0), oX4 a_t a_t_world v_t_kind v_t_at v_t_wish v_t_wrinkles)]) [0] rfl) hK) rfl rfl hl.1 rfl (lv_room (Nat.le_of_ble_eq_true rfl)) dX4_target_1 ⟨Nat.zero_le _, Nat.zero_le _⟩) (fun t3 et3 => ?_)
  obtain ⟨rfl, hz4⟩ := et3
  refine lv_if_ne (tgt := 12) hx hb dX4_target_4 (by decide) (fun c5 => ?_) (fun c5 => ?_)
  · replace h := bb_ifn c5 h
    refine lv_aload_n hx hb dX4_target_12 rfl (lv_at hl 0 rfl) ?_
    refine va_get (D := (dC, dI)) (ci := 3) (v := .int v_t_kind) (C := RX4) (T := TX4) (N := 5) hx hb hts iwX4 hown hK hP 0 rfl rfl 1 (by decide) lk2 (fun _ h9 => h9) rfl dX4_target_13 ?_
    by_cases c6 : v_t_kind = (1 : Int32)
    · replace h := bb_ifp c6 h
      refine lv_tableIn (tgt := 56) (off := 40) hx hb dX4_target_16 (by rw [c6]; decide) (by rw [c6]; decide) (by rw [c6]; decide) (by decide) ?_
      refine lv_aload_n hx hb dX4_target_56 rfl (lv_at hl 0 rfl) ?_
      refine lv_lload_n hx hb dX4_target_57 rfl (lv_at hl 1 rfl) ?_
      obtain ⟨r7, hc8, h⟩ := bb_b1_o h
      refine vp_callSi (W.runV (As := [.long p1]) (rest := []) ⟨hx, hb, hml, hown, hts⟩ (kX4_spyTarget l dC dI cy a_t a_t_world p1 v_t_kind v_t_at v_t_wish v_t_wrinkles r7 hc8) (cwV 1 hts gX4_target_X4_spyTarget rfl rfl rfl kdX4_spyTarget ⟨Nat.le_of_ble_eq_true rfl, Nat.le_of_ble_eq_true rfl⟩) (bb_preV (va_recv hK hP (ci := 3) (q0 := 0) rfl rfl) (hP.sub (ws' := [((a_t 0), oX4 a_t a_t_world v_t_kind v_t_at v_t_wish v_t_wrinkles)]) [0] rfl) hK) rfl rfl hl.1 rfl (lv_room (Nat.le_of_ble_eq_true rfl)) dX4_target_58 ⟨Nat.zero_le _, Nat.zero_le _⟩) (fun t9 et9 => ?_)
      obtain rfl := et9
      obtain rfl := bb_some1 h
      exact W.iret hx hb hr (fun t ht hW => ⟨_, rfl, rfl, ht⟩) (fun q hq => by cases hq) dX4_target_61
    · replace h := bb_ifn c6 h
      by_cases c10 : v_t_kind = (2 : Int32)
      · replace h := bb_ifp c10 h
        refine lv_tableIn (tgt := 68) (off := 52) hx hb dX4_target_16 (by rw [c10]; decide) (by rw [c10]; decide) (by rw [c10]; decide) (by decide) ?_
        refine lv_aload_n hx hb dX4_target_68 rfl (lv_at hl 0 rfl) ?_
        obtain ⟨r11, hc12, h⟩ := bb_b1_o h
        refine vp_callSi (W.runV (As := []) (rest := []) ⟨hx, hb, hml, hown, hts⟩ (kX4_floaterTarget l dC dI cy a_t a_t_world v_t_kind v_t_at v_t_wish v_t_wrinkles v_t_world_sight v_t_world_bathers v_t_world_minute v_t_world_seenEver v_t_world_z f_t_world_current r11 hc12) (cwV 0 hts gX4_target_X4_floaterTarget rfl rfl rfl kdX4_floaterTarget ⟨Nat.le_of_ble_eq_true rfl, Nat.le_of_ble_eq_true rfl⟩) (bb_preV (va_recv hK hP (ci := 3) (q0 := 0) rfl rfl) hP hK) rfl rfl hl.1 rfl (lv_room (Nat.le_of_ble_eq_true rfl)) dX4_target_69 ⟨Nat.zero_le _, Nat.zero_le _⟩) (fun t13 et13 => ?_)
        obtain rfl := et13
        obtain rfl := bb_some1 h
        exact W.iret hx hb hr (fun t ht hW => ⟨_, rfl, rfl, ht⟩) (fun q hq => by cases hq) dX4_target_72
      · replace h := bb_ifn c10 h
        by_cases c14 : v_t_kind = (3 : Int32)
        · replace h := bb_ifp c14 h
          refine lv_tableIn (tgt := 73) (off := 57) hx hb dX4_target_16 (by rw [c14]; decide) (by rw [c14]; decide) (by rw [c14]; decide) (by decide) ?_
          refine lv_aload_n hx hb dX4_target_73 rfl (lv_at hl 0 rfl) ?_
          obtain ⟨r15, hc16, h⟩ := bb_b1_o h
          refine vp_callSi (W.runV (As := []) (rest := []) ⟨hx, hb, hml, hown, hts⟩ (kX4_loverTarget l dC dI cy a_t a_t_world v_t_kind v_t_at v_t_wish v_t_wrinkles v_t_world_sight v_t_world_bathers v_t_world_minute v_t_world_seenEver v_t_world_z f_t_world_current r15 hc16) (cwV 0 hts gX4_target_X4_loverTarget rfl rfl rfl kdX4_loverTarget ⟨Nat.le_of_ble_eq_true rfl, Nat.le_of_ble_eq_true rfl⟩) (bb_preV (va_recv hK hP (ci := 3) (q0 := 0) rfl rfl) hP hK) rfl rfl hl.1 rfl (lv_room (Nat.le_of_ble_eq_true rfl)) dX4_target_74 ⟨Nat.zero_le _, Nat.zero_le _⟩) (fun t17 et17 => ?_)
          obtain rfl := et17
          obtain rfl := bb_some1 h
          exact W.iret hx hb hr (fun t ht hW => ⟨_, rfl, rfl, ht⟩) (fun q hq => by cases hq) dX4_target_77
        · replace h := bb_ifn c14 h
          by_cases c18 : v_t_kind = (4 : Int32)
          · replace h := bb_ifp c18 h
            refine lv_tableIn (tgt := 73) (off := 57) hx hb dX4_target_16 (by rw [c18]; decide) (by rw [c18]; decide) (by rw [c18]; decide) (by decide) ?_
            refine lv_aload_n hx hb dX4_target_73 rfl (lv_at hl 0 rfl) ?_
            obtain ⟨r19, hc20, h⟩ := bb_b1_o h
            refine vp_callSi (W.runV (As := []) (rest := []) ⟨hx, hb, hml, hown, hts⟩ (kX4_loverTarget l dC dI cy a_t a_t_world v_t_kind v_t_at v_t_wish v_t_wrinkles v_t_world_sight v_t_world_bathers v_t_world_minute v_t_world_seenEver v_t_world_z f_t_world_current r19 hc20) (cwV 0 hts gX4_target_X4_loverTarget rfl rfl rfl kdX4_loverTarget ⟨Nat.le_of_ble_eq_true rfl, Nat.le_of_ble_eq_true rfl⟩) (bb_preV (va_recv hK hP (ci := 3) (q0 := 0) rfl rfl) hP hK) rfl rfl hl.1 rfl (lv_room (Nat.le_of_ble_eq_true rfl)) dX4_target_74 ⟨Nat.zero_le _, Nat.zero_le _⟩) (fun t21 et21 => ?_)
            obtain rfl := et21
            obtain rfl := bb_some1 h
            exact W.iret hx hb hr (fun t ht hW => ⟨_, rfl, rfl, ht⟩) (fun q hq => by cases hq) dX4_target_77
          · replace h := bb_ifn c18 h
            by_cases c22 : v_t_kind = (5 : Int32)
            · replace h := bb_ifp c22 h
              refine lv_tableIn (tgt := 78) (off := 62) hx hb dX4_target_16 (by rw [c22]; decide) (by rw [c22]; decide) (by rw [c22]; decide) (by decide) ?_
              refine lv_aload_n hx hb dX4_target_78 rfl (lv_at hl 0 rfl) ?_
              refine va_get (D := (dC, dI)) (ci := 3) (v := .int v_t_at) (C := RX4) (T := TX4) (N := 5) hx hb hts iwX4 hown hK hP 0 rfl rfl 2 (by decide) lk1 (fun _ h9 => h9) rfl dX4_target_79 ?_
              refine lv_aload_n hx hb dX4_target_82 rfl (lv_at hl 0 rfl) ?_
              refine va_get (D := (dC, dI)) (ci := 3) (v := .int v_t_wish) (C := RX4) (T := TX4) (N := 5) hx hb hts iwX4 hown hK hP 0 rfl rfl 3 (by decide) lk3 (fun _ h9 => h9) rfl dX4_target_83 ?_
              obtain ⟨r23, hc24, h⟩ := bb_b1_o h
              refine vp_callSi (W.runS (As := [.int v_t_wish]) (rest := [.int v_t_at]) ⟨hx, hb, hml, hown, hts⟩ (kX0_columnOfSide l dC dI cy v_t_wish r23 hc24) (va_cwS 1 hts gX4_target_X0_columnOfSide rfl rfl rfl kdX0_columnOfSide ⟨Nat.le_of_ble_eq_true rfl, Nat.le_of_ble_eq_true rfl⟩) (bb_preS (hP.sub (ws' := []) [] rfl) hK) rfl rfl hl.1 rfl (lv_room (Nat.le_of_ble_eq_true rfl)) dX4_target_86 ⟨Nat.zero_le _, Nat.zero_le _⟩) (fun t25 et25 => ?_)
              obtain rfl := et25
              obtain ⟨r26, hc27, h⟩ := bb_b1_o h
              refine vp_callSi (W.runS (As := [.int v_t_at, .int r23]) (rest := []) ⟨hx, hb, hml, hown, hts⟩ (kX4_nearer l dC dI cy v_t_at r23 r26 hc27) (va_cwS 2 hts gX4_target_X4_nearer rfl rfl rfl kdX4_nearer ⟨Nat.le_of_ble_eq_true rfl, Nat.le_of_ble_eq_true rfl⟩) (bb_preS (hP.sub (ws' := []) [] rfl) hK) rfl rfl hl.1 rfl (lv_room (Nat.le_of_ble_eq_true rfl)) dX4_target_89 ⟨Nat.zero_le _, Nat.zero_le _⟩) (fun t28 et28 => ?_)
              obtain rfl := et28
              refine lv_aload_n hx hb dX4_target_92 rfl (lv_at hl 0 rfl) ?_
              refine va_get (D := (dC, dI)) (ci := 3) (v := .int v_t_wish) (C := RX4) (T := TX4) (N := 5) hx hb hts iwX4 hown hK hP 0 rfl rfl 3 (by decide) lk3 (fun _ h9 => h9) rfl dX4_target_93 ?_
              obtain ⟨r29, hc30, h⟩ := bb_b1_o h
              refine vp_callSi (W.runS (As := [.int v_t_wish]) (rest := [.int r26]) ⟨hx, hb, hml, hown, hts⟩ (kX0_columnOfSide l dC dI cy v_t_wish r29 hc30) (va_cwS 1 hts gX4_target_X0_columnOfSide rfl rfl rfl kdX0_columnOfSide ⟨Nat.le_of_ble_eq_true rfl, Nat.le_of_ble_eq_true rfl⟩) (bb_preS (hP.sub (ws' := []) [] rfl) hK) rfl rfl hl.1 rfl (lv_room (Nat.le_of_ble_eq_true rfl)) dX4_target_96 ⟨Nat.zero_le _, Nat.zero_le _⟩) (fun t31 et31 => ?_)
              obtain rfl := et31
              obtain ⟨r32, hc33, h⟩ := bb_b1_o h
              refine vp_callSi (W.runS (As := [.int r26, .int r29]) (rest := []) ⟨hx, hb, hml, hown, hts⟩ (kX4_nearer l dC dI cy r26 r29 r32 hc33) (va_cwS 2 hts gX4_target_X4_nearer rfl rfl rfl kdX4_nearer ⟨Nat.le_of_ble_eq_true rfl, Nat.le_of_ble_eq_true rfl⟩) (bb_preS (hP.sub (ws' := []) [] rfl) hK) rfl rfl hl.1 rfl (lv_room (Nat.le_of_ble_eq_true rfl)) dX4_target_99 ⟨Nat.zero_le _, Nat.zero_le _⟩) (fun t34 et34 => ?_)
              obtain rfl := et34
              obtain rfl := bb_some1 h
              exact W.iret hx hb hr (fun t ht hW => ⟨_, rfl, rfl, ht⟩) (fun q hq => by cases hq) dX4_target_102
            · replace h := bb_ifn c22 h
              by_cases c35 : v_t_kind = (6 : Int32)
              · replace h := bb_ifp c35 h
                refine lv_tableIn (tgt := 62) (off := 46) hx hb dX4_target_16 (by rw [c35]; decide) (by rw [c35]; decide) (by rw [c35]; decide) (by decide) ?_
                refine lv_aload_n hx hb dX4_target_62 rfl (lv_at hl 0 rfl) ?_
                refine lv_lload_n hx hb dX4_target_63 rfl (lv_at hl 1 rfl) ?_
                obtain ⟨r36, hc37, h⟩ := bb_b1_o h
                refine vp_callSi (W.runV (As := [.long p1]) (rest := []) ⟨hx, hb, hml, hown, hts⟩ (kX4_generalTarget l dC dI cy a_t a_t_world p1 v_t_kind v_t_at v_t_wish v_t_wrinkles r36 hc37) (cwV 1 hts gX4_target_X4_generalTarget rfl rfl rfl kdX4_generalTarget ⟨Nat.le_of_ble_eq_true rfl, Nat.le_of_ble_eq_true rfl⟩) (bb_preV (va_recv hK hP (ci := 3) (q0 := 0) rfl rfl) (hP.sub (ws' := [((a_t 0), oX4 a_t a_t_world v_t_kind v_t_at v_t_wish v_t_wrinkles)]) [0] rfl) hK) rfl rfl hl.1 rfl (lv_room (Nat.le_of_ble_eq_true rfl)) dX4_target_64 ⟨Nat.zero_le _, Nat.zero_le _⟩) (fun t38 et38 => ?_)
                obtain rfl := et38
                obtain rfl := bb_some1 h
                exact W.iret hx hb hr (fun t ht hW => ⟨_, rfl, rfl, ht⟩) (fun q hq => by cases hq) dX4_target_67
              · replace h := bb_ifn c35 h
                have q39 := bb_ne (n := 1) (by decide) c6
                have q40 := bb_ne (n := 2) (by decide) c10
                have q41 := bb_ne (n := 3) (by decide) c14
                have q42 := bb_ne (n := 4) (by decide) c18
                have q43 := bb_ne (n := 5) (by decide) c22
                have q44 := bb_ne (n := 6) (by decide) c35
                refine lv_tableOut (tgt := 103) hx hb dX4_target_16 (by omega) (by decide) ?_
                refine lv_aload_n hx hb dX4_target_103 rfl (lv_at hl 0 rfl) ?_
                refine va_get (D := (dC, dI)) (ci := 3) (v := .int v_t_at) (C := RX4) (T := TX4) (N := 5) hx hb hts iwX4 hown hK hP 0 rfl rfl 2 (by decide) lk1 (fun _ h9 => h9) rfl dX4_target_104 ?_
                refine lv_aload_n hx hb dX4_target_107 rfl (lv_at hl 0 rfl) ?_
                refine va_get (D := (dC, dI)) (ci := 3) (v := .int v_t_wish) (C := RX4) (T := TX4) (N := 5) hx hb hts iwX4 hown hK hP 0 rfl rfl 3 (by decide) lk3 (fun _ h9 => h9) rfl dX4_target_108 ?_
                obtain ⟨r45, hc46, h⟩ := bb_b1_o h
                refine vp_callSi (W.runS (As := [.int v_t_wish]) (rest := [.int v_t_at]) ⟨hx, hb, hml, hown, hts⟩ (kX0_columnOfSide l dC dI cy v_t_wish r45 hc46) (va_cwS 1 hts gX4_target_X0_columnOfSide rfl rfl rfl kdX0_columnOfSide ⟨Nat.le_of_ble_eq_true rfl, Nat.le_of_ble_eq_true rfl⟩) (bb_preS (hP.sub (ws' := []) [] rfl) hK) rfl rfl hl.1 rfl (lv_room (Nat.le_of_ble_eq_true rfl)) dX4_target_111 ⟨Nat.zero_le _, Nat.zero_le _⟩) (fun t47 et47 => ?_)
                obtain rfl := et47
                obtain ⟨r48, hc49, h⟩ := bb_b1_o h
                refine vp_callSi (W.runS (As := [.int v_t_at, .int r45]) (rest := []) ⟨hx, hb, hml, hown, hts⟩ (kX4_nearer l dC dI cy v_t_at r45 r48 hc49) (va_cwS 2 hts gX4_target_X4_nearer rfl rfl rfl kdX4_nearer ⟨Nat.le_of_ble_eq_true rfl, Nat.le_of_ble_eq_true rfl⟩) (bb_preS (hP.sub (ws' := []) [] rfl) hK) rfl rfl hl.1 rfl (lv_room (Nat.le_of_ble_eq_true rfl)) dX4_target_114 ⟨Nat.zero_le _, Nat.zero_le _⟩) (fun t50 et50 => ?_)
                obtain rfl := et50
                obtain rfl := bb_some1 h
                exact W.iret hx hb hr (fun t ht hW => ⟨_, rfl, rfl, ht⟩) (fun q hq => by cases hq) dX4_target_117
  · replace h := bb_ifp c5 h
    refine lv_aload_n hx hb dX4_target_7 rfl (lv_at hl 0 rfl) ?_
    refine va_get (D := (dC, dI)) (ci := 3) (v := .int v_t_at) (C := RX4) (T := TX4) (N := 5) hx hb hts iwX4 hown hK hP 0 rfl rfl 2 (by decide) lk1 (fun _ h9 => h9) rfl dX4_target_8 ?_
    obtain rfl := bb_some1 h
    exact W.iret hx hb hr (fun t ht hW => ⟨_, rfl, rfl, ht⟩) (fun q hq => by cases hq) dX4_target_11
/-! X4_pass -/
def uX4_pass (p1 : Int64) (v_t_kind : Int32) (v_t_at : Int32) (v_t_wish : Int32) (v_t_wrinkles : Int32) (f_t_world_current : Nat → Int32) : Option ((Int32) × (Int32)) :=
  bb_b1 (uX4_isIn v_t_at) (fun (r1 : Int32) => (if r1 = 0 then some (v_t_at, v_t_wrinkles) else bb_cut (fun (u6 : Unit) => bb_b1 (uX4_target p1 v_t_kind v_t_at v_t_wish f_t_world_current) (fun (r8 : Int32) => some (r8, if (v_t_wrinkles + (1 : Int32)) < (99 : Int32) then (v_t_wrinkles + (1 : Int32)) else (99 : Int32)))) (fun k7 => (if v_t_kind = (4 : Int32) then k7 () else bb_b1 (uX0_columnOf v_t_at) (fun (r12 : Int32) => bb_b1 (uX0_columnOfSide v_t_wish) (fun (r15 : Int32) => (if r12 = r15 then some ((100 : Int32) + v_t_wish, v_t_wrinkles) else k7 ())))))))
theorem kdX4_pass : yX4_pass.cls = RX4 ∧ yX4_pass.cls ≠ "java/lang/invoke/MethodHandle" ∧ yX4_pass.cls ≠ "java/lang/invoke/VarHandle" ∧ (parseMethodDescriptor yX4_pass.desc).map (fun d => d.parameters.length) = some 1 := by decide +kernel
set_option maxHeartbeats 4000000 in
set_option maxRecDepth 100000 in
theorem kX4_pass (l : Launch) (dC : Nat → ClassId) (dI : Nat → Nat → Nat) (cy : Nat → ClassId) (sz : Nat) (a_t : Nat → Nat) (a_t_world : Nat → Nat) (p1 : Int64) (v_t_kind : Int32) (v_t_at : Int32) (v_t_wish : Int32) (v_t_wrinkles : Int32) (v_t_world_sight : Int32) (v_t_world_bathers : Int32) (v_t_world_minute : Int32) (v_t_world_seenEver : Int32) (v_t_world_z : Int32) (f_t_world_current : Nat → Int32) (v_t_at_o : Int32) (v_t_wrinkles_o : Int32) (h : uX4_pass p1 v_t_kind v_t_at v_t_wish v_t_wrinkles f_t_world_current = some (v_t_at_o, v_t_wrinkles_o)) : Met l yX4_pass wsX4_pass ({ frames := 5, cells := 0, slots := 0, locals := 104 }) (va_Pc [.ref (a_t 0), .long p1] (fun U => U.heap.size = sz ∧ va_P (dC, dI) vwCl [((a_t 0), oX4 a_t a_t_world v_t_kind v_t_at v_t_wish v_t_wrinkles), ((a_t_world 0), oX6 a_t_world v_t_world_sight v_t_world_bathers v_t_world_minute v_t_world_seenEver v_t_world_z), ((a_t_world 2), .inl (cy 0, 48, .inl f_t_world_current))] U.heap ∧ va_K (dC, dI) vwCl (tyX cy) U ∧ va_D (fun _ => True) [((a_t 0), oX4 a_t a_t_world v_t_kind v_t_at v_t_wish v_t_wrinkles), ((a_t_world 0), oX6 a_t_world v_t_world_sight v_t_world_bathers v_t_world_minute v_t_world_seenEver v_t_world_z), ((a_t_world 2), .inl (cy 0, 48, .inl f_t_world_current))])) (va_Qv (fun (_ : Unit) => True) (fun _ t => va_P (dC, dI) vwCl [((a_t 0), oX4 a_t a_t_world v_t_kind v_t_at_o v_t_wish v_t_wrinkles_o), ((a_t_world 0), oX6 a_t_world v_t_world_sight v_t_world_bathers v_t_world_minute v_t_world_seenEver v_t_world_z), ((a_t_world 2), .inl (cy 0, 48, .inl f_t_world_current))] t.heap ∧ va_K (dC, dI) vwCl (tyX cy) t ∧ va_D (va_A [((a_t 0), oX4 a_t a_t_world v_t_kind v_t_at v_t_wish v_t_wrinkles), ((a_t_world 0), oX6 a_t_world v_t_world_sight v_t_world_bathers v_t_world_minute v_t_world_seenEver v_t_world_z), ((a_t_world 2), .inl (cy 0, 48, .inl f_t_world_current))] sz) [((a_t 0), oX4 a_t a_t_world v_t_kind v_t_at_o v_t_wish v_t_wrinkles_o), ((a_t_world 0), oX6 a_t_world v_t_world_sight v_t_world_bathers v_t_world_minute v_t_world_seenEver v_t_world_z), ((a_t_world 2), .inl (cy 0, 48, .inl f_t_world_current))]) (va_A [((a_t 0), oX4 a_t a_t_world v_t_kind v_t_at v_t_wish v_t_wrinkles), ((a_t_world 0), oX6 a_t_world v_t_world_sight v_t_world_bathers v_t_world_minute v_t_world_seenEver v_t_world_z), ((a_t_world 2), .inl (cy 0, 48, .inl f_t_world_current))] sz)) 0 0 (va_A [((a_t 0), oX4 a_t a_t_world v_t_kind v_t_at v_t_wish v_t_wrinkles), ((a_t_world 0), oX6 a_t_world v_t_world_sight v_t_world_bathers v_t_world_minute v_t_world_seenEver v_t_world_z), ((a_t_world 2), .inl (cy 0, 48, .inl f_t_world_current))] sz) := by
  refine Met.ofW (cc := cX4_pass) (maxL := 3) (ret := none) (by decide) rfl ?_
  intro p e s m args below meth c s₁ B hml hv
  obtain ⟨rfl, hsz, hP, hK, hD0⟩ := hv
  have hx := B.exec
  have hb := B.bytes
  have hr := B.returns
  have hts := atoms_spec (ws := wsX4_pass) B.pre
  have hown : s.vm.findClass RX4 = some m.cls := findClass_of_methodNamed B.named
  have hlocks := B.notSynchronized
  have iwX4 : ∀ w ∈ wsX40, w ∈ wsX4_pass := fun w h9 => List.mem_cons_of_mem _ (List.mem_append_left _ (List.mem_append_right _ (h9)))
  have lk1 := hts (Cond.fieldLink RX4 24 "BathBorder$Walker" "kind" "I") (List.mem_of_getElem? (i := 1) rfl)
  have lk2 := hts (Cond.fieldLink RX4 30 "BathBorder$Walker" "at" "I") (List.mem_of_getElem? (i := 2) rfl)
  have lk3 := hts (Cond.fieldLink RX4 35 "BathBorder$Walker" "wish" "I") (List.mem_of_getElem? (i := 3) rfl)
  have lk4 := hts (Cond.fieldLink RX4 40 "BathBorder$Walker" "wrinkles" "I") (List.mem_of_getElem? (i := 4) rfl)
  have lk5 := hts (Cond.methodLink RX4 67 Lib.Math.min.name) (List.mem_of_getElem? (i := 5) rfl)
  have lk6 := hts (Cond.static Lib.Math.min.name) (List.mem_of_getElem? (i := 6) rfl)
  have lk7 := hts (Cond.initialized "java/lang/Math") (List.mem_of_getElem? (i := 7) rfl)
  have lk8 := hts (Cond.code Lib.Math.min.name Lib.Math.min.code 2 (some .int)) (List.mem_of_getElem? (i := 8) rfl)
  subst hsz
  have hD := hD0.self (sz := s.heap.size)
  generalize hAe : va_A [((a_t 0), oX4 a_t a_t_world v_t_kind v_t_at v_t_wish v_t_wrinkles), ((a_t_world 0), oX6 a_t_world v_t_world_sight v_t_world_bathers v_t_world_minute v_t_world_seenEver v_t_world_z), ((a_t_world 2), .inl (cy 0, 48, .inl f_t_world_current))] s.heap.size = A at hD ⊢
  have hA : ∀ q : Nat, s.heap.size ≤ q → A q := fun q h => by rw [← hAe]; exact Or.inr h
  have hS : va_S A s.heap s.heap [] := va_S.rf
  have hP : va_P (dC, dI) vwCl [((a_t 0), oX4 a_t a_t_world v_t_kind v_t_at v_t_wish v_t_wrinkles), ((a_t_world 0), oX6 a_t_world v_t_world_sight v_t_world_bathers v_t_world_minute v_t_world_seenEver v_t_world_z), ((a_t_world 2), .inl (cy 0, 48, .inl f_t_world_current))] s.heap := hP
  have hl := lv_entry ([.ref (a_t 0), .long p1]) (n := 3) (Nat.le_of_ble_eq_true rfl)
  rw [lg_entry_eq]
  generalize (lg_sl ([.ref (a_t 0), .long p1]) ++ List.replicate (3 - (lg_sl ([.ref (a_t 0), .long p1])).length) Slot.unset).toArray = ls at hl ⊢
  have hl : lv_has ls 3 [(0, .ref (a_t 0)), (1, .long p1)] := hl
  unfold uX4_pass at h
  refine bb_cap (fun WW toW ofW => ?_)
  refine lv_aload_n hx hb dX4_pass_0 rfl (lv_at hl 0 rfl) ?_
  obtain ⟨r1, hc2, h⟩ := bb_b1_o h
  refine vp_callSi (W.runV (As := []) (rest := []) ⟨hx, hb, hml, hown, hts⟩ (kX4_isIn l dC dI cy a_t a_t_world v_t_kind v_t_at v_t_wish v_t_wrinkles r1 hc2) (cwV 0 hts gX4_pass_X4_isIn rfl rfl rfl kdX4_isIn ⟨Nat.le_of_ble_eq_true rfl, Nat.le_of_ble_eq_true rfl⟩) (bb_preV (va_recv hK hP (ci := 3) (q0 := 0) rfl rfl) (hP.sub (ws' := [((a_t 0), oX4 a_t a_t_world v_t_kind v_t_at v_t_wish v_t_wrinkles)]) [0] rfl) hK) rfl rfl hl.1 rfl (lv_room (Nat.le_of_ble_eq_true rfl)) dX4_pass_1 ⟨Nat.zero_le _, Nat.zero_le _⟩) (fun t3 et3 => ?_)
  obtain ⟨rfl, hz4⟩ := et3
  refine lv_if_ne (tgt := 8) hx hb dX4_pass_4 (by decide) (fun c5 => ?_) (fun c5 => ?_)
  · replace h := bb_ifn c5 h
    refine lv_aload_n hx hb dX4_pass_8 rfl (lv_at hl 0 rfl) ?_
    refine va_get (D := (dC, dI)) (ci := 3) (v := .int v_t_kind) (C := RX4) (T := TX4) (N := 5) hx hb hts iwX4 hown hK hP 0 rfl rfl 1 (by decide) lk1 (fun _ h9 => h9) rfl dX4_pass_9 ?_
    refine lv_iconst (v := (4 : Int32)) hx hb dX4_pass_12 (by decide) ?_
    obtain ⟨k7, ek7, h⟩ := bb_cut_o h
    have Jk7 : ∀ (u6 : Unit) (H : Heap) (locs : List Loc) (ls : Array Slot), k7 u6 = some (v_t_at_o, v_t_wrinkles_o) → va_P (dC, dI) vwCl [((a_t 0), oX4 a_t a_t_world v_t_kind v_t_at v_t_wish v_t_wrinkles), ((a_t_world 0), oX6 a_t_world v_t_world_sight v_t_world_bathers v_t_world_minute v_t_world_seenEver v_t_world_z), ((a_t_world 2), .inl (cy 0, 48, .inl f_t_world_current))] H → va_D A [((a_t 0), oX4 a_t a_t_world v_t_kind v_t_at v_t_wish v_t_wrinkles), ((a_t_world 0), oX6 a_t_world v_t_world_sight v_t_world_bathers v_t_world_minute v_t_world_seenEver v_t_world_z), ((a_t_world 2), .inl (cy 0, 48, .inl f_t_world_current))] → va_S A s.heap H locs → lv_has ls 3 [(0, .ref (a_t 0)), (1, .long p1)] → WW H locs (F0 m 45 ls []) := by
      intro u6 H locs ls h hP hD hS hl
      refine ofW _ _ _ ?_
      subst ek7
      refine lv_aload_n hx hb dX4_pass_45 rfl (lv_at hl 0 rfl) ?_
      refine lv_aload_n hx hb dX4_pass_46 rfl (lv_at hl 0 rfl) ?_
      refine lv_lload_n hx hb dX4_pass_47 rfl (lv_at hl 1 rfl) ?_
      obtain ⟨r8, hc9, h⟩ := bb_b1_o h
      refine vp_callSi (W.runV (As := [.long p1]) (rest := [.ref (a_t 0)]) ⟨hx, hb, hml, hown, hts⟩ (kX4_target l dC dI cy a_t a_t_world p1 v_t_kind v_t_at v_t_wish v_t_wrinkles v_t_world_sight v_t_world_bathers v_t_world_minute v_t_world_seenEver v_t_world_z f_t_world_current r8 hc9) (cwV 1 hts gX4_pass_X4_target rfl rfl rfl kdX4_target ⟨Nat.le_of_ble_eq_true rfl, Nat.le_of_ble_eq_true rfl⟩) (bb_preV (va_recv hK hP (ci := 3) (q0 := 0) rfl rfl) hP hK) rfl rfl hl.1 rfl (lv_room (Nat.le_of_ble_eq_true rfl)) dX4_pass_48 ⟨Nat.zero_le _, Nat.zero_le _⟩) (fun t10 et10 => ?_)
      obtain rfl := et10
      refine va_put (D := (dC, dI)) (ci := 3) (v := .int r8) (ty := .int) (C := RX4) (T := TX4) (N := 5) hx hb hts iwX4 tyX4 tyX4_ok nmX4 hown hK hP hD hS 0 rfl rfl 2 (by decide) lk2 (fun _ h9 => h9) rfl (by decide +kernel) rfl rfl (Nat.le_of_ble_eq_true rfl) dX4_pass_51 (fun H locs hP hD hS => ?_)
      have hP : va_P (dC, dI) vwCl [((a_t 0), oX4 a_t a_t_world v_t_kind r8 v_t_wish v_t_wrinkles), ((a_t_world 0), oX6 a_t_world v_t_world_sight v_t_world_bathers v_t_world_minute v_t_world_seenEver v_t_world_z), ((a_t_world 2), .inl (cy 0, 48, .inl f_t_world_current))] H := hP
      have hD : va_D A [((a_t 0), oX4 a_t a_t_world v_t_kind r8 v_t_wish v_t_wrinkles), ((a_t_world 0), oX6 a_t_world v_t_world_sight v_t_world_bathers v_t_world_minute v_t_world_seenEver v_t_world_z), ((a_t_world 2), .inl (cy 0, 48, .inl f_t_world_current))] := hD
      refine lv_aload_n hx hb dX4_pass_54 rfl (lv_at hl 0 rfl) ?_
      refine lv_bipush (v := (99 : Int32)) hx hb dX4_pass_55 (by decide) ?_
      refine lv_aload_n hx hb dX4_pass_57 rfl (lv_at hl 0 rfl) ?_
      refine va_get (D := (dC, dI)) (ci := 3) (v := .int v_t_wrinkles) (C := RX4) (T := TX4) (N := 5) hx hb hts iwX4 hown hK hP 0 rfl rfl 4 (by decide) lk4 (fun _ h9 => h9) rfl dX4_pass_58 ?_
      refine lv_iconst (v := (1 : Int32)) hx hb dX4_pass_61 (by decide) ?_
      refine lv_iadd hx hb dX4_pass_62 ?_
      refine va_mmin hx hb (hml.trans hl.1.symm) hown lk5 lk6 lk7 lk8 (Nat.le_of_ble_eq_true rfl) (Nat.le_of_ble_eq_true rfl) (Nat.zero_le _) (Nat.zero_le _) dX4_pass_63 ?_
      refine va_put (D := (dC, dI)) (ci := 3) (v := .int (if (v_t_wrinkles + (1 : Int32)) < (99 : Int32) then (v_t_wrinkles + (1 : Int32)) else (99 : Int32))) (ty := .int) (C := RX4) (T := TX4) (N := 5) hx hb hts iwX4 tyX4 tyX4_ok nmX4 hown hK hP hD hS 0 rfl rfl 4 (by decide) lk4 (fun _ h9 => h9) rfl (by decide +kernel) rfl rfl (Nat.le_of_ble_eq_true rfl) dX4_pass_66 (fun H locs hP hD hS => ?_)
      have hP : va_P (dC, dI) vwCl [((a_t 0), oX4 a_t a_t_world v_t_kind r8 v_t_wish (if (v_t_wrinkles + (1 : Int32)) < (99 : Int32) then (v_t_wrinkles + (1 : Int32)) else (99 : Int32))), ((a_t_world 0), oX6 a_t_world v_t_world_sight v_t_world_bathers v_t_world_minute v_t_world_seenEver v_t_world_z), ((a_t_world 2), .inl (cy 0, 48, .inl f_t_world_current))] H := hP
      have hD : va_D A [((a_t 0), oX4 a_t a_t_world v_t_kind r8 v_t_wish (if (v_t_wrinkles + (1 : Int32)) < (99 : Int32) then (v_t_wrinkles + (1 : Int32)) else (99 : Int32))), ((a_t_world 0), oX6 a_t_world v_t_world_sight v_t_world_bathers v_t_world_minute v_t_world_seenEver v_t_world_z), ((a_t_world 2), .inl (cy 0, 48, .inl f_t_world_current))] := hD
      obtain ⟨rfl, rfl⟩ := bb_some2 h
      have hP9 := hP.sub (ws' := [((a_t 0), oX4 a_t a_t_world v_t_kind r8 v_t_wish (if (v_t_wrinkles + (1 : Int32)) < (99 : Int32) then (v_t_wrinkles + (1 : Int32)) else (99 : Int32))), ((a_t_world 0), oX6 a_t_world v_t_world_sight v_t_world_bathers v_t_world_minute v_t_world_seenEver v_t_world_z), ((a_t_world 2), .inl (cy 0, 48, .inl f_t_world_current))]) [0, 1, 2] rfl
      have hD9 := hD.sub (ws' := [((a_t 0), oX4 a_t a_t_world v_t_kind r8 v_t_wish (if (v_t_wrinkles + (1 : Int32)) < (99 : Int32) then (v_t_wrinkles + (1 : Int32)) else (99 : Int32))), ((a_t_world 0), oX6 a_t_world v_t_world_sight v_t_world_bathers v_t_world_minute v_t_world_seenEver v_t_world_z), ((a_t_world 2), .inl (cy 0, 48, .inl f_t_world_current))]) [0, 1, 2] (by decide) rfl
      exact W.vret hx hb hr (fun t ht hW => ⟨⟨(), rfl, trivial, by rw [ht]; exact hP9, va_K.moved hW.alike hK, hD9⟩, hS.F ht⟩) hS.2.2 dX4_pass_69
    refine lv_icmp_eq (tgt := 45) hx hb dX4_pass_13 (by decide) (fun c11 => ?_) (fun c11 => ?_)
    · replace h := bb_ifp c11 h
      exact toW _ _ _ (Jk7 () _ _ _ h hP hD hS (lv_sub hl [0, 1] rfl))
    · replace h := bb_ifn c11 h
      refine lv_aload_n hx hb dX4_pass_16 rfl (lv_at hl 0 rfl) ?_
      refine va_get (D := (dC, dI)) (ci := 3) (v := .int v_t_at) (C := RX4) (T := TX4) (N := 5) hx hb hts iwX4 hown hK hP 0 rfl rfl 2 (by decide) lk2 (fun _ h9 => h9) rfl dX4_pass_17 ?_
      obtain ⟨r12, hc13, h⟩ := bb_b1_o h
      refine vp_callSi (W.runS (As := [.int v_t_at]) (rest := []) ⟨hx, hb, hml, hown, hts⟩ (kX0_columnOf l dC dI cy v_t_at r12 hc13) (va_cwS 1 hts gX4_pass_X0_columnOf rfl rfl rfl kdX0_columnOf ⟨Nat.le_of_ble_eq_true rfl, Nat.le_of_ble_eq_true rfl⟩) (bb_preS (hP.sub (ws' := []) [] rfl) hK) rfl rfl hl.1 rfl (lv_room (Nat.le_of_ble_eq_true rfl)) dX4_pass_20 ⟨Nat.zero_le _, Nat.zero_le _⟩) (fun t14 et14 => ?_)
      obtain rfl := et14
      refine lv_aload_n hx hb dX4_pass_23 rfl (lv_at hl 0 rfl) ?_
      refine va_get (D := (dC, dI)) (ci := 3) (v := .int v_t_wish) (C := RX4) (T := TX4) (N := 5) hx hb hts iwX4 hown hK hP 0 rfl rfl 3 (by decide) lk3 (fun _ h9 => h9) rfl dX4_pass_24 ?_
      obtain ⟨r15, hc16, h⟩ := bb_b1_o h
      refine vp_callSi (W.runS (As := [.int v_t_wish]) (rest := [.int r12]) ⟨hx, hb, hml, hown, hts⟩ (kX0_columnOfSide l dC dI cy v_t_wish r15 hc16) (va_cwS 1 hts gX4_pass_X0_columnOfSide rfl rfl rfl kdX0_columnOfSide ⟨Nat.le_of_ble_eq_true rfl, Nat.le_of_ble_eq_true rfl⟩) (bb_preS (hP.sub (ws' := []) [] rfl) hK) rfl rfl hl.1 rfl (lv_room (Nat.le_of_ble_eq_true rfl)) dX4_pass_27 ⟨Nat.zero_le _, Nat.zero_le _⟩) (fun t17 et17 => ?_)
      obtain rfl := et17
      refine lv_icmp_ne (tgt := 45) hx hb dX4_pass_30 (by decide) (fun c18 => ?_) (fun c18 => ?_)
      · replace h := bb_ifn c18 h
        exact toW _ _ _ (Jk7 () _ _ _ h hP hD hS (lv_sub hl [0, 1] rfl))
      · replace h := bb_ifp c18 h
        refine lv_aload_n hx hb dX4_pass_33 rfl (lv_at hl 0 rfl) ?_
        refine lv_bipush (v := (100 : Int32)) hx hb dX4_pass_34 (by decide) ?_
        refine lv_aload_n hx hb dX4_pass_36 rfl (lv_at hl 0 rfl) ?_
        refine va_get (D := (dC, dI)) (ci := 3) (v := .int v_t_wish) (C := RX4) (T := TX4) (N := 5) hx hb hts iwX4 hown hK hP 0 rfl rfl 3 (by decide) lk3 (fun _ h9 => h9) rfl dX4_pass_37 ?_
        refine lv_iadd hx hb dX4_pass_40 ?_
        refine va_put (D := (dC, dI)) (ci := 3) (v := .int ((100 : Int32) + v_t_wish)) (ty := .int) (C := RX4) (T := TX4) (N := 5) hx hb hts iwX4 tyX4 tyX4_ok nmX4 hown hK hP hD hS 0 rfl rfl 2 (by decide) lk2 (fun _ h9 => h9) rfl (by decide +kernel) rfl rfl (Nat.le_of_ble_eq_true rfl) dX4_pass_41 (fun H locs hP hD hS => ?_)
        have hP : va_P (dC, dI) vwCl [((a_t 0), oX4 a_t a_t_world v_t_kind ((100 : Int32) + v_t_wish) v_t_wish v_t_wrinkles), ((a_t_world 0), oX6 a_t_world v_t_world_sight v_t_world_bathers v_t_world_minute v_t_world_seenEver v_t_world_z), ((a_t_world 2), .inl (cy 0, 48, .inl f_t_world_current))] H := hP
        have hD : va_D A [((a_t 0), oX4 a_t a_t_world v_t_kind ((100 : Int32) + v_t_wish) v_t_wish v_t_wrinkles), ((a_t_world 0), oX6 a_t_world v_t_world_sight v_t_world_bathers v_t_world_minute v_t_world_seenEver v_t_world_z), ((a_t_world 2), .inl (cy 0, 48, .inl f_t_world_current))] := hD
        obtain ⟨rfl, rfl⟩ := bb_some2 h
        have hP9 := hP.sub (ws' := [((a_t 0), oX4 a_t a_t_world v_t_kind ((100 : Int32) + v_t_wish) v_t_wish v_t_wrinkles), ((a_t_world 0), oX6 a_t_world v_t_world_sight v_t_world_bathers v_t_world_minute v_t_world_seenEver v_t_world_z), ((a_t_world 2), .inl (cy 0, 48, .inl f_t_world_current))]) [0, 1, 2] rfl
        have hD9 := hD.sub (ws' := [((a_t 0), oX4 a_t a_t_world v_t_kind ((100 : Int32) + v_t_wish) v_t_wish v_t_wrinkles), ((a_t_world 0), oX6 a_t_world v_t_world_sight v_t_world_bathers v_t_world_minute v_t_world_seenEver v_t_world_z), ((a_t_world 2), .inl (cy 0, 48, .inl f_t_world_current))]) [0, 1, 2] (by decide) rfl
        exact W.vret hx hb hr (fun t ht hW => ⟨⟨(), rfl, trivial, by rw [ht]; exact hP9, va_K.moved hW.alike hK, hD9⟩, hS.F ht⟩) hS.2.2 dX4_pass_44
  · replace h := bb_ifp c5 h
    obtain ⟨rfl, rfl⟩ := bb_some2 h
    have hP9 := hP.sub (ws' := [((a_t 0), oX4 a_t a_t_world v_t_kind v_t_at v_t_wish v_t_wrinkles), ((a_t_world 0), oX6 a_t_world v_t_world_sight v_t_world_bathers v_t_world_minute v_t_world_seenEver v_t_world_z), ((a_t_world 2), .inl (cy 0, 48, .inl f_t_world_current))]) [0, 1, 2] rfl
    have hD9 := hD.sub (ws' := [((a_t 0), oX4 a_t a_t_world v_t_kind v_t_at v_t_wish v_t_wrinkles), ((a_t_world 0), oX6 a_t_world v_t_world_sight v_t_world_bathers v_t_world_minute v_t_world_seenEver v_t_world_z), ((a_t_world 2), .inl (cy 0, 48, .inl f_t_world_current))]) [0, 1, 2] (by decide) rfl
    exact W.vret hx hb hr (fun t ht hW => ⟨⟨(), rfl, trivial, by rw [ht]; exact hP9, va_K.moved hW.alike hK, hD9⟩, hS.F ht⟩) hS.2.2 dX4_pass_7
/-! X4_minutesTillOut -/
def uX4_minutesTillOut_s3 (x1_4 : Int64) (x3_5 : Int32) (v_t_kind_6 : Int32) (v_t_wish_7 : Int32) (f_t_world_current_8 : Nat → Int32) (rec9 : Int32 → Int32 → Int32 → Option (Int32 × (Int32) × (Int32))) (x4_1 : Int32) (v_t_at_2 : Int32) (v_t_wrinkles_3 : Int32) : Option (Int32 × (Int32) × (Int32)) :=
  (if x3_5 < x4_1 then some ((-1 : Int32), v_t_at_2, v_t_wrinkles_3) else bb_b1 (uX4_isIn v_t_at_2) (fun (r13 : Int32) => (if r13 = 0 then some (x4_1, v_t_at_2, v_t_wrinkles_3) else bb_b2 (uX4_pass x1_4 v_t_kind_6 v_t_at_2 v_t_wish_7 v_t_wrinkles_3 f_t_world_current_8) (fun (w18 : Int32) (w19 : Int32) => rec9 (x4_1 + (1 : Int32)) w18 w19))))
def uX4_minutesTillOut (nn : Nat) (p1 : Int64) (p2 : Int32) (v_t_kind : Int32) (v_t_at : Int32) (v_t_wish : Int32) (v_t_wrinkles : Int32) (f_t_world_current : Nat → Int32) : Option (Int32 × (Int32) × (Int32)) :=
  bb_loop3 (uX4_minutesTillOut_s3 p1 p2 v_t_kind v_t_wish f_t_world_current) nn (0 : Int32) v_t_at v_t_wrinkles
theorem kdX4_minutesTillOut : yX4_minutesTillOut.cls = RX4 ∧ yX4_minutesTillOut.cls ≠ "java/lang/invoke/MethodHandle" ∧ yX4_minutesTillOut.cls ≠ "java/lang/invoke/VarHandle" ∧ (parseMethodDescriptor yX4_minutesTillOut.desc).map (fun d => d.parameters.length) = some 2 := by decide +kernel
set_option maxHeartbeats 4000000 in
set_option maxRecDepth 100000 in
theorem kX4_minutesTillOut (l : Launch) (dC : Nat → ClassId) (dI : Nat → Nat → Nat) (cy : Nat → ClassId) (sz : Nat) (a_t : Nat → Nat) (a_t_world : Nat → Nat) (p1 : Int64) (p2 : Int32) (v_t_kind : Int32) (v_t_at : Int32) (v_t_wish : Int32) (v_t_wrinkles : Int32) (v_t_world_sight : Int32) (v_t_world_bathers : Int32) (v_t_world_minute : Int32) (v_t_world_seenEver : Int32) (v_t_world_z : Int32) (f_t_world_current : Nat → Int32) (nn : Nat) (r : Int32) (v_t_at_o : Int32) (v_t_wrinkles_o : Int32) (h : uX4_minutesTillOut nn p1 p2 v_t_kind v_t_at v_t_wish v_t_wrinkles f_t_world_current = some (r, v_t_at_o, v_t_wrinkles_o)) : Met l yX4_minutesTillOut wsX4_minutesTillOut ({ frames := 6, cells := 0, slots := 0, locals := 126 }) (va_Pc [.ref (a_t 0), .long p1, .int p2] (fun U => U.heap.size = sz ∧ va_P (dC, dI) vwCl [((a_t 0), oX4 a_t a_t_world v_t_kind v_t_at v_t_wish v_t_wrinkles), ((a_t_world 0), oX6 a_t_world v_t_world_sight v_t_world_bathers v_t_world_minute v_t_world_seenEver v_t_world_z), ((a_t_world 2), .inl (cy 0, 48, .inl f_t_world_current))] U.heap ∧ va_K (dC, dI) vwCl (tyX cy) U ∧ va_D (fun _ => True) [((a_t 0), oX4 a_t a_t_world v_t_kind v_t_at v_t_wish v_t_wrinkles), ((a_t_world 0), oX6 a_t_world v_t_world_sight v_t_world_bathers v_t_world_minute v_t_world_seenEver v_t_world_z), ((a_t_world 2), .inl (cy 0, 48, .inl f_t_world_current))])) (va_Qi (fun (r2 : Int32) (_ : Unit) => r = r2) (fun _ t => va_P (dC, dI) vwCl [((a_t 0), oX4 a_t a_t_world v_t_kind v_t_at_o v_t_wish v_t_wrinkles_o), ((a_t_world 0), oX6 a_t_world v_t_world_sight v_t_world_bathers v_t_world_minute v_t_world_seenEver v_t_world_z), ((a_t_world 2), .inl (cy 0, 48, .inl f_t_world_current))] t.heap ∧ va_K (dC, dI) vwCl (tyX cy) t ∧ va_D (va_A [((a_t 0), oX4 a_t a_t_world v_t_kind v_t_at v_t_wish v_t_wrinkles), ((a_t_world 0), oX6 a_t_world v_t_world_sight v_t_world_bathers v_t_world_minute v_t_world_seenEver v_t_world_z), ((a_t_world 2), .inl (cy 0, 48, .inl f_t_world_current))] sz) [((a_t 0), oX4 a_t a_t_world v_t_kind v_t_at_o v_t_wish v_t_wrinkles_o), ((a_t_world 0), oX6 a_t_world v_t_world_sight v_t_world_bathers v_t_world_minute v_t_world_seenEver v_t_world_z), ((a_t_world 2), .inl (cy 0, 48, .inl f_t_world_current))]) (va_A [((a_t 0), oX4 a_t a_t_world v_t_kind v_t_at v_t_wish v_t_wrinkles), ((a_t_world 0), oX6 a_t_world v_t_world_sight v_t_world_bathers v_t_world_minute v_t_world_seenEver v_t_world_z), ((a_t_world 2), .inl (cy 0, 48, .inl f_t_world_current))] sz)) 0 0 (va_A [((a_t 0), oX4 a_t a_t_world v_t_kind v_t_at v_t_wish v_t_wrinkles), ((a_t_world 0), oX6 a_t_world v_t_world_sight v_t_world_bathers v_t_world_minute v_t_world_seenEver v_t_world_z), ((a_t_world 2), .inl (cy 0, 48, .inl f_t_world_current))] sz) := by
  refine Met.ofW (cc := cX4_minutesTillOut) (maxL := 5) (ret := (some .int)) (by decide) rfl ?_
  intro p e s m args below meth c s₁ B hml hv
  obtain ⟨rfl, hsz, hP, hK, hD0⟩ := hv
  have hx := B.exec
  have hb := B.bytes
  have hr := B.returns
  have hts := atoms_spec (ws := wsX4_minutesTillOut) B.pre
  have hown : s.vm.findClass RX4 = some m.cls := findClass_of_methodNamed B.named
  have hlocks := B.notSynchronized
  subst hsz
  have hD := hD0.self (sz := s.heap.size)
  generalize hAe : va_A [((a_t 0), oX4 a_t a_t_world v_t_kind v_t_at v_t_wish v_t_wrinkles), ((a_t_world 0), oX6 a_t_world v_t_world_sight v_t_world_bathers v_t_world_minute v_t_world_seenEver v_t_world_z), ((a_t_world 2), .inl (cy 0, 48, .inl f_t_world_current))] s.heap.size = A at hD ⊢
  have hA : ∀ q : Nat, s.heap.size ≤ q → A q := fun q h => by rw [← hAe]; exact Or.inr h
  have hS : va_S A s.heap s.heap [] := va_S.rf
  have hP : va_P (dC, dI) vwCl [((a_t 0), oX4 a_t a_t_world v_t_kind v_t_at v_t_wish v_t_wrinkles), ((a_t_world 0), oX6 a_t_world v_t_world_sight v_t_world_bathers v_t_world_minute v_t_world_seenEver v_t_world_z), ((a_t_world 2), .inl (cy 0, 48, .inl f_t_world_current))] s.heap := hP
  have hl := lv_entry ([.ref (a_t 0), .long p1, .int p2]) (n := 5) (Nat.le_of_ble_eq_true rfl)
  rw [lg_entry_eq]
  generalize (lg_sl ([.ref (a_t 0), .long p1, .int p2]) ++ List.replicate (5 - (lg_sl ([.ref (a_t 0), .long p1, .int p2])).length) Slot.unset).toArray = ls at hl ⊢
  have hl : lv_has ls 5 [(0, .ref (a_t 0)), (1, .long p1), (3, .int p2)] := hl
  unfold uX4_minutesTillOut at h
  refine bb_cap (fun WW toW ofW => ?_)
  refine lv_iconst (v := (0 : Int32)) hx hb dX4_minutesTillOut_0 (by decide) ?_
  refine lv_istore (lv' := [(4, .int (0 : Int32)), (0, .ref (a_t 0)), (1, .long p1), (3, .int p2)]) hx hb dX4_minutesTillOut_1 hl (by decide) rfl (fun ls hl => ?_)
  have L10 : ∀ (n : Nat) (x4_1 : Int32) (v_t_at_2 : Int32) (v_t_wrinkles_3 : Int32) (H : Heap) (locs : List Loc) (ls : Array Slot), bb_loop3 (uX4_minutesTillOut_s3 p1 p2 v_t_kind v_t_wish f_t_world_current) n x4_1 v_t_at_2 v_t_wrinkles_3 = some (r, v_t_at_o, v_t_wrinkles_o) → va_P (dC, dI) vwCl [((a_t 0), oX4 a_t a_t_world v_t_kind v_t_at_2 v_t_wish v_t_wrinkles_3), ((a_t_world 0), oX6 a_t_world v_t_world_sight v_t_world_bathers v_t_world_minute v_t_world_seenEver v_t_world_z), ((a_t_world 2), .inl (cy 0, 48, .inl f_t_world_current))] H → va_D A [((a_t 0), oX4 a_t a_t_world v_t_kind v_t_at_2 v_t_wish v_t_wrinkles_3), ((a_t_world 0), oX6 a_t_world v_t_world_sight v_t_world_bathers v_t_world_minute v_t_world_seenEver v_t_world_z), ((a_t_world 2), .inl (cy 0, 48, .inl f_t_world_current))] → va_S A s.heap H locs → lv_has ls 5 [(0, .ref (a_t 0)), (1, .long p1), (3, .int p2), (4, .int x4_1)] → WW H locs (F0 m 3 ls []) := by
    intro n
    induction n with
    | zero => intro x4_1 v_t_at_2 v_t_wrinkles_3 H locs ls h; exact (bb_no h).elim
    | succ n ih11 =>
      intro x4_1 v_t_at_2 v_t_wrinkles_3 H locs ls h hP hD hS hl
      refine ofW _ _ _ ?_
      obtain ⟨rec9, erec9, h⟩ := bb_loop3_o h
      unfold uX4_minutesTillOut_s3 at h
      refine lv_iload hx hb dX4_minutesTillOut_3 (lv_at hl 3 rfl) ?_
      refine lv_iload_n hx hb dX4_minutesTillOut_5 rfl (lv_at hl 2 rfl) ?_
      refine lv_icmp_gt (tgt := 30) hx hb dX4_minutesTillOut_6 (by decide) (fun c12 => ?_) (fun c12 => ?_)
      · replace h := bb_ifp c12 h
        refine lv_iconst (v := (-1 : Int32)) hx hb dX4_minutesTillOut_30 (by decide) ?_
        obtain ⟨rfl, rfl, rfl⟩ := bb_some3 h
        have hP9 := hP.sub (ws' := [((a_t 0), oX4 a_t a_t_world v_t_kind v_t_at_2 v_t_wish v_t_wrinkles_3), ((a_t_world 0), oX6 a_t_world v_t_world_sight v_t_world_bathers v_t_world_minute v_t_world_seenEver v_t_world_z), ((a_t_world 2), .inl (cy 0, 48, .inl f_t_world_current))]) [0, 1, 2] rfl
        have hD9 := hD.sub (ws' := [((a_t 0), oX4 a_t a_t_world v_t_kind v_t_at_2 v_t_wish v_t_wrinkles_3), ((a_t_world 0), oX6 a_t_world v_t_world_sight v_t_world_bathers v_t_world_minute v_t_world_seenEver v_t_world_z), ((a_t_world 2), .inl (cy 0, 48, .inl f_t_world_current))]) [0, 1, 2] (by decide) rfl
        exact W.iret hx hb hr (fun t ht hW => ⟨⟨_, (), rfl, rfl, by rw [ht]; exact hP9, va_K.moved hW.alike hK, hD9⟩, hS.F ht⟩) hS.2.2 dX4_minutesTillOut_31
      · replace h := bb_ifn c12 h
        refine lv_aload_n hx hb dX4_minutesTillOut_9 rfl (lv_at hl 0 rfl) ?_
        obtain ⟨r13, hc14, h⟩ := bb_b1_o h
        refine vp_callSi (W.runV (As := []) (rest := []) ⟨hx, hb, hml, hown, hts⟩ (kX4_isIn l dC dI cy a_t a_t_world v_t_kind v_t_at_2 v_t_wish v_t_wrinkles_3 r13 hc14) (cwV 0 hts gX4_minutesTillOut_X4_isIn rfl rfl rfl kdX4_isIn ⟨Nat.le_of_ble_eq_true rfl, Nat.le_of_ble_eq_true rfl⟩) (bb_preV (va_recv hK hP (ci := 3) (q0 := 0) rfl rfl) (hP.sub (ws' := [((a_t 0), oX4 a_t a_t_world v_t_kind v_t_at_2 v_t_wish v_t_wrinkles_3)]) [0] rfl) hK) rfl rfl hl.1 rfl (lv_room (Nat.le_of_ble_eq_true rfl)) dX4_minutesTillOut_10 ⟨Nat.zero_le _, Nat.zero_le _⟩) (fun t15 et15 => ?_)
        obtain ⟨rfl, hz16⟩ := et15
        refine lv_if_ne (tgt := 19) hx hb dX4_minutesTillOut_13 (by decide) (fun c17 => ?_) (fun c17 => ?_)
        · replace h := bb_ifn c17 h
          refine lv_aload_n hx hb dX4_minutesTillOut_19 rfl (lv_at hl 0 rfl) ?_
          refine lv_lload_n hx hb dX4_minutesTillOut_20 rfl (lv_at hl 1 rfl) ?_
          obtain ⟨w18, w19, hc20, h⟩ := bb_b2_o h
          refine bb_cwv (wr := []) (w1 := [((a_t 0), oX4 a_t a_t_world v_t_kind w18 v_t_wish w19), ((a_t_world 0), oX6 a_t_world v_t_world_sight v_t_world_bathers v_t_world_minute v_t_world_seenEver v_t_world_z), ((a_t_world 2), .inl (cy 0, 48, .inl f_t_world_current))]) (va_runV (As := [.long p1]) (rest := []) ⟨hx, hb, hml, hown, hts⟩ (kX4_pass l dC dI cy H.size a_t a_t_world p1 v_t_kind v_t_at_2 v_t_wish v_t_wrinkles_3 v_t_world_sight v_t_world_bathers v_t_world_minute v_t_world_seenEver v_t_world_z f_t_world_current w18 w19 hc20) (cwV 1 hts gX4_minutesTillOut_X4_pass rfl rfl rfl kdX4_pass ⟨Nat.le_of_ble_eq_true rfl, Nat.le_of_ble_eq_true rfl⟩) (bb_preVw (va_recv hK hP (ci := 3) (q0 := 0) rfl rfl) hP hK (hD.sub (ws' := [((a_t 0), oX4 a_t a_t_world v_t_kind v_t_at_2 v_t_wish v_t_wrinkles_3), ((a_t_world 0), oX6 a_t_world v_t_world_sight v_t_world_bathers v_t_world_minute v_t_world_seenEver v_t_world_z), ((a_t_world 2), .inl (cy 0, 48, .inl f_t_world_current))]) [0, 1, 2] (by decide) rfl)) rfl rfl hl.1 rfl (lv_room (Nat.le_of_ble_eq_true rfl)) dX4_minutesTillOut_21 ⟨Nat.zero_le _, Nat.zero_le _⟩) hP hD hS hA [0, 1, 2] [] rfl rfl (by decide) (by decide) (fun H locs hP hD hS => ?_)
          have hP : va_P (dC, dI) vwCl [((a_t 0), oX4 a_t a_t_world v_t_kind w18 v_t_wish w19), ((a_t_world 0), oX6 a_t_world v_t_world_sight v_t_world_bathers v_t_world_minute v_t_world_seenEver v_t_world_z), ((a_t_world 2), .inl (cy 0, 48, .inl f_t_world_current))] H := hP
          have hD : va_D A [((a_t 0), oX4 a_t a_t_world v_t_kind w18 v_t_wish w19), ((a_t_world 0), oX6 a_t_world v_t_world_sight v_t_world_bathers v_t_world_minute v_t_world_seenEver v_t_world_z), ((a_t_world 2), .inl (cy 0, 48, .inl f_t_world_current))] := hD
          refine lv_iinc (v := x4_1 + (1 : Int32)) (lv' := [(4, .int (x4_1 + (1 : Int32))), (0, .ref (a_t 0)), (1, .long p1), (3, .int p2)]) hx hb dX4_minutesTillOut_24 hl (k := 3) rfl rfl (by decide) rfl (fun ls hl => ?_)
          refine lv_goto (tgt := 3) hx hb dX4_minutesTillOut_27 (by decide) ?_
          rw [erec9] at h
          exact toW _ _ _ (ih11 (x4_1 + (1 : Int32)) w18 w19 _ _ _ h hP hD hS (lv_sub hl [1, 2, 3, 0] rfl))
        · replace h := bb_ifp c17 h
          refine lv_iload hx hb dX4_minutesTillOut_16 (lv_at hl 3 rfl) ?_
          obtain ⟨rfl, rfl, rfl⟩ := bb_some3 h
          have hP9 := hP.sub (ws' := [((a_t 0), oX4 a_t a_t_world v_t_kind v_t_at_2 v_t_wish v_t_wrinkles_3), ((a_t_world 0), oX6 a_t_world v_t_world_sight v_t_world_bathers v_t_world_minute v_t_world_seenEver v_t_world_z), ((a_t_world 2), .inl (cy 0, 48, .inl f_t_world_current))]) [0, 1, 2] rfl
          have hD9 := hD.sub (ws' := [((a_t 0), oX4 a_t a_t_world v_t_kind v_t_at_2 v_t_wish v_t_wrinkles_3), ((a_t_world 0), oX6 a_t_world v_t_world_sight v_t_world_bathers v_t_world_minute v_t_world_seenEver v_t_world_z), ((a_t_world 2), .inl (cy 0, 48, .inl f_t_world_current))]) [0, 1, 2] (by decide) rfl
          exact W.iret hx hb hr (fun t ht hW => ⟨⟨_, (), rfl, rfl, by rw [ht]; exact hP9, va_K.moved hW.alike hK, hD9⟩, hS.F ht⟩) hS.2.2 dX4_minutesTillOut_18
  exact toW _ _ _ (L10 nn (0 : Int32) v_t_at v_t_wrinkles _ _ _ h hP hD hS (lv_sub hl [1, 2, 3, 0] rfl))
/-! X4_minutesTillSeen -/
def uX4_minutesTillSeen_s3 (x1_4 : Int64) (x3_5 : Int32) (v_t_kind_6 : Int32) (v_t_wish_7 : Int32) (f_t_world_current_8 : Nat → Int32) (rec9 : Int32 → Int32 → Int32 → Option (Int32 × (Int32) × (Int32))) (x4_1 : Int32) (v_t_at_2 : Int32) (v_t_wrinkles_3 : Int32) : Option (Int32 × (Int32) × (Int32)) :=
  (if x3_5 < x4_1 then some ((-1 : Int32), v_t_at_2, v_t_wrinkles_3) else bb_b1 (uX4_isIn v_t_at_2) (fun (r13 : Int32) => (if r13 = 0 then some ((-1 : Int32), v_t_at_2, v_t_wrinkles_3) else bb_b1 (uX4_isSeen x1_4 v_t_at_2) (fun (r18 : Int32) => (if r18 = 0 then bb_b2 (uX4_pass x1_4 v_t_kind_6 v_t_at_2 v_t_wish_7 v_t_wrinkles_3 f_t_world_current_8) (fun (w23 : Int32) (w24 : Int32) => rec9 (x4_1 + (1 : Int32)) w23 w24) else some (x4_1, v_t_at_2, v_t_wrinkles_3))))))
def uX4_minutesTillSeen (nn : Nat) (p1 : Int64) (p2 : Int32) (v_t_kind : Int32) (v_t_at : Int32) (v_t_wish : Int32) (v_t_wrinkles : Int32) (f_t_world_current : Nat → Int32) : Option (Int32 × (Int32) × (Int32)) :=
  bb_loop3 (uX4_minutesTillSeen_s3 p1 p2 v_t_kind v_t_wish f_t_world_current) nn (0 : Int32) v_t_at v_t_wrinkles
theorem kdX4_minutesTillSeen : yX4_minutesTillSeen.cls = RX4 ∧ yX4_minutesTillSeen.cls ≠ "java/lang/invoke/MethodHandle" ∧ yX4_minutesTillSeen.cls ≠ "java/lang/invoke/VarHandle" ∧ (parseMethodDescriptor yX4_minutesTillSeen.desc).map (fun d => d.parameters.length) = some 2 := by decide +kernel
set_option maxHeartbeats 4000000 in
set_option maxRecDepth 100000 in
theorem kX4_minutesTillSeen (l : Launch) (dC : Nat → ClassId) (dI : Nat → Nat → Nat) (cy : Nat → ClassId) (sz : Nat) (a_t : Nat → Nat) (a_t_world : Nat → Nat) (p1 : Int64) (p2 : Int32) (v_t_kind : Int32) (v_t_at : Int32) (v_t_wish : Int32) (v_t_wrinkles : Int32) (v_t_world_sight : Int32) (v_t_world_bathers : Int32) (v_t_world_minute : Int32) (v_t_world_seenEver : Int32) (v_t_world_z : Int32) (f_t_world_current : Nat → Int32) (nn : Nat) (r : Int32) (v_t_at_o : Int32) (v_t_wrinkles_o : Int32) (h : uX4_minutesTillSeen nn p1 p2 v_t_kind v_t_at v_t_wish v_t_wrinkles f_t_world_current = some (r, v_t_at_o, v_t_wrinkles_o)) : Met l yX4_minutesTillSeen wsX4_minutesTillSeen ({ frames := 6, cells := 0, slots := 0, locals := 126 }) (va_Pc [.ref (a_t 0), .long p1, .int p2] (fun U => U.heap.size = sz ∧ va_P (dC, dI) vwCl [((a_t 0), oX4 a_t a_t_world v_t_kind v_t_at v_t_wish v_t_wrinkles), ((a_t_world 0), oX6 a_t_world v_t_world_sight v_t_world_bathers v_t_world_minute v_t_world_seenEver v_t_world_z), ((a_t_world 2), .inl (cy 0, 48, .inl f_t_world_current))] U.heap ∧ va_K (dC, dI) vwCl (tyX cy) U ∧ va_D (fun _ => True) [((a_t 0), oX4 a_t a_t_world v_t_kind v_t_at v_t_wish v_t_wrinkles), ((a_t_world 0), oX6 a_t_world v_t_world_sight v_t_world_bathers v_t_world_minute v_t_world_seenEver v_t_world_z), ((a_t_world 2), .inl (cy 0, 48, .inl f_t_world_current))])) (va_Qi (fun (r2 : Int32) (_ : Unit) => r = r2) (fun _ t => va_P (dC, dI) vwCl [((a_t 0), oX4 a_t a_t_world v_t_kind v_t_at_o v_t_wish v_t_wrinkles_o), ((a_t_world 0), oX6 a_t_world v_t_world_sight v_t_world_bathers v_t_world_minute v_t_world_seenEver v_t_world_z), ((a_t_world 2), .inl (cy 0, 48, .inl f_t_world_current))] t.heap ∧ va_K (dC, dI) vwCl (tyX cy) t ∧ va_D (va_A [((a_t 0), oX4 a_t a_t_world v_t_kind v_t_at v_t_wish v_t_wrinkles), ((a_t_world 0), oX6 a_t_world v_t_world_sight v_t_world_bathers v_t_world_minute v_t_world_seenEver v_t_world_z), ((a_t_world 2), .inl (cy 0, 48, .inl f_t_world_current))] sz) [((a_t 0), oX4 a_t a_t_world v_t_kind v_t_at_o v_t_wish v_t_wrinkles_o), ((a_t_world 0), oX6 a_t_world v_t_world_sight v_t_world_bathers v_t_world_minute v_t_world_seenEver v_t_world_z), ((a_t_world 2), .inl (cy 0, 48, .inl f_t_world_current))]) (va_A [((a_t 0), oX4 a_t a_t_world v_t_kind v_t_at v_t_wish v_t_wrinkles), ((a_t_world 0), oX6 a_t_world v_t_world_sight v_t_world_bathers v_t_world_minute v_t_world_seenEver v_t_world_z), ((a_t_world 2), .inl (cy 0, 48, .inl f_t_world_current))] sz)) 0 0 (va_A [((a_t 0), oX4 a_t a_t_world v_t_kind v_t_at v_t_wish v_t_wrinkles), ((a_t_world 0), oX6 a_t_world v_t_world_sight v_t_world_bathers v_t_world_minute v_t_world_seenEver v_t_world_z), ((a_t_world 2), .inl (cy 0, 48, .inl f_t_world_current))] sz) := by
  refine Met.ofW (cc := cX4_minutesTillSeen) (maxL := 5) (ret := (some .int)) (by decide) rfl ?_
  intro p e s m args below meth c s₁ B hml hv
  obtain ⟨rfl, hsz, hP, hK, hD0⟩ := hv
  have hx := B.exec
  have hb := B.bytes
  have hr := B.returns
  have hts := atoms_spec (ws := wsX4_minutesTillSeen) B.pre
  have hown : s.vm.findClass RX4 = some m.cls := findClass_of_methodNamed B.named
  have hlocks := B.notSynchronized
  subst hsz
  have hD := hD0.self (sz := s.heap.size)
  generalize hAe : va_A [((a_t 0), oX4 a_t a_t_world v_t_kind v_t_at v_t_wish v_t_wrinkles), ((a_t_world 0), oX6 a_t_world v_t_world_sight v_t_world_bathers v_t_world_minute v_t_world_seenEver v_t_world_z), ((a_t_world 2), .inl (cy 0, 48, .inl f_t_world_current))] s.heap.size = A at hD ⊢
  have hA : ∀ q : Nat, s.heap.size ≤ q → A q := fun q h => by rw [← hAe]; exact Or.inr h
  have hS : va_S A s.heap s.heap [] := va_S.rf
  have hP : va_P (dC, dI) vwCl [((a_t 0), oX4 a_t a_t_world v_t_kind v_t_at v_t_wish v_t_wrinkles), ((a_t_world 0), oX6 a_t_world v_t_world_sight v_t_world_bathers v_t_world_minute v_t_world_seenEver v_t_world_z), ((a_t_world 2), .inl (cy 0, 48, .inl f_t_world_current))] s.heap := hP
  have hl := lv_entry ([.ref (a_t 0), .long p1, .int p2]) (n := 5) (Nat.le_of_ble_eq_true rfl)
  rw [lg_entry_eq]
  generalize (lg_sl ([.ref (a_t 0), .long p1, .int p2]) ++ List.replicate (5 - (lg_sl ([.ref (a_t 0), .long p1, .int p2])).length) Slot.unset).toArray = ls at hl ⊢
  have hl : lv_has ls 5 [(0, .ref (a_t 0)), (1, .long p1), (3, .int p2)] := hl
  unfold uX4_minutesTillSeen at h
  refine bb_cap (fun WW toW ofW => ?_)
  refine lv_iconst (v := (0 : Int32)) hx hb dX4_minutesTillSeen_0 (by decide) ?_
  refine lv_istore (lv' := [(4, .int (0 : Int32)), (0, .ref (a_t 0)), (1, .long p1), (3, .int p2)]) hx hb dX4_minutesTillSeen_1 hl (by decide) rfl (fun ls hl => ?_)
  have L10 : ∀ (n : Nat) (x4_1 : Int32) (v_t_at_2 : Int32) (v_t_wrinkles_3 : Int32) (H : Heap) (locs : List Loc) (ls : Array Slot), bb_loop3 (uX4_minutesTillSeen_s3 p1 p2 v_t_kind v_t_wish f_t_world_current) n x4_1 v_t_at_2 v_t_wrinkles_3 = some (r, v_t_at_o, v_t_wrinkles_o) → va_P (dC, dI) vwCl [((a_t 0), oX4 a_t a_t_world v_t_kind v_t_at_2 v_t_wish v_t_wrinkles_3), ((a_t_world 0), oX6 a_t_world v_t_world_sight v_t_world_bathers v_t_world_minute v_t_world_seenEver v_t_world_z), ((a_t_world 2), .inl (cy 0, 48, .inl f_t_world_current))] H → va_D A [((a_t 0), oX4 a_t a_t_world v_t_kind v_t_at_2 v_t_wish v_t_wrinkles_3), ((a_t_world 0), oX6 a_t_world v_t_world_sight v_t_world_bathers v_t_world_minute v_t_world_seenEver v_t_world_z), ((a_t_world 2), .inl (cy 0, 48, .inl f_t_world_current))] → va_S A s.heap H locs → lv_has ls 5 [(0, .ref (a_t 0)), (1, .long p1), (3, .int p2), (4, .int x4_1)] → WW H locs (F0 m 3 ls []) := by
    intro n
    induction n with
    | zero => intro x4_1 v_t_at_2 v_t_wrinkles_3 H locs ls h; exact (bb_no h).elim
    | succ n ih11 =>
      intro x4_1 v_t_at_2 v_t_wrinkles_3 H locs ls h hP hD hS hl
      refine ofW _ _ _ ?_
      obtain ⟨rec9, erec9, h⟩ := bb_loop3_o h
      unfold uX4_minutesTillSeen_s3 at h
      refine lv_iload hx hb dX4_minutesTillSeen_3 (lv_at hl 3 rfl) ?_
      refine lv_iload_n hx hb dX4_minutesTillSeen_5 rfl (lv_at hl 2 rfl) ?_
      refine lv_icmp_gt (tgt := 38) hx hb dX4_minutesTillSeen_6 (by decide) (fun c12 => ?_) (fun c12 => ?_)
      · replace h := bb_ifp c12 h
        refine lv_iconst (v := (-1 : Int32)) hx hb dX4_minutesTillSeen_38 (by decide) ?_
        obtain ⟨rfl, rfl, rfl⟩ := bb_some3 h
        have hP9 := hP.sub (ws' := [((a_t 0), oX4 a_t a_t_world v_t_kind v_t_at_2 v_t_wish v_t_wrinkles_3), ((a_t_world 0), oX6 a_t_world v_t_world_sight v_t_world_bathers v_t_world_minute v_t_world_seenEver v_t_world_z), ((a_t_world 2), .inl (cy 0, 48, .inl f_t_world_current))]) [0, 1, 2] rfl
        have hD9 := hD.sub (ws' := [((a_t 0), oX4 a_t a_t_world v_t_kind v_t_at_2 v_t_wish v_t_wrinkles_3), ((a_t_world 0), oX6 a_t_world v_t_world_sight v_t_world_bathers v_t_world_minute v_t_world_seenEver v_t_world_z), ((a_t_world 2), .inl (cy 0, 48, .inl f_t_world_current))]) [0, 1, 2] (by decide) rfl
        exact W.iret hx hb hr (fun t ht hW => ⟨⟨_, (), rfl, rfl, by rw [ht]; exact hP9, va_K.moved hW.alike hK, hD9⟩, hS.F ht⟩) hS.2.2 dX4_minutesTillSeen_39
      · replace h := bb_ifn c12 h
        refine lv_aload_n hx hb dX4_minutesTillSeen_9 rfl (lv_at hl 0 rfl) ?_
        obtain ⟨r13, hc14, h⟩ := bb_b1_o h
        refine vp_callSi (W.runV (As := []) (rest := []) ⟨hx, hb, hml, hown, hts⟩ (kX4_isIn l dC dI cy a_t a_t_world v_t_kind v_t_at_2 v_t_wish v_t_wrinkles_3 r13 hc14) (cwV 0 hts gX4_minutesTillSeen_X4_isIn rfl rfl rfl kdX4_isIn ⟨Nat.le_of_ble_eq_true rfl, Nat.le_of_ble_eq_true rfl⟩) (bb_preV (va_recv hK hP (ci := 3) (q0 := 0) rfl rfl) (hP.sub (ws' := [((a_t 0), oX4 a_t a_t_world v_t_kind v_t_at_2 v_t_wish v_t_wrinkles_3)]) [0] rfl) hK) rfl rfl hl.1 rfl (lv_room (Nat.le_of_ble_eq_true rfl)) dX4_minutesTillSeen_10 ⟨Nat.zero_le _, Nat.zero_le _⟩) (fun t15 et15 => ?_)
        obtain ⟨rfl, hz16⟩ := et15
        refine lv_if_eq (tgt := 38) hx hb dX4_minutesTillSeen_13 (by decide) (fun c17 => ?_) (fun c17 => ?_)
        · replace h := bb_ifp c17 h
          refine lv_iconst (v := (-1 : Int32)) hx hb dX4_minutesTillSeen_38 (by decide) ?_
          obtain ⟨rfl, rfl, rfl⟩ := bb_some3 h
          have hP9 := hP.sub (ws' := [((a_t 0), oX4 a_t a_t_world v_t_kind v_t_at_2 v_t_wish v_t_wrinkles_3), ((a_t_world 0), oX6 a_t_world v_t_world_sight v_t_world_bathers v_t_world_minute v_t_world_seenEver v_t_world_z), ((a_t_world 2), .inl (cy 0, 48, .inl f_t_world_current))]) [0, 1, 2] rfl
          have hD9 := hD.sub (ws' := [((a_t 0), oX4 a_t a_t_world v_t_kind v_t_at_2 v_t_wish v_t_wrinkles_3), ((a_t_world 0), oX6 a_t_world v_t_world_sight v_t_world_bathers v_t_world_minute v_t_world_seenEver v_t_world_z), ((a_t_world 2), .inl (cy 0, 48, .inl f_t_world_current))]) [0, 1, 2] (by decide) rfl
          exact W.iret hx hb hr (fun t ht hW => ⟨⟨_, (), rfl, rfl, by rw [ht]; exact hP9, va_K.moved hW.alike hK, hD9⟩, hS.F ht⟩) hS.2.2 dX4_minutesTillSeen_39
        · replace h := bb_ifn c17 h
          refine lv_aload_n hx hb dX4_minutesTillSeen_16 rfl (lv_at hl 0 rfl) ?_
          refine lv_lload_n hx hb dX4_minutesTillSeen_17 rfl (lv_at hl 1 rfl) ?_
          obtain ⟨r18, hc19, h⟩ := bb_b1_o h
          refine vp_callSi (W.runV (As := [.long p1]) (rest := []) ⟨hx, hb, hml, hown, hts⟩ (kX4_isSeen l dC dI cy a_t a_t_world p1 v_t_kind v_t_at_2 v_t_wish v_t_wrinkles_3 r18 hc19) (cwV 1 hts gX4_minutesTillSeen_X4_isSeen rfl rfl rfl kdX4_isSeen ⟨Nat.le_of_ble_eq_true rfl, Nat.le_of_ble_eq_true rfl⟩) (bb_preV (va_recv hK hP (ci := 3) (q0 := 0) rfl rfl) (hP.sub (ws' := [((a_t 0), oX4 a_t a_t_world v_t_kind v_t_at_2 v_t_wish v_t_wrinkles_3)]) [0] rfl) hK) rfl rfl hl.1 rfl (lv_room (Nat.le_of_ble_eq_true rfl)) dX4_minutesTillSeen_18 ⟨Nat.zero_le _, Nat.zero_le _⟩) (fun t20 et20 => ?_)
          obtain ⟨rfl, hz21⟩ := et20
          refine lv_if_eq (tgt := 27) hx hb dX4_minutesTillSeen_21 (by decide) (fun c22 => ?_) (fun c22 => ?_)
          · replace h := bb_ifp c22 h
            refine lv_aload_n hx hb dX4_minutesTillSeen_27 rfl (lv_at hl 0 rfl) ?_
            refine lv_lload_n hx hb dX4_minutesTillSeen_28 rfl (lv_at hl 1 rfl) ?_
            obtain ⟨w23, w24, hc25, h⟩ := bb_b2_o h
            refine bb_cwv (wr := []) (w1 := [((a_t 0), oX4 a_t a_t_world v_t_kind w23 v_t_wish w24), ((a_t_world 0), oX6 a_t_world v_t_world_sight v_t_world_bathers v_t_world_minute v_t_world_seenEver v_t_world_z), ((a_t_world 2), .inl (cy 0, 48, .inl f_t_world_current))]) (va_runV (As := [.long p1]) (rest := []) ⟨hx, hb, hml, hown, hts⟩ (kX4_pass l dC dI cy H.size a_t a_t_world p1 v_t_kind v_t_at_2 v_t_wish v_t_wrinkles_3 v_t_world_sight v_t_world_bathers v_t_world_minute v_t_world_seenEver v_t_world_z f_t_world_current w23 w24 hc25) (cwV 1 hts gX4_minutesTillSeen_X4_pass rfl rfl rfl kdX4_pass ⟨Nat.le_of_ble_eq_true rfl, Nat.le_of_ble_eq_true rfl⟩) (bb_preVw (va_recv hK hP (ci := 3) (q0 := 0) rfl rfl) hP hK (hD.sub (ws' := [((a_t 0), oX4 a_t a_t_world v_t_kind v_t_at_2 v_t_wish v_t_wrinkles_3), ((a_t_world 0), oX6 a_t_world v_t_world_sight v_t_world_bathers v_t_world_minute v_t_world_seenEver v_t_world_z), ((a_t_world 2), .inl (cy 0, 48, .inl f_t_world_current))]) [0, 1, 2] (by decide) rfl)) rfl rfl hl.1 rfl (lv_room (Nat.le_of_ble_eq_true rfl)) dX4_minutesTillSeen_29 ⟨Nat.zero_le _, Nat.zero_le _⟩) hP hD hS hA [0, 1, 2] [] rfl rfl (by decide) (by decide) (fun H locs hP hD hS => ?_)
            have hP : va_P (dC, dI) vwCl [((a_t 0), oX4 a_t a_t_world v_t_kind w23 v_t_wish w24), ((a_t_world 0), oX6 a_t_world v_t_world_sight v_t_world_bathers v_t_world_minute v_t_world_seenEver v_t_world_z), ((a_t_world 2), .inl (cy 0, 48, .inl f_t_world_current))] H := hP
            have hD : va_D A [((a_t 0), oX4 a_t a_t_world v_t_kind w23 v_t_wish w24), ((a_t_world 0), oX6 a_t_world v_t_world_sight v_t_world_bathers v_t_world_minute v_t_world_seenEver v_t_world_z), ((a_t_world 2), .inl (cy 0, 48, .inl f_t_world_current))] := hD
            refine lv_iinc (v := x4_1 + (1 : Int32)) (lv' := [(4, .int (x4_1 + (1 : Int32))), (0, .ref (a_t 0)), (1, .long p1), (3, .int p2)]) hx hb dX4_minutesTillSeen_32 hl (k := 3) rfl rfl (by decide) rfl (fun ls hl => ?_)
            refine lv_goto (tgt := 3) hx hb dX4_minutesTillSeen_35 (by decide) ?_
            rw [erec9] at h
            exact toW _ _ _ (ih11 (x4_1 + (1 : Int32)) w23 w24 _ _ _ h hP hD hS (lv_sub hl [1, 2, 3, 0] rfl))
          · replace h := bb_ifn c22 h
            refine lv_iload hx hb dX4_minutesTillSeen_24 (lv_at hl 3 rfl) ?_
            obtain ⟨rfl, rfl, rfl⟩ := bb_some3 h
            have hP9 := hP.sub (ws' := [((a_t 0), oX4 a_t a_t_world v_t_kind v_t_at_2 v_t_wish v_t_wrinkles_3), ((a_t_world 0), oX6 a_t_world v_t_world_sight v_t_world_bathers v_t_world_minute v_t_world_seenEver v_t_world_z), ((a_t_world 2), .inl (cy 0, 48, .inl f_t_world_current))]) [0, 1, 2] rfl
            have hD9 := hD.sub (ws' := [((a_t 0), oX4 a_t a_t_world v_t_kind v_t_at_2 v_t_wish v_t_wrinkles_3), ((a_t_world 0), oX6 a_t_world v_t_world_sight v_t_world_bathers v_t_world_minute v_t_world_seenEver v_t_world_z), ((a_t_world 2), .inl (cy 0, 48, .inl f_t_world_current))]) [0, 1, 2] (by decide) rfl
            exact W.iret hx hb hr (fun t ht hW => ⟨⟨_, (), rfl, rfl, by rw [ht]; exact hP9, va_K.moved hW.alike hK, hD9⟩, hS.F ht⟩) hS.2.2 dX4_minutesTillSeen_26
  exact toW _ _ _ (L10 nn (0 : Int32) v_t_at v_t_wrinkles _ _ _ h hP hD hS (lv_sub hl [1, 2, 3, 0] rfl))
/-! X4_hasWrinkles -/
def uX4_hasWrinkles_s3 (x2_4 : Int64) (v_p1_length_5 : Int32) (v_t_kind_6 : Int32) (v_t_wish_7 : Int32) (f_p1_numbers_8 : Nat → Int32) (f_t_world_current_9 : Nat → Int32) (rec10 : Int32 → Int32 → Int32 → Option (Int32 × (Int32) × (Int32))) (x4_1 : Int32) (v_t_at_2 : Int32) (v_t_wrinkles_3 : Int32) : Option (Int32 × (Int32) × (Int32)) :=
  (if v_p1_length_5 ≤ x4_1 then some ((1 : Int32), v_t_at_2, v_t_wrinkles_3) else bb_ix x4_1 40 (bb_cut (fun (u15 : Unit) => bb_b2 (uX4_pass x2_4 v_t_kind_6 v_t_at_2 v_t_wish_7 v_t_wrinkles_3 f_t_world_current_9) (fun (w17 : Int32) (w18 : Int32) => rec10 (x4_1 + (1 : Int32)) w17 w18)) (fun k16 => (if (f_p1_numbers_8 x4_1.toNatClampNeg) = (-1 : Int32) then k16 () else bb_ix x4_1 40 ((if (f_p1_numbers_8 x4_1.toNatClampNeg) = v_t_wrinkles_3 then k16 () else some ((0 : Int32), v_t_at_2, v_t_wrinkles_3)))))))
def uX4_hasWrinkles (nn : Nat) (p2 : Int64) (v_p1_length : Int32) (v_t_kind : Int32) (v_t_at : Int32) (v_t_wish : Int32) (v_t_wrinkles : Int32) (f_p1_numbers : Nat → Int32) (f_t_world_current : Nat → Int32) : Option (Int32 × (Int32) × (Int32)) :=
  bb_loop3 (uX4_hasWrinkles_s3 p2 v_p1_length v_t_kind v_t_wish f_p1_numbers f_t_world_current) nn (0 : Int32) v_t_at v_t_wrinkles
theorem kdX4_hasWrinkles : yX4_hasWrinkles.cls = RX4 ∧ yX4_hasWrinkles.cls ≠ "java/lang/invoke/MethodHandle" ∧ yX4_hasWrinkles.cls ≠ "java/lang/invoke/VarHandle" ∧ (parseMethodDescriptor yX4_hasWrinkles.desc).map (fun d => d.parameters.length) = some 2 := by decide +kernel
set_option maxHeartbeats 4000000 in
set_option maxRecDepth 100000 in
theorem kX4_hasWrinkles (l : Launch) (dC : Nat → ClassId) (dI : Nat → Nat → Nat) (cy : Nat → ClassId) (sz : Nat) (a_p1 : Nat → Nat) (a_t : Nat → Nat) (a_t_world : Nat → Nat) (p2 : Int64) (v_p1_bits : Int32) (v_p1_length : Int32) (v_t_kind : Int32) (v_t_at : Int32) (v_t_wish : Int32) (v_t_wrinkles : Int32) (f_p1_numbers : Nat → Int32) (v_t_world_sight : Int32) (v_t_world_bathers : Int32) (v_t_world_minute : Int32) (v_t_world_seenEver : Int32) (v_t_world_z : Int32) (f_t_world_current : Nat → Int32) (nn : Nat) (r : Int32) (v_t_at_o : Int32) (v_t_wrinkles_o : Int32) (h : uX4_hasWrinkles nn p2 v_p1_length v_t_kind v_t_at v_t_wish v_t_wrinkles f_p1_numbers f_t_world_current = some (r, v_t_at_o, v_t_wrinkles_o)) : Met l yX4_hasWrinkles wsX4_hasWrinkles ({ frames := 6, cells := 0, slots := 0, locals := 126 }) (va_Pc [.ref (a_t 0), .ref (a_p1 0), .long p2] (fun U => U.heap.size = sz ∧ va_P (dC, dI) vwCl [((a_p1 0), oX1 a_p1 v_p1_bits v_p1_length), ((a_t 0), oX4 a_t a_t_world v_t_kind v_t_at v_t_wish v_t_wrinkles), ((a_p1 1), .inl (cy 0, 40, .inl f_p1_numbers)), ((a_t_world 0), oX6 a_t_world v_t_world_sight v_t_world_bathers v_t_world_minute v_t_world_seenEver v_t_world_z), ((a_t_world 2), .inl (cy 0, 48, .inl f_t_world_current))] U.heap ∧ va_K (dC, dI) vwCl (tyX cy) U ∧ va_D (fun _ => True) [((a_p1 0), oX1 a_p1 v_p1_bits v_p1_length), ((a_t 0), oX4 a_t a_t_world v_t_kind v_t_at v_t_wish v_t_wrinkles), ((a_p1 1), .inl (cy 0, 40, .inl f_p1_numbers)), ((a_t_world 0), oX6 a_t_world v_t_world_sight v_t_world_bathers v_t_world_minute v_t_world_seenEver v_t_world_z), ((a_t_world 2), .inl (cy 0, 48, .inl f_t_world_current))])) (va_Qi (fun (r2 : Int32) (_ : Unit) => r = r2 ∧ narrow .boolean (.int r2) = .int r2) (fun _ t => va_P (dC, dI) vwCl [((a_p1 0), oX1 a_p1 v_p1_bits v_p1_length), ((a_t 0), oX4 a_t a_t_world v_t_kind v_t_at_o v_t_wish v_t_wrinkles_o), ((a_p1 1), .inl (cy 0, 40, .inl f_p1_numbers)), ((a_t_world 0), oX6 a_t_world v_t_world_sight v_t_world_bathers v_t_world_minute v_t_world_seenEver v_t_world_z), ((a_t_world 2), .inl (cy 0, 48, .inl f_t_world_current))] t.heap ∧ va_K (dC, dI) vwCl (tyX cy) t ∧ va_D (va_A [((a_p1 0), oX1 a_p1 v_p1_bits v_p1_length), ((a_t 0), oX4 a_t a_t_world v_t_kind v_t_at v_t_wish v_t_wrinkles), ((a_p1 1), .inl (cy 0, 40, .inl f_p1_numbers)), ((a_t_world 0), oX6 a_t_world v_t_world_sight v_t_world_bathers v_t_world_minute v_t_world_seenEver v_t_world_z), ((a_t_world 2), .inl (cy 0, 48, .inl f_t_world_current))] sz) [((a_p1 0), oX1 a_p1 v_p1_bits v_p1_length), ((a_t 0), oX4 a_t a_t_world v_t_kind v_t_at_o v_t_wish v_t_wrinkles_o), ((a_p1 1), .inl (cy 0, 40, .inl f_p1_numbers)), ((a_t_world 0), oX6 a_t_world v_t_world_sight v_t_world_bathers v_t_world_minute v_t_world_seenEver v_t_world_z), ((a_t_world 2), .inl (cy 0, 48, .inl f_t_world_current))]) (va_A [((a_p1 0), oX1 a_p1 v_p1_bits v_p1_length), ((a_t 0), oX4 a_t a_t_world v_t_kind v_t_at v_t_wish v_t_wrinkles), ((a_p1 1), .inl (cy 0, 40, .inl f_p1_numbers)), ((a_t_world 0), oX6 a_t_world v_t_world_sight v_t_world_bathers v_t_world_minute v_t_world_seenEver v_t_world_z), ((a_t_world 2), .inl (cy 0, 48, .inl f_t_world_current))] sz)) 0 0 (va_A [((a_p1 0), oX1 a_p1 v_p1_bits v_p1_length), ((a_t 0), oX4 a_t a_t_world v_t_kind v_t_at v_t_wish v_t_wrinkles), ((a_p1 1), .inl (cy 0, 40, .inl f_p1_numbers)), ((a_t_world 0), oX6 a_t_world v_t_world_sight v_t_world_bathers v_t_world_minute v_t_world_seenEver v_t_world_z), ((a_t_world 2), .inl (cy 0, 48, .inl f_t_world_current))] sz) := by
  refine Met.ofW (cc := cX4_hasWrinkles) (maxL := 5) (ret := (some .boolean)) (by decide) rfl ?_
  intro p e s m args below meth c s₁ B hml hv
  obtain ⟨rfl, hsz, hP, hK, hD0⟩ := hv
  have hx := B.exec
  have hb := B.bytes
  have hr := B.returns
  have hts := atoms_spec (ws := wsX4_hasWrinkles) B.pre
  have hown : s.vm.findClass RX4 = some m.cls := findClass_of_methodNamed B.named
  have hlocks := B.notSynchronized
  have iwX1 : ∀ w ∈ wsX10, w ∈ wsX4_hasWrinkles := fun w h9 => List.mem_cons_of_mem _ (List.mem_append_left _ (List.mem_append_left _ (List.mem_append_right _ (h9))))
  have iwX4 : ∀ w ∈ wsX40, w ∈ wsX4_hasWrinkles := fun w h9 => List.mem_cons_of_mem _ (List.mem_append_left _ (List.mem_append_right _ (h9)))
  have lk1 := hts (Cond.fieldLink RX4 103 "BathBorder$Sheet" "length" "I") (List.mem_of_getElem? (i := 1) rfl)
  have lk2 := hts (Cond.fieldLink RX4 108 "BathBorder$Sheet" "numbers" "[I") (List.mem_of_getElem? (i := 2) rfl)
  have lk3 := hts (Cond.fieldLink RX4 40 "BathBorder$Walker" "wrinkles" "I") (List.mem_of_getElem? (i := 3) rfl)
  subst hsz
  have hD := hD0.self (sz := s.heap.size)
  generalize hAe : va_A [((a_p1 0), oX1 a_p1 v_p1_bits v_p1_length), ((a_t 0), oX4 a_t a_t_world v_t_kind v_t_at v_t_wish v_t_wrinkles), ((a_p1 1), .inl (cy 0, 40, .inl f_p1_numbers)), ((a_t_world 0), oX6 a_t_world v_t_world_sight v_t_world_bathers v_t_world_minute v_t_world_seenEver v_t_world_z), ((a_t_world 2), .inl (cy 0, 48, .inl f_t_world_current))] s.heap.size = A at hD ⊢
  have hA : ∀ q : Nat, s.heap.size ≤ q → A q := fun q h => by rw [← hAe]; exact Or.inr h
  have hS : va_S A s.heap s.heap [] := va_S.rf
  have hP : va_P (dC, dI) vwCl [((a_p1 0), oX1 a_p1 v_p1_bits v_p1_length), ((a_t 0), oX4 a_t a_t_world v_t_kind v_t_at v_t_wish v_t_wrinkles), ((a_p1 1), .inl (cy 0, 40, .inl f_p1_numbers)), ((a_t_world 0), oX6 a_t_world v_t_world_sight v_t_world_bathers v_t_world_minute v_t_world_seenEver v_t_world_z), ((a_t_world 2), .inl (cy 0, 48, .inl f_t_world_current))] s.heap := hP
  have hl := lv_entry ([.ref (a_t 0), .ref (a_p1 0), .long p2]) (n := 5) (Nat.le_of_ble_eq_true rfl)
  rw [lg_entry_eq]
  generalize (lg_sl ([.ref (a_t 0), .ref (a_p1 0), .long p2]) ++ List.replicate (5 - (lg_sl ([.ref (a_t 0), .ref (a_p1 0), .long p2])).length) Slot.unset).toArray = ls at hl ⊢
  have hl : lv_has ls 5 [(0, .ref (a_t 0)), (1, .ref (a_p1 0)), (2, .long p2)] := hl
  unfold uX4_hasWrinkles at h
  refine bb_cap (fun WW toW ofW => ?_)
  refine lv_iconst (v := (0 : Int32)) hx hb dX4_hasWrinkles_0 (by decide) ?_
  refine lv_istore (lv' := [(4, .int (0 : Int32)), (0, .ref (a_t 0)), (1, .ref (a_p1 0)), (2, .long p2)]) hx hb dX4_hasWrinkles_1 hl (by decide) rfl (fun ls hl => ?_)
  have L11 : ∀ (n : Nat) (x4_1 : Int32) (v_t_at_2 : Int32) (v_t_wrinkles_3 : Int32) (H : Heap) (locs : List Loc) (ls : Array Slot), bb_loop3 (uX4_hasWrinkles_s3 p2 v_p1_length v_t_kind v_t_wish f_p1_numbers f_t_world_current) n x4_1 v_t_at_2 v_t_wrinkles_3 = some (r, v_t_at_o, v_t_wrinkles_o) → va_P (dC, dI) vwCl [((a_p1 0), oX1 a_p1 v_p1_bits v_p1_length), ((a_t 0), oX4 a_t a_t_world v_t_kind v_t_at_2 v_t_wish v_t_wrinkles_3), ((a_p1 1), .inl (cy 0, 40, .inl f_p1_numbers)), ((a_t_world 0), oX6 a_t_world v_t_world_sight v_t_world_bathers v_t_world_minute v_t_world_seenEver v_t_world_z), ((a_t_world 2), .inl (cy 0, 48, .inl f_t_world_current))] H → va_D A [((a_p1 0), oX1 a_p1 v_p1_bits v_p1_length), ((a_t 0), oX4 a_t a_t_world v_t_kind v_t_at_2 v_t_wish v_t_wrinkles_3), ((a_p1 1), .inl (cy 0, 40, .inl f_p1_numbers)), ((a_t_world 0), oX6 a_t_world v_t_world_sight v_t_world_bathers v_t_world_minute v_t_world_seenEver v_t_world_z), ((a_t_world 2), .inl (cy 0, 48, .inl f_t_world_current))] → va_S A s.heap H locs → lv_has ls 5 [(0, .ref (a_t 0)), (1, .ref (a_p1 0)), (2, .long p2), (4, .int x4_1)] → WW H locs (F0 m 3 ls []) := by
    intro n
    induction n with
    | zero => intro x4_1 v_t_at_2 v_t_wrinkles_3 H locs ls h; exact (bb_no h).elim
    | succ n ih12 =>
      intro x4_1 v_t_at_2 v_t_wrinkles_3 H locs ls h hP hD hS hl
      refine ofW _ _ _ ?_
      obtain ⟨rec10, erec10, h⟩ := bb_loop3_o h
      unfold uX4_hasWrinkles_s3 at h
      refine lv_iload hx hb dX4_hasWrinkles_3 (lv_at hl 3 rfl) ?_
      refine lv_aload_n hx hb dX4_hasWrinkles_5 rfl (lv_at hl 1 rfl) ?_
      refine va_get (D := (dC, dI)) (ci := 0) (v := .int v_p1_length) (C := RX1) (T := TX1) (N := 3) hx hb hts iwX1 hown hK hP 0 rfl rfl 2 (by decide) lk1 (fun _ h9 => h9) rfl dX4_hasWrinkles_6 ?_
      refine lv_icmp_ge (tgt := 50) hx hb dX4_hasWrinkles_9 (by decide) (fun c13 => ?_) (fun c13 => ?_)
      · replace h := bb_ifp c13 h
        refine lv_iconst (v := (1 : Int32)) hx hb dX4_hasWrinkles_50 (by decide) ?_
        obtain ⟨rfl, rfl, rfl⟩ := bb_some3 h
        have hP9 := hP.sub (ws' := [((a_p1 0), oX1 a_p1 v_p1_bits v_p1_length), ((a_t 0), oX4 a_t a_t_world v_t_kind v_t_at_2 v_t_wish v_t_wrinkles_3), ((a_p1 1), .inl (cy 0, 40, .inl f_p1_numbers)), ((a_t_world 0), oX6 a_t_world v_t_world_sight v_t_world_bathers v_t_world_minute v_t_world_seenEver v_t_world_z), ((a_t_world 2), .inl (cy 0, 48, .inl f_t_world_current))]) [0, 1, 2, 3, 4] rfl
        have hD9 := hD.sub (ws' := [((a_p1 0), oX1 a_p1 v_p1_bits v_p1_length), ((a_t 0), oX4 a_t a_t_world v_t_kind v_t_at_2 v_t_wish v_t_wrinkles_3), ((a_p1 1), .inl (cy 0, 40, .inl f_p1_numbers)), ((a_t_world 0), oX6 a_t_world v_t_world_sight v_t_world_bathers v_t_world_minute v_t_world_seenEver v_t_world_z), ((a_t_world 2), .inl (cy 0, 48, .inl f_t_world_current))]) [0, 1, 2, 3, 4] (by decide) rfl
        exact W.zret hx hb hr (by decide) (fun t ht hW => ⟨⟨_, (), rfl, ⟨rfl, (by decide)⟩, by rw [ht]; exact hP9, va_K.moved hW.alike hK, hD9⟩, hS.F ht⟩) hS.2.2 dX4_hasWrinkles_51
      · replace h := bb_ifn c13 h
        refine lv_aload_n hx hb dX4_hasWrinkles_12 rfl (lv_at hl 1 rfl) ?_
        refine va_get (D := (dC, dI)) (ci := 0) (v := .ref (a_p1 1)) (C := RX1) (T := TX1) (N := 3) hx hb hts iwX1 hown hK hP 0 rfl rfl 0 (by decide) lk2 (fun _ h9 => h9) rfl dX4_hasWrinkles_13 ?_
        refine lv_iload hx hb dX4_hasWrinkles_16 (lv_at hl 3 rfl) ?_
        obtain ⟨hi14, h⟩ := bb_ix_o h
        refine va_iald hx hb hK hP 2 0 rfl rfl hi14 dX4_hasWrinkles_18 ?_
        refine lv_iconst (v := (-1 : Int32)) hx hb dX4_hasWrinkles_19 (by decide) ?_
        obtain ⟨k16, ek16, h⟩ := bb_cut_o h
        have Jk16 : ∀ (u15 : Unit) (H : Heap) (locs : List Loc) (ls : Array Slot), k16 u15 = some (r, v_t_at_o, v_t_wrinkles_o) → va_P (dC, dI) vwCl [((a_p1 0), oX1 a_p1 v_p1_bits v_p1_length), ((a_t 0), oX4 a_t a_t_world v_t_kind v_t_at_2 v_t_wish v_t_wrinkles_3), ((a_p1 1), .inl (cy 0, 40, .inl f_p1_numbers)), ((a_t_world 0), oX6 a_t_world v_t_world_sight v_t_world_bathers v_t_world_minute v_t_world_seenEver v_t_world_z), ((a_t_world 2), .inl (cy 0, 48, .inl f_t_world_current))] H → va_D A [((a_p1 0), oX1 a_p1 v_p1_bits v_p1_length), ((a_t 0), oX4 a_t a_t_world v_t_kind v_t_at_2 v_t_wish v_t_wrinkles_3), ((a_p1 1), .inl (cy 0, 40, .inl f_p1_numbers)), ((a_t_world 0), oX6 a_t_world v_t_world_sight v_t_world_bathers v_t_world_minute v_t_world_seenEver v_t_world_z), ((a_t_world 2), .inl (cy 0, 48, .inl f_t_world_current))] → va_S A s.heap H locs → lv_has ls 5 [(0, .ref (a_t 0)), (1, .ref (a_p1 0)), (2, .long p2), (4, .int x4_1)] → WW H locs (F0 m 39 ls []) := by
          intro u15 H locs ls h hP hD hS hl
          refine ofW _ _ _ ?_
          subst ek16
          refine lv_aload_n hx hb dX4_hasWrinkles_39 rfl (lv_at hl 0 rfl) ?_
          refine lv_lload_n hx hb dX4_hasWrinkles_40 rfl (lv_at hl 2 rfl) ?_
          obtain ⟨w17, w18, hc19, h⟩ := bb_b2_o h
          refine bb_cwv (wr := [((a_p1 0), oX1 a_p1 v_p1_bits v_p1_length), ((a_p1 1), .inl (cy 0, 40, .inl f_p1_numbers))]) (w1 := [((a_t 0), oX4 a_t a_t_world v_t_kind w17 v_t_wish w18), ((a_t_world 0), oX6 a_t_world v_t_world_sight v_t_world_bathers v_t_world_minute v_t_world_seenEver v_t_world_z), ((a_t_world 2), .inl (cy 0, 48, .inl f_t_world_current))]) (va_runV (As := [.long p2]) (rest := []) ⟨hx, hb, hml, hown, hts⟩ (kX4_pass l dC dI cy H.size a_t a_t_world p2 v_t_kind v_t_at_2 v_t_wish v_t_wrinkles_3 v_t_world_sight v_t_world_bathers v_t_world_minute v_t_world_seenEver v_t_world_z f_t_world_current w17 w18 hc19) (cwV 1 hts gX4_hasWrinkles_X4_pass rfl rfl rfl kdX4_pass ⟨Nat.le_of_ble_eq_true rfl, Nat.le_of_ble_eq_true rfl⟩) (bb_preVw (va_recv hK hP (ci := 3) (q0 := 1) rfl rfl) (hP.sub (ws' := [((a_t 0), oX4 a_t a_t_world v_t_kind v_t_at_2 v_t_wish v_t_wrinkles_3), ((a_t_world 0), oX6 a_t_world v_t_world_sight v_t_world_bathers v_t_world_minute v_t_world_seenEver v_t_world_z), ((a_t_world 2), .inl (cy 0, 48, .inl f_t_world_current))]) [1, 3, 4] rfl) hK (hD.sub (ws' := [((a_t 0), oX4 a_t a_t_world v_t_kind v_t_at_2 v_t_wish v_t_wrinkles_3), ((a_t_world 0), oX6 a_t_world v_t_world_sight v_t_world_bathers v_t_world_minute v_t_world_seenEver v_t_world_z), ((a_t_world 2), .inl (cy 0, 48, .inl f_t_world_current))]) [1, 3, 4] (by decide) rfl)) rfl rfl hl.1 rfl (lv_room (Nat.le_of_ble_eq_true rfl)) dX4_hasWrinkles_41 ⟨Nat.zero_le _, Nat.zero_le _⟩) hP hD hS hA [1, 3, 4] [0, 2] rfl rfl (by decide) (by decide) (fun H locs hP hD hS => ?_)
          have hP : va_P (dC, dI) vwCl [((a_p1 0), oX1 a_p1 v_p1_bits v_p1_length), ((a_p1 1), .inl (cy 0, 40, .inl f_p1_numbers)), ((a_t 0), oX4 a_t a_t_world v_t_kind w17 v_t_wish w18), ((a_t_world 0), oX6 a_t_world v_t_world_sight v_t_world_bathers v_t_world_minute v_t_world_seenEver v_t_world_z), ((a_t_world 2), .inl (cy 0, 48, .inl f_t_world_current))] H := hP
          have hD : va_D A [((a_p1 0), oX1 a_p1 v_p1_bits v_p1_length), ((a_p1 1), .inl (cy 0, 40, .inl f_p1_numbers)), ((a_t 0), oX4 a_t a_t_world v_t_kind w17 v_t_wish w18), ((a_t_world 0), oX6 a_t_world v_t_world_sight v_t_world_bathers v_t_world_minute v_t_world_seenEver v_t_world_z), ((a_t_world 2), .inl (cy 0, 48, .inl f_t_world_current))] := hD
          refine lv_iinc (v := x4_1 + (1 : Int32)) (lv' := [(4, .int (x4_1 + (1 : Int32))), (0, .ref (a_t 0)), (1, .ref (a_p1 0)), (2, .long p2)]) hx hb dX4_hasWrinkles_44 hl (k := 3) rfl rfl (by decide) rfl (fun ls hl => ?_)
          refine lv_goto (tgt := 3) hx hb dX4_hasWrinkles_47 (by decide) ?_
          rw [erec10] at h
          exact toW _ _ _ (ih12 (x4_1 + (1 : Int32)) w17 w18 _ _ _ h (hP.sub [0, 2, 1, 3, 4] rfl) (hD.sub [0, 2, 1, 3, 4] (by decide) rfl) hS (lv_sub hl [1, 2, 3, 0] rfl))
        refine lv_icmp_eq (tgt := 39) hx hb dX4_hasWrinkles_20 (by decide) (fun c20 => ?_) (fun c20 => ?_)
        · replace h := bb_ifp c20 h
          exact toW _ _ _ (Jk16 () _ _ _ h hP hD hS (lv_sub hl [0, 1, 2, 3] rfl))
        · replace h := bb_ifn c20 h
          refine lv_aload_n hx hb dX4_hasWrinkles_23 rfl (lv_at hl 1 rfl) ?_
          refine va_get (D := (dC, dI)) (ci := 0) (v := .ref (a_p1 1)) (C := RX1) (T := TX1) (N := 3) hx hb hts iwX1 hown hK hP 0 rfl rfl 0 (by decide) lk2 (fun _ h9 => h9) rfl dX4_hasWrinkles_24 ?_
          refine lv_iload hx hb dX4_hasWrinkles_27 (lv_at hl 3 rfl) ?_
          obtain ⟨hi21, h⟩ := bb_ix_o h
          refine va_iald hx hb hK hP 2 0 rfl rfl hi21 dX4_hasWrinkles_29 ?_
          refine lv_aload_n hx hb dX4_hasWrinkles_30 rfl (lv_at hl 0 rfl) ?_
          refine va_get (D := (dC, dI)) (ci := 3) (v := .int v_t_wrinkles_3) (C := RX4) (T := TX4) (N := 5) hx hb hts iwX4 hown hK hP 1 rfl rfl 4 (by decide) lk3 (fun _ h9 => h9) rfl dX4_hasWrinkles_31 ?_
          refine lv_icmp_eq (tgt := 39) hx hb dX4_hasWrinkles_34 (by decide) (fun c22 => ?_) (fun c22 => ?_)
          · replace h := bb_ifp c22 h
            exact toW _ _ _ (Jk16 () _ _ _ h hP hD hS (lv_sub hl [0, 1, 2, 3] rfl))
          · replace h := bb_ifn c22 h
            refine lv_iconst (v := (0 : Int32)) hx hb dX4_hasWrinkles_37 (by decide) ?_
            obtain ⟨rfl, rfl, rfl⟩ := bb_some3 h
            have hP9 := hP.sub (ws' := [((a_p1 0), oX1 a_p1 v_p1_bits v_p1_length), ((a_t 0), oX4 a_t a_t_world v_t_kind v_t_at_2 v_t_wish v_t_wrinkles_3), ((a_p1 1), .inl (cy 0, 40, .inl f_p1_numbers)), ((a_t_world 0), oX6 a_t_world v_t_world_sight v_t_world_bathers v_t_world_minute v_t_world_seenEver v_t_world_z), ((a_t_world 2), .inl (cy 0, 48, .inl f_t_world_current))]) [0, 1, 2, 3, 4] rfl
            have hD9 := hD.sub (ws' := [((a_p1 0), oX1 a_p1 v_p1_bits v_p1_length), ((a_t 0), oX4 a_t a_t_world v_t_kind v_t_at_2 v_t_wish v_t_wrinkles_3), ((a_p1 1), .inl (cy 0, 40, .inl f_p1_numbers)), ((a_t_world 0), oX6 a_t_world v_t_world_sight v_t_world_bathers v_t_world_minute v_t_world_seenEver v_t_world_z), ((a_t_world 2), .inl (cy 0, 48, .inl f_t_world_current))]) [0, 1, 2, 3, 4] (by decide) rfl
            exact W.zret hx hb hr (by decide) (fun t ht hW => ⟨⟨_, (), rfl, ⟨rfl, (by decide)⟩, by rw [ht]; exact hP9, va_K.moved hW.alike hK, hD9⟩, hS.F ht⟩) hS.2.2 dX4_hasWrinkles_38
  exact toW _ _ _ (L11 nn (0 : Int32) v_t_at v_t_wrinkles _ _ _ h hP hD hS (lv_sub hl [1, 2, 3, 0] rfl))
/-! X4_taxedColumn -/
def uX4_taxedColumn (v_t_at : Int32) : Option (Int32) :=
  bb_b1 (uX4_isIn v_t_at) (fun (r1 : Int32) => (if r1 = 0 then bb_b1 (uX0_columnOfSide (v_t_at - (100 : Int32))) (fun (r6 : Int32) => some r6) else bb_b1 (uX0_columnOf v_t_at) (fun (r9 : Int32) => some r9)))
theorem kdX4_taxedColumn : yX4_taxedColumn.cls = RX4 ∧ yX4_taxedColumn.cls ≠ "java/lang/invoke/MethodHandle" ∧ yX4_taxedColumn.cls ≠ "java/lang/invoke/VarHandle" ∧ (parseMethodDescriptor yX4_taxedColumn.desc).map (fun d => d.parameters.length) = some 0 := by decide +kernel
set_option maxHeartbeats 4000000 in
set_option maxRecDepth 100000 in
theorem kX4_taxedColumn (l : Launch) (dC : Nat → ClassId) (dI : Nat → Nat → Nat) (cy : Nat → ClassId) (a_t : Nat → Nat) (a_t_world : Nat → Nat) (v_t_kind : Int32) (v_t_at : Int32) (v_t_wish : Int32) (v_t_wrinkles : Int32) (r : Int32) (h : uX4_taxedColumn v_t_at = some r) : Met l yX4_taxedColumn wsX4_taxedColumn ({ frames := 2, cells := 0, slots := 0, locals := 40 }) (va_Pc [.ref (a_t 0)] (fun U => va_P (dC, dI) vwCl [((a_t 0), oX4 a_t a_t_world v_t_kind v_t_at v_t_wish v_t_wrinkles)] U.heap ∧ va_K (dC, dI) vwCl (tyX cy) U)) (vp_Si (fun r2 => r = r2)) 0 0 (fun _ => False) := by
  refine Met.ofW (cc := cX4_taxedColumn) (maxL := 1) (ret := (some .int)) (by decide) rfl ?_
  intro p e s m args below meth c s₁ B hml hv
  obtain ⟨rfl, hP, hK⟩ := hv
  have hx := B.exec
  have hb := B.bytes
  have hr := B.returns
  have hts := atoms_spec (ws := wsX4_taxedColumn) B.pre
  have hown : s.vm.findClass RX4 = some m.cls := findClass_of_methodNamed B.named
  have hlocks := B.notSynchronized
  have iwX4 : ∀ w ∈ wsX40, w ∈ wsX4_taxedColumn := fun w h9 => List.mem_cons_of_mem _ (List.mem_append_right _ (h9))
  have lk1 := hts (Cond.fieldLink RX4 30 "BathBorder$Walker" "at" "I") (List.mem_of_getElem? (i := 1) rfl)
  have hl := lv_entry ([.ref (a_t 0)]) (n := 1) (Nat.le_of_ble_eq_true rfl)
  rw [lg_entry_eq]
  generalize (lg_sl ([.ref (a_t 0)]) ++ List.replicate (1 - (lg_sl ([.ref (a_t 0)])).length) Slot.unset).toArray = ls at hl ⊢
  have hl : lv_has ls 1 [(0, .ref (a_t 0))] := hl
  unfold uX4_taxedColumn at h
  refine bb_cap (fun WW toW ofW => ?_)
  refine lv_aload_n hx hb dX4_taxedColumn_0 rfl (lv_at hl 0 rfl) ?_
  obtain ⟨r1, hc2, h⟩ := bb_b1_o h
  refine vp_callSi (W.runV (As := []) (rest := []) ⟨hx, hb, hml, hown, hts⟩ (kX4_isIn l dC dI cy a_t a_t_world v_t_kind v_t_at v_t_wish v_t_wrinkles r1 hc2) (cwV 0 hts gX4_taxedColumn_X4_isIn rfl rfl rfl kdX4_isIn ⟨Nat.le_of_ble_eq_true rfl, Nat.le_of_ble_eq_true rfl⟩) (bb_preV (va_recv hK hP (ci := 3) (q0 := 0) rfl rfl) hP hK) rfl rfl hl.1 rfl (lv_room (Nat.le_of_ble_eq_true rfl)) dX4_taxedColumn_1 ⟨Nat.zero_le _, Nat.zero_le _⟩) (fun t3 et3 => ?_)
  obtain ⟨rfl, hz4⟩ := et3
  refine lv_if_eq (tgt := 17) hx hb dX4_taxedColumn_4 (by decide) (fun c5 => ?_) (fun c5 => ?_)
  · replace h := bb_ifp c5 h
    refine lv_aload_n hx hb dX4_taxedColumn_17 rfl (lv_at hl 0 rfl) ?_
    refine va_get (D := (dC, dI)) (ci := 3) (v := .int v_t_at) (C := RX4) (T := TX4) (N := 5) hx hb hts iwX4 hown hK hP 0 rfl rfl 2 (by decide) lk1 (fun _ h9 => h9) rfl dX4_taxedColumn_18 ?_
    refine lv_bipush (v := (100 : Int32)) hx hb dX4_taxedColumn_21 (by decide) ?_
    refine lv_isub hx hb dX4_taxedColumn_23 ?_
    obtain ⟨r6, hc7, h⟩ := bb_b1_o h
    refine vp_callSi (W.runS (As := [.int (v_t_at - (100 : Int32))]) (rest := []) ⟨hx, hb, hml, hown, hts⟩ (kX0_columnOfSide l dC dI cy (v_t_at - (100 : Int32)) r6 hc7) (va_cwS 1 hts gX4_taxedColumn_X0_columnOfSide rfl rfl rfl kdX0_columnOfSide ⟨Nat.le_of_ble_eq_true rfl, Nat.le_of_ble_eq_true rfl⟩) (bb_preS (hP.sub (ws' := []) [] rfl) hK) rfl rfl hl.1 rfl (lv_room (Nat.le_of_ble_eq_true rfl)) dX4_taxedColumn_24 ⟨Nat.zero_le _, Nat.zero_le _⟩) (fun t8 et8 => ?_)
    obtain rfl := et8
    obtain rfl := bb_some1 h
    exact W.iret hx hb hr (fun t ht hW => ⟨_, rfl, rfl, ht⟩) (fun q hq => by cases hq) dX4_taxedColumn_27
  · replace h := bb_ifn c5 h
    refine lv_aload_n hx hb dX4_taxedColumn_7 rfl (lv_at hl 0 rfl) ?_
    refine va_get (D := (dC, dI)) (ci := 3) (v := .int v_t_at) (C := RX4) (T := TX4) (N := 5) hx hb hts iwX4 hown hK hP 0 rfl rfl 2 (by decide) lk1 (fun _ h9 => h9) rfl dX4_taxedColumn_8 ?_
    obtain ⟨r9, hc10, h⟩ := bb_b1_o h
    refine vp_callSi (W.runS (As := [.int v_t_at]) (rest := []) ⟨hx, hb, hml, hown, hts⟩ (kX0_columnOf l dC dI cy v_t_at r9 hc10) (va_cwS 1 hts gX4_taxedColumn_X0_columnOf rfl rfl rfl kdX0_columnOf ⟨Nat.le_of_ble_eq_true rfl, Nat.le_of_ble_eq_true rfl⟩) (bb_preS (hP.sub (ws' := []) [] rfl) hK) rfl rfl hl.1 rfl (lv_room (Nat.le_of_ble_eq_true rfl)) dX4_taxedColumn_11 ⟨Nat.zero_le _, Nat.zero_le _⟩) (fun t11 et11 => ?_)
    obtain rfl := et11
    refine lv_goto (tgt := 27) hx hb dX4_taxedColumn_14 (by decide) ?_
    obtain rfl := bb_some1 h
    exact W.iret hx hb hr (fun t ht hW => ⟨_, rfl, rfl, ht⟩) (fun q hq => by cases hq) dX4_taxedColumn_27
/-! X5_fewestSteps -/
def uX5_fewestSteps_s15 (x0_7 : Int32) (x2_8 : Int64) (rec9 : Int64 → Int64 → Int32 → Option (Int32)) (x4_4 : Int64) (x6_5 : Int64) (x8_6 : Int32) : Option (Int32) :=
  (if (48 : Int32) ≤ x8_6 then some (-1 : Int32) else bb_b1 (uX0_has x4_4 x0_7) (fun (r13 : Int32) => (if r13 = 0 then bb_b1 (uX0_allBeside x4_4) (fun (r18 : Int64) => rec9 ((r18 &&& x2_8) &&& (x6_5 ^^^ (-1 : Int64))) (x6_5 ||| ((r18 &&& x2_8) &&& (x6_5 ^^^ (-1 : Int64)))) (x8_6 + (1 : Int32))) else some x8_6)))
def uX5_fewestSteps (nn : Nat) (p1 : Int32) (p2 : Int32) (p3 : Int64) : Option (Int32) :=
  bb_b1 (uX0_cellsOfSide p2) (fun (r1 : Int64) => bb_loop3 (uX5_fewestSteps_s15 p1 p3) nn (r1 &&& p3) (r1 &&& p3) (0 : Int32))
theorem kdX5_fewestSteps : yX5_fewestSteps.cls ≠ "java/lang/invoke/MethodHandle" ∧ yX5_fewestSteps.cls ≠ "java/lang/invoke/VarHandle" ∧ (parseMethodDescriptor yX5_fewestSteps.desc).map (fun d => d.parameters.length) = some 3 := by decide +kernel
set_option maxHeartbeats 4000000 in
set_option maxRecDepth 100000 in
theorem kX5_fewestSteps (l : Launch) (dC : Nat → ClassId) (dI : Nat → Nat → Nat) (cy : Nat → ClassId) (p1 : Int32) (p2 : Int32) (p3 : Int64) (nn : Nat) (r : Int32) (h : uX5_fewestSteps nn p1 p2 p3 = some r) : Met l yX5_fewestSteps wsX5_fewestSteps ({ frames := 1, cells := 0, slots := 0, locals := 23 }) (va_Pc [.int p1, .int p2, .long p3] (fun U => va_P (dC, dI) vwCl [] U.heap ∧ va_K (dC, dI) vwCl (tyX cy) U)) (vp_Si (fun r2 => r = r2)) 0 0 (fun _ => False) := by
  refine Met.ofW (cc := cX5_fewestSteps) (maxL := 9) (ret := (some .int)) (by decide) rfl ?_
  intro p e s m args below meth c s₁ B hml hv
  obtain ⟨rfl, hP, hK⟩ := hv
  have hx := B.exec
  have hb := B.bytes
  have hr := B.returns
  have hts := atoms_spec (ws := wsX5_fewestSteps) B.pre
  have hown : s.vm.findClass RX5 = some m.cls := findClass_of_methodNamed B.named
  have hlocks := B.notSynchronized
  have lk1 := hts (Cond.constantLong RX5 31 (-1)) (List.mem_of_getElem? (i := 1) rfl)
  have hl := lv_entry ([.int p1, .int p2, .long p3]) (n := 9) (Nat.le_of_ble_eq_true rfl)
  rw [lg_entry_eq]
  generalize (lg_sl ([.int p1, .int p2, .long p3]) ++ List.replicate (9 - (lg_sl ([.int p1, .int p2, .long p3])).length) Slot.unset).toArray = ls at hl ⊢
  have hl : lv_has ls 9 [(0, .int p1), (1, .int p2), (2, .long p3)] := hl
  unfold uX5_fewestSteps at h
  refine bb_cap (fun WW toW ofW => ?_)
  refine lv_iload_n hx hb dX5_fewestSteps_0 rfl (lv_at hl 1 rfl) ?_
  obtain ⟨r1, hc2, h⟩ := bb_b1_o h
  refine vp_callSl (W.runS (As := [.int p2]) (rest := []) ⟨hx, hb, hml, hown, hts⟩ (kX0_cellsOfSide l dC dI cy p2 r1 hc2) (va_cwS 1 hts gX5_fewestSteps_X0_cellsOfSide rfl rfl rfl kdX0_cellsOfSide ⟨Nat.le_of_ble_eq_true rfl, Nat.le_of_ble_eq_true rfl⟩) (bb_preS hP hK) rfl rfl hl.1 rfl (lv_room (Nat.le_of_ble_eq_true rfl)) dX5_fewestSteps_1 ⟨Nat.zero_le _, Nat.zero_le _⟩) (fun t3 et3 => ?_)
  obtain rfl := et3
  refine lv_lload_n hx hb dX5_fewestSteps_4 rfl (lv_at hl 2 rfl) ?_
  refine lv_land hx hb dX5_fewestSteps_5 ?_
  refine lv_lstore (lv' := [(4, .long (r1 &&& p3)), (0, .int p1), (1, .int p2), (2, .long p3)]) hx hb dX5_fewestSteps_6 hl (by decide) rfl (fun ls hl => ?_)
  refine lv_lload hx hb dX5_fewestSteps_8 (lv_at hl 0 rfl) ?_
  refine lv_lstore (lv' := [(6, .long (r1 &&& p3)), (4, .long (r1 &&& p3)), (0, .int p1), (1, .int p2), (2, .long p3)]) hx hb dX5_fewestSteps_10 hl (by decide) rfl (fun ls hl => ?_)
  refine lv_iconst (v := (0 : Int32)) hx hb dX5_fewestSteps_12 (by decide) ?_
  refine lv_istore (lv' := [(8, .int (0 : Int32)), (6, .long (r1 &&& p3)), (4, .long (r1 &&& p3)), (0, .int p1), (1, .int p2), (2, .long p3)]) hx hb dX5_fewestSteps_13 hl (by decide) rfl (fun ls hl => ?_)
  have L10 : ∀ (n : Nat) (x4_4 : Int64) (x6_5 : Int64) (x8_6 : Int32) (ls : Array Slot), bb_loop3 (uX5_fewestSteps_s15 p1 p3) n x4_4 x6_5 x8_6 = some r → lv_has ls 9 [(0, .int p1), (2, .long p3), (4, .long x4_4), (6, .long x6_5), (8, .int x8_6)] → WW s.heap [] (F0 m 15 ls []) := by
    intro n
    induction n with
    | zero => intro x4_4 x6_5 x8_6 ls h; exact (bb_no h).elim
    | succ n ih11 =>
      intro x4_4 x6_5 x8_6 ls h hl
      refine ofW _ _ _ ?_
      obtain ⟨rec9, erec9, h⟩ := bb_loop3_o h
      unfold uX5_fewestSteps_s15 at h
      refine lv_iload hx hb dX5_fewestSteps_15 (lv_at hl 4 rfl) ?_
      refine lv_bipush (v := (48 : Int32)) hx hb dX5_fewestSteps_17 (by decide) ?_
      refine lv_icmp_ge (tgt := 63) hx hb dX5_fewestSteps_19 (by decide) (fun c12 => ?_) (fun c12 => ?_)
      · replace h := bb_ifp c12 h
        refine lv_iconst (v := (-1 : Int32)) hx hb dX5_fewestSteps_63 (by decide) ?_
        obtain rfl := bb_some1 h
        exact W.iret hx hb hr (fun t ht hW => ⟨_, rfl, rfl, ht⟩) (fun q hq => by cases hq) dX5_fewestSteps_64
      · replace h := bb_ifn c12 h
        refine lv_lload hx hb dX5_fewestSteps_22 (lv_at hl 2 rfl) ?_
        refine lv_iload_n hx hb dX5_fewestSteps_24 rfl (lv_at hl 0 rfl) ?_
        obtain ⟨r13, hc14, h⟩ := bb_b1_o h
        refine vp_callSi (W.runS (As := [.long x4_4, .int p1]) (rest := []) ⟨hx, hb, hml, hown, hts⟩ (kX0_has l dC dI cy x4_4 p1 r13 hc14) (va_cwS 2 hts gX5_fewestSteps_X0_has rfl rfl rfl kdX0_has ⟨Nat.le_of_ble_eq_true rfl, Nat.le_of_ble_eq_true rfl⟩) (bb_preS hP hK) rfl rfl hl.1 rfl (lv_room (Nat.le_of_ble_eq_true rfl)) dX5_fewestSteps_25 ⟨Nat.zero_le _, Nat.zero_le _⟩) (fun t15 et15 => ?_)
        obtain ⟨rfl, hz16⟩ := et15
        refine lv_if_eq (tgt := 34) hx hb dX5_fewestSteps_28 (by decide) (fun c17 => ?_) (fun c17 => ?_)
        · replace h := bb_ifp c17 h
          refine lv_lload hx hb dX5_fewestSteps_34 (lv_at hl 2 rfl) ?_
          obtain ⟨r18, hc19, h⟩ := bb_b1_o h
          refine vp_callSl (W.runS (As := [.long x4_4]) (rest := []) ⟨hx, hb, hml, hown, hts⟩ (kX0_allBeside l dC dI cy x4_4 r18 hc19) (va_cwS 1 hts gX5_fewestSteps_X0_allBeside rfl rfl rfl kdX0_allBeside ⟨Nat.le_of_ble_eq_true rfl, Nat.le_of_ble_eq_true rfl⟩) (bb_preS hP hK) rfl rfl hl.1 rfl (lv_room (Nat.le_of_ble_eq_true rfl)) dX5_fewestSteps_36 ⟨Nat.zero_le _, Nat.zero_le _⟩) (fun t20 et20 => ?_)
          obtain rfl := et20
          refine lv_lload_n hx hb dX5_fewestSteps_39 rfl (lv_at hl 1 rfl) ?_
          refine lv_land hx hb dX5_fewestSteps_40 ?_
          refine lv_lload hx hb dX5_fewestSteps_41 (lv_at hl 3 rfl) ?_
          refine lv_ldc2 (v := (-1 : Int64)) hx hb hown lk1 dX5_fewestSteps_43 ?_
          refine lv_lxor hx hb dX5_fewestSteps_46 ?_
          refine lv_land hx hb dX5_fewestSteps_47 ?_
          refine lv_lstore (lv' := [(4, .long ((r18 &&& p3) &&& (x6_5 ^^^ (-1 : Int64)))), (0, .int p1), (2, .long p3), (6, .long x6_5), (8, .int x8_6)]) hx hb dX5_fewestSteps_48 hl (by decide) rfl (fun ls hl => ?_)
          refine lv_lload hx hb dX5_fewestSteps_50 (lv_at hl 3 rfl) ?_
          refine lv_lload hx hb dX5_fewestSteps_52 (lv_at hl 0 rfl) ?_
          refine lv_lor hx hb dX5_fewestSteps_54 ?_
          refine lv_lstore (lv' := [(6, .long (x6_5 ||| ((r18 &&& p3) &&& (x6_5 ^^^ (-1 : Int64))))), (4, .long ((r18 &&& p3) &&& (x6_5 ^^^ (-1 : Int64)))), (0, .int p1), (2, .long p3), (8, .int x8_6)]) hx hb dX5_fewestSteps_55 hl (by decide) rfl (fun ls hl => ?_)
          refine lv_iinc (v := x8_6 + (1 : Int32)) (lv' := [(8, .int (x8_6 + (1 : Int32))), (6, .long (x6_5 ||| ((r18 &&& p3) &&& (x6_5 ^^^ (-1 : Int64))))), (4, .long ((r18 &&& p3) &&& (x6_5 ^^^ (-1 : Int64)))), (0, .int p1), (2, .long p3)]) hx hb dX5_fewestSteps_57 hl (k := 4) rfl rfl (by decide) rfl (fun ls hl => ?_)
          refine lv_goto (tgt := 15) hx hb dX5_fewestSteps_60 (by decide) ?_
          rw [erec9] at h
          exact toW _ _ _ (ih11 ((r18 &&& p3) &&& (x6_5 ^^^ (-1 : Int64))) (x6_5 ||| ((r18 &&& p3) &&& (x6_5 ^^^ (-1 : Int64)))) (x8_6 + (1 : Int32)) _ h (lv_sub hl [3, 4, 2, 1, 0] rfl))
        · replace h := bb_ifn c17 h
          refine lv_iload hx hb dX5_fewestSteps_31 (lv_at hl 4 rfl) ?_
          obtain rfl := bb_some1 h
          exact W.iret hx hb hr (fun t ht hW => ⟨_, rfl, rfl, ht⟩) (fun q hq => by cases hq) dX5_fewestSteps_33
  exact toW _ _ _ (L10 nn (r1 &&& p3) (r1 &&& p3) (0 : Int32) _ h (lv_sub hl [3, 5, 2, 1, 0] rfl))
/-! X5_firstStep -/
def uX5_firstStep_s27 (nn : Nat) (x0_6 : Int32) (x1_7 : Int32) (x2_8 : Int64) (x4_9 : Int32) (rec10 : Int32 → Option (Int32)) (x5_5 : Int32) : Option (Int32) :=
  (if (48 : Int32) ≤ x5_5 then some (-1 : Int32) else bb_b1 (uX0_apart x0_6 x5_5) (fun (r14 : Int32) => bb_cut (fun (u17 : Unit) => rec10 (x5_5 + (1 : Int32))) (fun k18 => (if r14 = (1 : Int32) then bb_b1 (uX5_fewestSteps nn x5_5 x1_7 x2_8) (fun (r20 : Int32) => (if r20 = (x4_9 - (1 : Int32)) then some x5_5 else k18 ())) else k18 ()))))
def uX5_firstStep (nn : Nat) (p1 : Int32) (p2 : Int32) (p3 : Int64) : Option (Int32) :=
  bb_b1 (uX5_fewestSteps nn p1 p2 p3) (fun (r1 : Int32) => (if 0 < r1 then bb_loop1 (uX5_firstStep_s27 nn p1 p2 p3 r1) nn (0 : Int32) else (if 0 ≤ r1 then some p1 else some (-1 : Int32))))
theorem kdX5_firstStep : yX5_firstStep.cls ≠ "java/lang/invoke/MethodHandle" ∧ yX5_firstStep.cls ≠ "java/lang/invoke/VarHandle" ∧ (parseMethodDescriptor yX5_firstStep.desc).map (fun d => d.parameters.length) = some 3 := by decide +kernel
set_option maxHeartbeats 4000000 in
set_option maxRecDepth 100000 in
theorem kX5_firstStep (l : Launch) (dC : Nat → ClassId) (dI : Nat → Nat → Nat) (cy : Nat → ClassId) (p1 : Int32) (p2 : Int32) (p3 : Int64) (nn : Nat) (r : Int32) (h : uX5_firstStep nn p1 p2 p3 = some r) : Met l yX5_firstStep wsX5_firstStep ({ frames := 2, cells := 0, slots := 0, locals := 51 }) (va_Pc [.int p1, .int p2, .long p3] (fun U => va_P (dC, dI) vwCl [] U.heap ∧ va_K (dC, dI) vwCl (tyX cy) U)) (vp_Si (fun r2 => r = r2)) 0 0 (fun _ => False) := by
  refine Met.ofW (cc := cX5_firstStep) (maxL := 6) (ret := (some .int)) (by decide) rfl ?_
  intro p e s m args below meth c s₁ B hml hv
  obtain ⟨rfl, hP, hK⟩ := hv
  have hx := B.exec
  have hb := B.bytes
  have hr := B.returns
  have hts := atoms_spec (ws := wsX5_firstStep) B.pre
  have hown : s.vm.findClass RX5 = some m.cls := findClass_of_methodNamed B.named
  have hlocks := B.notSynchronized
  have hl := lv_entry ([.int p1, .int p2, .long p3]) (n := 6) (Nat.le_of_ble_eq_true rfl)
  rw [lg_entry_eq]
  generalize (lg_sl ([.int p1, .int p2, .long p3]) ++ List.replicate (6 - (lg_sl ([.int p1, .int p2, .long p3])).length) Slot.unset).toArray = ls at hl ⊢
  have hl : lv_has ls 6 [(0, .int p1), (1, .int p2), (2, .long p3)] := hl
  unfold uX5_firstStep at h
  refine bb_cap (fun WW toW ofW => ?_)
  refine lv_iload_n hx hb dX5_firstStep_0 rfl (lv_at hl 0 rfl) ?_
  refine lv_iload_n hx hb dX5_firstStep_1 rfl (lv_at hl 1 rfl) ?_
  refine lv_lload_n hx hb dX5_firstStep_2 rfl (lv_at hl 2 rfl) ?_
  obtain ⟨r1, hc2, h⟩ := bb_b1_o h
  refine vp_callSi (W.runS (As := [.int p1, .int p2, .long p3]) (rest := []) ⟨hx, hb, hml, hown, hts⟩ (kX5_fewestSteps l dC dI cy p1 p2 p3 nn r1 hc2) (va_cwS 3 hts gX5_firstStep_X5_fewestSteps rfl rfl rfl kdX5_fewestSteps ⟨Nat.le_of_ble_eq_true rfl, Nat.le_of_ble_eq_true rfl⟩) (bb_preS hP hK) rfl rfl hl.1 rfl (lv_room (Nat.le_of_ble_eq_true rfl)) dX5_firstStep_3 ⟨Nat.zero_le _, Nat.zero_le _⟩) (fun t3 et3 => ?_)
  obtain rfl := et3
  refine lv_istore (lv' := [(4, .int r1), (0, .int p1), (1, .int p2), (2, .long p3)]) hx hb dX5_firstStep_6 hl (by decide) rfl (fun ls hl => ?_)
  refine lv_iload hx hb dX5_firstStep_8 (lv_at hl 0 rfl) ?_
  refine lv_if_gt (tgt := 24) hx hb dX5_firstStep_10 (by decide) (fun c4 => ?_) (fun c4 => ?_)
  · replace h := bb_ifp c4 h
    refine lv_iconst (v := (0 : Int32)) hx hb dX5_firstStep_24 (by decide) ?_
    refine lv_istore (lv' := [(5, .int (0 : Int32)), (4, .int r1), (0, .int p1), (1, .int p2), (2, .long p3)]) hx hb dX5_firstStep_25 hl (by decide) rfl (fun ls hl => ?_)
    have L11 : ∀ (n : Nat) (x5_5 : Int32) (ls : Array Slot), bb_loop1 (uX5_firstStep_s27 nn p1 p2 p3 r1) n x5_5 = some r → lv_has ls 6 [(0, .int p1), (1, .int p2), (2, .long p3), (4, .int r1), (5, .int x5_5)] → WW s.heap [] (F0 m 27 ls []) := by
      intro n
      induction n with
      | zero => intro x5_5 ls h; exact (bb_no h).elim
      | succ n ih12 =>
        intro x5_5 ls h hl
        refine ofW _ _ _ ?_
        obtain ⟨rec10, erec10, h⟩ := bb_loop1_o h
        unfold uX5_firstStep_s27 at h
        refine lv_iload hx hb dX5_firstStep_27 (lv_at hl 4 rfl) ?_
        refine lv_bipush (v := (48 : Int32)) hx hb dX5_firstStep_29 (by decide) ?_
        refine lv_icmp_ge (tgt := 67) hx hb dX5_firstStep_31 (by decide) (fun c13 => ?_) (fun c13 => ?_)
        · replace h := bb_ifp c13 h
          refine lv_iconst (v := (-1 : Int32)) hx hb dX5_firstStep_67 (by decide) ?_
          obtain rfl := bb_some1 h
          exact W.iret hx hb hr (fun t ht hW => ⟨_, rfl, rfl, ht⟩) (fun q hq => by cases hq) dX5_firstStep_68
        · replace h := bb_ifn c13 h
          refine lv_iload_n hx hb dX5_firstStep_34 rfl (lv_at hl 0 rfl) ?_
          refine lv_iload hx hb dX5_firstStep_35 (lv_at hl 4 rfl) ?_
          obtain ⟨r14, hc15, h⟩ := bb_b1_o h
          refine vp_callSi (W.runS (As := [.int p1, .int x5_5]) (rest := []) ⟨hx, hb, hml, hown, hts⟩ (kX0_apart l dC dI cy p1 x5_5 r14 hc15) (va_cwS 2 hts gX5_firstStep_X0_apart rfl rfl rfl kdX0_apart ⟨Nat.le_of_ble_eq_true rfl, Nat.le_of_ble_eq_true rfl⟩) (bb_preS hP hK) rfl rfl hl.1 rfl (lv_room (Nat.le_of_ble_eq_true rfl)) dX5_firstStep_37 ⟨Nat.zero_le _, Nat.zero_le _⟩) (fun t16 et16 => ?_)
          obtain rfl := et16
          refine lv_iconst (v := (1 : Int32)) hx hb dX5_firstStep_40 (by decide) ?_
          obtain ⟨k18, ek18, h⟩ := bb_cut_o h
          have Jk18 : ∀ (u17 : Unit) (ls : Array Slot), k18 u17 = some r → lv_has ls 6 [(0, .int p1), (1, .int p2), (2, .long p3), (4, .int r1), (5, .int x5_5)] → WW s.heap [] (F0 m 61 ls []) := by
            intro u17 ls h hl
            refine ofW _ _ _ ?_
            subst ek18
            refine lv_iinc (v := x5_5 + (1 : Int32)) (lv' := [(5, .int (x5_5 + (1 : Int32))), (0, .int p1), (1, .int p2), (2, .long p3), (4, .int r1)]) hx hb dX5_firstStep_61 hl (k := 4) rfl rfl (by decide) rfl (fun ls hl => ?_)
            refine lv_goto (tgt := 27) hx hb dX5_firstStep_64 (by decide) ?_
            rw [erec10] at h
            exact toW _ _ _ (ih12 (x5_5 + (1 : Int32)) _ h (lv_sub hl [1, 2, 3, 4, 0] rfl))
          refine lv_icmp_ne (tgt := 61) hx hb dX5_firstStep_41 (by decide) (fun c19 => ?_) (fun c19 => ?_)
          · replace h := bb_ifn c19 h
            exact toW _ _ _ (Jk18 () _ h (lv_sub hl [0, 1, 2, 3, 4] rfl))
          · replace h := bb_ifp c19 h
            refine lv_iload hx hb dX5_firstStep_44 (lv_at hl 4 rfl) ?_
            refine lv_iload_n hx hb dX5_firstStep_46 rfl (lv_at hl 1 rfl) ?_
            refine lv_lload_n hx hb dX5_firstStep_47 rfl (lv_at hl 2 rfl) ?_
            obtain ⟨r20, hc21, h⟩ := bb_b1_o h
            refine vp_callSi (W.runS (As := [.int x5_5, .int p2, .long p3]) (rest := []) ⟨hx, hb, hml, hown, hts⟩ (kX5_fewestSteps l dC dI cy x5_5 p2 p3 nn r20 hc21) (va_cwS 3 hts gX5_firstStep_X5_fewestSteps rfl rfl rfl kdX5_fewestSteps ⟨Nat.le_of_ble_eq_true rfl, Nat.le_of_ble_eq_true rfl⟩) (bb_preS hP hK) rfl rfl hl.1 rfl (lv_room (Nat.le_of_ble_eq_true rfl)) dX5_firstStep_48 ⟨Nat.zero_le _, Nat.zero_le _⟩) (fun t22 et22 => ?_)
            obtain rfl := et22
            refine lv_iload hx hb dX5_firstStep_51 (lv_at hl 3 rfl) ?_
            refine lv_iconst (v := (1 : Int32)) hx hb dX5_firstStep_53 (by decide) ?_
            refine lv_isub hx hb dX5_firstStep_54 ?_
            refine lv_icmp_ne (tgt := 61) hx hb dX5_firstStep_55 (by decide) (fun c23 => ?_) (fun c23 => ?_)
            · replace h := bb_ifn c23 h
              exact toW _ _ _ (Jk18 () _ h (lv_sub hl [0, 1, 2, 3, 4] rfl))
            · replace h := bb_ifp c23 h
              refine lv_iload hx hb dX5_firstStep_58 (lv_at hl 4 rfl) ?_
              obtain rfl := bb_some1 h
              exact W.iret hx hb hr (fun t ht hW => ⟨_, rfl, rfl, ht⟩) (fun q hq => by cases hq) dX5_firstStep_60
    exact toW _ _ _ (L11 nn (0 : Int32) _ h (lv_sub hl [2, 3, 4, 1, 0] rfl))
  · replace h := bb_ifn c4 h
    refine lv_iload hx hb dX5_firstStep_13 (lv_at hl 0 rfl) ?_
    refine lv_if_ge (tgt := 22) hx hb dX5_firstStep_15 (by decide) (fun c24 => ?_) (fun c24 => ?_)
    · replace h := bb_ifp c24 h
      refine lv_iload_n hx hb dX5_firstStep_22 rfl (lv_at hl 1 rfl) ?_
      obtain rfl := bb_some1 h
      exact W.iret hx hb hr (fun t ht hW => ⟨_, rfl, rfl, ht⟩) (fun q hq => by cases hq) dX5_firstStep_23
    · replace h := bb_ifn c24 h
      refine lv_iconst (v := (-1 : Int32)) hx hb dX5_firstStep_18 (by decide) ?_
      refine lv_goto (tgt := 23) hx hb dX5_firstStep_19 (by decide) ?_
      obtain rfl := bb_some1 h
      exact W.iret hx hb hr (fun t ht hW => ⟨_, rfl, rfl, ht⟩) (fun q hq => by cases hq) dX5_firstStep_23
/-! X6_steamToHide -/
def uX6_steamToHide_s9 (x1_8 : Int32) (v_t_sight_9 : Int32) (f_t_guardAt_10 : Nat → Int32) (k_51 : Int32 → Option (Int32)) (rec12 : Int32 → Int32 → Option (Int32)) (x2_6 : Int32) (x3_7 : Int32) : Option (Int32) :=
  (if (4 : Int32) ≤ x3_7 then k_51 x2_6 else bb_ix x3_7 4 (bb_cut (fun (x2_17 : Int32) => rec12 x2_17 (x3_7 + (1 : Int32))) (fun k18 => (if (f_t_guardAt_10 x3_7.toNatClampNeg) < 0 then k18 x2_6 else bb_b1 (uX0_apart (f_t_guardAt_10 x3_7.toNatClampNeg) x1_8) (fun (r20 : Int32) => bb_lt (if x2_6 < ((v_t_sight_9 - r20) + (1 : Int32)) then ((v_t_sight_9 - r20) + (1 : Int32)) else x2_6) (fun (y23 : Int32) => k18 y23))))))
def uX6_steamToHide (nn : Nat) (p1 : Int32) (v_t_sight : Int32) (f_t_guardAt : Nat → Int32) (f_t_steam : Nat → Int32) : Option (Int32) :=
  bb_ix p1 48 (bb_cut (fun (x2_2 : Int32) => (if x2_2 ≤ (9 : Int32) then bb_ix p1 48 (some (x2_2 - (f_t_steam p1.toNatClampNeg))) else some (-1 : Int32))) (fun k3 => bb_loop2 (uX6_steamToHide_s9 p1 v_t_sight f_t_guardAt k3) nn (f_t_steam p1.toNatClampNeg) (0 : Int32)))
theorem kdX6_steamToHide : yX6_steamToHide.cls = RX6 ∧ yX6_steamToHide.cls ≠ "java/lang/invoke/MethodHandle" ∧ yX6_steamToHide.cls ≠ "java/lang/invoke/VarHandle" ∧ (parseMethodDescriptor yX6_steamToHide.desc).map (fun d => d.parameters.length) = some 1 := by decide +kernel
set_option maxHeartbeats 4000000 in
set_option maxRecDepth 100000 in
theorem kX6_steamToHide (l : Launch) (dC : Nat → ClassId) (dI : Nat → Nat → Nat) (cy : Nat → ClassId) (a_t : Nat → Nat) (p1 : Int32) (v_t_sight : Int32) (v_t_bathers : Int32) (v_t_minute : Int32) (v_t_seenEver : Int32) (v_t_z : Int32) (f_t_guardAt : Nat → Int32) (f_t_steam : Nat → Int32) (nn : Nat) (r : Int32) (h : uX6_steamToHide nn p1 v_t_sight f_t_guardAt f_t_steam = some r) : Met l yX6_steamToHide wsX6_steamToHide ({ frames := 2, cells := 0, slots := 0, locals := 42 }) (va_Pc [.ref (a_t 0), .int p1] (fun U => va_P (dC, dI) vwCl [((a_t 0), oX6 a_t v_t_sight v_t_bathers v_t_minute v_t_seenEver v_t_z), ((a_t 3), .inl (cy 0, 4, .inl f_t_guardAt)), ((a_t 1), .inl (cy 0, 48, .inl f_t_steam))] U.heap ∧ va_K (dC, dI) vwCl (tyX cy) U)) (vp_Si (fun r2 => r = r2)) 0 0 (fun _ => False) := by
  refine Met.ofW (cc := cX6_steamToHide) (maxL := 5) (ret := (some .int)) (by decide) rfl ?_
  intro p e s m args below meth c s₁ B hml hv
  obtain ⟨rfl, hP, hK⟩ := hv
  have hx := B.exec
  have hb := B.bytes
  have hr := B.returns
  have hts := atoms_spec (ws := wsX6_steamToHide) B.pre
  have hown : s.vm.findClass RX6 = some m.cls := findClass_of_methodNamed B.named
  have hlocks := B.notSynchronized
  have iwX6 : ∀ w ∈ wsX60, w ∈ wsX6_steamToHide := fun w h9 => List.mem_cons_of_mem _ (List.mem_append_right _ (h9))
  have lk1 := hts (Cond.fieldLink RX6 11 "BathBorder$World" "steam" "[I") (List.mem_of_getElem? (i := 1) rfl)
  have lk2 := hts (Cond.fieldLink RX6 20 "BathBorder$World" "guardAt" "[I") (List.mem_of_getElem? (i := 2) rfl)
  have lk3 := hts (Cond.fieldLink RX6 41 "BathBorder$World" "sight" "I") (List.mem_of_getElem? (i := 3) rfl)
  have lk4 := hts (Cond.methodLink RX6 78 Lib.Math.max.name) (List.mem_of_getElem? (i := 4) rfl)
  have lk5 := hts (Cond.static Lib.Math.max.name) (List.mem_of_getElem? (i := 5) rfl)
  have lk6 := hts (Cond.initialized "java/lang/Math") (List.mem_of_getElem? (i := 6) rfl)
  have lk7 := hts (Cond.code Lib.Math.max.name Lib.Math.max.code 2 (some .int)) (List.mem_of_getElem? (i := 7) rfl)
  have hl := lv_entry ([.ref (a_t 0), .int p1]) (n := 5) (Nat.le_of_ble_eq_true rfl)
  rw [lg_entry_eq]
  generalize (lg_sl ([.ref (a_t 0), .int p1]) ++ List.replicate (5 - (lg_sl ([.ref (a_t 0), .int p1])).length) Slot.unset).toArray = ls at hl ⊢
  have hl : lv_has ls 5 [(0, .ref (a_t 0)), (1, .int p1)] := hl
  unfold uX6_steamToHide at h
  refine bb_cap (fun WW toW ofW => ?_)
  refine lv_aload_n hx hb dX6_steamToHide_0 rfl (lv_at hl 0 rfl) ?_
  refine va_get (D := (dC, dI)) (ci := 5) (v := .ref (a_t 1)) (C := RX6) (T := TX6) (N := 14) hx hb hts iwX6 hown hK hP 0 rfl rfl 0 (by decide) lk1 (fun _ h9 => h9) rfl dX6_steamToHide_1 ?_
  refine lv_iload_n hx hb dX6_steamToHide_4 rfl (lv_at hl 1 rfl) ?_
  obtain ⟨hi1, h⟩ := bb_ix_o h
  refine va_iald hx hb hK hP 2 0 rfl rfl hi1 dX6_steamToHide_5 ?_
  refine lv_istore_n (lv' := [(2, .int (f_t_steam p1.toNatClampNeg)), (0, .ref (a_t 0)), (1, .int p1)]) hx hb dX6_steamToHide_6 rfl hl (by decide) rfl (fun ls hl => ?_)
  refine lv_iconst (v := (0 : Int32)) hx hb dX6_steamToHide_7 (by decide) ?_
  refine lv_istore_n (lv' := [(3, .int (0 : Int32)), (2, .int (f_t_steam p1.toNatClampNeg)), (0, .ref (a_t 0)), (1, .int p1)]) hx hb dX6_steamToHide_8 rfl hl (by decide) rfl (fun ls hl => ?_)
  obtain ⟨k3, ek3, h⟩ := bb_cut_o h
  have Jk3 : ∀ (x2_2 : Int32) (ls : Array Slot), k3 x2_2 = some r → lv_has ls 5 [(0, .ref (a_t 0)), (1, .int p1), (2, .int x2_2)] → WW s.heap [] (F0 m 51 ls []) := by
    intro x2_2 ls h hl
    refine ofW _ _ _ ?_
    subst ek3
    refine lv_iload_n hx hb dX6_steamToHide_51 rfl (lv_at hl 2 rfl) ?_
    refine lv_bipush (v := (9 : Int32)) hx hb dX6_steamToHide_52 (by decide) ?_
    refine lv_icmp_le (tgt := 61) hx hb dX6_steamToHide_54 (by decide) (fun c4 => ?_) (fun c4 => ?_)
    · replace h := bb_ifp c4 h
      refine lv_iload_n hx hb dX6_steamToHide_61 rfl (lv_at hl 2 rfl) ?_
      refine lv_aload_n hx hb dX6_steamToHide_62 rfl (lv_at hl 0 rfl) ?_
      refine va_get (D := (dC, dI)) (ci := 5) (v := .ref (a_t 1)) (C := RX6) (T := TX6) (N := 14) hx hb hts iwX6 hown hK hP 0 rfl rfl 0 (by decide) lk1 (fun _ h9 => h9) rfl dX6_steamToHide_63 ?_
      refine lv_iload_n hx hb dX6_steamToHide_66 rfl (lv_at hl 1 rfl) ?_
      obtain ⟨hi5, h⟩ := bb_ix_o h
      refine va_iald hx hb hK hP 2 0 rfl rfl hi5 dX6_steamToHide_67 ?_
      refine lv_isub hx hb dX6_steamToHide_68 ?_
      obtain rfl := bb_some1 h
      exact W.iret hx hb hr (fun t ht hW => ⟨_, rfl, rfl, ht⟩) (fun q hq => by cases hq) dX6_steamToHide_69
    · replace h := bb_ifn c4 h
      refine lv_iconst (v := (-1 : Int32)) hx hb dX6_steamToHide_57 (by decide) ?_
      refine lv_goto (tgt := 69) hx hb dX6_steamToHide_58 (by decide) ?_
      obtain rfl := bb_some1 h
      exact W.iret hx hb hr (fun t ht hW => ⟨_, rfl, rfl, ht⟩) (fun q hq => by cases hq) dX6_steamToHide_69
  have L13 : ∀ (n : Nat) (x2_6 : Int32) (x3_7 : Int32) (ls : Array Slot), bb_loop2 (uX6_steamToHide_s9 p1 v_t_sight f_t_guardAt k3) n x2_6 x3_7 = some r → lv_has ls 5 [(0, .ref (a_t 0)), (1, .int p1), (2, .int x2_6), (3, .int x3_7)] → WW s.heap [] (F0 m 9 ls []) := by
    intro n
    induction n with
    | zero => intro x2_6 x3_7 ls h; exact (bb_no h).elim
    | succ n ih14 =>
      intro x2_6 x3_7 ls h hl
      refine ofW _ _ _ ?_
      obtain ⟨rec12, erec12, h⟩ := bb_loop2_o h
      unfold uX6_steamToHide_s9 at h
      refine lv_iload_n hx hb dX6_steamToHide_9 rfl (lv_at hl 3 rfl) ?_
      refine lv_iconst (v := (4 : Int32)) hx hb dX6_steamToHide_10 (by decide) ?_
      refine lv_icmp_ge (tgt := 51) hx hb dX6_steamToHide_11 (by decide) (fun c15 => ?_) (fun c15 => ?_)
      · replace h := bb_ifp c15 h
        exact toW _ _ _ (Jk3 x2_6 _ h (lv_sub hl [0, 1, 2] rfl))
      · replace h := bb_ifn c15 h
        refine lv_aload_n hx hb dX6_steamToHide_14 rfl (lv_at hl 0 rfl) ?_
        refine va_get (D := (dC, dI)) (ci := 5) (v := .ref (a_t 3)) (C := RX6) (T := TX6) (N := 14) hx hb hts iwX6 hown hK hP 0 rfl rfl 2 (by decide) lk2 (fun _ h9 => h9) rfl dX6_steamToHide_15 ?_
        refine lv_iload_n hx hb dX6_steamToHide_18 rfl (lv_at hl 3 rfl) ?_
        obtain ⟨hi16, h⟩ := bb_ix_o h
        refine va_iald hx hb hK hP 1 0 rfl rfl hi16 dX6_steamToHide_19 ?_
        refine lv_istore (lv' := [(4, .int (f_t_guardAt x3_7.toNatClampNeg)), (0, .ref (a_t 0)), (1, .int p1), (2, .int x2_6), (3, .int x3_7)]) hx hb dX6_steamToHide_20 hl (by decide) rfl (fun ls hl => ?_)
        refine lv_iload hx hb dX6_steamToHide_22 (lv_at hl 0 rfl) ?_
        obtain ⟨k18, ek18, h⟩ := bb_cut_o h
        have Jk18 : ∀ (x2_17 : Int32) (ls : Array Slot), k18 x2_17 = some r → lv_has ls 5 [(0, .ref (a_t 0)), (1, .int p1), (2, .int x2_17), (3, .int x3_7)] → WW s.heap [] (F0 m 45 ls []) := by
          intro x2_17 ls h hl
          refine ofW _ _ _ ?_
          subst ek18
          refine lv_iinc (v := x3_7 + (1 : Int32)) (lv' := [(3, .int (x3_7 + (1 : Int32))), (0, .ref (a_t 0)), (1, .int p1), (2, .int x2_17)]) hx hb dX6_steamToHide_45 hl (k := 3) rfl rfl (by decide) rfl (fun ls hl => ?_)
          refine lv_goto (tgt := 9) hx hb dX6_steamToHide_48 (by decide) ?_
          rw [erec12] at h
          exact toW _ _ _ (ih14 x2_17 (x3_7 + (1 : Int32)) _ h (lv_sub hl [1, 2, 3, 0] rfl))
        refine lv_if_lt (tgt := 45) hx hb dX6_steamToHide_24 (by decide) (fun c19 => ?_) (fun c19 => ?_)
        · replace h := bb_ifp c19 h
          exact toW _ _ _ (Jk18 x2_6 _ h (lv_sub hl [1, 2, 3, 4] rfl))
        · replace h := bb_ifn c19 h
          refine lv_iload_n hx hb dX6_steamToHide_27 rfl (lv_at hl 3 rfl) ?_
          refine lv_aload_n hx hb dX6_steamToHide_28 rfl (lv_at hl 1 rfl) ?_
          refine va_get (D := (dC, dI)) (ci := 5) (v := .int v_t_sight) (C := RX6) (T := TX6) (N := 14) hx hb hts iwX6 hown hK hP 0 rfl rfl 9 (by decide) lk3 (fun _ h9 => h9) rfl dX6_steamToHide_29 ?_
          refine lv_iload hx hb dX6_steamToHide_32 (lv_at hl 0 rfl) ?_
          refine lv_iload_n hx hb dX6_steamToHide_34 rfl (lv_at hl 2 rfl) ?_
          obtain ⟨r20, hc21, h⟩ := bb_b1_o h
          refine vp_callSi (W.runS (As := [.int (f_t_guardAt x3_7.toNatClampNeg), .int p1]) (rest := [.int v_t_sight, .int x2_6]) ⟨hx, hb, hml, hown, hts⟩ (kX0_apart l dC dI cy (f_t_guardAt x3_7.toNatClampNeg) p1 r20 hc21) (va_cwS 2 hts gX6_steamToHide_X0_apart rfl rfl rfl kdX0_apart ⟨Nat.le_of_ble_eq_true rfl, Nat.le_of_ble_eq_true rfl⟩) (bb_preS (hP.sub (ws' := []) [] rfl) hK) rfl rfl hl.1 rfl (lv_room (Nat.le_of_ble_eq_true rfl)) dX6_steamToHide_35 ⟨Nat.zero_le _, Nat.zero_le _⟩) (fun t22 et22 => ?_)
          obtain rfl := et22
          refine lv_isub hx hb dX6_steamToHide_38 ?_
          refine lv_iconst (v := (1 : Int32)) hx hb dX6_steamToHide_39 (by decide) ?_
          refine lv_iadd hx hb dX6_steamToHide_40 ?_
          refine va_mmax hx hb (hml.trans hl.1.symm) hown lk4 lk5 lk6 lk7 (Nat.le_of_ble_eq_true rfl) (Nat.le_of_ble_eq_true rfl) (Nat.zero_le _) (Nat.zero_le _) dX6_steamToHide_41 ?_
          refine lv_topi (fun y23 ey23 => ?_)
          replace h := bb_lt_o ey23 h
          refine lv_istore_n (lv' := [(2, .int y23), (4, .int (f_t_guardAt x3_7.toNatClampNeg)), (0, .ref (a_t 0)), (1, .int p1), (3, .int x3_7)]) hx hb dX6_steamToHide_44 rfl hl (by decide) rfl (fun ls hl => ?_)
          exact toW _ _ _ (Jk18 y23 _ h (lv_sub hl [2, 3, 0, 4] rfl))
  exact toW _ _ _ (L13 nn (f_t_steam p1.toNatClampNeg) (0 : Int32) _ h (lv_sub hl [2, 3, 1, 0] rfl))
/-! X5_offer -/
def uX5_offer (nn : Nat) (p1 : Int32) (p2 : Int32) (f_t_sums : Nat → Int32) (v_t_world_sight : Int32) (f_t_world_guardAt : Nat → Int32) (f_t_world_steam : Nat → Int32) : Option ((Nat → Int32)) :=
  (if 0 ≤ p1 then bb_b1 (uX6_steamToHide nn p1 v_t_world_sight f_t_world_guardAt f_t_world_steam) (fun (r2 : Int32) => (if r2 < 0 then some f_t_sums else bb_ix p1 48 (bb_ix p1 48 (some (upd f_t_sums p1.toNatClampNeg (if (p2 + r2) < (f_t_sums p1.toNatClampNeg) then (p2 + r2) else (f_t_sums p1.toNatClampNeg))))))) else some f_t_sums)
theorem kdX5_offer : yX5_offer.cls = RX5 ∧ yX5_offer.cls ≠ "java/lang/invoke/MethodHandle" ∧ yX5_offer.cls ≠ "java/lang/invoke/VarHandle" ∧ (parseMethodDescriptor yX5_offer.desc).map (fun d => d.parameters.length) = some 2 := by decide +kernel
set_option maxHeartbeats 4000000 in
set_option maxRecDepth 100000 in
theorem kX5_offer (l : Launch) (dC : Nat → ClassId) (dI : Nat → Nat → Nat) (cy : Nat → ClassId) (sz : Nat) (a_t : Nat → Nat) (a_t_world : Nat → Nat) (p1 : Int32) (p2 : Int32) (f_t_sums : Nat → Int32) (v_t_world_sight : Int32) (v_t_world_bathers : Int32) (v_t_world_minute : Int32) (v_t_world_seenEver : Int32) (v_t_world_z : Int32) (f_t_world_guardAt : Nat → Int32) (f_t_world_steam : Nat → Int32) (nn : Nat) (f_t_sums_o : Nat → Int32) (h : uX5_offer nn p1 p2 f_t_sums v_t_world_sight f_t_world_guardAt f_t_world_steam = some f_t_sums_o) : Met l yX5_offer wsX5_offer ({ frames := 3, cells := 0, slots := 0, locals := 66 }) (va_Pc [.ref (a_t 0), .int p1, .int p2] (fun U => U.heap.size = sz ∧ va_P (dC, dI) vwCl [((a_t 0), oX5 a_t a_t_world), ((a_t 2), .inl (cy 0, 48, .inl f_t_sums)), ((a_t_world 0), oX6 a_t_world v_t_world_sight v_t_world_bathers v_t_world_minute v_t_world_seenEver v_t_world_z), ((a_t_world 3), .inl (cy 0, 4, .inl f_t_world_guardAt)), ((a_t_world 1), .inl (cy 0, 48, .inl f_t_world_steam))] U.heap ∧ va_K (dC, dI) vwCl (tyX cy) U ∧ va_D (fun _ => True) [((a_t 0), oX5 a_t a_t_world), ((a_t 2), .inl (cy 0, 48, .inl f_t_sums)), ((a_t_world 0), oX6 a_t_world v_t_world_sight v_t_world_bathers v_t_world_minute v_t_world_seenEver v_t_world_z), ((a_t_world 3), .inl (cy 0, 4, .inl f_t_world_guardAt)), ((a_t_world 1), .inl (cy 0, 48, .inl f_t_world_steam))])) (va_Qv (fun (_ : Unit) => True) (fun _ t => va_P (dC, dI) vwCl [((a_t 0), oX5 a_t a_t_world), ((a_t 2), .inl (cy 0, 48, .inl f_t_sums_o)), ((a_t_world 0), oX6 a_t_world v_t_world_sight v_t_world_bathers v_t_world_minute v_t_world_seenEver v_t_world_z), ((a_t_world 3), .inl (cy 0, 4, .inl f_t_world_guardAt)), ((a_t_world 1), .inl (cy 0, 48, .inl f_t_world_steam))] t.heap ∧ va_K (dC, dI) vwCl (tyX cy) t ∧ va_D (va_A [((a_t 0), oX5 a_t a_t_world), ((a_t 2), .inl (cy 0, 48, .inl f_t_sums)), ((a_t_world 0), oX6 a_t_world v_t_world_sight v_t_world_bathers v_t_world_minute v_t_world_seenEver v_t_world_z), ((a_t_world 3), .inl (cy 0, 4, .inl f_t_world_guardAt)), ((a_t_world 1), .inl (cy 0, 48, .inl f_t_world_steam))] sz) [((a_t 0), oX5 a_t a_t_world), ((a_t 2), .inl (cy 0, 48, .inl f_t_sums_o)), ((a_t_world 0), oX6 a_t_world v_t_world_sight v_t_world_bathers v_t_world_minute v_t_world_seenEver v_t_world_z), ((a_t_world 3), .inl (cy 0, 4, .inl f_t_world_guardAt)), ((a_t_world 1), .inl (cy 0, 48, .inl f_t_world_steam))]) (va_A [((a_t 0), oX5 a_t a_t_world), ((a_t 2), .inl (cy 0, 48, .inl f_t_sums)), ((a_t_world 0), oX6 a_t_world v_t_world_sight v_t_world_bathers v_t_world_minute v_t_world_seenEver v_t_world_z), ((a_t_world 3), .inl (cy 0, 4, .inl f_t_world_guardAt)), ((a_t_world 1), .inl (cy 0, 48, .inl f_t_world_steam))] sz)) 0 0 (va_A [((a_t 0), oX5 a_t a_t_world), ((a_t 2), .inl (cy 0, 48, .inl f_t_sums)), ((a_t_world 0), oX6 a_t_world v_t_world_sight v_t_world_bathers v_t_world_minute v_t_world_seenEver v_t_world_z), ((a_t_world 3), .inl (cy 0, 4, .inl f_t_world_guardAt)), ((a_t_world 1), .inl (cy 0, 48, .inl f_t_world_steam))] sz) := by
  refine Met.ofW (cc := cX5_offer) (maxL := 4) (ret := none) (by decide) rfl ?_
  intro p e s m args below meth c s₁ B hml hv
  obtain ⟨rfl, hsz, hP, hK, hD0⟩ := hv
  have hx := B.exec
  have hb := B.bytes
  have hr := B.returns
  have hts := atoms_spec (ws := wsX5_offer) B.pre
  have hown : s.vm.findClass RX5 = some m.cls := findClass_of_methodNamed B.named
  have hlocks := B.notSynchronized
  have iwX5 : ∀ w ∈ wsX50, w ∈ wsX5_offer := fun w h9 => List.mem_cons_of_mem _ (List.mem_append_left _ (List.mem_append_right _ (h9)))
  have lk1 := hts (Cond.fieldLink RX5 7 "BathBorder$Ways" "world" "LBathBorder$World;") (List.mem_of_getElem? (i := 1) rfl)
  have lk2 := hts (Cond.fieldLink RX5 15 "BathBorder$Ways" "sums" "[I") (List.mem_of_getElem? (i := 2) rfl)
  have lk3 := hts (Cond.methodLink RX5 59 Lib.Math.min.name) (List.mem_of_getElem? (i := 3) rfl)
  have lk4 := hts (Cond.static Lib.Math.min.name) (List.mem_of_getElem? (i := 4) rfl)
  have lk5 := hts (Cond.initialized "java/lang/Math") (List.mem_of_getElem? (i := 5) rfl)
  have lk6 := hts (Cond.code Lib.Math.min.name Lib.Math.min.code 2 (some .int)) (List.mem_of_getElem? (i := 6) rfl)
  subst hsz
  have hD := hD0.self (sz := s.heap.size)
  generalize hAe : va_A [((a_t 0), oX5 a_t a_t_world), ((a_t 2), .inl (cy 0, 48, .inl f_t_sums)), ((a_t_world 0), oX6 a_t_world v_t_world_sight v_t_world_bathers v_t_world_minute v_t_world_seenEver v_t_world_z), ((a_t_world 3), .inl (cy 0, 4, .inl f_t_world_guardAt)), ((a_t_world 1), .inl (cy 0, 48, .inl f_t_world_steam))] s.heap.size = A at hD ⊢
  have hA : ∀ q : Nat, s.heap.size ≤ q → A q := fun q h => by rw [← hAe]; exact Or.inr h
  have hS : va_S A s.heap s.heap [] := va_S.rf
  have hP : va_P (dC, dI) vwCl [((a_t 0), oX5 a_t a_t_world), ((a_t 2), .inl (cy 0, 48, .inl f_t_sums)), ((a_t_world 0), oX6 a_t_world v_t_world_sight v_t_world_bathers v_t_world_minute v_t_world_seenEver v_t_world_z), ((a_t_world 3), .inl (cy 0, 4, .inl f_t_world_guardAt)), ((a_t_world 1), .inl (cy 0, 48, .inl f_t_world_steam))] s.heap := hP
  have hl := lv_entry ([.ref (a_t 0), .int p1, .int p2]) (n := 4) (Nat.le_of_ble_eq_true rfl)
  rw [lg_entry_eq]
  generalize (lg_sl ([.ref (a_t 0), .int p1, .int p2]) ++ List.replicate (4 - (lg_sl ([.ref (a_t 0), .int p1, .int p2])).length) Slot.unset).toArray = ls at hl ⊢
  have hl : lv_has ls 4 [(0, .ref (a_t 0)), (1, .int p1), (2, .int p2)] := hl
  unfold uX5_offer at h
  refine bb_cap (fun WW toW ofW => ?_)
  refine lv_iload_n hx hb dX5_offer_0 rfl (lv_at hl 1 rfl) ?_
  refine lv_if_ge (tgt := 5) hx hb dX5_offer_1 (by decide) (fun c1 => ?_) (fun c1 => ?_)
  · replace h := bb_ifp c1 h
    refine lv_aload_n hx hb dX5_offer_5 rfl (lv_at hl 0 rfl) ?_
    refine va_get (D := (dC, dI)) (ci := 4) (v := .ref (a_t_world 0)) (C := RX5) (T := TX5) (N := 2) hx hb hts iwX5 hown hK hP 0 rfl rfl 0 (by decide) lk1 (fun _ h9 => h9) rfl dX5_offer_6 ?_
    refine lv_iload_n hx hb dX5_offer_9 rfl (lv_at hl 1 rfl) ?_
    obtain ⟨r2, hc3, h⟩ := bb_b1_o h
    refine vp_callSi (W.runV (As := [.int p1]) (rest := []) ⟨hx, hb, hml, hown, hts⟩ (kX6_steamToHide l dC dI cy a_t_world p1 v_t_world_sight v_t_world_bathers v_t_world_minute v_t_world_seenEver v_t_world_z f_t_world_guardAt f_t_world_steam nn r2 hc3) (cwV 1 hts gX5_offer_X6_steamToHide rfl rfl rfl kdX6_steamToHide ⟨Nat.le_of_ble_eq_true rfl, Nat.le_of_ble_eq_true rfl⟩) (bb_preV (va_recv hK hP (ci := 5) (q0 := 2) rfl rfl) (hP.sub (ws' := [((a_t_world 0), oX6 a_t_world v_t_world_sight v_t_world_bathers v_t_world_minute v_t_world_seenEver v_t_world_z), ((a_t_world 3), .inl (cy 0, 4, .inl f_t_world_guardAt)), ((a_t_world 1), .inl (cy 0, 48, .inl f_t_world_steam))]) [2, 3, 4] rfl) hK) rfl rfl hl.1 rfl (lv_room (Nat.le_of_ble_eq_true rfl)) dX5_offer_10 ⟨Nat.zero_le _, Nat.zero_le _⟩) (fun t4 et4 => ?_)
    obtain rfl := et4
    refine lv_istore_n (lv' := [(3, .int r2), (0, .ref (a_t 0)), (1, .int p1), (2, .int p2)]) hx hb dX5_offer_13 rfl hl (by decide) rfl (fun ls hl => ?_)
    refine lv_iload_n hx hb dX5_offer_14 rfl (lv_at hl 0 rfl) ?_
    refine lv_if_lt (tgt := 36) hx hb dX5_offer_15 (by decide) (fun c5 => ?_) (fun c5 => ?_)
    · replace h := bb_ifp c5 h
      obtain rfl := bb_some1 h
      have hP9 := hP.sub (ws' := [((a_t 0), oX5 a_t a_t_world), ((a_t 2), .inl (cy 0, 48, .inl f_t_sums)), ((a_t_world 0), oX6 a_t_world v_t_world_sight v_t_world_bathers v_t_world_minute v_t_world_seenEver v_t_world_z), ((a_t_world 3), .inl (cy 0, 4, .inl f_t_world_guardAt)), ((a_t_world 1), .inl (cy 0, 48, .inl f_t_world_steam))]) [0, 1, 2, 3, 4] rfl
      have hD9 := hD.sub (ws' := [((a_t 0), oX5 a_t a_t_world), ((a_t 2), .inl (cy 0, 48, .inl f_t_sums)), ((a_t_world 0), oX6 a_t_world v_t_world_sight v_t_world_bathers v_t_world_minute v_t_world_seenEver v_t_world_z), ((a_t_world 3), .inl (cy 0, 4, .inl f_t_world_guardAt)), ((a_t_world 1), .inl (cy 0, 48, .inl f_t_world_steam))]) [0, 1, 2, 3, 4] (by decide) rfl
      exact W.vret hx hb hr (fun t ht hW => ⟨⟨(), rfl, trivial, by rw [ht]; exact hP9, va_K.moved hW.alike hK, hD9⟩, hS.F ht⟩) hS.2.2 dX5_offer_36
    · replace h := bb_ifn c5 h
      refine lv_aload_n hx hb dX5_offer_18 rfl (lv_at hl 1 rfl) ?_
      refine va_get (D := (dC, dI)) (ci := 4) (v := .ref (a_t 2)) (C := RX5) (T := TX5) (N := 2) hx hb hts iwX5 hown hK hP 0 rfl rfl 1 (by decide) lk2 (fun _ h9 => h9) rfl dX5_offer_19 ?_
      refine lv_iload_n hx hb dX5_offer_22 rfl (lv_at hl 2 rfl) ?_
      refine lv_aload_n hx hb dX5_offer_23 rfl (lv_at hl 1 rfl) ?_
      refine va_get (D := (dC, dI)) (ci := 4) (v := .ref (a_t 2)) (C := RX5) (T := TX5) (N := 2) hx hb hts iwX5 hown hK hP 0 rfl rfl 1 (by decide) lk2 (fun _ h9 => h9) rfl dX5_offer_24 ?_
      refine lv_iload_n hx hb dX5_offer_27 rfl (lv_at hl 2 rfl) ?_
      obtain ⟨hi6, h⟩ := bb_ix_o h
      refine va_iald hx hb hK hP 1 0 rfl rfl hi6 dX5_offer_28 ?_
      refine lv_iload_n hx hb dX5_offer_29 rfl (lv_at hl 3 rfl) ?_
      refine lv_iload_n hx hb dX5_offer_30 rfl (lv_at hl 0 rfl) ?_
      refine lv_iadd hx hb dX5_offer_31 ?_
      refine va_mmin hx hb (hml.trans hl.1.symm) hown lk3 lk4 lk5 lk6 (Nat.le_of_ble_eq_true rfl) (Nat.le_of_ble_eq_true rfl) (Nat.zero_le _) (Nat.zero_le _) dX5_offer_32 ?_
      obtain ⟨hi7, h⟩ := bb_ix_o h
      refine va_iast hx hb hK hP hD hS 1 0 rfl rfl hi7 dX5_offer_35 (fun H locs hP hD hS => ?_)
      have hP : va_P (dC, dI) vwCl [((a_t 0), oX5 a_t a_t_world), ((a_t 2), .inl (cy 0, 48, .inl (upd f_t_sums p1.toNatClampNeg (if (p2 + r2) < (f_t_sums p1.toNatClampNeg) then (p2 + r2) else (f_t_sums p1.toNatClampNeg))))), ((a_t_world 0), oX6 a_t_world v_t_world_sight v_t_world_bathers v_t_world_minute v_t_world_seenEver v_t_world_z), ((a_t_world 3), .inl (cy 0, 4, .inl f_t_world_guardAt)), ((a_t_world 1), .inl (cy 0, 48, .inl f_t_world_steam))] H := hP
      have hD : va_D A [((a_t 0), oX5 a_t a_t_world), ((a_t 2), .inl (cy 0, 48, .inl (upd f_t_sums p1.toNatClampNeg (if (p2 + r2) < (f_t_sums p1.toNatClampNeg) then (p2 + r2) else (f_t_sums p1.toNatClampNeg))))), ((a_t_world 0), oX6 a_t_world v_t_world_sight v_t_world_bathers v_t_world_minute v_t_world_seenEver v_t_world_z), ((a_t_world 3), .inl (cy 0, 4, .inl f_t_world_guardAt)), ((a_t_world 1), .inl (cy 0, 48, .inl f_t_world_steam))] := hD
      obtain rfl := bb_some1 h
      have hP9 := hP.sub (ws' := [((a_t 0), oX5 a_t a_t_world), ((a_t 2), .inl (cy 0, 48, .inl (upd f_t_sums p1.toNatClampNeg (if (p2 + r2) < (f_t_sums p1.toNatClampNeg) then (p2 + r2) else (f_t_sums p1.toNatClampNeg))))), ((a_t_world 0), oX6 a_t_world v_t_world_sight v_t_world_bathers v_t_world_minute v_t_world_seenEver v_t_world_z), ((a_t_world 3), .inl (cy 0, 4, .inl f_t_world_guardAt)), ((a_t_world 1), .inl (cy 0, 48, .inl f_t_world_steam))]) [0, 1, 2, 3, 4] rfl
      have hD9 := hD.sub (ws' := [((a_t 0), oX5 a_t a_t_world), ((a_t 2), .inl (cy 0, 48, .inl (upd f_t_sums p1.toNatClampNeg (if (p2 + r2) < (f_t_sums p1.toNatClampNeg) then (p2 + r2) else (f_t_sums p1.toNatClampNeg))))), ((a_t_world 0), oX6 a_t_world v_t_world_sight v_t_world_bathers v_t_world_minute v_t_world_seenEver v_t_world_z), ((a_t_world 3), .inl (cy 0, 4, .inl f_t_world_guardAt)), ((a_t_world 1), .inl (cy 0, 48, .inl f_t_world_steam))]) [0, 1, 2, 3, 4] (by decide) rfl
      exact W.vret hx hb hr (fun t ht hW => ⟨⟨(), rfl, trivial, by rw [ht]; exact hP9, va_K.moved hW.alike hK, hD9⟩, hS.F ht⟩) hS.2.2 dX5_offer_36
  · replace h := bb_ifn c1 h
    obtain rfl := bb_some1 h
    have hP9 := hP.sub (ws' := [((a_t 0), oX5 a_t a_t_world), ((a_t 2), .inl (cy 0, 48, .inl f_t_sums)), ((a_t_world 0), oX6 a_t_world v_t_world_sight v_t_world_bathers v_t_world_minute v_t_world_seenEver v_t_world_z), ((a_t_world 3), .inl (cy 0, 4, .inl f_t_world_guardAt)), ((a_t_world 1), .inl (cy 0, 48, .inl f_t_world_steam))]) [0, 1, 2, 3, 4] rfl
    have hD9 := hD.sub (ws' := [((a_t 0), oX5 a_t a_t_world), ((a_t 2), .inl (cy 0, 48, .inl f_t_sums)), ((a_t_world 0), oX6 a_t_world v_t_world_sight v_t_world_bathers v_t_world_minute v_t_world_seenEver v_t_world_z), ((a_t_world 3), .inl (cy 0, 4, .inl f_t_world_guardAt)), ((a_t_world 1), .inl (cy 0, 48, .inl f_t_world_steam))]) [0, 1, 2, 3, 4] (by decide) rfl
    exact W.vret hx hb hr (fun t ht hW => ⟨⟨(), rfl, trivial, by rw [ht]; exact hP9, va_K.moved hW.alike hK, hD9⟩, hS.F ht⟩) hS.2.2 dX5_offer_4
/-! X5_nearestBut -/
def uX5_nearestBut_s9 (x1_4 : Int64) (f_t_sums_5 : Nat → Int32) (rec6 : Int32 → Int32 → Int32 → Option (Int32)) (x3_1 : Int32) (x4_2 : Int32) (x5_3 : Int32) : Option (Int32) :=
  (if (48 : Int32) ≤ x5_3 then some x3_1 else bb_ix x5_3 48 (bb_cut (fun (x3_11 : Int32) (x4_12 : Int32) => rec6 x3_11 x4_12 (x5_3 + (1 : Int32))) (fun k13 => (if x4_2 ≤ (f_t_sums_5 x5_3.toNatClampNeg) then k13 x3_1 x4_2 else bb_b1 (uX0_has x1_4 x5_3) (fun (r15 : Int32) => (if r15 = 0 then bb_ix x5_3 48 (k13 x5_3 (f_t_sums_5 x5_3.toNatClampNeg)) else k13 x3_1 x4_2))))))
def uX5_nearestBut (nn : Nat) (p1 : Int64) (f_t_sums : Nat → Int32) : Option (Int32) :=
  bb_loop3 (uX5_nearestBut_s9 p1 f_t_sums) nn (-1 : Int32) (1000000 : Int32) (0 : Int32)
theorem kdX5_nearestBut : yX5_nearestBut.cls = RX5 ∧ yX5_nearestBut.cls ≠ "java/lang/invoke/MethodHandle" ∧ yX5_nearestBut.cls ≠ "java/lang/invoke/VarHandle" ∧ (parseMethodDescriptor yX5_nearestBut.desc).map (fun d => d.parameters.length) = some 1 := by decide +kernel
set_option maxHeartbeats 4000000 in
set_option maxRecDepth 100000 in
theorem kX5_nearestBut (l : Launch) (dC : Nat → ClassId) (dI : Nat → Nat → Nat) (cy : Nat → ClassId) (a_t : Nat → Nat) (a_t_world : Nat → Nat) (p1 : Int64) (f_t_sums : Nat → Int32) (nn : Nat) (r : Int32) (h : uX5_nearestBut nn p1 f_t_sums = some r) : Met l yX5_nearestBut wsX5_nearestBut ({ frames := 1, cells := 0, slots := 0, locals := 22 }) (va_Pc [.ref (a_t 0), .long p1] (fun U => va_P (dC, dI) vwCl [((a_t 0), oX5 a_t a_t_world), ((a_t 2), .inl (cy 0, 48, .inl f_t_sums))] U.heap ∧ va_K (dC, dI) vwCl (tyX cy) U)) (vp_Si (fun r2 => r = r2)) 0 0 (fun _ => False) := by
  refine Met.ofW (cc := cX5_nearestBut) (maxL := 6) (ret := (some .int)) (by decide) rfl ?_
  intro p e s m args below meth c s₁ B hml hv
  obtain ⟨rfl, hP, hK⟩ := hv
  have hx := B.exec
  have hb := B.bytes
  have hr := B.returns
  have hts := atoms_spec (ws := wsX5_nearestBut) B.pre
  have hown : s.vm.findClass RX5 = some m.cls := findClass_of_methodNamed B.named
  have hlocks := B.notSynchronized
  have iwX5 : ∀ w ∈ wsX50, w ∈ wsX5_nearestBut := fun w h9 => List.mem_cons_of_mem _ (List.mem_append_right _ (h9))
  have lk1 := hts (Cond.constant RX5 41 (1000000)) (List.mem_of_getElem? (i := 1) rfl)
  have lk2 := hts (Cond.fieldLink RX5 15 "BathBorder$Ways" "sums" "[I") (List.mem_of_getElem? (i := 2) rfl)
  have hl := lv_entry ([.ref (a_t 0), .long p1]) (n := 6) (Nat.le_of_ble_eq_true rfl)
  rw [lg_entry_eq]
  generalize (lg_sl ([.ref (a_t 0), .long p1]) ++ List.replicate (6 - (lg_sl ([.ref (a_t 0), .long p1])).length) Slot.unset).toArray = ls at hl ⊢
  have hl : lv_has ls 6 [(0, .ref (a_t 0)), (1, .long p1)] := hl
  unfold uX5_nearestBut at h
  refine bb_cap (fun WW toW ofW => ?_)
  refine lv_iconst (v := (-1 : Int32)) hx hb dX5_nearestBut_0 (by decide) ?_
  refine lv_istore_n (lv' := [(3, .int (-1 : Int32)), (0, .ref (a_t 0)), (1, .long p1)]) hx hb dX5_nearestBut_1 rfl hl (by decide) rfl (fun ls hl => ?_)
  refine lv_ldc (v := (1000000 : Int32)) hx hb hown lk1 dX5_nearestBut_2 ?_
  refine lv_istore (lv' := [(4, .int (1000000 : Int32)), (3, .int (-1 : Int32)), (0, .ref (a_t 0)), (1, .long p1)]) hx hb dX5_nearestBut_4 hl (by decide) rfl (fun ls hl => ?_)
  refine lv_iconst (v := (0 : Int32)) hx hb dX5_nearestBut_6 (by decide) ?_
  refine lv_istore (lv' := [(5, .int (0 : Int32)), (4, .int (1000000 : Int32)), (3, .int (-1 : Int32)), (0, .ref (a_t 0)), (1, .long p1)]) hx hb dX5_nearestBut_7 hl (by decide) rfl (fun ls hl => ?_)
  have L7 : ∀ (n : Nat) (x3_1 : Int32) (x4_2 : Int32) (x5_3 : Int32) (ls : Array Slot), bb_loop3 (uX5_nearestBut_s9 p1 f_t_sums) n x3_1 x4_2 x5_3 = some r → lv_has ls 6 [(0, .ref (a_t 0)), (1, .long p1), (3, .int x3_1), (4, .int x4_2), (5, .int x5_3)] → WW s.heap [] (F0 m 9 ls []) := by
    intro n
    induction n with
    | zero => intro x3_1 x4_2 x5_3 ls h; exact (bb_no h).elim
    | succ n ih8 =>
      intro x3_1 x4_2 x5_3 ls h hl
      refine ofW _ _ _ ?_
      obtain ⟨rec6, erec6, h⟩ := bb_loop3_o h
      unfold uX5_nearestBut_s9 at h
      refine lv_iload hx hb dX5_nearestBut_9 (lv_at hl 4 rfl) ?_
      refine lv_bipush (v := (48 : Int32)) hx hb dX5_nearestBut_11 (by decide) ?_
      refine lv_icmp_ge (tgt := 55) hx hb dX5_nearestBut_13 (by decide) (fun c9 => ?_) (fun c9 => ?_)
      · replace h := bb_ifp c9 h
        refine lv_iload_n hx hb dX5_nearestBut_55 rfl (lv_at hl 2 rfl) ?_
        obtain rfl := bb_some1 h
        exact W.iret hx hb hr (fun t ht hW => ⟨_, rfl, rfl, ht⟩) (fun q hq => by cases hq) dX5_nearestBut_56
      · replace h := bb_ifn c9 h
        refine lv_aload_n hx hb dX5_nearestBut_16 rfl (lv_at hl 0 rfl) ?_
        refine va_get (D := (dC, dI)) (ci := 4) (v := .ref (a_t 2)) (C := RX5) (T := TX5) (N := 2) hx hb hts iwX5 hown hK hP 0 rfl rfl 1 (by decide) lk2 (fun _ h9 => h9) rfl dX5_nearestBut_17 ?_
        refine lv_iload hx hb dX5_nearestBut_20 (lv_at hl 4 rfl) ?_
        obtain ⟨hi10, h⟩ := bb_ix_o h
        refine va_iald hx hb hK hP 1 0 rfl rfl hi10 dX5_nearestBut_22 ?_
        refine lv_iload hx hb dX5_nearestBut_23 (lv_at hl 3 rfl) ?_
        obtain ⟨k13, ek13, h⟩ := bb_cut_o h
        have Jk13 : ∀ (x3_11 : Int32) (x4_12 : Int32) (ls : Array Slot), k13 x3_11 x4_12 = some r → lv_has ls 6 [(0, .ref (a_t 0)), (1, .long p1), (3, .int x3_11), (4, .int x4_12), (5, .int x5_3)] → WW s.heap [] (F0 m 49 ls []) := by
          intro x3_11 x4_12 ls h hl
          refine ofW _ _ _ ?_
          subst ek13
          refine lv_iinc (v := x5_3 + (1 : Int32)) (lv' := [(5, .int (x5_3 + (1 : Int32))), (0, .ref (a_t 0)), (1, .long p1), (3, .int x3_11), (4, .int x4_12)]) hx hb dX5_nearestBut_49 hl (k := 4) rfl rfl (by decide) rfl (fun ls hl => ?_)
          refine lv_goto (tgt := 9) hx hb dX5_nearestBut_52 (by decide) ?_
          rw [erec6] at h
          exact toW _ _ _ (ih8 x3_11 x4_12 (x5_3 + (1 : Int32)) _ h (lv_sub hl [1, 2, 3, 4, 0] rfl))
        refine lv_icmp_ge (tgt := 49) hx hb dX5_nearestBut_25 (by decide) (fun c14 => ?_) (fun c14 => ?_)
        · replace h := bb_ifp c14 h
          exact toW _ _ _ (Jk13 x3_1 x4_2 _ h (lv_sub hl [0, 1, 2, 3, 4] rfl))
        · replace h := bb_ifn c14 h
          refine lv_lload_n hx hb dX5_nearestBut_28 rfl (lv_at hl 1 rfl) ?_
          refine lv_iload hx hb dX5_nearestBut_29 (lv_at hl 4 rfl) ?_
          obtain ⟨r15, hc16, h⟩ := bb_b1_o h
          refine vp_callSi (W.runS (As := [.long p1, .int x5_3]) (rest := []) ⟨hx, hb, hml, hown, hts⟩ (kX0_has l dC dI cy p1 x5_3 r15 hc16) (va_cwS 2 hts gX5_nearestBut_X0_has rfl rfl rfl kdX0_has ⟨Nat.le_of_ble_eq_true rfl, Nat.le_of_ble_eq_true rfl⟩) (bb_preS (hP.sub (ws' := []) [] rfl) hK) rfl rfl hl.1 rfl (lv_room (Nat.le_of_ble_eq_true rfl)) dX5_nearestBut_31 ⟨Nat.zero_le _, Nat.zero_le _⟩) (fun t17 et17 => ?_)
          obtain ⟨rfl, hz18⟩ := et17
          refine lv_if_ne (tgt := 49) hx hb dX5_nearestBut_34 (by decide) (fun c19 => ?_) (fun c19 => ?_)
          · replace h := bb_ifn c19 h
            exact toW _ _ _ (Jk13 x3_1 x4_2 _ h (lv_sub hl [0, 1, 2, 3, 4] rfl))
          · replace h := bb_ifp c19 h
            refine lv_iload hx hb dX5_nearestBut_37 (lv_at hl 4 rfl) ?_
            refine lv_istore_n (lv' := [(3, .int x5_3), (0, .ref (a_t 0)), (1, .long p1), (4, .int x4_2), (5, .int x5_3)]) hx hb dX5_nearestBut_39 rfl hl (by decide) rfl (fun ls hl => ?_)
            refine lv_aload_n hx hb dX5_nearestBut_40 rfl (lv_at hl 1 rfl) ?_
            refine va_get (D := (dC, dI)) (ci := 4) (v := .ref (a_t 2)) (C := RX5) (T := TX5) (N := 2) hx hb hts iwX5 hown hK hP 0 rfl rfl 1 (by decide) lk2 (fun _ h9 => h9) rfl dX5_nearestBut_41 ?_
            refine lv_iload hx hb dX5_nearestBut_44 (lv_at hl 4 rfl) ?_
            obtain ⟨hi20, h⟩ := bb_ix_o h
            refine va_iald hx hb hK hP 1 0 rfl rfl hi20 dX5_nearestBut_46 ?_
            refine lv_istore (lv' := [(4, .int (f_t_sums x5_3.toNatClampNeg)), (3, .int x5_3), (0, .ref (a_t 0)), (1, .long p1), (5, .int x5_3)]) hx hb dX5_nearestBut_47 hl (by decide) rfl (fun ls hl => ?_)
            exact toW _ _ _ (Jk13 x5_3 (f_t_sums x5_3.toNatClampNeg) _ h (lv_sub hl [2, 3, 1, 0, 4] rfl))
  exact toW _ _ _ (L7 nn (-1 : Int32) (1000000 : Int32) (0 : Int32) _ h (lv_sub hl [3, 4, 2, 1, 0] rfl))
/-! X5_leastSteam -/
def uX5_leastSteam_s84 (nn : Nat) (x6_39 : Int32) (v_t_world_sight_40 : Int32) (f_t_world_guardAt_41 : Nat → Int32) (f_t_world_steam_42 : Nat → Int32) (k_114 : (Nat → Int32) → Option (Int32 × (Nat → Int32))) (rec43 : Int32 → (Nat → Int32) → Option (Int32 × (Nat → Int32))) (x7_34 : Int32) (f_t_sums_35 : Nat → Int32) : Option (Int32 × (Nat → Int32)) :=
  (if (4 : Int32) < x7_34 then k_114 f_t_sums_35 else bb_b1 (uX0_beside x6_39 x7_34) (fun (r47 : Int32) => bb_ix x6_39 48 (bb_b1 (uX5_offer nn r47 (f_t_sums_35 x6_39.toNatClampNeg) f_t_sums_35 v_t_world_sight_40 f_t_world_guardAt_41 f_t_world_steam_42) (fun (w51 : Nat → Int32) => rec43 (x7_34 + (1 : Int32)) w51))))
def uX5_leastSteam_s33 (nn : Nat) (x2_12 : Int32) (v_t_world_sight_13 : Int32) (f_t_world_guardAt_14 : Nat → Int32) (f_t_world_steam_15 : Nat → Int32) (k_66 : Int32 → (Nat → Int32) → Option (Int32 × (Nat → Int32))) (rec16 : Int64 → Int32 → (Nat → Int32) → Option (Int32 × (Nat → Int32))) (x3_9 : Int64) (x5_10 : Int32) (f_t_sums_11 : Nat → Int32) : Option (Int32 × (Nat → Int32)) :=
  (if (48 : Int32) ≤ x5_10 then some ((-1 : Int32), f_t_sums_11) else bb_b1 (uX5_nearestBut nn x3_9 f_t_sums_11) (fun (r20 : Int32) => (if 0 ≤ r20 then bb_b1 (uX0_cellsOfSide x2_12) (fun (r24 : Int64) => bb_b1 (uX0_has r24 r20) (fun (r27 : Int32) => (if r27 = 0 then bb_cut (fun (f_t_sums_32 : Nat → Int32) => rec16 (x3_9 ||| ((1 : Int64) <<< (r20.toInt64 &&& 63))) (x5_10 + (1 : Int32)) f_t_sums_32) (fun k33 => bb_loop2 (uX5_leastSteam_s84 nn r20 v_t_world_sight_13 f_t_world_guardAt_14 f_t_world_steam_15 k33) nn (1 : Int32) f_t_sums_11) else k_66 r20 f_t_sums_11))) else some ((-1 : Int32), f_t_sums_11))))
def uX5_leastSteam_s2 (k_22 : (Nat → Int32) → Option (Int32 × (Nat → Int32))) (rec60 : Int32 → (Nat → Int32) → Option (Int32 × (Nat → Int32))) (x3_53 : Int32) (f_t_sums_54 : Nat → Int32) : Option (Int32 × (Nat → Int32)) :=
  (if (48 : Int32) ≤ x3_53 then k_22 f_t_sums_54 else bb_ix x3_53 48 (rec60 (x3_53 + (1 : Int32)) (upd f_t_sums_54 x3_53.toNatClampNeg (1000000 : Int32))))
def uX5_leastSteam (nn : Nat) (p1 : Int32) (p2 : Int32) (f_t_sums : Nat → Int32) (v_t_world_sight : Int32) (f_t_world_guardAt : Nat → Int32) (f_t_world_steam : Nat → Int32) : Option (Int32 × (Nat → Int32)) :=
  bb_cut (fun (f_t_sums_1 : Nat → Int32) => bb_b1 (uX5_offer nn p1 (0 : Int32) f_t_sums_1 v_t_world_sight f_t_world_guardAt f_t_world_steam) (fun (w3 : Nat → Int32) => bb_cut (fun (x6_5 : Int32) (f_t_sums_6 : Nat → Int32) => bb_ix x6_5 48 (some (f_t_sums_6 x6_5.toNatClampNeg, f_t_sums_6))) (fun k7 => bb_loop3 (uX5_leastSteam_s33 nn p2 v_t_world_sight f_t_world_guardAt f_t_world_steam k7) nn (0 : Int64) (0 : Int32) w3))) (fun k2 => bb_loop2 (uX5_leastSteam_s2 k2) nn (0 : Int32) f_t_sums)
theorem kdX5_leastSteam : yX5_leastSteam.cls = RX5 ∧ yX5_leastSteam.cls ≠ "java/lang/invoke/MethodHandle" ∧ yX5_leastSteam.cls ≠ "java/lang/invoke/VarHandle" ∧ (parseMethodDescriptor yX5_leastSteam.desc).map (fun d => d.parameters.length) = some 2 := by decide +kernel
set_option maxHeartbeats 4000000 in
set_option maxRecDepth 100000 in
theorem kX5_leastSteam (l : Launch) (dC : Nat → ClassId) (dI : Nat → Nat → Nat) (cy : Nat → ClassId) (sz : Nat) (a_t : Nat → Nat) (a_t_world : Nat → Nat) (p1 : Int32) (p2 : Int32) (f_t_sums : Nat → Int32) (v_t_world_sight : Int32) (v_t_world_bathers : Int32) (v_t_world_minute : Int32) (v_t_world_seenEver : Int32) (v_t_world_z : Int32) (f_t_world_guardAt : Nat → Int32) (f_t_world_steam : Nat → Int32) (nn : Nat) (r : Int32) (f_t_sums_o : Nat → Int32) (h : uX5_leastSteam nn p1 p2 f_t_sums v_t_world_sight f_t_world_guardAt f_t_world_steam = some (r, f_t_sums_o)) : Met l yX5_leastSteam wsX5_leastSteam ({ frames := 4, cells := 0, slots := 0, locals := 89 }) (va_Pc [.ref (a_t 0), .int p1, .int p2] (fun U => U.heap.size = sz ∧ va_P (dC, dI) vwCl [((a_t 0), oX5 a_t a_t_world), ((a_t 2), .inl (cy 0, 48, .inl f_t_sums)), ((a_t_world 0), oX6 a_t_world v_t_world_sight v_t_world_bathers v_t_world_minute v_t_world_seenEver v_t_world_z), ((a_t_world 3), .inl (cy 0, 4, .inl f_t_world_guardAt)), ((a_t_world 1), .inl (cy 0, 48, .inl f_t_world_steam))] U.heap ∧ va_K (dC, dI) vwCl (tyX cy) U ∧ va_D (fun _ => True) [((a_t 0), oX5 a_t a_t_world), ((a_t 2), .inl (cy 0, 48, .inl f_t_sums)), ((a_t_world 0), oX6 a_t_world v_t_world_sight v_t_world_bathers v_t_world_minute v_t_world_seenEver v_t_world_z), ((a_t_world 3), .inl (cy 0, 4, .inl f_t_world_guardAt)), ((a_t_world 1), .inl (cy 0, 48, .inl f_t_world_steam))])) (va_Qi (fun (r2 : Int32) (_ : Unit) => r = r2) (fun _ t => va_P (dC, dI) vwCl [((a_t 0), oX5 a_t a_t_world), ((a_t 2), .inl (cy 0, 48, .inl f_t_sums_o)), ((a_t_world 0), oX6 a_t_world v_t_world_sight v_t_world_bathers v_t_world_minute v_t_world_seenEver v_t_world_z), ((a_t_world 3), .inl (cy 0, 4, .inl f_t_world_guardAt)), ((a_t_world 1), .inl (cy 0, 48, .inl f_t_world_steam))] t.heap ∧ va_K (dC, dI) vwCl (tyX cy) t ∧ va_D (va_A [((a_t 0), oX5 a_t a_t_world), ((a_t 2), .inl (cy 0, 48, .inl f_t_sums)), ((a_t_world 0), oX6 a_t_world v_t_world_sight v_t_world_bathers v_t_world_minute v_t_world_seenEver v_t_world_z), ((a_t_world 3), .inl (cy 0, 4, .inl f_t_world_guardAt)), ((a_t_world 1), .inl (cy 0, 48, .inl f_t_world_steam))] sz) [((a_t 0), oX5 a_t a_t_world), ((a_t 2), .inl (cy 0, 48, .inl f_t_sums_o)), ((a_t_world 0), oX6 a_t_world v_t_world_sight v_t_world_bathers v_t_world_minute v_t_world_seenEver v_t_world_z), ((a_t_world 3), .inl (cy 0, 4, .inl f_t_world_guardAt)), ((a_t_world 1), .inl (cy 0, 48, .inl f_t_world_steam))]) (va_A [((a_t 0), oX5 a_t a_t_world), ((a_t 2), .inl (cy 0, 48, .inl f_t_sums)), ((a_t_world 0), oX6 a_t_world v_t_world_sight v_t_world_bathers v_t_world_minute v_t_world_seenEver v_t_world_z), ((a_t_world 3), .inl (cy 0, 4, .inl f_t_world_guardAt)), ((a_t_world 1), .inl (cy 0, 48, .inl f_t_world_steam))] sz)) 0 0 (va_A [((a_t 0), oX5 a_t a_t_world), ((a_t 2), .inl (cy 0, 48, .inl f_t_sums)), ((a_t_world 0), oX6 a_t_world v_t_world_sight v_t_world_bathers v_t_world_minute v_t_world_seenEver v_t_world_z), ((a_t_world 3), .inl (cy 0, 4, .inl f_t_world_guardAt)), ((a_t_world 1), .inl (cy 0, 48, .inl f_t_world_steam))] sz) := by
  refine Met.ofW (cc := cX5_leastSteam) (maxL := 8) (ret := (some .int)) (by decide) rfl ?_
  intro p e s m args below meth c s₁ B hml hv
  obtain ⟨rfl, hsz, hP, hK, hD0⟩ := hv
  have hx := B.exec
  have hb := B.bytes
  have hr := B.returns
  have hts := atoms_spec (ws := wsX5_leastSteam) B.pre
  have hown : s.vm.findClass RX5 = some m.cls := findClass_of_methodNamed B.named
  have hlocks := B.notSynchronized
  have iwX5 : ∀ w ∈ wsX50, w ∈ wsX5_leastSteam := fun w h9 => List.mem_cons_of_mem _ (List.mem_append_left _ (List.mem_append_right _ (h9)))
  have lk1 := hts (Cond.fieldLink RX5 15 "BathBorder$Ways" "sums" "[I") (List.mem_of_getElem? (i := 1) rfl)
  have lk2 := hts (Cond.constant RX5 41 (1000000)) (List.mem_of_getElem? (i := 2) rfl)
  subst hsz
  have hD := hD0.self (sz := s.heap.size)
  generalize hAe : va_A [((a_t 0), oX5 a_t a_t_world), ((a_t 2), .inl (cy 0, 48, .inl f_t_sums)), ((a_t_world 0), oX6 a_t_world v_t_world_sight v_t_world_bathers v_t_world_minute v_t_world_seenEver v_t_world_z), ((a_t_world 3), .inl (cy 0, 4, .inl f_t_world_guardAt)), ((a_t_world 1), .inl (cy 0, 48, .inl f_t_world_steam))] s.heap.size = A at hD ⊢
  have hA : ∀ q : Nat, s.heap.size ≤ q → A q := fun q h => by rw [← hAe]; exact Or.inr h
  have hS : va_S A s.heap s.heap [] := va_S.rf
  have hP : va_P (dC, dI) vwCl [((a_t 0), oX5 a_t a_t_world), ((a_t 2), .inl (cy 0, 48, .inl f_t_sums)), ((a_t_world 0), oX6 a_t_world v_t_world_sight v_t_world_bathers v_t_world_minute v_t_world_seenEver v_t_world_z), ((a_t_world 3), .inl (cy 0, 4, .inl f_t_world_guardAt)), ((a_t_world 1), .inl (cy 0, 48, .inl f_t_world_steam))] s.heap := hP
  have hl := lv_entry ([.ref (a_t 0), .int p1, .int p2]) (n := 8) (Nat.le_of_ble_eq_true rfl)
  rw [lg_entry_eq]
  generalize (lg_sl ([.ref (a_t 0), .int p1, .int p2]) ++ List.replicate (8 - (lg_sl ([.ref (a_t 0), .int p1, .int p2])).length) Slot.unset).toArray = ls at hl ⊢
  have hl : lv_has ls 8 [(0, .ref (a_t 0)), (1, .int p1), (2, .int p2)] := hl
  unfold uX5_leastSteam at h
  refine bb_cap (fun WW toW ofW => ?_)
  refine lv_iconst (v := (0 : Int32)) hx hb dX5_leastSteam_0 (by decide) ?_
  refine lv_istore_n (lv' := [(3, .int (0 : Int32)), (0, .ref (a_t 0)), (1, .int p1), (2, .int p2)]) hx hb dX5_leastSteam_1 rfl hl (by decide) rfl (fun ls hl => ?_)
  obtain ⟨k2, ek2, h⟩ := bb_cut_o h
  have Jk2 : ∀ (f_t_sums_1 : Nat → Int32) (H : Heap) (locs : List Loc) (ls : Array Slot), k2 f_t_sums_1 = some (r, f_t_sums_o) → va_P (dC, dI) vwCl [((a_t 0), oX5 a_t a_t_world), ((a_t 2), .inl (cy 0, 48, .inl f_t_sums_1)), ((a_t_world 0), oX6 a_t_world v_t_world_sight v_t_world_bathers v_t_world_minute v_t_world_seenEver v_t_world_z), ((a_t_world 3), .inl (cy 0, 4, .inl f_t_world_guardAt)), ((a_t_world 1), .inl (cy 0, 48, .inl f_t_world_steam))] H → va_D A [((a_t 0), oX5 a_t a_t_world), ((a_t 2), .inl (cy 0, 48, .inl f_t_sums_1)), ((a_t_world 0), oX6 a_t_world v_t_world_sight v_t_world_bathers v_t_world_minute v_t_world_seenEver v_t_world_z), ((a_t_world 3), .inl (cy 0, 4, .inl f_t_world_guardAt)), ((a_t_world 1), .inl (cy 0, 48, .inl f_t_world_steam))] → va_S A s.heap H locs → lv_has ls 8 [(0, .ref (a_t 0)), (1, .int p1), (2, .int p2)] → WW H locs (F0 m 22 ls []) := by
    intro f_t_sums_1 H locs ls h hP hD hS hl
    refine ofW _ _ _ ?_
    subst ek2
    refine lv_aload_n hx hb dX5_leastSteam_22 rfl (lv_at hl 0 rfl) ?_
    refine lv_iload_n hx hb dX5_leastSteam_23 rfl (lv_at hl 1 rfl) ?_
    refine lv_iconst (v := (0 : Int32)) hx hb dX5_leastSteam_24 (by decide) ?_
    obtain ⟨w3, hc4, h⟩ := bb_b1_o h
    refine bb_cwv (wr := []) (w1 := [((a_t 0), oX5 a_t a_t_world), ((a_t 2), .inl (cy 0, 48, .inl w3)), ((a_t_world 0), oX6 a_t_world v_t_world_sight v_t_world_bathers v_t_world_minute v_t_world_seenEver v_t_world_z), ((a_t_world 3), .inl (cy 0, 4, .inl f_t_world_guardAt)), ((a_t_world 1), .inl (cy 0, 48, .inl f_t_world_steam))]) (va_runV (As := [.int p1, .int (0 : Int32)]) (rest := []) ⟨hx, hb, hml, hown, hts⟩ (kX5_offer l dC dI cy H.size a_t a_t_world p1 (0 : Int32) f_t_sums_1 v_t_world_sight v_t_world_bathers v_t_world_minute v_t_world_seenEver v_t_world_z f_t_world_guardAt f_t_world_steam nn w3 hc4) (cwV 2 hts gX5_leastSteam_X5_offer rfl rfl rfl kdX5_offer ⟨Nat.le_of_ble_eq_true rfl, Nat.le_of_ble_eq_true rfl⟩) (bb_preVw (va_recv hK hP (ci := 4) (q0 := 0) rfl rfl) hP hK (hD.sub (ws' := [((a_t 0), oX5 a_t a_t_world), ((a_t 2), .inl (cy 0, 48, .inl f_t_sums_1)), ((a_t_world 0), oX6 a_t_world v_t_world_sight v_t_world_bathers v_t_world_minute v_t_world_seenEver v_t_world_z), ((a_t_world 3), .inl (cy 0, 4, .inl f_t_world_guardAt)), ((a_t_world 1), .inl (cy 0, 48, .inl f_t_world_steam))]) [0, 1, 2, 3, 4] (by decide) rfl)) rfl rfl hl.1 rfl (lv_room (Nat.le_of_ble_eq_true rfl)) dX5_leastSteam_25 ⟨Nat.zero_le _, Nat.zero_le _⟩) hP hD hS hA [0, 1, 2, 3, 4] [] rfl rfl (by decide) (by decide) (fun H locs hP hD hS => ?_)
    have hP : va_P (dC, dI) vwCl [((a_t 0), oX5 a_t a_t_world), ((a_t 2), .inl (cy 0, 48, .inl w3)), ((a_t_world 0), oX6 a_t_world v_t_world_sight v_t_world_bathers v_t_world_minute v_t_world_seenEver v_t_world_z), ((a_t_world 3), .inl (cy 0, 4, .inl f_t_world_guardAt)), ((a_t_world 1), .inl (cy 0, 48, .inl f_t_world_steam))] H := hP
    have hD : va_D A [((a_t 0), oX5 a_t a_t_world), ((a_t 2), .inl (cy 0, 48, .inl w3)), ((a_t_world 0), oX6 a_t_world v_t_world_sight v_t_world_bathers v_t_world_minute v_t_world_seenEver v_t_world_z), ((a_t_world 3), .inl (cy 0, 4, .inl f_t_world_guardAt)), ((a_t_world 1), .inl (cy 0, 48, .inl f_t_world_steam))] := hD
    refine lv_lconst (v := (0 : Int64)) hx hb dX5_leastSteam_28 (by decide) ?_
    refine lv_lstore_n (lv' := [(3, .long (0 : Int64)), (0, .ref (a_t 0)), (1, .int p1), (2, .int p2)]) hx hb dX5_leastSteam_29 rfl hl (by decide) rfl (fun ls hl => ?_)
    refine lv_iconst (v := (0 : Int32)) hx hb dX5_leastSteam_30 (by decide) ?_
    refine lv_istore (lv' := [(5, .int (0 : Int32)), (3, .long (0 : Int64)), (0, .ref (a_t 0)), (1, .int p1), (2, .int p2)]) hx hb dX5_leastSteam_31 hl (by decide) rfl (fun ls hl => ?_)
    obtain ⟨k7, ek7, h⟩ := bb_cut_o h
    have Jk7 : ∀ (x6_5 : Int32) (f_t_sums_6 : Nat → Int32) (H : Heap) (locs : List Loc) (ls : Array Slot), k7 x6_5 f_t_sums_6 = some (r, f_t_sums_o) → va_P (dC, dI) vwCl [((a_t 0), oX5 a_t a_t_world), ((a_t 2), .inl (cy 0, 48, .inl f_t_sums_6)), ((a_t_world 0), oX6 a_t_world v_t_world_sight v_t_world_bathers v_t_world_minute v_t_world_seenEver v_t_world_z), ((a_t_world 3), .inl (cy 0, 4, .inl f_t_world_guardAt)), ((a_t_world 1), .inl (cy 0, 48, .inl f_t_world_steam))] H → va_D A [((a_t 0), oX5 a_t a_t_world), ((a_t 2), .inl (cy 0, 48, .inl f_t_sums_6)), ((a_t_world 0), oX6 a_t_world v_t_world_sight v_t_world_bathers v_t_world_minute v_t_world_seenEver v_t_world_z), ((a_t_world 3), .inl (cy 0, 4, .inl f_t_world_guardAt)), ((a_t_world 1), .inl (cy 0, 48, .inl f_t_world_steam))] → va_S A s.heap H locs → lv_has ls 8 [(0, .ref (a_t 0)), (6, .int x6_5)] → WW H locs (F0 m 66 ls []) := by
      intro x6_5 f_t_sums_6 H locs ls h hP hD hS hl
      refine ofW _ _ _ ?_
      subst ek7
      refine lv_aload_n hx hb dX5_leastSteam_66 rfl (lv_at hl 0 rfl) ?_
      refine va_get (D := (dC, dI)) (ci := 4) (v := .ref (a_t 2)) (C := RX5) (T := TX5) (N := 2) hx hb hts iwX5 hown hK hP 0 rfl rfl 1 (by decide) lk1 (fun _ h9 => h9) rfl dX5_leastSteam_67 ?_
      refine lv_iload hx hb dX5_leastSteam_70 (lv_at hl 1 rfl) ?_
      obtain ⟨hi8, h⟩ := bb_ix_o h
      refine va_iald hx hb hK hP 1 0 rfl rfl hi8 dX5_leastSteam_72 ?_
      obtain ⟨rfl, rfl⟩ := bb_some2 h
      have hP9 := hP.sub (ws' := [((a_t 0), oX5 a_t a_t_world), ((a_t 2), .inl (cy 0, 48, .inl f_t_sums_6)), ((a_t_world 0), oX6 a_t_world v_t_world_sight v_t_world_bathers v_t_world_minute v_t_world_seenEver v_t_world_z), ((a_t_world 3), .inl (cy 0, 4, .inl f_t_world_guardAt)), ((a_t_world 1), .inl (cy 0, 48, .inl f_t_world_steam))]) [0, 1, 2, 3, 4] rfl
      have hD9 := hD.sub (ws' := [((a_t 0), oX5 a_t a_t_world), ((a_t 2), .inl (cy 0, 48, .inl f_t_sums_6)), ((a_t_world 0), oX6 a_t_world v_t_world_sight v_t_world_bathers v_t_world_minute v_t_world_seenEver v_t_world_z), ((a_t_world 3), .inl (cy 0, 4, .inl f_t_world_guardAt)), ((a_t_world 1), .inl (cy 0, 48, .inl f_t_world_steam))]) [0, 1, 2, 3, 4] (by decide) rfl
      exact W.iret hx hb hr (fun t ht hW => ⟨⟨_, (), rfl, rfl, by rw [ht]; exact hP9, va_K.moved hW.alike hK, hD9⟩, hS.F ht⟩) hS.2.2 dX5_leastSteam_73
    have L17 : ∀ (n : Nat) (x3_9 : Int64) (x5_10 : Int32) (f_t_sums_11 : Nat → Int32) (H : Heap) (locs : List Loc) (ls : Array Slot), bb_loop3 (uX5_leastSteam_s33 nn p2 v_t_world_sight f_t_world_guardAt f_t_world_steam k7) n x3_9 x5_10 f_t_sums_11 = some (r, f_t_sums_o) → va_P (dC, dI) vwCl [((a_t 0), oX5 a_t a_t_world), ((a_t 2), .inl (cy 0, 48, .inl f_t_sums_11)), ((a_t_world 0), oX6 a_t_world v_t_world_sight v_t_world_bathers v_t_world_minute v_t_world_seenEver v_t_world_z), ((a_t_world 3), .inl (cy 0, 4, .inl f_t_world_guardAt)), ((a_t_world 1), .inl (cy 0, 48, .inl f_t_world_steam))] H → va_D A [((a_t 0), oX5 a_t a_t_world), ((a_t 2), .inl (cy 0, 48, .inl f_t_sums_11)), ((a_t_world 0), oX6 a_t_world v_t_world_sight v_t_world_bathers v_t_world_minute v_t_world_seenEver v_t_world_z), ((a_t_world 3), .inl (cy 0, 4, .inl f_t_world_guardAt)), ((a_t_world 1), .inl (cy 0, 48, .inl f_t_world_steam))] → va_S A s.heap H locs → lv_has ls 8 [(0, .ref (a_t 0)), (2, .int p2), (3, .long x3_9), (5, .int x5_10)] → WW H locs (F0 m 33 ls []) := by
      intro n
      induction n with
      | zero => intro x3_9 x5_10 f_t_sums_11 H locs ls h; exact (bb_no h).elim
      | succ n ih18 =>
        intro x3_9 x5_10 f_t_sums_11 H locs ls h hP hD hS hl
        refine ofW _ _ _ ?_
        obtain ⟨rec16, erec16, h⟩ := bb_loop3_o h
        unfold uX5_leastSteam_s33 at h
        refine lv_iload hx hb dX5_leastSteam_33 (lv_at hl 3 rfl) ?_
        refine lv_bipush (v := (48 : Int32)) hx hb dX5_leastSteam_35 (by decide) ?_
        refine lv_icmp_ge (tgt := 120) hx hb dX5_leastSteam_37 (by decide) (fun c19 => ?_) (fun c19 => ?_)
        · replace h := bb_ifp c19 h
          refine lv_iconst (v := (-1 : Int32)) hx hb dX5_leastSteam_120 (by decide) ?_
          obtain ⟨rfl, rfl⟩ := bb_some2 h
          have hP9 := hP.sub (ws' := [((a_t 0), oX5 a_t a_t_world), ((a_t 2), .inl (cy 0, 48, .inl f_t_sums_11)), ((a_t_world 0), oX6 a_t_world v_t_world_sight v_t_world_bathers v_t_world_minute v_t_world_seenEver v_t_world_z), ((a_t_world 3), .inl (cy 0, 4, .inl f_t_world_guardAt)), ((a_t_world 1), .inl (cy 0, 48, .inl f_t_world_steam))]) [0, 1, 2, 3, 4] rfl
          have hD9 := hD.sub (ws' := [((a_t 0), oX5 a_t a_t_world), ((a_t 2), .inl (cy 0, 48, .inl f_t_sums_11)), ((a_t_world 0), oX6 a_t_world v_t_world_sight v_t_world_bathers v_t_world_minute v_t_world_seenEver v_t_world_z), ((a_t_world 3), .inl (cy 0, 4, .inl f_t_world_guardAt)), ((a_t_world 1), .inl (cy 0, 48, .inl f_t_world_steam))]) [0, 1, 2, 3, 4] (by decide) rfl
          exact W.iret hx hb hr (fun t ht hW => ⟨⟨_, (), rfl, rfl, by rw [ht]; exact hP9, va_K.moved hW.alike hK, hD9⟩, hS.F ht⟩) hS.2.2 dX5_leastSteam_121
        · replace h := bb_ifn c19 h
          refine lv_aload_n hx hb dX5_leastSteam_40 rfl (lv_at hl 0 rfl) ?_
          refine lv_lload_n hx hb dX5_leastSteam_41 rfl (lv_at hl 2 rfl) ?_
          obtain ⟨r20, hc21, h⟩ := bb_b1_o h
          refine vp_callSi (W.runV (As := [.long x3_9]) (rest := []) ⟨hx, hb, hml, hown, hts⟩ (kX5_nearestBut l dC dI cy a_t a_t_world x3_9 f_t_sums_11 nn r20 hc21) (cwV 1 hts gX5_leastSteam_X5_nearestBut rfl rfl rfl kdX5_nearestBut ⟨Nat.le_of_ble_eq_true rfl, Nat.le_of_ble_eq_true rfl⟩) (bb_preV (va_recv hK hP (ci := 4) (q0 := 0) rfl rfl) (hP.sub (ws' := [((a_t 0), oX5 a_t a_t_world), ((a_t 2), .inl (cy 0, 48, .inl f_t_sums_11))]) [0, 1] rfl) hK) rfl rfl hl.1 rfl (lv_room (Nat.le_of_ble_eq_true rfl)) dX5_leastSteam_42 ⟨Nat.zero_le _, Nat.zero_le _⟩) (fun t22 et22 => ?_)
          obtain rfl := et22
          refine lv_istore (lv' := [(6, .int r20), (0, .ref (a_t 0)), (2, .int p2), (3, .long x3_9), (5, .int x5_10)]) hx hb dX5_leastSteam_45 hl (by decide) rfl (fun ls hl => ?_)
          refine lv_iload hx hb dX5_leastSteam_47 (lv_at hl 0 rfl) ?_
          refine lv_if_ge (tgt := 54) hx hb dX5_leastSteam_49 (by decide) (fun c23 => ?_) (fun c23 => ?_)
          · replace h := bb_ifp c23 h
            refine lv_iload_n hx hb dX5_leastSteam_54 rfl (lv_at hl 2 rfl) ?_
            obtain ⟨r24, hc25, h⟩ := bb_b1_o h
            refine vp_callSl (W.runS (As := [.int p2]) (rest := []) ⟨hx, hb, hml, hown, hts⟩ (kX0_cellsOfSide l dC dI cy p2 r24 hc25) (va_cwS 1 hts gX5_leastSteam_X0_cellsOfSide rfl rfl rfl kdX0_cellsOfSide ⟨Nat.le_of_ble_eq_true rfl, Nat.le_of_ble_eq_true rfl⟩) (bb_preS (hP.sub (ws' := []) [] rfl) hK) rfl rfl hl.1 rfl (lv_room (Nat.le_of_ble_eq_true rfl)) dX5_leastSteam_55 ⟨Nat.zero_le _, Nat.zero_le _⟩) (fun t26 et26 => ?_)
            obtain rfl := et26
            refine lv_iload hx hb dX5_leastSteam_58 (lv_at hl 0 rfl) ?_
            obtain ⟨r27, hc28, h⟩ := bb_b1_o h
            refine vp_callSi (W.runS (As := [.long r24, .int r20]) (rest := []) ⟨hx, hb, hml, hown, hts⟩ (kX0_has l dC dI cy r24 r20 r27 hc28) (va_cwS 2 hts gX5_leastSteam_X0_has rfl rfl rfl kdX0_has ⟨Nat.le_of_ble_eq_true rfl, Nat.le_of_ble_eq_true rfl⟩) (bb_preS (hP.sub (ws' := []) [] rfl) hK) rfl rfl hl.1 rfl (lv_room (Nat.le_of_ble_eq_true rfl)) dX5_leastSteam_60 ⟨Nat.zero_le _, Nat.zero_le _⟩) (fun t29 et29 => ?_)
            obtain ⟨rfl, hz30⟩ := et29
            refine lv_if_eq (tgt := 74) hx hb dX5_leastSteam_63 (by decide) (fun c31 => ?_) (fun c31 => ?_)
            · replace h := bb_ifp c31 h
              refine lv_lload_n hx hb dX5_leastSteam_74 rfl (lv_at hl 3 rfl) ?_
              refine lv_lconst (v := (1 : Int64)) hx hb dX5_leastSteam_75 (by decide) ?_
              refine lv_iload hx hb dX5_leastSteam_76 (lv_at hl 0 rfl) ?_
              refine lv_lshl hx hb dX5_leastSteam_78 rfl ?_
              refine lv_lor hx hb dX5_leastSteam_79 ?_
              refine lv_lstore_n (lv' := [(3, .long (x3_9 ||| ((1 : Int64) <<< (r20.toInt64 &&& 63)))), (6, .int r20), (0, .ref (a_t 0)), (2, .int p2), (5, .int x5_10)]) hx hb dX5_leastSteam_80 rfl hl (by decide) rfl (fun ls hl => ?_)
              refine lv_iconst (v := (1 : Int32)) hx hb dX5_leastSteam_81 (by decide) ?_
              refine lv_istore (lv' := [(7, .int (1 : Int32)), (3, .long (x3_9 ||| ((1 : Int64) <<< (r20.toInt64 &&& 63)))), (6, .int r20), (0, .ref (a_t 0)), (2, .int p2), (5, .int x5_10)]) hx hb dX5_leastSteam_82 hl (by decide) rfl (fun ls hl => ?_)
              obtain ⟨k33, ek33, h⟩ := bb_cut_o h
              have Jk33 : ∀ (f_t_sums_32 : Nat → Int32) (H : Heap) (locs : List Loc) (ls : Array Slot), k33 f_t_sums_32 = some (r, f_t_sums_o) → va_P (dC, dI) vwCl [((a_t 0), oX5 a_t a_t_world), ((a_t 2), .inl (cy 0, 48, .inl f_t_sums_32)), ((a_t_world 0), oX6 a_t_world v_t_world_sight v_t_world_bathers v_t_world_minute v_t_world_seenEver v_t_world_z), ((a_t_world 3), .inl (cy 0, 4, .inl f_t_world_guardAt)), ((a_t_world 1), .inl (cy 0, 48, .inl f_t_world_steam))] H → va_D A [((a_t 0), oX5 a_t a_t_world), ((a_t 2), .inl (cy 0, 48, .inl f_t_sums_32)), ((a_t_world 0), oX6 a_t_world v_t_world_sight v_t_world_bathers v_t_world_minute v_t_world_seenEver v_t_world_z), ((a_t_world 3), .inl (cy 0, 4, .inl f_t_world_guardAt)), ((a_t_world 1), .inl (cy 0, 48, .inl f_t_world_steam))] → va_S A s.heap H locs → lv_has ls 8 [(0, .ref (a_t 0)), (2, .int p2), (3, .long (x3_9 ||| ((1 : Int64) <<< (r20.toInt64 &&& 63)))), (5, .int x5_10)] → WW H locs (F0 m 114 ls []) := by
                intro f_t_sums_32 H locs ls h hP hD hS hl
                refine ofW _ _ _ ?_
                subst ek33
                refine lv_iinc (v := x5_10 + (1 : Int32)) (lv' := [(5, .int (x5_10 + (1 : Int32))), (0, .ref (a_t 0)), (2, .int p2), (3, .long (x3_9 ||| ((1 : Int64) <<< (r20.toInt64 &&& 63))))]) hx hb dX5_leastSteam_114 hl (k := 3) rfl rfl (by decide) rfl (fun ls hl => ?_)
                refine lv_goto (tgt := 33) hx hb dX5_leastSteam_117 (by decide) ?_
                rw [erec16] at h
                exact toW _ _ _ (ih18 (x3_9 ||| ((1 : Int64) <<< (r20.toInt64 &&& 63))) (x5_10 + (1 : Int32)) f_t_sums_32 _ _ _ h hP hD hS (lv_sub hl [1, 2, 3, 0] rfl))
              have L44 : ∀ (n : Nat) (x7_34 : Int32) (f_t_sums_35 : Nat → Int32) (H : Heap) (locs : List Loc) (ls : Array Slot), bb_loop2 (uX5_leastSteam_s84 nn r20 v_t_world_sight f_t_world_guardAt f_t_world_steam k33) n x7_34 f_t_sums_35 = some (r, f_t_sums_o) → va_P (dC, dI) vwCl [((a_t 0), oX5 a_t a_t_world), ((a_t 2), .inl (cy 0, 48, .inl f_t_sums_35)), ((a_t_world 0), oX6 a_t_world v_t_world_sight v_t_world_bathers v_t_world_minute v_t_world_seenEver v_t_world_z), ((a_t_world 3), .inl (cy 0, 4, .inl f_t_world_guardAt)), ((a_t_world 1), .inl (cy 0, 48, .inl f_t_world_steam))] H → va_D A [((a_t 0), oX5 a_t a_t_world), ((a_t 2), .inl (cy 0, 48, .inl f_t_sums_35)), ((a_t_world 0), oX6 a_t_world v_t_world_sight v_t_world_bathers v_t_world_minute v_t_world_seenEver v_t_world_z), ((a_t_world 3), .inl (cy 0, 4, .inl f_t_world_guardAt)), ((a_t_world 1), .inl (cy 0, 48, .inl f_t_world_steam))] → va_S A s.heap H locs → lv_has ls 8 [(0, .ref (a_t 0)), (2, .int p2), (3, .long (x3_9 ||| ((1 : Int64) <<< (r20.toInt64 &&& 63)))), (5, .int x5_10), (6, .int r20), (7, .int x7_34)] → WW H locs (F0 m 84 ls []) := by
                intro n
                induction n with
                | zero => intro x7_34 f_t_sums_35 H locs ls h; exact (bb_no h).elim
                | succ n ih45 =>
                  intro x7_34 f_t_sums_35 H locs ls h hP hD hS hl
                  refine ofW _ _ _ ?_
                  obtain ⟨rec43, erec43, h⟩ := bb_loop2_o h
                  unfold uX5_leastSteam_s84 at h
                  refine lv_iload hx hb dX5_leastSteam_84 (lv_at hl 5 rfl) ?_
                  refine lv_iconst (v := (4 : Int32)) hx hb dX5_leastSteam_86 (by decide) ?_
                  refine lv_icmp_gt (tgt := 114) hx hb dX5_leastSteam_87 (by decide) (fun c46 => ?_) (fun c46 => ?_)
                  · replace h := bb_ifp c46 h
                    exact toW _ _ _ (Jk33 f_t_sums_35 _ _ _ h hP hD hS (lv_sub hl [0, 1, 2, 3] rfl))
                  · replace h := bb_ifn c46 h
                    refine lv_aload_n hx hb dX5_leastSteam_90 rfl (lv_at hl 0 rfl) ?_
                    refine lv_iload hx hb dX5_leastSteam_91 (lv_at hl 4 rfl) ?_
                    refine lv_iload hx hb dX5_leastSteam_93 (lv_at hl 5 rfl) ?_
                    obtain ⟨r47, hc48, h⟩ := bb_b1_o h
                    refine vp_callSi (W.runS (As := [.int r20, .int x7_34]) (rest := [.ref (a_t 0)]) ⟨hx, hb, hml, hown, hts⟩ (kX0_beside l dC dI cy r20 x7_34 r47 hc48) (va_cwS 2 hts gX5_leastSteam_X0_beside rfl rfl rfl kdX0_beside ⟨Nat.le_of_ble_eq_true rfl, Nat.le_of_ble_eq_true rfl⟩) (bb_preS (hP.sub (ws' := []) [] rfl) hK) rfl rfl hl.1 rfl (lv_room (Nat.le_of_ble_eq_true rfl)) dX5_leastSteam_95 ⟨Nat.zero_le _, Nat.zero_le _⟩) (fun t49 et49 => ?_)
                    obtain rfl := et49
                    refine lv_aload_n hx hb dX5_leastSteam_98 rfl (lv_at hl 0 rfl) ?_
                    refine va_get (D := (dC, dI)) (ci := 4) (v := .ref (a_t 2)) (C := RX5) (T := TX5) (N := 2) hx hb hts iwX5 hown hK hP 0 rfl rfl 1 (by decide) lk1 (fun _ h9 => h9) rfl dX5_leastSteam_99 ?_
                    refine lv_iload hx hb dX5_leastSteam_102 (lv_at hl 4 rfl) ?_
                    obtain ⟨hi50, h⟩ := bb_ix_o h
                    refine va_iald hx hb hK hP 1 0 rfl rfl hi50 dX5_leastSteam_104 ?_
                    obtain ⟨w51, hc52, h⟩ := bb_b1_o h
                    refine bb_cwv (wr := []) (w1 := [((a_t 0), oX5 a_t a_t_world), ((a_t 2), .inl (cy 0, 48, .inl w51)), ((a_t_world 0), oX6 a_t_world v_t_world_sight v_t_world_bathers v_t_world_minute v_t_world_seenEver v_t_world_z), ((a_t_world 3), .inl (cy 0, 4, .inl f_t_world_guardAt)), ((a_t_world 1), .inl (cy 0, 48, .inl f_t_world_steam))]) (va_runV (As := [.int r47, .int (f_t_sums_35 r20.toNatClampNeg)]) (rest := []) ⟨hx, hb, hml, hown, hts⟩ (kX5_offer l dC dI cy H.size a_t a_t_world r47 (f_t_sums_35 r20.toNatClampNeg) f_t_sums_35 v_t_world_sight v_t_world_bathers v_t_world_minute v_t_world_seenEver v_t_world_z f_t_world_guardAt f_t_world_steam nn w51 hc52) (cwV 2 hts gX5_leastSteam_X5_offer rfl rfl rfl kdX5_offer ⟨Nat.le_of_ble_eq_true rfl, Nat.le_of_ble_eq_true rfl⟩) (bb_preVw (va_recv hK hP (ci := 4) (q0 := 0) rfl rfl) hP hK (hD.sub (ws' := [((a_t 0), oX5 a_t a_t_world), ((a_t 2), .inl (cy 0, 48, .inl f_t_sums_35)), ((a_t_world 0), oX6 a_t_world v_t_world_sight v_t_world_bathers v_t_world_minute v_t_world_seenEver v_t_world_z), ((a_t_world 3), .inl (cy 0, 4, .inl f_t_world_guardAt)), ((a_t_world 1), .inl (cy 0, 48, .inl f_t_world_steam))]) [0, 1, 2, 3, 4] (by decide) rfl)) rfl rfl hl.1 rfl (lv_room (Nat.le_of_ble_eq_true rfl)) dX5_leastSteam_105 ⟨Nat.zero_le _, Nat.zero_le _⟩) hP hD hS hA [0, 1, 2, 3, 4] [] rfl rfl (by decide) (by decide) (fun H locs hP hD hS => ?_)
                    have hP : va_P (dC, dI) vwCl [((a_t 0), oX5 a_t a_t_world), ((a_t 2), .inl (cy 0, 48, .inl w51)), ((a_t_world 0), oX6 a_t_world v_t_world_sight v_t_world_bathers v_t_world_minute v_t_world_seenEver v_t_world_z), ((a_t_world 3), .inl (cy 0, 4, .inl f_t_world_guardAt)), ((a_t_world 1), .inl (cy 0, 48, .inl f_t_world_steam))] H := hP
                    have hD : va_D A [((a_t 0), oX5 a_t a_t_world), ((a_t 2), .inl (cy 0, 48, .inl w51)), ((a_t_world 0), oX6 a_t_world v_t_world_sight v_t_world_bathers v_t_world_minute v_t_world_seenEver v_t_world_z), ((a_t_world 3), .inl (cy 0, 4, .inl f_t_world_guardAt)), ((a_t_world 1), .inl (cy 0, 48, .inl f_t_world_steam))] := hD
                    refine lv_iinc (v := x7_34 + (1 : Int32)) (lv' := [(7, .int (x7_34 + (1 : Int32))), (0, .ref (a_t 0)), (2, .int p2), (3, .long (x3_9 ||| ((1 : Int64) <<< (r20.toInt64 &&& 63)))), (5, .int x5_10), (6, .int r20)]) hx hb dX5_leastSteam_108 hl (k := 5) rfl rfl (by decide) rfl (fun ls hl => ?_)
                    refine lv_goto (tgt := 84) hx hb dX5_leastSteam_111 (by decide) ?_
                    rw [erec43] at h
                    exact toW _ _ _ (ih45 (x7_34 + (1 : Int32)) w51 _ _ _ h hP hD hS (lv_sub hl [1, 2, 3, 4, 5, 0] rfl))
              exact toW _ _ _ (L44 nn (1 : Int32) f_t_sums_11 _ _ _ h hP hD hS (lv_sub hl [3, 4, 1, 5, 2, 0] rfl))
            · replace h := bb_ifn c31 h
              exact toW _ _ _ (Jk7 r20 f_t_sums_11 _ _ _ h hP hD hS (lv_sub hl [1, 0] rfl))
          · replace h := bb_ifn c23 h
            refine lv_iconst (v := (-1 : Int32)) hx hb dX5_leastSteam_52 (by decide) ?_
            obtain ⟨rfl, rfl⟩ := bb_some2 h
            have hP9 := hP.sub (ws' := [((a_t 0), oX5 a_t a_t_world), ((a_t 2), .inl (cy 0, 48, .inl f_t_sums_11)), ((a_t_world 0), oX6 a_t_world v_t_world_sight v_t_world_bathers v_t_world_minute v_t_world_seenEver v_t_world_z), ((a_t_world 3), .inl (cy 0, 4, .inl f_t_world_guardAt)), ((a_t_world 1), .inl (cy 0, 48, .inl f_t_world_steam))]) [0, 1, 2, 3, 4] rfl
            have hD9 := hD.sub (ws' := [((a_t 0), oX5 a_t a_t_world), ((a_t 2), .inl (cy 0, 48, .inl f_t_sums_11)), ((a_t_world 0), oX6 a_t_world v_t_world_sight v_t_world_bathers v_t_world_minute v_t_world_seenEver v_t_world_z), ((a_t_world 3), .inl (cy 0, 4, .inl f_t_world_guardAt)), ((a_t_world 1), .inl (cy 0, 48, .inl f_t_world_steam))]) [0, 1, 2, 3, 4] (by decide) rfl
            exact W.iret hx hb hr (fun t ht hW => ⟨⟨_, (), rfl, rfl, by rw [ht]; exact hP9, va_K.moved hW.alike hK, hD9⟩, hS.F ht⟩) hS.2.2 dX5_leastSteam_53
    exact toW _ _ _ (L17 nn (0 : Int64) (0 : Int32) w3 _ _ _ h hP hD hS (lv_sub hl [2, 4, 1, 0] rfl))
  have L61 : ∀ (n : Nat) (x3_53 : Int32) (f_t_sums_54 : Nat → Int32) (H : Heap) (locs : List Loc) (ls : Array Slot), bb_loop2 (uX5_leastSteam_s2 k2) n x3_53 f_t_sums_54 = some (r, f_t_sums_o) → va_P (dC, dI) vwCl [((a_t 0), oX5 a_t a_t_world), ((a_t 2), .inl (cy 0, 48, .inl f_t_sums_54)), ((a_t_world 0), oX6 a_t_world v_t_world_sight v_t_world_bathers v_t_world_minute v_t_world_seenEver v_t_world_z), ((a_t_world 3), .inl (cy 0, 4, .inl f_t_world_guardAt)), ((a_t_world 1), .inl (cy 0, 48, .inl f_t_world_steam))] H → va_D A [((a_t 0), oX5 a_t a_t_world), ((a_t 2), .inl (cy 0, 48, .inl f_t_sums_54)), ((a_t_world 0), oX6 a_t_world v_t_world_sight v_t_world_bathers v_t_world_minute v_t_world_seenEver v_t_world_z), ((a_t_world 3), .inl (cy 0, 4, .inl f_t_world_guardAt)), ((a_t_world 1), .inl (cy 0, 48, .inl f_t_world_steam))] → va_S A s.heap H locs → lv_has ls 8 [(0, .ref (a_t 0)), (1, .int p1), (2, .int p2), (3, .int x3_53)] → WW H locs (F0 m 2 ls []) := by
    intro n
    induction n with
    | zero => intro x3_53 f_t_sums_54 H locs ls h; exact (bb_no h).elim
    | succ n ih62 =>
      intro x3_53 f_t_sums_54 H locs ls h hP hD hS hl
      refine ofW _ _ _ ?_
      obtain ⟨rec60, erec60, h⟩ := bb_loop2_o h
      unfold uX5_leastSteam_s2 at h
      refine lv_iload_n hx hb dX5_leastSteam_2 rfl (lv_at hl 3 rfl) ?_
      refine lv_bipush (v := (48 : Int32)) hx hb dX5_leastSteam_3 (by decide) ?_
      refine lv_icmp_ge (tgt := 22) hx hb dX5_leastSteam_5 (by decide) (fun c63 => ?_) (fun c63 => ?_)
      · replace h := bb_ifp c63 h
        exact toW _ _ _ (Jk2 f_t_sums_54 _ _ _ h hP hD hS (lv_sub hl [0, 1, 2] rfl))
      · replace h := bb_ifn c63 h
        refine lv_aload_n hx hb dX5_leastSteam_8 rfl (lv_at hl 0 rfl) ?_
        refine va_get (D := (dC, dI)) (ci := 4) (v := .ref (a_t 2)) (C := RX5) (T := TX5) (N := 2) hx hb hts iwX5 hown hK hP 0 rfl rfl 1 (by decide) lk1 (fun _ h9 => h9) rfl dX5_leastSteam_9 ?_
        refine lv_iload_n hx hb dX5_leastSteam_12 rfl (lv_at hl 3 rfl) ?_
        refine lv_ldc (v := (1000000 : Int32)) hx hb hown lk2 dX5_leastSteam_13 ?_
        obtain ⟨hi64, h⟩ := bb_ix_o h
        refine va_iast hx hb hK hP hD hS 1 0 rfl rfl hi64 dX5_leastSteam_15 (fun H locs hP hD hS => ?_)
        have hP : va_P (dC, dI) vwCl [((a_t 0), oX5 a_t a_t_world), ((a_t 2), .inl (cy 0, 48, .inl (upd f_t_sums_54 x3_53.toNatClampNeg (1000000 : Int32)))), ((a_t_world 0), oX6 a_t_world v_t_world_sight v_t_world_bathers v_t_world_minute v_t_world_seenEver v_t_world_z), ((a_t_world 3), .inl (cy 0, 4, .inl f_t_world_guardAt)), ((a_t_world 1), .inl (cy 0, 48, .inl f_t_world_steam))] H := hP
        have hD : va_D A [((a_t 0), oX5 a_t a_t_world), ((a_t 2), .inl (cy 0, 48, .inl (upd f_t_sums_54 x3_53.toNatClampNeg (1000000 : Int32)))), ((a_t_world 0), oX6 a_t_world v_t_world_sight v_t_world_bathers v_t_world_minute v_t_world_seenEver v_t_world_z), ((a_t_world 3), .inl (cy 0, 4, .inl f_t_world_guardAt)), ((a_t_world 1), .inl (cy 0, 48, .inl f_t_world_steam))] := hD
        refine lv_iinc (v := x3_53 + (1 : Int32)) (lv' := [(3, .int (x3_53 + (1 : Int32))), (0, .ref (a_t 0)), (1, .int p1), (2, .int p2)]) hx hb dX5_leastSteam_16 hl (k := 3) rfl rfl (by decide) rfl (fun ls hl => ?_)
        refine lv_goto (tgt := 2) hx hb dX5_leastSteam_19 (by decide) ?_
        rw [erec60] at h
        exact toW _ _ _ (ih62 (x3_53 + (1 : Int32)) (upd f_t_sums_54 x3_53.toNatClampNeg (1000000 : Int32)) _ _ _ h hP hD hS (lv_sub hl [1, 2, 3, 0] rfl))
  exact toW _ _ _ (L61 nn (0 : Int32) f_t_sums _ _ _ h hP hD hS (lv_sub hl [1, 2, 3, 0] rfl))
/-! X5_steamToHideRow -/
def uX5_steamToHideRow_s4 (nn : Nat) (x1_3 : Int32) (v_t_world_sight_4 : Int32) (f_t_world_guardAt_5 : Nat → Int32) (f_t_world_steam_6 : Nat → Int32) (rec7 : Int32 → Int32 → Option (Int32)) (x2_1 : Int32) (x3_2 : Int32) : Option (Int32) :=
  (if (8 : Int32) ≤ x3_2 then some x2_1 else bb_b1 (uX6_steamToHide nn ((x1_3 * (8 : Int32)) + x3_2) v_t_world_sight_4 f_t_world_guardAt_5 f_t_world_steam_6) (fun (r11 : Int32) => (if 0 ≤ r11 then rec7 (x2_1 + r11) (x3_2 + (1 : Int32)) else some (-1 : Int32))))
def uX5_steamToHideRow (nn : Nat) (p1 : Int32) (v_t_world_sight : Int32) (f_t_world_guardAt : Nat → Int32) (f_t_world_steam : Nat → Int32) : Option (Int32) :=
  bb_loop2 (uX5_steamToHideRow_s4 nn p1 v_t_world_sight f_t_world_guardAt f_t_world_steam) nn (0 : Int32) (0 : Int32)
theorem kdX5_steamToHideRow : yX5_steamToHideRow.cls = RX5 ∧ yX5_steamToHideRow.cls ≠ "java/lang/invoke/MethodHandle" ∧ yX5_steamToHideRow.cls ≠ "java/lang/invoke/VarHandle" ∧ (parseMethodDescriptor yX5_steamToHideRow.desc).map (fun d => d.parameters.length) = some 1 := by decide +kernel
set_option maxHeartbeats 4000000 in
set_option maxRecDepth 100000 in
theorem kX5_steamToHideRow (l : Launch) (dC : Nat → ClassId) (dI : Nat → Nat → Nat) (cy : Nat → ClassId) (a_t : Nat → Nat) (a_t_world : Nat → Nat) (p1 : Int32) (v_t_world_sight : Int32) (v_t_world_bathers : Int32) (v_t_world_minute : Int32) (v_t_world_seenEver : Int32) (v_t_world_z : Int32) (f_t_world_guardAt : Nat → Int32) (f_t_world_steam : Nat → Int32) (nn : Nat) (r : Int32) (h : uX5_steamToHideRow nn p1 v_t_world_sight f_t_world_guardAt f_t_world_steam = some r) : Met l yX5_steamToHideRow wsX5_steamToHideRow ({ frames := 3, cells := 0, slots := 0, locals := 66 }) (va_Pc [.ref (a_t 0), .int p1] (fun U => va_P (dC, dI) vwCl [((a_t 0), oX5 a_t a_t_world), ((a_t_world 0), oX6 a_t_world v_t_world_sight v_t_world_bathers v_t_world_minute v_t_world_seenEver v_t_world_z), ((a_t_world 3), .inl (cy 0, 4, .inl f_t_world_guardAt)), ((a_t_world 1), .inl (cy 0, 48, .inl f_t_world_steam))] U.heap ∧ va_K (dC, dI) vwCl (tyX cy) U)) (vp_Si (fun r2 => r = r2)) 0 0 (fun _ => False) := by
  refine Met.ofW (cc := cX5_steamToHideRow) (maxL := 5) (ret := (some .int)) (by decide) rfl ?_
  intro p e s m args below meth c s₁ B hml hv
  obtain ⟨rfl, hP, hK⟩ := hv
  have hx := B.exec
  have hb := B.bytes
  have hr := B.returns
  have hts := atoms_spec (ws := wsX5_steamToHideRow) B.pre
  have hown : s.vm.findClass RX5 = some m.cls := findClass_of_methodNamed B.named
  have hlocks := B.notSynchronized
  have iwX5 : ∀ w ∈ wsX50, w ∈ wsX5_steamToHideRow := fun w h9 => List.mem_cons_of_mem _ (List.mem_append_left _ (List.mem_append_right _ (h9)))
  have lk1 := hts (Cond.fieldLink RX5 7 "BathBorder$Ways" "world" "LBathBorder$World;") (List.mem_of_getElem? (i := 1) rfl)
  have hl := lv_entry ([.ref (a_t 0), .int p1]) (n := 5) (Nat.le_of_ble_eq_true rfl)
  rw [lg_entry_eq]
  generalize (lg_sl ([.ref (a_t 0), .int p1]) ++ List.replicate (5 - (lg_sl ([.ref (a_t 0), .int p1])).length) Slot.unset).toArray = ls at hl ⊢
  have hl : lv_has ls 5 [(0, .ref (a_t 0)), (1, .int p1)] := hl
  unfold uX5_steamToHideRow at h
  refine bb_cap (fun WW toW ofW => ?_)
  refine lv_iconst (v := (0 : Int32)) hx hb dX5_steamToHideRow_0 (by decide) ?_
  refine lv_istore_n (lv' := [(2, .int (0 : Int32)), (0, .ref (a_t 0)), (1, .int p1)]) hx hb dX5_steamToHideRow_1 rfl hl (by decide) rfl (fun ls hl => ?_)
  refine lv_iconst (v := (0 : Int32)) hx hb dX5_steamToHideRow_2 (by decide) ?_
  refine lv_istore_n (lv' := [(3, .int (0 : Int32)), (2, .int (0 : Int32)), (0, .ref (a_t 0)), (1, .int p1)]) hx hb dX5_steamToHideRow_3 rfl hl (by decide) rfl (fun ls hl => ?_)
  have L8 : ∀ (n : Nat) (x2_1 : Int32) (x3_2 : Int32) (ls : Array Slot), bb_loop2 (uX5_steamToHideRow_s4 nn p1 v_t_world_sight f_t_world_guardAt f_t_world_steam) n x2_1 x3_2 = some r → lv_has ls 5 [(0, .ref (a_t 0)), (1, .int p1), (2, .int x2_1), (3, .int x3_2)] → WW s.heap [] (F0 m 4 ls []) := by
    intro n
    induction n with
    | zero => intro x2_1 x3_2 ls h; exact (bb_no h).elim
    | succ n ih9 =>
      intro x2_1 x3_2 ls h hl
      refine ofW _ _ _ ?_
      obtain ⟨rec7, erec7, h⟩ := bb_loop2_o h
      unfold uX5_steamToHideRow_s4 at h
      refine lv_iload_n hx hb dX5_steamToHideRow_4 rfl (lv_at hl 3 rfl) ?_
      refine lv_bipush (v := (8 : Int32)) hx hb dX5_steamToHideRow_5 (by decide) ?_
      refine lv_icmp_ge (tgt := 43) hx hb dX5_steamToHideRow_7 (by decide) (fun c10 => ?_) (fun c10 => ?_)
      · replace h := bb_ifp c10 h
        refine lv_iload_n hx hb dX5_steamToHideRow_43 rfl (lv_at hl 2 rfl) ?_
        obtain rfl := bb_some1 h
        exact W.iret hx hb hr (fun t ht hW => ⟨_, rfl, rfl, ht⟩) (fun q hq => by cases hq) dX5_steamToHideRow_44
      · replace h := bb_ifn c10 h
        refine lv_aload_n hx hb dX5_steamToHideRow_10 rfl (lv_at hl 0 rfl) ?_
        refine va_get (D := (dC, dI)) (ci := 4) (v := .ref (a_t_world 0)) (C := RX5) (T := TX5) (N := 2) hx hb hts iwX5 hown hK hP 0 rfl rfl 0 (by decide) lk1 (fun _ h9 => h9) rfl dX5_steamToHideRow_11 ?_
        refine lv_iload_n hx hb dX5_steamToHideRow_14 rfl (lv_at hl 1 rfl) ?_
        refine lv_bipush (v := (8 : Int32)) hx hb dX5_steamToHideRow_15 (by decide) ?_
        refine lv_imul hx hb dX5_steamToHideRow_17 ?_
        refine lv_iload_n hx hb dX5_steamToHideRow_18 rfl (lv_at hl 3 rfl) ?_
        refine lv_iadd hx hb dX5_steamToHideRow_19 ?_
        obtain ⟨r11, hc12, h⟩ := bb_b1_o h
        refine vp_callSi (W.runV (As := [.int ((p1 * (8 : Int32)) + x3_2)]) (rest := []) ⟨hx, hb, hml, hown, hts⟩ (kX6_steamToHide l dC dI cy a_t_world ((p1 * (8 : Int32)) + x3_2) v_t_world_sight v_t_world_bathers v_t_world_minute v_t_world_seenEver v_t_world_z f_t_world_guardAt f_t_world_steam nn r11 hc12) (cwV 1 hts gX5_steamToHideRow_X6_steamToHide rfl rfl rfl kdX6_steamToHide ⟨Nat.le_of_ble_eq_true rfl, Nat.le_of_ble_eq_true rfl⟩) (bb_preV (va_recv hK hP (ci := 5) (q0 := 1) rfl rfl) (hP.sub (ws' := [((a_t_world 0), oX6 a_t_world v_t_world_sight v_t_world_bathers v_t_world_minute v_t_world_seenEver v_t_world_z), ((a_t_world 3), .inl (cy 0, 4, .inl f_t_world_guardAt)), ((a_t_world 1), .inl (cy 0, 48, .inl f_t_world_steam))]) [1, 2, 3] rfl) hK) rfl rfl hl.1 rfl (lv_room (Nat.le_of_ble_eq_true rfl)) dX5_steamToHideRow_20 ⟨Nat.zero_le _, Nat.zero_le _⟩) (fun t13 et13 => ?_)
        obtain rfl := et13
        refine lv_istore (lv' := [(4, .int r11), (0, .ref (a_t 0)), (1, .int p1), (2, .int x2_1), (3, .int x3_2)]) hx hb dX5_steamToHideRow_23 hl (by decide) rfl (fun ls hl => ?_)
        refine lv_iload hx hb dX5_steamToHideRow_25 (lv_at hl 0 rfl) ?_
        refine lv_if_ge (tgt := 32) hx hb dX5_steamToHideRow_27 (by decide) (fun c14 => ?_) (fun c14 => ?_)
        · replace h := bb_ifp c14 h
          refine lv_iload_n hx hb dX5_steamToHideRow_32 rfl (lv_at hl 3 rfl) ?_
          refine lv_iload hx hb dX5_steamToHideRow_33 (lv_at hl 0 rfl) ?_
          refine lv_iadd hx hb dX5_steamToHideRow_35 ?_
          refine lv_istore_n (lv' := [(2, .int (x2_1 + r11)), (4, .int r11), (0, .ref (a_t 0)), (1, .int p1), (3, .int x3_2)]) hx hb dX5_steamToHideRow_36 rfl hl (by decide) rfl (fun ls hl => ?_)
          refine lv_iinc (v := x3_2 + (1 : Int32)) (lv' := [(3, .int (x3_2 + (1 : Int32))), (2, .int (x2_1 + r11)), (4, .int r11), (0, .ref (a_t 0)), (1, .int p1)]) hx hb dX5_steamToHideRow_37 hl (k := 4) rfl rfl (by decide) rfl (fun ls hl => ?_)
          refine lv_goto (tgt := 4) hx hb dX5_steamToHideRow_40 (by decide) ?_
          rw [erec7] at h
          exact toW _ _ _ (ih9 (x2_1 + r11) (x3_2 + (1 : Int32)) _ h (lv_sub hl [3, 4, 1, 0] rfl))
        · replace h := bb_ifn c14 h
          refine lv_iconst (v := (-1 : Int32)) hx hb dX5_steamToHideRow_30 (by decide) ?_
          obtain rfl := bb_some1 h
          exact W.iret hx hb hr (fun t ht hW => ⟨_, rfl, rfl, ht⟩) (fun q hq => by cases hq) dX5_steamToHideRow_31
  exact toW _ _ _ (L8 nn (0 : Int32) (0 : Int32) _ h (lv_sub hl [2, 3, 1, 0] rfl))
/-! X5_cheapestRow -/
def uX5_cheapestRow_s7 (nn : Nat) (v_t_world_sight_4 : Int32) (f_t_world_guardAt_5 : Nat → Int32) (f_t_world_steam_6 : Nat → Int32) (rec7 : Int32 → Int32 → Int32 → Option (Int32)) (x1_1 : Int32) (x2_2 : Int32) (x3_3 : Int32) : Option (Int32) :=
  (if (6 : Int32) ≤ x3_3 then some x1_1 else bb_b1 (uX5_steamToHideRow nn x3_3 v_t_world_sight_4 f_t_world_guardAt_5 f_t_world_steam_6) (fun (r11 : Int32) => bb_cut (fun (x1_14 : Int32) (x2_15 : Int32) => rec7 x1_14 x2_15 (x3_3 + (1 : Int32))) (fun k16 => (if r11 < 0 then k16 x1_1 x2_2 else (if x2_2 ≤ r11 then k16 x1_1 x2_2 else k16 x3_3 r11)))))
def uX5_cheapestRow (nn : Nat) (v_t_world_sight : Int32) (f_t_world_guardAt : Nat → Int32) (f_t_world_steam : Nat → Int32) : Option (Int32) :=
  bb_loop3 (uX5_cheapestRow_s7 nn v_t_world_sight f_t_world_guardAt f_t_world_steam) nn (-1 : Int32) (1000000 : Int32) (0 : Int32)
theorem kdX5_cheapestRow : yX5_cheapestRow.cls = RX5 ∧ yX5_cheapestRow.cls ≠ "java/lang/invoke/MethodHandle" ∧ yX5_cheapestRow.cls ≠ "java/lang/invoke/VarHandle" ∧ (parseMethodDescriptor yX5_cheapestRow.desc).map (fun d => d.parameters.length) = some 0 := by decide +kernel
set_option maxHeartbeats 4000000 in
set_option maxRecDepth 100000 in
theorem kX5_cheapestRow (l : Launch) (dC : Nat → ClassId) (dI : Nat → Nat → Nat) (cy : Nat → ClassId) (a_t : Nat → Nat) (a_t_world : Nat → Nat) (v_t_world_sight : Int32) (v_t_world_bathers : Int32) (v_t_world_minute : Int32) (v_t_world_seenEver : Int32) (v_t_world_z : Int32) (f_t_world_guardAt : Nat → Int32) (f_t_world_steam : Nat → Int32) (nn : Nat) (r : Int32) (h : uX5_cheapestRow nn v_t_world_sight f_t_world_guardAt f_t_world_steam = some r) : Met l yX5_cheapestRow wsX5_cheapestRow ({ frames := 4, cells := 0, slots := 0, locals := 90 }) (va_Pc [.ref (a_t 0)] (fun U => va_P (dC, dI) vwCl [((a_t 0), oX5 a_t a_t_world), ((a_t_world 0), oX6 a_t_world v_t_world_sight v_t_world_bathers v_t_world_minute v_t_world_seenEver v_t_world_z), ((a_t_world 3), .inl (cy 0, 4, .inl f_t_world_guardAt)), ((a_t_world 1), .inl (cy 0, 48, .inl f_t_world_steam))] U.heap ∧ va_K (dC, dI) vwCl (tyX cy) U)) (vp_Si (fun r2 => r = r2)) 0 0 (fun _ => False) := by
  refine Met.ofW (cc := cX5_cheapestRow) (maxL := 5) (ret := (some .int)) (by decide) rfl ?_
  intro p e s m args below meth c s₁ B hml hv
  obtain ⟨rfl, hP, hK⟩ := hv
  have hx := B.exec
  have hb := B.bytes
  have hr := B.returns
  have hts := atoms_spec (ws := wsX5_cheapestRow) B.pre
  have hown : s.vm.findClass RX5 = some m.cls := findClass_of_methodNamed B.named
  have hlocks := B.notSynchronized
  have lk1 := hts (Cond.constant RX5 41 (1000000)) (List.mem_of_getElem? (i := 1) rfl)
  have hl := lv_entry ([.ref (a_t 0)]) (n := 5) (Nat.le_of_ble_eq_true rfl)
  rw [lg_entry_eq]
  generalize (lg_sl ([.ref (a_t 0)]) ++ List.replicate (5 - (lg_sl ([.ref (a_t 0)])).length) Slot.unset).toArray = ls at hl ⊢
  have hl : lv_has ls 5 [(0, .ref (a_t 0))] := hl
  unfold uX5_cheapestRow at h
  refine bb_cap (fun WW toW ofW => ?_)
  refine lv_iconst (v := (-1 : Int32)) hx hb dX5_cheapestRow_0 (by decide) ?_
  refine lv_istore_n (lv' := [(1, .int (-1 : Int32)), (0, .ref (a_t 0))]) hx hb dX5_cheapestRow_1 rfl hl (by decide) rfl (fun ls hl => ?_)
  refine lv_ldc (v := (1000000 : Int32)) hx hb hown lk1 dX5_cheapestRow_2 ?_
  refine lv_istore_n (lv' := [(2, .int (1000000 : Int32)), (1, .int (-1 : Int32)), (0, .ref (a_t 0))]) hx hb dX5_cheapestRow_4 rfl hl (by decide) rfl (fun ls hl => ?_)
  refine lv_iconst (v := (0 : Int32)) hx hb dX5_cheapestRow_5 (by decide) ?_
  refine lv_istore_n (lv' := [(3, .int (0 : Int32)), (2, .int (1000000 : Int32)), (1, .int (-1 : Int32)), (0, .ref (a_t 0))]) hx hb dX5_cheapestRow_6 rfl hl (by decide) rfl (fun ls hl => ?_)
  have L8 : ∀ (n : Nat) (x1_1 : Int32) (x2_2 : Int32) (x3_3 : Int32) (ls : Array Slot), bb_loop3 (uX5_cheapestRow_s7 nn v_t_world_sight f_t_world_guardAt f_t_world_steam) n x1_1 x2_2 x3_3 = some r → lv_has ls 5 [(0, .ref (a_t 0)), (1, .int x1_1), (2, .int x2_2), (3, .int x3_3)] → WW s.heap [] (F0 m 7 ls []) := by
    intro n
    induction n with
    | zero => intro x1_1 x2_2 x3_3 ls h; exact (bb_no h).elim
    | succ n ih9 =>
      intro x1_1 x2_2 x3_3 ls h hl
      refine ofW _ _ _ ?_
      obtain ⟨rec7, erec7, h⟩ := bb_loop3_o h
      unfold uX5_cheapestRow_s7 at h
      refine lv_iload_n hx hb dX5_cheapestRow_7 rfl (lv_at hl 3 rfl) ?_
      refine lv_bipush (v := (6 : Int32)) hx hb dX5_cheapestRow_8 (by decide) ?_
      refine lv_icmp_ge (tgt := 42) hx hb dX5_cheapestRow_10 (by decide) (fun c10 => ?_) (fun c10 => ?_)
      · replace h := bb_ifp c10 h
        refine lv_iload_n hx hb dX5_cheapestRow_42 rfl (lv_at hl 1 rfl) ?_
        obtain rfl := bb_some1 h
        exact W.iret hx hb hr (fun t ht hW => ⟨_, rfl, rfl, ht⟩) (fun q hq => by cases hq) dX5_cheapestRow_43
      · replace h := bb_ifn c10 h
        refine lv_aload_n hx hb dX5_cheapestRow_13 rfl (lv_at hl 0 rfl) ?_
        refine lv_iload_n hx hb dX5_cheapestRow_14 rfl (lv_at hl 3 rfl) ?_
        obtain ⟨r11, hc12, h⟩ := bb_b1_o h
        refine vp_callSi (W.runV (As := [.int x3_3]) (rest := []) ⟨hx, hb, hml, hown, hts⟩ (kX5_steamToHideRow l dC dI cy a_t a_t_world x3_3 v_t_world_sight v_t_world_bathers v_t_world_minute v_t_world_seenEver v_t_world_z f_t_world_guardAt f_t_world_steam nn r11 hc12) (cwV 1 hts gX5_cheapestRow_X5_steamToHideRow rfl rfl rfl kdX5_steamToHideRow ⟨Nat.le_of_ble_eq_true rfl, Nat.le_of_ble_eq_true rfl⟩) (bb_preV (va_recv hK hP (ci := 4) (q0 := 0) rfl rfl) hP hK) rfl rfl hl.1 rfl (lv_room (Nat.le_of_ble_eq_true rfl)) dX5_cheapestRow_15 ⟨Nat.zero_le _, Nat.zero_le _⟩) (fun t13 et13 => ?_)
        obtain rfl := et13
        refine lv_istore (lv' := [(4, .int r11), (0, .ref (a_t 0)), (1, .int x1_1), (2, .int x2_2), (3, .int x3_3)]) hx hb dX5_cheapestRow_18 hl (by decide) rfl (fun ls hl => ?_)
        refine lv_iload hx hb dX5_cheapestRow_20 (lv_at hl 0 rfl) ?_
        obtain ⟨k16, ek16, h⟩ := bb_cut_o h
        have Jk16 : ∀ (x1_14 : Int32) (x2_15 : Int32) (ls : Array Slot), k16 x1_14 x2_15 = some r → lv_has ls 5 [(0, .ref (a_t 0)), (1, .int x1_14), (2, .int x2_15), (3, .int x3_3)] → WW s.heap [] (F0 m 36 ls []) := by
          intro x1_14 x2_15 ls h hl
          refine ofW _ _ _ ?_
          subst ek16
          refine lv_iinc (v := x3_3 + (1 : Int32)) (lv' := [(3, .int (x3_3 + (1 : Int32))), (0, .ref (a_t 0)), (1, .int x1_14), (2, .int x2_15)]) hx hb dX5_cheapestRow_36 hl (k := 3) rfl rfl (by decide) rfl (fun ls hl => ?_)
          refine lv_goto (tgt := 7) hx hb dX5_cheapestRow_39 (by decide) ?_
          rw [erec7] at h
          exact toW _ _ _ (ih9 x1_14 x2_15 (x3_3 + (1 : Int32)) _ h (lv_sub hl [1, 2, 3, 0] rfl))
        refine lv_if_lt (tgt := 36) hx hb dX5_cheapestRow_22 (by decide) (fun c17 => ?_) (fun c17 => ?_)
        · replace h := bb_ifp c17 h
          exact toW _ _ _ (Jk16 x1_1 x2_2 _ h (lv_sub hl [1, 2, 3, 4] rfl))
        · replace h := bb_ifn c17 h
          refine lv_iload hx hb dX5_cheapestRow_25 (lv_at hl 0 rfl) ?_
          refine lv_iload_n hx hb dX5_cheapestRow_27 rfl (lv_at hl 3 rfl) ?_
          refine lv_icmp_ge (tgt := 36) hx hb dX5_cheapestRow_28 (by decide) (fun c18 => ?_) (fun c18 => ?_)
          · replace h := bb_ifp c18 h
            exact toW _ _ _ (Jk16 x1_1 x2_2 _ h (lv_sub hl [1, 2, 3, 4] rfl))
          · replace h := bb_ifn c18 h
            refine lv_iload_n hx hb dX5_cheapestRow_31 rfl (lv_at hl 4 rfl) ?_
            refine lv_istore_n (lv' := [(1, .int x3_3), (4, .int r11), (0, .ref (a_t 0)), (2, .int x2_2), (3, .int x3_3)]) hx hb dX5_cheapestRow_32 rfl hl (by decide) rfl (fun ls hl => ?_)
            refine lv_iload hx hb dX5_cheapestRow_33 (lv_at hl 1 rfl) ?_
            refine lv_istore_n (lv' := [(2, .int r11), (1, .int x3_3), (4, .int r11), (0, .ref (a_t 0)), (3, .int x3_3)]) hx hb dX5_cheapestRow_35 rfl hl (by decide) rfl (fun ls hl => ?_)
            exact toW _ _ _ (Jk16 x3_3 r11 _ h (lv_sub hl [3, 1, 0, 4] rfl))
  exact toW _ _ _ (L8 nn (-1 : Int32) (1000000 : Int32) (0 : Int32) _ h (lv_sub hl [3, 2, 1, 0] rfl))
/-! X6_become -/
def uX6_become (v_p1_sight : Int32) (v_p1_bathers : Int32) (v_p1_minute : Int32) (v_p1_seenEver : Int32) (v_p1_z : Int32) (v_t_sight : Int32) (v_t_bathers : Int32) (v_t_minute : Int32) (v_t_seenEver : Int32) (v_t_z : Int32) (f_p1_at : Nat → Int32) (f_p1_current : Nat → Int32) (f_p1_guardAt : Nat → Int32) (f_p1_key : Nat → Int32) (f_p1_kind : Nat → Int32) (f_p1_spot : Nat → Int32) (f_p1_steam : Nat → Int32) (f_p1_wish : Nat → Int32) (f_p1_wrinkles : Nat → Int32) (f_t_at : Nat → Int32) (f_t_current : Nat → Int32) (f_t_guardAt : Nat → Int32) (f_t_key : Nat → Int32) (f_t_kind : Nat → Int32) (f_t_spot : Nat → Int32) (f_t_steam : Nat → Int32) (f_t_wish : Nat → Int32) (f_t_wrinkles : Nat → Int32) : Option ((Int32) × (Int32) × (Int32) × (Int32) × (Int32) × (Nat → Int32) × (Nat → Int32) × (Nat → Int32) × (Nat → Int32) × (Nat → Int32) × (Nat → Int32) × (Nat → Int32) × (Nat → Int32) × (Nat → Int32)) :=
  bb_cp (0 : Int32) (0 : Int32) (48 : Int32) 48 48 (bb_cp (0 : Int32) (0 : Int32) (48 : Int32) 48 48 (bb_cp (0 : Int32) (0 : Int32) (4 : Int32) 4 4 (bb_cp (0 : Int32) (0 : Int32) (8 : Int32) 8 8 (bb_cp (0 : Int32) (0 : Int32) (8 : Int32) 8 8 (bb_cp (0 : Int32) (0 : Int32) (8 : Int32) 8 8 (bb_cp (0 : Int32) (0 : Int32) (8 : Int32) 8 8 (bb_cp (0 : Int32) (0 : Int32) (8 : Int32) 8 8 (bb_cp (0 : Int32) (0 : Int32) (10 : Int32) 10 10 (some (v_p1_sight, v_p1_bathers, v_p1_minute, v_p1_seenEver, v_p1_z, va_cpy f_p1_at f_t_at (0 : Int32).toNatClampNeg (0 : Int32).toNatClampNeg (8 : Int32).toNatClampNeg, va_cpy f_p1_current f_t_current (0 : Int32).toNatClampNeg (0 : Int32).toNatClampNeg (48 : Int32).toNatClampNeg, va_cpy f_p1_guardAt f_t_guardAt (0 : Int32).toNatClampNeg (0 : Int32).toNatClampNeg (4 : Int32).toNatClampNeg, va_cpy f_p1_key f_t_key (0 : Int32).toNatClampNeg (0 : Int32).toNatClampNeg (8 : Int32).toNatClampNeg, va_cpy f_p1_kind f_t_kind (0 : Int32).toNatClampNeg (0 : Int32).toNatClampNeg (8 : Int32).toNatClampNeg, va_cpy f_p1_spot f_t_spot (0 : Int32).toNatClampNeg (0 : Int32).toNatClampNeg (10 : Int32).toNatClampNeg, va_cpy f_p1_steam f_t_steam (0 : Int32).toNatClampNeg (0 : Int32).toNatClampNeg (48 : Int32).toNatClampNeg, va_cpy f_p1_wish f_t_wish (0 : Int32).toNatClampNeg (0 : Int32).toNatClampNeg (8 : Int32).toNatClampNeg, va_cpy f_p1_wrinkles f_t_wrinkles (0 : Int32).toNatClampNeg (0 : Int32).toNatClampNeg (8 : Int32).toNatClampNeg))))))))))
theorem kdX6_become : yX6_become.cls = RX6 ∧ yX6_become.cls ≠ "java/lang/invoke/MethodHandle" ∧ yX6_become.cls ≠ "java/lang/invoke/VarHandle" ∧ (parseMethodDescriptor yX6_become.desc).map (fun d => d.parameters.length) = some 1 := by decide +kernel
set_option maxHeartbeats 4000000 in
set_option maxRecDepth 100000 in
theorem kX6_become (l : Launch) (dC : Nat → ClassId) (dI : Nat → Nat → Nat) (cy : Nat → ClassId) (sz : Nat) (a_p1 : Nat → Nat) (a_t : Nat → Nat) (v_p1_sight : Int32) (v_p1_bathers : Int32) (v_p1_minute : Int32) (v_p1_seenEver : Int32) (v_p1_z : Int32) (v_t_sight : Int32) (v_t_bathers : Int32) (v_t_minute : Int32) (v_t_seenEver : Int32) (v_t_z : Int32) (f_p1_at : Nat → Int32) (f_p1_current : Nat → Int32) (f_p1_guardAt : Nat → Int32) (f_p1_key : Nat → Int32) (f_p1_kind : Nat → Int32) (f_p1_spot : Nat → Int32) (f_p1_steam : Nat → Int32) (f_p1_wish : Nat → Int32) (f_p1_wrinkles : Nat → Int32) (f_t_at : Nat → Int32) (f_t_current : Nat → Int32) (f_t_guardAt : Nat → Int32) (f_t_key : Nat → Int32) (f_t_kind : Nat → Int32) (f_t_spot : Nat → Int32) (f_t_steam : Nat → Int32) (f_t_wish : Nat → Int32) (f_t_wrinkles : Nat → Int32) (v_t_sight_o : Int32) (v_t_bathers_o : Int32) (v_t_minute_o : Int32) (v_t_seenEver_o : Int32) (v_t_z_o : Int32) (f_t_at_o : Nat → Int32) (f_t_current_o : Nat → Int32) (f_t_guardAt_o : Nat → Int32) (f_t_key_o : Nat → Int32) (f_t_kind_o : Nat → Int32) (f_t_spot_o : Nat → Int32) (f_t_steam_o : Nat → Int32) (f_t_wish_o : Nat → Int32) (f_t_wrinkles_o : Nat → Int32) (h : uX6_become v_p1_sight v_p1_bathers v_p1_minute v_p1_seenEver v_p1_z v_t_sight v_t_bathers v_t_minute v_t_seenEver v_t_z f_p1_at f_p1_current f_p1_guardAt f_p1_key f_p1_kind f_p1_spot f_p1_steam f_p1_wish f_p1_wrinkles f_t_at f_t_current f_t_guardAt f_t_key f_t_kind f_t_spot f_t_steam f_t_wish f_t_wrinkles = some (v_t_sight_o, v_t_bathers_o, v_t_minute_o, v_t_seenEver_o, v_t_z_o, f_t_at_o, f_t_current_o, f_t_guardAt_o, f_t_key_o, f_t_kind_o, f_t_spot_o, f_t_steam_o, f_t_wish_o, f_t_wrinkles_o)) : Met l yX6_become wsX6_become ({ frames := 1, cells := 0, slots := 0, locals := 38 }) (va_Pc [.ref (a_t 0), .ref (a_p1 0)] (fun U => U.heap.size = sz ∧ va_P (dC, dI) vwCl [((a_p1 0), oX6 a_p1 v_p1_sight v_p1_bathers v_p1_minute v_p1_seenEver v_p1_z), ((a_t 0), oX6 a_t v_t_sight v_t_bathers v_t_minute v_t_seenEver v_t_z), ((a_p1 5), .inl (cy 0, 8, .inl f_p1_at)), ((a_p1 2), .inl (cy 0, 48, .inl f_p1_current)), ((a_p1 3), .inl (cy 0, 4, .inl f_p1_guardAt)), ((a_p1 8), .inl (cy 0, 8, .inl f_p1_key)), ((a_p1 4), .inl (cy 0, 8, .inl f_p1_kind)), ((a_p1 9), .inl (cy 0, 10, .inl f_p1_spot)), ((a_p1 1), .inl (cy 0, 48, .inl f_p1_steam)), ((a_p1 6), .inl (cy 0, 8, .inl f_p1_wish)), ((a_p1 7), .inl (cy 0, 8, .inl f_p1_wrinkles)), ((a_t 5), .inl (cy 0, 8, .inl f_t_at)), ((a_t 2), .inl (cy 0, 48, .inl f_t_current)), ((a_t 3), .inl (cy 0, 4, .inl f_t_guardAt)), ((a_t 8), .inl (cy 0, 8, .inl f_t_key)), ((a_t 4), .inl (cy 0, 8, .inl f_t_kind)), ((a_t 9), .inl (cy 0, 10, .inl f_t_spot)), ((a_t 1), .inl (cy 0, 48, .inl f_t_steam)), ((a_t 6), .inl (cy 0, 8, .inl f_t_wish)), ((a_t 7), .inl (cy 0, 8, .inl f_t_wrinkles))] U.heap ∧ va_K (dC, dI) vwCl (tyX cy) U ∧ va_D (fun _ => True) [((a_p1 0), oX6 a_p1 v_p1_sight v_p1_bathers v_p1_minute v_p1_seenEver v_p1_z), ((a_t 0), oX6 a_t v_t_sight v_t_bathers v_t_minute v_t_seenEver v_t_z), ((a_p1 5), .inl (cy 0, 8, .inl f_p1_at)), ((a_p1 2), .inl (cy 0, 48, .inl f_p1_current)), ((a_p1 3), .inl (cy 0, 4, .inl f_p1_guardAt)), ((a_p1 8), .inl (cy 0, 8, .inl f_p1_key)), ((a_p1 4), .inl (cy 0, 8, .inl f_p1_kind)), ((a_p1 9), .inl (cy 0, 10, .inl f_p1_spot)), ((a_p1 1), .inl (cy 0, 48, .inl f_p1_steam)), ((a_p1 6), .inl (cy 0, 8, .inl f_p1_wish)), ((a_p1 7), .inl (cy 0, 8, .inl f_p1_wrinkles)), ((a_t 5), .inl (cy 0, 8, .inl f_t_at)), ((a_t 2), .inl (cy 0, 48, .inl f_t_current)), ((a_t 3), .inl (cy 0, 4, .inl f_t_guardAt)), ((a_t 8), .inl (cy 0, 8, .inl f_t_key)), ((a_t 4), .inl (cy 0, 8, .inl f_t_kind)), ((a_t 9), .inl (cy 0, 10, .inl f_t_spot)), ((a_t 1), .inl (cy 0, 48, .inl f_t_steam)), ((a_t 6), .inl (cy 0, 8, .inl f_t_wish)), ((a_t 7), .inl (cy 0, 8, .inl f_t_wrinkles))])) (va_Qv (fun (_ : Unit) => True) (fun _ t => va_P (dC, dI) vwCl [((a_p1 0), oX6 a_p1 v_p1_sight v_p1_bathers v_p1_minute v_p1_seenEver v_p1_z), ((a_t 0), oX6 a_t v_t_sight_o v_t_bathers_o v_t_minute_o v_t_seenEver_o v_t_z_o), ((a_p1 5), .inl (cy 0, 8, .inl f_p1_at)), ((a_p1 2), .inl (cy 0, 48, .inl f_p1_current)), ((a_p1 3), .inl (cy 0, 4, .inl f_p1_guardAt)), ((a_p1 8), .inl (cy 0, 8, .inl f_p1_key)), ((a_p1 4), .inl (cy 0, 8, .inl f_p1_kind)), ((a_p1 9), .inl (cy 0, 10, .inl f_p1_spot)), ((a_p1 1), .inl (cy 0, 48, .inl f_p1_steam)), ((a_p1 6), .inl (cy 0, 8, .inl f_p1_wish)), ((a_p1 7), .inl (cy 0, 8, .inl f_p1_wrinkles)), ((a_t 5), .inl (cy 0, 8, .inl f_t_at_o)), ((a_t 2), .inl (cy 0, 48, .inl f_t_current_o)), ((a_t 3), .inl (cy 0, 4, .inl f_t_guardAt_o)), ((a_t 8), .inl (cy 0, 8, .inl f_t_key_o)), ((a_t 4), .inl (cy 0, 8, .inl f_t_kind_o)), ((a_t 9), .inl (cy 0, 10, .inl f_t_spot_o)), ((a_t 1), .inl (cy 0, 48, .inl f_t_steam_o)), ((a_t 6), .inl (cy 0, 8, .inl f_t_wish_o)), ((a_t 7), .inl (cy 0, 8, .inl f_t_wrinkles_o))] t.heap ∧ va_K (dC, dI) vwCl (tyX cy) t ∧ va_D (va_A [((a_p1 0), oX6 a_p1 v_p1_sight v_p1_bathers v_p1_minute v_p1_seenEver v_p1_z), ((a_t 0), oX6 a_t v_t_sight v_t_bathers v_t_minute v_t_seenEver v_t_z), ((a_p1 5), .inl (cy 0, 8, .inl f_p1_at)), ((a_p1 2), .inl (cy 0, 48, .inl f_p1_current)), ((a_p1 3), .inl (cy 0, 4, .inl f_p1_guardAt)), ((a_p1 8), .inl (cy 0, 8, .inl f_p1_key)), ((a_p1 4), .inl (cy 0, 8, .inl f_p1_kind)), ((a_p1 9), .inl (cy 0, 10, .inl f_p1_spot)), ((a_p1 1), .inl (cy 0, 48, .inl f_p1_steam)), ((a_p1 6), .inl (cy 0, 8, .inl f_p1_wish)), ((a_p1 7), .inl (cy 0, 8, .inl f_p1_wrinkles)), ((a_t 5), .inl (cy 0, 8, .inl f_t_at)), ((a_t 2), .inl (cy 0, 48, .inl f_t_current)), ((a_t 3), .inl (cy 0, 4, .inl f_t_guardAt)), ((a_t 8), .inl (cy 0, 8, .inl f_t_key)), ((a_t 4), .inl (cy 0, 8, .inl f_t_kind)), ((a_t 9), .inl (cy 0, 10, .inl f_t_spot)), ((a_t 1), .inl (cy 0, 48, .inl f_t_steam)), ((a_t 6), .inl (cy 0, 8, .inl f_t_wish)), ((a_t 7), .inl (cy 0, 8, .inl f_t_wrinkles))] sz) [((a_p1 0), oX6 a_p1 v_p1_sight v_p1_bathers v_p1_minute v_p1_seenEver v_p1_z), ((a_t 0), oX6 a_t v_t_sight_o v_t_bathers_o v_t_minute_o v_t_seenEver_o v_t_z_o), ((a_p1 5), .inl (cy 0, 8, .inl f_p1_at)), ((a_p1 2), .inl (cy 0, 48, .inl f_p1_current)), ((a_p1 3), .inl (cy 0, 4, .inl f_p1_guardAt)), ((a_p1 8), .inl (cy 0, 8, .inl f_p1_key)), ((a_p1 4), .inl (cy 0, 8, .inl f_p1_kind)), ((a_p1 9), .inl (cy 0, 10, .inl f_p1_spot)), ((a_p1 1), .inl (cy 0, 48, .inl f_p1_steam)), ((a_p1 6), .inl (cy 0, 8, .inl f_p1_wish)), ((a_p1 7), .inl (cy 0, 8, .inl f_p1_wrinkles)), ((a_t 5), .inl (cy 0, 8, .inl f_t_at_o)), ((a_t 2), .inl (cy 0, 48, .inl f_t_current_o)), ((a_t 3), .inl (cy 0, 4, .inl f_t_guardAt_o)), ((a_t 8), .inl (cy 0, 8, .inl f_t_key_o)), ((a_t 4), .inl (cy 0, 8, .inl f_t_kind_o)), ((a_t 9), .inl (cy 0, 10, .inl f_t_spot_o)), ((a_t 1), .inl (cy 0, 48, .inl f_t_steam_o)), ((a_t 6), .inl (cy 0, 8, .inl f_t_wish_o)), ((a_t 7), .inl (cy 0, 8, .inl f_t_wrinkles_o))]) (va_A [((a_p1 0), oX6 a_p1 v_p1_sight v_p1_bathers v_p1_minute v_p1_seenEver v_p1_z), ((a_t 0), oX6 a_t v_t_sight v_t_bathers v_t_minute v_t_seenEver v_t_z), ((a_p1 5), .inl (cy 0, 8, .inl f_p1_at)), ((a_p1 2), .inl (cy 0, 48, .inl f_p1_current)), ((a_p1 3), .inl (cy 0, 4, .inl f_p1_guardAt)), ((a_p1 8), .inl (cy 0, 8, .inl f_p1_key)), ((a_p1 4), .inl (cy 0, 8, .inl f_p1_kind)), ((a_p1 9), .inl (cy 0, 10, .inl f_p1_spot)), ((a_p1 1), .inl (cy 0, 48, .inl f_p1_steam)), ((a_p1 6), .inl (cy 0, 8, .inl f_p1_wish)), ((a_p1 7), .inl (cy 0, 8, .inl f_p1_wrinkles)), ((a_t 5), .inl (cy 0, 8, .inl f_t_at)), ((a_t 2), .inl (cy 0, 48, .inl f_t_current)), ((a_t 3), .inl (cy 0, 4, .inl f_t_guardAt)), ((a_t 8), .inl (cy 0, 8, .inl f_t_key)), ((a_t 4), .inl (cy 0, 8, .inl f_t_kind)), ((a_t 9), .inl (cy 0, 10, .inl f_t_spot)), ((a_t 1), .inl (cy 0, 48, .inl f_t_steam)), ((a_t 6), .inl (cy 0, 8, .inl f_t_wish)), ((a_t 7), .inl (cy 0, 8, .inl f_t_wrinkles))] sz)) 0 0 (va_A [((a_p1 0), oX6 a_p1 v_p1_sight v_p1_bathers v_p1_minute v_p1_seenEver v_p1_z), ((a_t 0), oX6 a_t v_t_sight v_t_bathers v_t_minute v_t_seenEver v_t_z), ((a_p1 5), .inl (cy 0, 8, .inl f_p1_at)), ((a_p1 2), .inl (cy 0, 48, .inl f_p1_current)), ((a_p1 3), .inl (cy 0, 4, .inl f_p1_guardAt)), ((a_p1 8), .inl (cy 0, 8, .inl f_p1_key)), ((a_p1 4), .inl (cy 0, 8, .inl f_p1_kind)), ((a_p1 9), .inl (cy 0, 10, .inl f_p1_spot)), ((a_p1 1), .inl (cy 0, 48, .inl f_p1_steam)), ((a_p1 6), .inl (cy 0, 8, .inl f_p1_wish)), ((a_p1 7), .inl (cy 0, 8, .inl f_p1_wrinkles)), ((a_t 5), .inl (cy 0, 8, .inl f_t_at)), ((a_t 2), .inl (cy 0, 48, .inl f_t_current)), ((a_t 3), .inl (cy 0, 4, .inl f_t_guardAt)), ((a_t 8), .inl (cy 0, 8, .inl f_t_key)), ((a_t 4), .inl (cy 0, 8, .inl f_t_kind)), ((a_t 9), .inl (cy 0, 10, .inl f_t_spot)), ((a_t 1), .inl (cy 0, 48, .inl f_t_steam)), ((a_t 6), .inl (cy 0, 8, .inl f_t_wish)), ((a_t 7), .inl (cy 0, 8, .inl f_t_wrinkles))] sz) := by
  refine Met.ofW (cc := cX6_become) (maxL := 2) (ret := none) (by decide) rfl ?_
  intro p e s m args below meth c s₁ B hml hv
  obtain ⟨rfl, hsz, hP, hK, hD0⟩ := hv
  have hx := B.exec
  have hb := B.bytes
  have hr := B.returns
  have hts := atoms_spec (ws := wsX6_become) B.pre
  have hown : s.vm.findClass RX6 = some m.cls := findClass_of_methodNamed B.named
  have hlocks := B.notSynchronized
  have iwX6 : ∀ w ∈ wsX60, w ∈ wsX6_become := fun w h9 => List.mem_cons_of_mem _ (List.mem_append_right _ (h9))
  have lk1 := hts (Cond.fieldLink RX6 11 "BathBorder$World" "steam" "[I") (List.mem_of_getElem? (i := 1) rfl)
  have lk2 := hts (Cond.methodLink RX6 48 arraycopyName) (List.mem_of_getElem? (i := 2) rfl)
  have lk3 := hts (Cond.native arraycopyName) (List.mem_of_getElem? (i := 3) rfl)
  have lk4 := hts (Cond.static arraycopyName) (List.mem_of_getElem? (i := 4) rfl)
  have lk5 := hts (Cond.initialized "java/lang/System") (List.mem_of_getElem? (i := 5) rfl)
  have lk6 := hts (Cond.fieldLink RX6 17 "BathBorder$World" "current" "[I") (List.mem_of_getElem? (i := 6) rfl)
  have lk7 := hts (Cond.fieldLink RX6 20 "BathBorder$World" "guardAt" "[I") (List.mem_of_getElem? (i := 7) rfl)
  have lk8 := hts (Cond.fieldLink RX6 23 "BathBorder$World" "kind" "[I") (List.mem_of_getElem? (i := 8) rfl)
  have lk9 := hts (Cond.fieldLink RX6 26 "BathBorder$World" "at" "[I") (List.mem_of_getElem? (i := 9) rfl)
  have lk10 := hts (Cond.fieldLink RX6 29 "BathBorder$World" "wish" "[I") (List.mem_of_getElem? (i := 10) rfl)
  have lk11 := hts (Cond.fieldLink RX6 32 "BathBorder$World" "wrinkles" "[I") (List.mem_of_getElem? (i := 11) rfl)
  have lk12 := hts (Cond.fieldLink RX6 35 "BathBorder$World" "key" "[I") (List.mem_of_getElem? (i := 12) rfl)
  have lk13 := hts (Cond.fieldLink RX6 38 "BathBorder$World" "spot" "[I") (List.mem_of_getElem? (i := 13) rfl)
  have lk14 := hts (Cond.fieldLink RX6 41 "BathBorder$World" "sight" "I") (List.mem_of_getElem? (i := 14) rfl)
  have lk15 := hts (Cond.fieldLink RX6 54 "BathBorder$World" "bathers" "I") (List.mem_of_getElem? (i := 15) rfl)
  have lk16 := hts (Cond.fieldLink RX6 57 "BathBorder$World" "minute" "I") (List.mem_of_getElem? (i := 16) rfl)
  have lk17 := hts (Cond.fieldLink RX6 60 "BathBorder$World" "seenEver" "I") (List.mem_of_getElem? (i := 17) rfl)
  have lk18 := hts (Cond.fieldLink RX6 45 "BathBorder$World" "z" "I") (List.mem_of_getElem? (i := 18) rfl)
  subst hsz
  have hD := hD0.self (sz := s.heap.size)
  generalize hAe : va_A [((a_p1 0), oX6 a_p1 v_p1_sight v_p1_bathers v_p1_minute v_p1_seenEver v_p1_z), ((a_t 0), oX6 a_t v_t_sight v_t_bathers v_t_minute v_t_seenEver v_t_z), ((a_p1 5), .inl (cy 0, 8, .inl f_p1_at)), ((a_p1 2), .inl (cy 0, 48, .inl f_p1_current)), ((a_p1 3), .inl (cy 0, 4, .inl f_p1_guardAt)), ((a_p1 8), .inl (cy 0, 8, .inl f_p1_key)), ((a_p1 4), .inl (cy 0, 8, .inl f_p1_kind)), ((a_p1 9), .inl (cy 0, 10, .inl f_p1_spot)), ((a_p1 1), .inl (cy 0, 48, .inl f_p1_steam)), ((a_p1 6), .inl (cy 0, 8, .inl f_p1_wish)), ((a_p1 7), .inl (cy 0, 8, .inl f_p1_wrinkles)), ((a_t 5), .inl (cy 0, 8, .inl f_t_at)), ((a_t 2), .inl (cy 0, 48, .inl f_t_current)), ((a_t 3), .inl (cy 0, 4, .inl f_t_guardAt)), ((a_t 8), .inl (cy 0, 8, .inl f_t_key)), ((a_t 4), .inl (cy 0, 8, .inl f_t_kind)), ((a_t 9), .inl (cy 0, 10, .inl f_t_spot)), ((a_t 1), .inl (cy 0, 48, .inl f_t_steam)), ((a_t 6), .inl (cy 0, 8, .inl f_t_wish)), ((a_t 7), .inl (cy 0, 8, .inl f_t_wrinkles))] s.heap.size = A at hD ⊢
  have hA : ∀ q : Nat, s.heap.size ≤ q → A q := fun q h => by rw [← hAe]; exact Or.inr h
  have hS : va_S A s.heap s.heap [] := va_S.rf
  have hP : va_P (dC, dI) vwCl [((a_p1 0), oX6 a_p1 v_p1_sight v_p1_bathers v_p1_minute v_p1_seenEver v_p1_z), ((a_t 0), oX6 a_t v_t_sight v_t_bathers v_t_minute v_t_seenEver v_t_z), ((a_p1 5), .inl (cy 0, 8, .inl f_p1_at)), ((a_p1 2), .inl (cy 0, 48, .inl f_p1_current)), ((a_p1 3), .inl (cy 0, 4, .inl f_p1_guardAt)), ((a_p1 8), .inl (cy 0, 8, .inl f_p1_key)), ((a_p1 4), .inl (cy 0, 8, .inl f_p1_kind)), ((a_p1 9), .inl (cy 0, 10, .inl f_p1_spot)), ((a_p1 1), .inl (cy 0, 48, .inl f_p1_steam)), ((a_p1 6), .inl (cy 0, 8, .inl f_p1_wish)), ((a_p1 7), .inl (cy 0, 8, .inl f_p1_wrinkles)), ((a_t 5), .inl (cy 0, 8, .inl f_t_at)), ((a_t 2), .inl (cy 0, 48, .inl f_t_current)), ((a_t 3), .inl (cy 0, 4, .inl f_t_guardAt)), ((a_t 8), .inl (cy 0, 8, .inl f_t_key)), ((a_t 4), .inl (cy 0, 8, .inl f_t_kind)), ((a_t 9), .inl (cy 0, 10, .inl f_t_spot)), ((a_t 1), .inl (cy 0, 48, .inl f_t_steam)), ((a_t 6), .inl (cy 0, 8, .inl f_t_wish)), ((a_t 7), .inl (cy 0, 8, .inl f_t_wrinkles))] s.heap := hP
  have hl := lv_entry ([.ref (a_t 0), .ref (a_p1 0)]) (n := 2) (Nat.le_of_ble_eq_true rfl)
  rw [lg_entry_eq]
  generalize (lg_sl ([.ref (a_t 0), .ref (a_p1 0)]) ++ List.replicate (2 - (lg_sl ([.ref (a_t 0), .ref (a_p1 0)])).length) Slot.unset).toArray = ls at hl ⊢
  have hl : lv_has ls 2 [(0, .ref (a_t 0)), (1, .ref (a_p1 0))] := hl
  unfold uX6_become at h
  refine bb_cap (fun WW toW ofW => ?_)
  refine lv_aload_n hx hb dX6_become_0 rfl (lv_at hl 1 rfl) ?_
  refine va_get (D := (dC, dI)) (ci := 5) (v := .ref (a_p1 1)) (C := RX6) (T := TX6) (N := 14) hx hb hts iwX6 hown hK hP 0 rfl rfl 0 (by decide) lk1 (fun _ h9 => h9) rfl dX6_become_1 ?_
  refine lv_iconst (v := (0 : Int32)) hx hb dX6_become_4 (by decide) ?_
  refine lv_aload_n hx hb dX6_become_5 rfl (lv_at hl 0 rfl) ?_
  refine va_get (D := (dC, dI)) (ci := 5) (v := .ref (a_t 1)) (C := RX6) (T := TX6) (N := 14) hx hb hts iwX6 hown hK hP 1 rfl rfl 0 (by decide) lk1 (fun _ h9 => h9) rfl dX6_become_6 ?_
  refine lv_iconst (v := (0 : Int32)) hx hb dX6_become_9 (by decide) ?_
  refine lv_bipush (v := (48 : Int32)) hx hb dX6_become_10 (by decide) ?_
  obtain ⟨hy1, h⟩ := bb_cp_o h
  refine va_copyi hx hb (hml.trans hl.1.symm) hown lk2 lk3 lk4 lk5 hK hP hD hS 8 17 0 0 rfl rfl rfl rfl rfl hy1.1 hy1.2.1 hy1.2.2.1 hy1.2.2.2.1 hy1.2.2.2.2 (fun _ _ => rfl) (Nat.le_of_ble_eq_true rfl) (Nat.le_of_ble_eq_true rfl) dX6_become_12 (fun H locs hP hD hS => ?_)
  have hP : va_P (dC, dI) vwCl [((a_p1 0), oX6 a_p1 v_p1_sight v_p1_bathers v_p1_minute v_p1_seenEver v_p1_z), ((a_t 0), oX6 a_t v_t_sight v_t_bathers v_t_minute v_t_seenEver v_t_z), ((a_p1 5), .inl (cy 0, 8, .inl f_p1_at)), ((a_p1 2), .inl (cy 0, 48, .inl f_p1_current)), ((a_p1 3), .inl (cy 0, 4, .inl f_p1_guardAt)), ((a_p1 8), .inl (cy 0, 8, .inl f_p1_key)), ((a_p1 4), .inl (cy 0, 8, .inl f_p1_kind)), ((a_p1 9), .inl (cy 0, 10, .inl f_p1_spot)), ((a_p1 1), .inl (cy 0, 48, .inl f_p1_steam)), ((a_p1 6), .inl (cy 0, 8, .inl f_p1_wish)), ((a_p1 7), .inl (cy 0, 8, .inl f_p1_wrinkles)), ((a_t 5), .inl (cy 0, 8, .inl f_t_at)), ((a_t 2), .inl (cy 0, 48, .inl f_t_current)), ((a_t 3), .inl (cy 0, 4, .inl f_t_guardAt)), ((a_t 8), .inl (cy 0, 8, .inl f_t_key)), ((a_t 4), .inl (cy 0, 8, .inl f_t_kind)), ((a_t 9), .inl (cy 0, 10, .inl f_t_spot)), ((a_t 1), .inl (cy 0, 48, .inl (va_cpy f_p1_steam f_t_steam (0 : Int32).toNatClampNeg (0 : Int32).toNatClampNeg (48 : Int32).toNatClampNeg))), ((a_t 6), .inl (cy 0, 8, .inl f_t_wish)), ((a_t 7), .inl (cy 0, 8, .inl f_t_wrinkles))] H := hP
  have hD : va_D A [((a_p1 0), oX6 a_p1 v_p1_sight v_p1_bathers v_p1_minute v_p1_seenEver v_p1_z), ((a_t 0), oX6 a_t v_t_sight v_t_bathers v_t_minute v_t_seenEver v_t_z), ((a_p1 5), .inl (cy 0, 8, .inl f_p1_at)), ((a_p1 2), .inl (cy 0, 48, .inl f_p1_current)), ((a_p1 3), .inl (cy 0, 4, .inl f_p1_guardAt)), ((a_p1 8), .inl (cy 0, 8, .inl f_p1_key)), ((a_p1 4), .inl (cy 0, 8, .inl f_p1_kind)), ((a_p1 9), .inl (cy 0, 10, .inl f_p1_spot)), ((a_p1 1), .inl (cy 0, 48, .inl f_p1_steam)), ((a_p1 6), .inl (cy 0, 8, .inl f_p1_wish)), ((a_p1 7), .inl (cy 0, 8, .inl f_p1_wrinkles)), ((a_t 5), .inl (cy 0, 8, .inl f_t_at)), ((a_t 2), .inl (cy 0, 48, .inl f_t_current)), ((a_t 3), .inl (cy 0, 4, .inl f_t_guardAt)), ((a_t 8), .inl (cy 0, 8, .inl f_t_key)), ((a_t 4), .inl (cy 0, 8, .inl f_t_kind)), ((a_t 9), .inl (cy 0, 10, .inl f_t_spot)), ((a_t 1), .inl (cy 0, 48, .inl (va_cpy f_p1_steam f_t_steam (0 : Int32).toNatClampNeg (0 : Int32).toNatClampNeg (48 : Int32).toNatClampNeg))), ((a_t 6), .inl (cy 0, 8, .inl f_t_wish)), ((a_t 7), .inl (cy 0, 8, .inl f_t_wrinkles))] := hD
  refine lv_aload_n hx hb dX6_become_15 rfl (lv_at hl 1 rfl) ?_
  refine va_get (D := (dC, dI)) (ci := 5) (v := .ref (a_p1 2)) (C := RX6) (T := TX6) (N := 14) hx hb hts iwX6 hown hK hP 0 rfl rfl 1 (by decide) lk6 (fun _ h9 => h9) rfl dX6_become_16 ?_
  refine lv_iconst (v := (0 : Int32)) hx hb dX6_become_19 (by decide) ?_
  refine lv_aload_n hx hb dX6_become_20 rfl (lv_at hl 0 rfl) ?_
  refine va_get (D := (dC, dI)) (ci := 5) (v := .ref (a_t 2)) (C := RX6) (T := TX6) (N := 14) hx hb hts iwX6 hown hK hP 1 rfl rfl 1 (by decide) lk6 (fun _ h9 => h9) rfl dX6_become_21 ?_
  refine lv_iconst (v := (0 : Int32)) hx hb dX6_become_24 (by decide) ?_
  refine lv_bipush (v := (48 : Int32)) hx hb dX6_become_25 (by decide) ?_
  obtain ⟨hy2, h⟩ := bb_cp_o h
  refine va_copyi hx hb (hml.trans hl.1.symm) hown lk2 lk3 lk4 lk5 hK hP hD hS 3 12 0 0 rfl rfl rfl rfl rfl hy2.1 hy2.2.1 hy2.2.2.1 hy2.2.2.2.1 hy2.2.2.2.2 (fun _ _ => rfl) (Nat.le_of_ble_eq_true rfl) (Nat.le_of_ble_eq_true rfl) dX6_become_27 (fun H locs hP hD hS => ?_)
  have hP : va_P (dC, dI) vwCl [((a_p1 0), oX6 a_p1 v_p1_sight v_p1_bathers v_p1_minute v_p1_seenEver v_p1_z), ((a_t 0), oX6 a_t v_t_sight v_t_bathers v_t_minute v_t_seenEver v_t_z), ((a_p1 5), .inl (cy 0, 8, .inl f_p1_at)), ((a_p1 2), .inl (cy 0, 48, .inl f_p1_current)), ((a_p1 3), .inl (cy 0, 4, .inl f_p1_guardAt)), ((a_p1 8), .inl (cy 0, 8, .inl f_p1_key)), ((a_p1 4), .inl (cy 0, 8, .inl f_p1_kind)), ((a_p1 9), .inl (cy 0, 10, .inl f_p1_spot)), ((a_p1 1), .inl (cy 0, 48, .inl f_p1_steam)), ((a_p1 6), .inl (cy 0, 8, .inl f_p1_wish)), ((a_p1 7), .inl (cy 0, 8, .inl f_p1_wrinkles)), ((a_t 5), .inl (cy 0, 8, .inl f_t_at)), ((a_t 2), .inl (cy 0, 48, .inl (va_cpy f_p1_current f_t_current (0 : Int32).toNatClampNeg (0 : Int32).toNatClampNeg (48 : Int32).toNatClampNeg))), ((a_t 3), .inl (cy 0, 4, .inl f_t_guardAt)), ((a_t 8), .inl (cy 0, 8, .inl f_t_key)), ((a_t 4), .inl (cy 0, 8, .inl f_t_kind)), ((a_t 9), .inl (cy 0, 10, .inl f_t_spot)), ((a_t 1), .inl (cy 0, 48, .inl (va_cpy f_p1_steam f_t_steam (0 : Int32).toNatClampNeg (0 : Int32).toNatClampNeg (48 : Int32).toNatClampNeg))), ((a_t 6), .inl (cy 0, 8, .inl f_t_wish)), ((a_t 7), .inl (cy 0, 8, .inl f_t_wrinkles))] H := hP
  have hD : va_D A [((a_p1 0), oX6 a_p1 v_p1_sight v_p1_bathers v_p1_minute v_p1_seenEver v_p1_z), ((a_t 0), oX6 a_t v_t_sight v_t_bathers v_t_minute v_t_seenEver v_t_z), ((a_p1 5), .inl (cy 0, 8, .inl f_p1_at)), ((a_p1 2), .inl (cy 0, 48, .inl f_p1_current)), ((a_p1 3), .inl (cy 0, 4, .inl f_p1_guardAt)), ((a_p1 8), .inl (cy 0, 8, .inl f_p1_key)), ((a_p1 4), .inl (cy 0, 8, .inl f_p1_kind)), ((a_p1 9), .inl (cy 0, 10, .inl f_p1_spot)), ((a_p1 1), .inl (cy 0, 48, .inl f_p1_steam)), ((a_p1 6), .inl (cy 0, 8, .inl f_p1_wish)), ((a_p1 7), .inl (cy 0, 8, .inl f_p1_wrinkles)), ((a_t 5), .inl (cy 0, 8, .inl f_t_at)), ((a_t 2), .inl (cy 0, 48, .inl (va_cpy f_p1_current f_t_current (0 : Int32).toNatClampNeg (0 : Int32).toNatClampNeg (48 : Int32).toNatClampNeg))), ((a_t 3), .inl (cy 0, 4, .inl f_t_guardAt)), ((a_t 8), .inl (cy 0, 8, .inl f_t_key)), ((a_t 4), .inl (cy 0, 8, .inl f_t_kind)), ((a_t 9), .inl (cy 0, 10, .inl f_t_spot)), ((a_t 1), .inl (cy 0, 48, .inl (va_cpy f_p1_steam f_t_steam (0 : Int32).toNatClampNeg (0 : Int32).toNatClampNeg (48 : Int32).toNatClampNeg))), ((a_t 6), .inl (cy 0, 8, .inl f_t_wish)), ((a_t 7), .inl (cy 0, 8, .inl f_t_wrinkles))] := hD
  refine lv_aload_n hx hb dX6_become_30 rfl (lv_at hl 1 rfl) ?_
  refine va_get (D := (dC, dI)) (ci := 5) (v := .ref (a_p1 3)) (C := RX6) (T := TX6) (N := 14) hx hb hts iwX6 hown hK hP 0 rfl rfl 2 (by decide) lk7 (fun _ h9 => h9) rfl dX6_become_31 ?_
  refine lv_iconst (v := (0 : Int32)) hx hb dX6_become_34 (by decide) ?_
  refine lv_aload_n hx hb dX6_become_35 rfl (lv_at hl 0 rfl) ?_
  refine va_get (D := (dC, dI)) (ci := 5) (v := .ref (a_t 3)) (C := RX6) (T := TX6) (N := 14) hx hb hts iwX6 hown hK hP 1 rfl rfl 2 (by decide) lk7 (fun _ h9 => h9) rfl dX6_become_36 ?_
  refine lv_iconst (v := (0 : Int32)) hx hb dX6_become_39 (by decide) ?_
  refine lv_iconst (v := (4 : Int32)) hx hb dX6_become_40 (by decide) ?_
  obtain ⟨hy3, h⟩ := bb_cp_o h
  refine va_copyi hx hb (hml.trans hl.1.symm) hown lk2 lk3 lk4 lk5 hK hP hD hS 4 13 0 0 rfl rfl rfl rfl rfl hy3.1 hy3.2.1 hy3.2.2.1 hy3.2.2.2.1 hy3.2.2.2.2 (fun _ _ => rfl) (Nat.le_of_ble_eq_true rfl) (Nat.le_of_ble_eq_true rfl) dX6_become_41 (fun H locs hP hD hS => ?_)
  have hP : va_P (dC, dI) vwCl [((a_p1 0), oX6 a_p1 v_p1_sight v_p1_bathers v_p1_minute v_p1_seenEver v_p1_z), ((a_t 0), oX6 a_t v_t_sight v_t_bathers v_t_minute v_t_seenEver v_t_z), ((a_p1 5), .inl (cy 0, 8, .inl f_p1_at)), ((a_p1 2), .inl (cy 0, 48, .inl f_p1_current)), ((a_p1 3), .inl (cy 0, 4, .inl f_p1_guardAt)), ((a_p1 8), .inl (cy 0, 8, .inl f_p1_key)), ((a_p1 4), .inl (cy 0, 8, .inl f_p1_kind)), ((a_p1 9), .inl (cy 0, 10, .inl f_p1_spot)), ((a_p1 1), .inl (cy 0, 48, .inl f_p1_steam)), ((a_p1 6), .inl (cy 0, 8, .inl f_p1_wish)), ((a_p1 7), .inl (cy 0, 8, .inl f_p1_wrinkles)), ((a_t 5), .inl (cy 0, 8, .inl f_t_at)), ((a_t 2), .inl (cy 0, 48, .inl (va_cpy f_p1_current f_t_current (0 : Int32).toNatClampNeg (0 : Int32).toNatClampNeg (48 : Int32).toNatClampNeg))), ((a_t 3), .inl (cy 0, 4, .inl (va_cpy f_p1_guardAt f_t_guardAt (0 : Int32).toNatClampNeg (0 : Int32).toNatClampNeg (4 : Int32).toNatClampNeg))), ((a_t 8), .inl (cy 0, 8, .inl f_t_key)), ((a_t 4), .inl (cy 0, 8, .inl f_t_kind)), ((a_t 9), .inl (cy 0, 10, .inl f_t_spot)), ((a_t 1), .inl (cy 0, 48, .inl (va_cpy f_p1_steam f_t_steam (0 : Int32).toNatClampNeg (0 : Int32).toNatClampNeg (48 : Int32).toNatClampNeg))), ((a_t 6), .inl (cy 0, 8, .inl f_t_wish)), ((a_t 7), .inl (cy 0, 8, .inl f_t_wrinkles))] H := hP
  have hD : va_D A [((a_p1 0), oX6 a_p1 v_p1_sight v_p1_bathers v_p1_minute v_p1_seenEver v_p1_z), ((a_t 0), oX6 a_t v_t_sight v_t_bathers v_t_minute v_t_seenEver v_t_z), ((a_p1 5), .inl (cy 0, 8, .inl f_p1_at)), ((a_p1 2), .inl (cy 0, 48, .inl f_p1_current)), ((a_p1 3), .inl (cy 0, 4, .inl f_p1_guardAt)), ((a_p1 8), .inl (cy 0, 8, .inl f_p1_key)), ((a_p1 4), .inl (cy 0, 8, .inl f_p1_kind)), ((a_p1 9), .inl (cy 0, 10, .inl f_p1_spot)), ((a_p1 1), .inl (cy 0, 48, .inl f_p1_steam)), ((a_p1 6), .inl (cy 0, 8, .inl f_p1_wish)), ((a_p1 7), .inl (cy 0, 8, .inl f_p1_wrinkles)), ((a_t 5), .inl (cy 0, 8, .inl f_t_at)), ((a_t 2), .inl (cy 0, 48, .inl (va_cpy f_p1_current f_t_current (0 : Int32).toNatClampNeg (0 : Int32).toNatClampNeg (48 : Int32).toNatClampNeg))), ((a_t 3), .inl (cy 0, 4, .inl (va_cpy f_p1_guardAt f_t_guardAt (0 : Int32).toNatClampNeg (0 : Int32).toNatClampNeg (4 : Int32).toNatClampNeg))), ((a_t 8), .inl (cy 0, 8, .inl f_t_key)), ((a_t 4), .inl (cy 0, 8, .inl f_t_kind)), ((a_t 9), .inl (cy 0, 10, .inl f_t_spot)), ((a_t 1), .inl (cy 0, 48, .inl (va_cpy f_p1_steam f_t_steam (0 : Int32).toNatClampNeg (0 : Int32).toNatClampNeg (48 : Int32).toNatClampNeg))), ((a_t 6), .inl (cy 0, 8, .inl f_t_wish)), ((a_t 7), .inl (cy 0, 8, .inl f_t_wrinkles))] := hD
  refine lv_aload_n hx hb dX6_become_44 rfl (lv_at hl 1 rfl) ?_
  refine va_get (D := (dC, dI)) (ci := 5) (v := .ref (a_p1 4)) (C := RX6) (T := TX6) (N := 14) hx hb hts iwX6 hown hK hP 0 rfl rfl 3 (by decide) lk8 (fun _ h9 => h9) rfl dX6_become_45 ?_
  refine lv_iconst (v := (0 : Int32)) hx hb dX6_become_48 (by decide) ?_
  refine lv_aload_n hx hb dX6_become_49 rfl (lv_at hl 0 rfl) ?_
  refine va_get (D := (dC, dI)) (ci := 5) (v := .ref (a_t 4)) (C := RX6) (T := TX6) (N := 14) hx hb hts iwX6 hown hK hP 1 rfl rfl 3 (by decide) lk8 (fun _ h9 => h9) rfl dX6_become_50 ?_
  refine lv_iconst (v := (0 : Int32)) hx hb dX6_become_53 (by decide) ?_
  refine lv_bipush (v := (8 : Int32)) hx hb dX6_become_54 (by decide) ?_
  obtain ⟨hy4, h⟩ := bb_cp_o h
  refine va_copyi hx hb (hml.trans hl.1.symm) hown lk2 lk3 lk4 lk5 hK hP hD hS 6 15 0 0 rfl rfl rfl rfl rfl hy4.1 hy4.2.1 hy4.2.2.1 hy4.2.2.2.1 hy4.2.2.2.2 (fun _ _ => rfl) (Nat.le_of_ble_eq_true rfl) (Nat.le_of_ble_eq_true rfl) dX6_become_56 (fun H locs hP hD hS => ?_)
  have hP : va_P (dC, dI) vwCl [((a_p1 0), oX6 a_p1 v_p1_sight v_p1_bathers v_p1_minute v_p1_seenEver v_p1_z), ((a_t 0), oX6 a_t v_t_sight v_t_bathers v_t_minute v_t_seenEver v_t_z), ((a_p1 5), .inl (cy 0, 8, .inl f_p1_at)), ((a_p1 2), .inl (cy 0, 48, .inl f_p1_current)), ((a_p1 3), .inl (cy 0, 4, .inl f_p1_guardAt)), ((a_p1 8), .inl (cy 0, 8, .inl f_p1_key)), ((a_p1 4), .inl (cy 0, 8, .inl f_p1_kind)), ((a_p1 9), .inl (cy 0, 10, .inl f_p1_spot)), ((a_p1 1), .inl (cy 0, 48, .inl f_p1_steam)), ((a_p1 6), .inl (cy 0, 8, .inl f_p1_wish)), ((a_p1 7), .inl (cy 0, 8, .inl f_p1_wrinkles)), ((a_t 5), .inl (cy 0, 8, .inl f_t_at)), ((a_t 2), .inl (cy 0, 48, .inl (va_cpy f_p1_current f_t_current (0 : Int32).toNatClampNeg (0 : Int32).toNatClampNeg (48 : Int32).toNatClampNeg))), ((a_t 3), .inl (cy 0, 4, .inl (va_cpy f_p1_guardAt f_t_guardAt (0 : Int32).toNatClampNeg (0 : Int32).toNatClampNeg (4 : Int32).toNatClampNeg))), ((a_t 8), .inl (cy 0, 8, .inl f_t_key)), ((a_t 4), .inl (cy 0, 8, .inl (va_cpy f_p1_kind f_t_kind (0 : Int32).toNatClampNeg (0 : Int32).toNatClampNeg (8 : Int32).toNatClampNeg))), ((a_t 9), .inl (cy 0, 10, .inl f_t_spot)), ((a_t 1), .inl (cy 0, 48, .inl (va_cpy f_p1_steam f_t_steam (0 : Int32).toNatClampNeg (0 : Int32).toNatClampNeg (48 : Int32).toNatClampNeg))), ((a_t 6), .inl (cy 0, 8, .inl f_t_wish)), ((a_t 7), .inl (cy 0, 8, .inl f_t_wrinkles))] H := hP
  have hD : va_D A [((a_p1 0), oX6 a_p1 v_p1_sight v_p1_bathers v_p1_minute v_p1_seenEver v_p1_z), ((a_t 0), oX6 a_t v_t_sight v_t_bathers v_t_minute v_t_seenEver v_t_z), ((a_p1 5), .inl (cy 0, 8, .inl f_p1_at)), ((a_p1 2), .inl (cy 0, 48, .inl f_p1_current)), ((a_p1 3), .inl (cy 0, 4, .inl f_p1_guardAt)), ((a_p1 8), .inl (cy 0, 8, .inl f_p1_key)), ((a_p1 4), .inl (cy 0, 8, .inl f_p1_kind)), ((a_p1 9), .inl (cy 0, 10, .inl f_p1_spot)), ((a_p1 1), .inl (cy 0, 48, .inl f_p1_steam)), ((a_p1 6), .inl (cy 0, 8, .inl f_p1_wish)), ((a_p1 7), .inl (cy 0, 8, .inl f_p1_wrinkles)), ((a_t 5), .inl (cy 0, 8, .inl f_t_at)), ((a_t 2), .inl (cy 0, 48, .inl (va_cpy f_p1_current f_t_current (0 : Int32).toNatClampNeg (0 : Int32).toNatClampNeg (48 : Int32).toNatClampNeg))), ((a_t 3), .inl (cy 0, 4, .inl (va_cpy f_p1_guardAt f_t_guardAt (0 : Int32).toNatClampNeg (0 : Int32).toNatClampNeg (4 : Int32).toNatClampNeg))), ((a_t 8), .inl (cy 0, 8, .inl f_t_key)), ((a_t 4), .inl (cy 0, 8, .inl (va_cpy f_p1_kind f_t_kind (0 : Int32).toNatClampNeg (0 : Int32).toNatClampNeg (8 : Int32).toNatClampNeg))), ((a_t 9), .inl (cy 0, 10, .inl f_t_spot)), ((a_t 1), .inl (cy 0, 48, .inl (va_cpy f_p1_steam f_t_steam (0 : Int32).toNatClampNeg (0 : Int32).toNatClampNeg (48 : Int32).toNatClampNeg))), ((a_t 6), .inl (cy 0, 8, .inl f_t_wish)), ((a_t 7), .inl (cy 0, 8, .inl f_t_wrinkles))] := hD
  refine lv_aload_n hx hb dX6_become_59 rfl (lv_at hl 1 rfl) ?_
  refine va_get (D := (dC, dI)) (ci := 5) (v := .ref (a_p1 5)) (C := RX6) (T := TX6) (N := 14) hx hb hts iwX6 hown hK hP 0 rfl rfl 4 (by decide) lk9 (fun _ h9 => h9) rfl dX6_become_60 ?_
  refine lv_iconst (v := (0 : Int32)) hx hb dX6_become_63 (by decide) ?_
  refine lv_aload_n hx hb dX6_become_64 rfl (lv_at hl 0 rfl) ?_
  refine va_get (D := (dC, dI)) (ci := 5) (v := .ref (a_t 5)) (C := RX6) (T := TX6) (N := 14) hx hb hts iwX6 hown hK hP 1 rfl rfl 4 (by decide) lk9 (fun _ h9 => h9) rfl dX6_become_65 ?_
  refine lv_iconst (v := (0 : Int32)) hx hb dX6_become_68 (by decide) ?_
  refine lv_bipush (v := (8 : Int32)) hx hb dX6_become_69 (by decide) ?_
  obtain ⟨hy5, h⟩ := bb_cp_o h
  refine va_copyi hx hb (hml.trans hl.1.symm) hown lk2 lk3 lk4 lk5 hK hP hD hS 2 11 0 0 rfl rfl rfl rfl rfl hy5.1 hy5.2.1 hy5.2.2.1 hy5.2.2.2.1 hy5.2.2.2.2 (fun _ _ => rfl) (Nat.le_of_ble_eq_true rfl) (Nat.le_of_ble_eq_true rfl) dX6_become_71 (fun H locs hP hD hS => ?_)
  have hP : va_P (dC, dI) vwCl [((a_p1 0), oX6 a_p1 v_p1_sight v_p1_bathers v_p1_minute v_p1_seenEver v_p1_z), ((a_t 0), oX6 a_t v_t_sight v_t_bathers v_t_minute v_t_seenEver v_t_z), ((a_p1 5), .inl (cy 0, 8, .inl f_p1_at)), ((a_p1 2), .inl (cy 0, 48, .inl f_p1_current)), ((a_p1 3), .inl (cy 0, 4, .inl f_p1_guardAt)), ((a_p1 8), .inl (cy 0, 8, .inl f_p1_key)), ((a_p1 4), .inl (cy 0, 8, .inl f_p1_kind)), ((a_p1 9), .inl (cy 0, 10, .inl f_p1_spot)), ((a_p1 1), .inl (cy 0, 48, .inl f_p1_steam)), ((a_p1 6), .inl (cy 0, 8, .inl f_p1_wish)), ((a_p1 7), .inl (cy 0, 8, .inl f_p1_wrinkles)), ((a_t 5), .inl (cy 0, 8, .inl (va_cpy f_p1_at f_t_at (0 : Int32).toNatClampNeg (0 : Int32).toNatClampNeg (8 : Int32).toNatClampNeg))), ((a_t 2), .inl (cy 0, 48, .inl (va_cpy f_p1_current f_t_current (0 : Int32).toNatClampNeg (0 : Int32).toNatClampNeg (48 : Int32).toNatClampNeg))), ((a_t 3), .inl (cy 0, 4, .inl (va_cpy f_p1_guardAt f_t_guardAt (0 : Int32).toNatClampNeg (0 : Int32).toNatClampNeg (4 : Int32).toNatClampNeg))), ((a_t 8), .inl (cy 0, 8, .inl f_t_key)), ((a_t 4), .inl (cy 0, 8, .inl (va_cpy f_p1_kind f_t_kind (0 : Int32).toNatClampNeg (0 : Int32).toNatClampNeg (8 : Int32).toNatClampNeg))), ((a_t 9), .inl (cy 0, 10, .inl f_t_spot)), ((a_t 1), .inl (cy 0, 48, .inl (va_cpy f_p1_steam f_t_steam (0 : Int32).toNatClampNeg (0 : Int32).toNatClampNeg (48 : Int32).toNatClampNeg))), ((a_t 6), .inl (cy 0, 8, .inl f_t_wish)), ((a_t 7), .inl (cy 0, 8, .inl f_t_wrinkles))] H := hP
  have hD : va_D A [((a_p1 0), oX6 a_p1 v_p1_sight v_p1_bathers v_p1_minute v_p1_seenEver v_p1_z), ((a_t 0), oX6 a_t v_t_sight v_t_bathers v_t_minute v_t_seenEver v_t_z), ((a_p1 5), .inl (cy 0, 8, .inl f_p1_at)), ((a_p1 2), .inl (cy 0, 48, .inl f_p1_current)), ((a_p1 3), .inl (cy 0, 4, .inl f_p1_guardAt)), ((a_p1 8), .inl (cy 0, 8, .inl f_p1_key)), ((a_p1 4), .inl (cy 0, 8, .inl f_p1_kind)), ((a_p1 9), .inl (cy 0, 10, .inl f_p1_spot)), ((a_p1 1), .inl (cy 0, 48, .inl f_p1_steam)), ((a_p1 6), .inl (cy 0, 8, .inl f_p1_wish)), ((a_p1 7), .inl (cy 0, 8, .inl f_p1_wrinkles)), ((a_t 5), .inl (cy 0, 8, .inl (va_cpy f_p1_at f_t_at (0 : Int32).toNatClampNeg (0 : Int32).toNatClampNeg (8 : Int32).toNatClampNeg))), ((a_t 2), .inl (cy 0, 48, .inl (va_cpy f_p1_current f_t_current (0 : Int32).toNatClampNeg (0 : Int32).toNatClampNeg (48 : Int32).toNatClampNeg))), ((a_t 3), .inl (cy 0, 4, .inl (va_cpy f_p1_guardAt f_t_guardAt (0 : Int32).toNatClampNeg (0 : Int32).toNatClampNeg (4 : Int32).toNatClampNeg))), ((a_t 8), .inl (cy 0, 8, .inl f_t_key)), ((a_t 4), .inl (cy 0, 8, .inl (va_cpy f_p1_kind f_t_kind (0 : Int32).toNatClampNeg (0 : Int32).toNatClampNeg (8 : Int32).toNatClampNeg))), ((a_t 9), .inl (cy 0, 10, .inl f_t_spot)), ((a_t 1), .inl (cy 0, 48, .inl (va_cpy f_p1_steam f_t_steam (0 : Int32).toNatClampNeg (0 : Int32).toNatClampNeg (48 : Int32).toNatClampNeg))), ((a_t 6), .inl (cy 0, 8, .inl f_t_wish)), ((a_t 7), .inl (cy 0, 8, .inl f_t_wrinkles))] := hD
  refine lv_aload_n hx hb dX6_become_74 rfl (lv_at hl 1 rfl) ?_
  refine va_get (D := (dC, dI)) (ci := 5) (v := .ref (a_p1 6)) (C := RX6) (T := TX6) (N := 14) hx hb hts iwX6 hown hK hP 0 rfl rfl 5 (by decide) lk10 (fun _ h9 => h9) rfl dX6_become_75 ?_
  refine lv_iconst (v := (0 : Int32)) hx hb dX6_become_78 (by decide) ?_
  refine lv_aload_n hx hb dX6_become_79 rfl (lv_at hl 0 rfl) ?_
  refine va_get (D := (dC, dI)) (ci := 5) (v := .ref (a_t 6)) (C := RX6) (T := TX6) (N := 14) hx hb hts iwX6 hown hK hP 1 rfl rfl 5 (by decide) lk10 (fun _ h9 => h9) rfl dX6_become_80 ?_
  refine lv_iconst (v := (0 : Int32)) hx hb dX6_become_83 (by decide) ?_
  refine lv_bipush (v := (8 : Int32)) hx hb dX6_become_84 (by decide) ?_
  obtain ⟨hy6, h⟩ := bb_cp_o h
  refine va_copyi hx hb (hml.trans hl.1.symm) hown lk2 lk3 lk4 lk5 hK hP hD hS 9 18 0 0 rfl rfl rfl rfl rfl hy6.1 hy6.2.1 hy6.2.2.1 hy6.2.2.2.1 hy6.2.2.2.2 (fun _ _ => rfl) (Nat.le_of_ble_eq_true rfl) (Nat.le_of_ble_eq_true rfl) dX6_become_86 (fun H locs hP hD hS => ?_)
  have hP : va_P (dC, dI) vwCl [((a_p1 0), oX6 a_p1 v_p1_sight v_p1_bathers v_p1_minute v_p1_seenEver v_p1_z), ((a_t 0), oX6 a_t v_t_sight v_t_bathers v_t_minute v_t_seenEver v_t_z), ((a_p1 5), .inl (cy 0, 8, .inl f_p1_at)), ((a_p1 2), .inl (cy 0, 48, .inl f_p1_current)), ((a_p1 3), .inl (cy 0, 4, .inl f_p1_guardAt)), ((a_p1 8), .inl (cy 0, 8, .inl f_p1_key)), ((a_p1 4), .inl (cy 0, 8, .inl f_p1_kind)), ((a_p1 9), .inl (cy 0, 10, .inl f_p1_spot)), ((a_p1 1), .inl (cy 0, 48, .inl f_p1_steam)), ((a_p1 6), .inl (cy 0, 8, .inl f_p1_wish)), ((a_p1 7), .inl (cy 0, 8, .inl f_p1_wrinkles)), ((a_t 5), .inl (cy 0, 8, .inl (va_cpy f_p1_at f_t_at (0 : Int32).toNatClampNeg (0 : Int32).toNatClampNeg (8 : Int32).toNatClampNeg))), ((a_t 2), .inl (cy 0, 48, .inl (va_cpy f_p1_current f_t_current (0 : Int32).toNatClampNeg (0 : Int32).toNatClampNeg (48 : Int32).toNatClampNeg))), ((a_t 3), .inl (cy 0, 4, .inl (va_cpy f_p1_guardAt f_t_guardAt (0 : Int32).toNatClampNeg (0 : Int32).toNatClampNeg (4 : Int32).toNatClampNeg))), ((a_t 8), .inl (cy 0, 8, .inl f_t_key)), ((a_t 4), .inl (cy 0, 8, .inl (va_cpy f_p1_kind f_t_kind (0 : Int32).toNatClampNeg (0 : Int32).toNatClampNeg (8 : Int32).toNatClampNeg))), ((a_t 9), .inl (cy 0, 10, .inl f_t_spot)), ((a_t 1), .inl (cy 0, 48, .inl (va_cpy f_p1_steam f_t_steam (0 : Int32).toNatClampNeg (0 : Int32).toNatClampNeg (48 : Int32).toNatClampNeg))), ((a_t 6), .inl (cy 0, 8, .inl (va_cpy f_p1_wish f_t_wish (0 : Int32).toNatClampNeg (0 : Int32).toNatClampNeg (8 : Int32).toNatClampNeg))), ((a_t 7), .inl (cy 0, 8, .inl f_t_wrinkles))] H := hP
  have hD : va_D A [((a_p1 0), oX6 a_p1 v_p1_sight v_p1_bathers v_p1_minute v_p1_seenEver v_p1_z), ((a_t 0), oX6 a_t v_t_sight v_t_bathers v_t_minute v_t_seenEver v_t_z), ((a_p1 5), .inl (cy 0, 8, .inl f_p1_at)), ((a_p1 2), .inl (cy 0, 48, .inl f_p1_current)), ((a_p1 3), .inl (cy 0, 4, .inl f_p1_guardAt)), ((a_p1 8), .inl (cy 0, 8, .inl f_p1_key)), ((a_p1 4), .inl (cy 0, 8, .inl f_p1_kind)), ((a_p1 9), .inl (cy 0, 10, .inl f_p1_spot)), ((a_p1 1), .inl (cy 0, 48, .inl f_p1_steam)), ((a_p1 6), .inl (cy 0, 8, .inl f_p1_wish)), ((a_p1 7), .inl (cy 0, 8, .inl f_p1_wrinkles)), ((a_t 5), .inl (cy 0, 8, .inl (va_cpy f_p1_at f_t_at (0 : Int32).toNatClampNeg (0 : Int32).toNatClampNeg (8 : Int32).toNatClampNeg))), ((a_t 2), .inl (cy 0, 48, .inl (va_cpy f_p1_current f_t_current (0 : Int32).toNatClampNeg (0 : Int32).toNatClampNeg (48 : Int32).toNatClampNeg))), ((a_t 3), .inl (cy 0, 4, .inl (va_cpy f_p1_guardAt f_t_guardAt (0 : Int32).toNatClampNeg (0 : Int32).toNatClampNeg (4 : Int32).toNatClampNeg))), ((a_t 8), .inl (cy 0, 8, .inl f_t_key)), ((a_t 4), .inl (cy 0, 8, .inl (va_cpy f_p1_kind f_t_kind (0 : Int32).toNatClampNeg (0 : Int32).toNatClampNeg (8 : Int32).toNatClampNeg))), ((a_t 9), .inl (cy 0, 10, .inl f_t_spot)), ((a_t 1), .inl (cy 0, 48, .inl (va_cpy f_p1_steam f_t_steam (0 : Int32).toNatClampNeg (0 : Int32).toNatClampNeg (48 : Int32).toNatClampNeg))), ((a_t 6), .inl (cy 0, 8, .inl (va_cpy f_p1_wish f_t_wish (0 : Int32).toNatClampNeg (0 : Int32).toNatClampNeg (8 : Int32).toNatClampNeg))), ((a_t 7), .inl (cy 0, 8, .inl f_t_wrinkles))] := hD
  refine lv_aload_n hx hb dX6_become_89 rfl (lv_at hl 1 rfl) ?_
  refine va_get (D := (dC, dI)) (ci := 5) (v := .ref (a_p1 7)) (C := RX6) (T := TX6) (N := 14) hx hb hts iwX6 hown hK hP 0 rfl rfl 6 (by decide) lk11 (fun _ h9 => h9) rfl dX6_become_90 ?_
  refine lv_iconst (v := (0 : Int32)) hx hb dX6_become_93 (by decide) ?_
  refine lv_aload_n hx hb dX6_become_94 rfl (lv_at hl 0 rfl) ?_
  refine va_get (D := (dC, dI)) (ci := 5) (v := .ref (a_t 7)) (C := RX6) (T := TX6) (N := 14) hx hb hts iwX6 hown hK hP 1 rfl rfl 6 (by decide) lk11 (fun _ h9 => h9) rfl dX6_become_95 ?_
  refine lv_iconst (v := (0 : Int32)) hx hb dX6_become_98 (by decide) ?_
  refine lv_bipush (v := (8 : Int32)) hx hb dX6_become_99 (by decide) ?_
  obtain ⟨hy7, h⟩ := bb_cp_o h
  refine va_copyi hx hb (hml.trans hl.1.symm) hown lk2 lk3 lk4 lk5 hK hP hD hS 10 19 0 0 rfl rfl rfl rfl rfl hy7.1 hy7.2.1 hy7.2.2.1 hy7.2.2.2.1 hy7.2.2.2.2 (fun _ _ => rfl) (Nat.le_of_ble_eq_true rfl) (Nat.le_of_ble_eq_true rfl) dX6_become_101 (fun H locs hP hD hS => ?_)
  have hP : va_P (dC, dI) vwCl [((a_p1 0), oX6 a_p1 v_p1_sight v_p1_bathers v_p1_minute v_p1_seenEver v_p1_z), ((a_t 0), oX6 a_t v_t_sight v_t_bathers v_t_minute v_t_seenEver v_t_z), ((a_p1 5), .inl (cy 0, 8, .inl f_p1_at)), ((a_p1 2), .inl (cy 0, 48, .inl f_p1_current)), ((a_p1 3), .inl (cy 0, 4, .inl f_p1_guardAt)), ((a_p1 8), .inl (cy 0, 8, .inl f_p1_key)), ((a_p1 4), .inl (cy 0, 8, .inl f_p1_kind)), ((a_p1 9), .inl (cy 0, 10, .inl f_p1_spot)), ((a_p1 1), .inl (cy 0, 48, .inl f_p1_steam)), ((a_p1 6), .inl (cy 0, 8, .inl f_p1_wish)), ((a_p1 7), .inl (cy 0, 8, .inl f_p1_wrinkles)), ((a_t 5), .inl (cy 0, 8, .inl (va_cpy f_p1_at f_t_at (0 : Int32).toNatClampNeg (0 : Int32).toNatClampNeg (8 : Int32).toNatClampNeg))), ((a_t 2), .inl (cy 0, 48, .inl (va_cpy f_p1_current f_t_current (0 : Int32).toNatClampNeg (0 : Int32).toNatClampNeg (48 : Int32).toNatClampNeg))), ((a_t 3), .inl (cy 0, 4, .inl (va_cpy f_p1_guardAt f_t_guardAt (0 : Int32).toNatClampNeg (0 : Int32).toNatClampNeg (4 : Int32).toNatClampNeg))), ((a_t 8), .inl (cy 0, 8, .inl f_t_key)), ((a_t 4), .inl (cy 0, 8, .inl (va_cpy f_p1_kind f_t_kind (0 : Int32).toNatClampNeg (0 : Int32).toNatClampNeg (8 : Int32).toNatClampNeg))), ((a_t 9), .inl (cy 0, 10, .inl f_t_spot)), ((a_t 1), .inl (cy 0, 48, .inl (va_cpy f_p1_steam f_t_steam (0 : Int32).toNatClampNeg (0 : Int32).toNatClampNeg (48 : Int32).toNatClampNeg))), ((a_t 6), .inl (cy 0, 8, .inl (va_cpy f_p1_wish f_t_wish (0 : Int32).toNatClampNeg (0 : Int32).toNatClampNeg (8 : Int32).toNatClampNeg))), ((a_t 7), .inl (cy 0, 8, .inl (va_cpy f_p1_wrinkles f_t_wrinkles (0 : Int32).toNatClampNeg (0 : Int32).toNatClampNeg (8 : Int32).toNatClampNeg)))] H := hP
  have hD : va_D A [((a_p1 0), oX6 a_p1 v_p1_sight v_p1_bathers v_p1_minute v_p1_seenEver v_p1_z), ((a_t 0), oX6 a_t v_t_sight v_t_bathers v_t_minute v_t_seenEver v_t_z), ((a_p1 5), .inl (cy 0, 8, .inl f_p1_at)), ((a_p1 2), .inl (cy 0, 48, .inl f_p1_current)), ((a_p1 3), .inl (cy 0, 4, .inl f_p1_guardAt)), ((a_p1 8), .inl (cy 0, 8, .inl f_p1_key)), ((a_p1 4), .inl (cy 0, 8, .inl f_p1_kind)), ((a_p1 9), .inl (cy 0, 10, .inl f_p1_spot)), ((a_p1 1), .inl (cy 0, 48, .inl f_p1_steam)), ((a_p1 6), .inl (cy 0, 8, .inl f_p1_wish)), ((a_p1 7), .inl (cy 0, 8, .inl f_p1_wrinkles)), ((a_t 5), .inl (cy 0, 8, .inl (va_cpy f_p1_at f_t_at (0 : Int32).toNatClampNeg (0 : Int32).toNatClampNeg (8 : Int32).toNatClampNeg))), ((a_t 2), .inl (cy 0, 48, .inl (va_cpy f_p1_current f_t_current (0 : Int32).toNatClampNeg (0 : Int32).toNatClampNeg (48 : Int32).toNatClampNeg))), ((a_t 3), .inl (cy 0, 4, .inl (va_cpy f_p1_guardAt f_t_guardAt (0 : Int32).toNatClampNeg (0 : Int32).toNatClampNeg (4 : Int32).toNatClampNeg))), ((a_t 8), .inl (cy 0, 8, .inl f_t_key)), ((a_t 4), .inl (cy 0, 8, .inl (va_cpy f_p1_kind f_t_kind (0 : Int32).toNatClampNeg (0 : Int32).toNatClampNeg (8 : Int32).toNatClampNeg))), ((a_t 9), .inl (cy 0, 10, .inl f_t_spot)), ((a_t 1), .inl (cy 0, 48, .inl (va_cpy f_p1_steam f_t_steam (0 : Int32).toNatClampNeg (0 : Int32).toNatClampNeg (48 : Int32).toNatClampNeg))), ((a_t 6), .inl (cy 0, 8, .inl (va_cpy f_p1_wish f_t_wish (0 : Int32).toNatClampNeg (0 : Int32).toNatClampNeg (8 : Int32).toNatClampNeg))), ((a_t 7), .inl (cy 0, 8, .inl (va_cpy f_p1_wrinkles f_t_wrinkles (0 : Int32).toNatClampNeg (0 : Int32).toNatClampNeg (8 : Int32).toNatClampNeg)))] := hD
  refine lv_aload_n hx hb dX6_become_104 rfl (lv_at hl 1 rfl) ?_
  refine va_get (D := (dC, dI)) (ci := 5) (v := .ref (a_p1 8)) (C := RX6) (T := TX6) (N := 14) hx hb hts iwX6 hown hK hP 0 rfl rfl 7 (by decide) lk12 (fun _ h9 => h9) rfl dX6_become_105 ?_
  refine lv_iconst (v := (0 : Int32)) hx hb dX6_become_108 (by decide) ?_
  refine lv_aload_n hx hb dX6_become_109 rfl (lv_at hl 0 rfl) ?_
  refine va_get (D := (dC, dI)) (ci := 5) (v := .ref (a_t 8)) (C := RX6) (T := TX6) (N := 14) hx hb hts iwX6 hown hK hP 1 rfl rfl 7 (by decide) lk12 (fun _ h9 => h9) rfl dX6_become_110 ?_
  refine lv_iconst (v := (0 : Int32)) hx hb dX6_become_113 (by decide) ?_
  refine lv_bipush (v := (8 : Int32)) hx hb dX6_become_114 (by decide) ?_
  obtain ⟨hy8, h⟩ := bb_cp_o h
  refine va_copyi hx hb (hml.trans hl.1.symm) hown lk2 lk3 lk4 lk5 hK hP hD hS 5 14 0 0 rfl rfl rfl rfl rfl hy8.1 hy8.2.1 hy8.2.2.1 hy8.2.2.2.1 hy8.2.2.2.2 (fun _ _ => rfl) (Nat.le_of_ble_eq_true rfl) (Nat.le_of_ble_eq_true rfl) dX6_become_116 (fun H locs hP hD hS => ?_)
  have hP : va_P (dC, dI) vwCl [((a_p1 0), oX6 a_p1 v_p1_sight v_p1_bathers v_p1_minute v_p1_seenEver v_p1_z), ((a_t 0), oX6 a_t v_t_sight v_t_bathers v_t_minute v_t_seenEver v_t_z), ((a_p1 5), .inl (cy 0, 8, .inl f_p1_at)), ((a_p1 2), .inl (cy 0, 48, .inl f_p1_current)), ((a_p1 3), .inl (cy 0, 4, .inl f_p1_guardAt)), ((a_p1 8), .inl (cy 0, 8, .inl f_p1_key)), ((a_p1 4), .inl (cy 0, 8, .inl f_p1_kind)), ((a_p1 9), .inl (cy 0, 10, .inl f_p1_spot)), ((a_p1 1), .inl (cy 0, 48, .inl f_p1_steam)), ((a_p1 6), .inl (cy 0, 8, .inl f_p1_wish)), ((a_p1 7), .inl (cy 0, 8, .inl f_p1_wrinkles)), ((a_t 5), .inl (cy 0, 8, .inl (va_cpy f_p1_at f_t_at (0 : Int32).toNatClampNeg (0 : Int32).toNatClampNeg (8 : Int32).toNatClampNeg))), ((a_t 2), .inl (cy 0, 48, .inl (va_cpy f_p1_current f_t_current (0 : Int32).toNatClampNeg (0 : Int32).toNatClampNeg (48 : Int32).toNatClampNeg))), ((a_t 3), .inl (cy 0, 4, .inl (va_cpy f_p1_guardAt f_t_guardAt (0 : Int32).toNatClampNeg (0 : Int32).toNatClampNeg (4 : Int32).toNatClampNeg))), ((a_t 8), .inl (cy 0, 8, .inl (va_cpy f_p1_key f_t_key (0 : Int32).toNatClampNeg (0 : Int32).toNatClampNeg (8 : Int32).toNatClampNeg))), ((a_t 4), .inl (cy 0, 8, .inl (va_cpy f_p1_kind f_t_kind (0 : Int32).toNatClampNeg (0 : Int32).toNatClampNeg (8 : Int32).toNatClampNeg))), ((a_t 9), .inl (cy 0, 10, .inl f_t_spot)), ((a_t 1), .inl (cy 0, 48, .inl (va_cpy f_p1_steam f_t_steam (0 : Int32).toNatClampNeg (0 : Int32).toNatClampNeg (48 : Int32).toNatClampNeg))), ((a_t 6), .inl (cy 0, 8, .inl (va_cpy f_p1_wish f_t_wish (0 : Int32).toNatClampNeg (0 : Int32).toNatClampNeg (8 : Int32).toNatClampNeg))), ((a_t 7), .inl (cy 0, 8, .inl (va_cpy f_p1_wrinkles f_t_wrinkles (0 : Int32).toNatClampNeg (0 : Int32).toNatClampNeg (8 : Int32).toNatClampNeg)))] H := hP
  have hD : va_D A [((a_p1 0), oX6 a_p1 v_p1_sight v_p1_bathers v_p1_minute v_p1_seenEver v_p1_z), ((a_t 0), oX6 a_t v_t_sight v_t_bathers v_t_minute v_t_seenEver v_t_z), ((a_p1 5), .inl (cy 0, 8, .inl f_p1_at)), ((a_p1 2), .inl (cy 0, 48, .inl f_p1_current)), ((a_p1 3), .inl (cy 0, 4, .inl f_p1_guardAt)), ((a_p1 8), .inl (cy 0, 8, .inl f_p1_key)), ((a_p1 4), .inl (cy 0, 8, .inl f_p1_kind)), ((a_p1 9), .inl (cy 0, 10, .inl f_p1_spot)), ((a_p1 1), .inl (cy 0, 48, .inl f_p1_steam)), ((a_p1 6), .inl (cy 0, 8, .inl f_p1_wish)), ((a_p1 7), .inl (cy 0, 8, .inl f_p1_wrinkles)), ((a_t 5), .inl (cy 0, 8, .inl (va_cpy f_p1_at f_t_at (0 : Int32).toNatClampNeg (0 : Int32).toNatClampNeg (8 : Int32).toNatClampNeg))), ((a_t 2), .inl (cy 0, 48, .inl (va_cpy f_p1_current f_t_current (0 : Int32).toNatClampNeg (0 : Int32).toNatClampNeg (48 : Int32).toNatClampNeg))), ((a_t 3), .inl (cy 0, 4, .inl (va_cpy f_p1_guardAt f_t_guardAt (0 : Int32).toNatClampNeg (0 : Int32).toNatClampNeg (4 : Int32).toNatClampNeg))), ((a_t 8), .inl (cy 0, 8, .inl (va_cpy f_p1_key f_t_key (0 : Int32).toNatClampNeg (0 : Int32).toNatClampNeg (8 : Int32).toNatClampNeg))), ((a_t 4), .inl (cy 0, 8, .inl (va_cpy f_p1_kind f_t_kind (0 : Int32).toNatClampNeg (0 : Int32).toNatClampNeg (8 : Int32).toNatClampNeg))), ((a_t 9), .inl (cy 0, 10, .inl f_t_spot)), ((a_t 1), .inl (cy 0, 48, .inl (va_cpy f_p1_steam f_t_steam (0 : Int32).toNatClampNeg (0 : Int32).toNatClampNeg (48 : Int32).toNatClampNeg))), ((a_t 6), .inl (cy 0, 8, .inl (va_cpy f_p1_wish f_t_wish (0 : Int32).toNatClampNeg (0 : Int32).toNatClampNeg (8 : Int32).toNatClampNeg))), ((a_t 7), .inl (cy 0, 8, .inl (va_cpy f_p1_wrinkles f_t_wrinkles (0 : Int32).toNatClampNeg (0 : Int32).toNatClampNeg (8 : Int32).toNatClampNeg)))] := hD
  refine lv_aload_n hx hb dX6_become_119 rfl (lv_at hl 1 rfl) ?_
  refine va_get (D := (dC, dI)) (ci := 5) (v := .ref (a_p1 9)) (C := RX6) (T := TX6) (N := 14) hx hb hts iwX6 hown hK hP 0 rfl rfl 8 (by decide) lk13 (fun _ h9 => h9) rfl dX6_become_120 ?_
  refine lv_iconst (v := (0 : Int32)) hx hb dX6_become_123 (by decide) ?_
  refine lv_aload_n hx hb dX6_become_124 rfl (lv_at hl 0 rfl) ?_
  refine va_get (D := (dC, dI)) (ci := 5) (v := .ref (a_t 9)) (C := RX6) (T := TX6) (N := 14) hx hb hts iwX6 hown hK hP 1 rfl rfl 8 (by decide) lk13 (fun _ h9 => h9) rfl dX6_become_125 ?_
  refine lv_iconst (v := (0 : Int32)) hx hb dX6_become_128 (by decide) ?_
  refine lv_bipush (v := (10 : Int32)) hx hb dX6_become_129 (by decide) ?_
  obtain ⟨hy9, h⟩ := bb_cp_o h
  refine va_copyi hx hb (hml.trans hl.1.symm) hown lk2 lk3 lk4 lk5 hK hP hD hS 7 16 0 0 rfl rfl rfl rfl rfl hy9.1 hy9.2.1 hy9.2.2.1 hy9.2.2.2.1 hy9.2.2.2.2 (fun _ _ => rfl) (Nat.le_of_ble_eq_true rfl) (Nat.le_of_ble_eq_true rfl) dX6_become_131 (fun H locs hP hD hS => ?_)
  have hP : va_P (dC, dI) vwCl [((a_p1 0), oX6 a_p1 v_p1_sight v_p1_bathers v_p1_minute v_p1_seenEver v_p1_z), ((a_t 0), oX6 a_t v_t_sight v_t_bathers v_t_minute v_t_seenEver v_t_z), ((a_p1 5), .inl (cy 0, 8, .inl f_p1_at)), ((a_p1 2), .inl (cy 0, 48, .inl f_p1_current)), ((a_p1 3), .inl (cy 0, 4, .inl f_p1_guardAt)), ((a_p1 8), .inl (cy 0, 8, .inl f_p1_key)), ((a_p1 4), .inl (cy 0, 8, .inl f_p1_kind)), ((a_p1 9), .inl (cy 0, 10, .inl f_p1_spot)), ((a_p1 1), .inl (cy 0, 48, .inl f_p1_steam)), ((a_p1 6), .inl (cy 0, 8, .inl f_p1_wish)), ((a_p1 7), .inl (cy 0, 8, .inl f_p1_wrinkles)), ((a_t 5), .inl (cy 0, 8, .inl (va_cpy f_p1_at f_t_at (0 : Int32).toNatClampNeg (0 : Int32).toNatClampNeg (8 : Int32).toNatClampNeg))), ((a_t 2), .inl (cy 0, 48, .inl (va_cpy f_p1_current f_t_current (0 : Int32).toNatClampNeg (0 : Int32).toNatClampNeg (48 : Int32).toNatClampNeg))), ((a_t 3), .inl (cy 0, 4, .inl (va_cpy f_p1_guardAt f_t_guardAt (0 : Int32).toNatClampNeg (0 : Int32).toNatClampNeg (4 : Int32).toNatClampNeg))), ((a_t 8), .inl (cy 0, 8, .inl (va_cpy f_p1_key f_t_key (0 : Int32).toNatClampNeg (0 : Int32).toNatClampNeg (8 : Int32).toNatClampNeg))), ((a_t 4), .inl (cy 0, 8, .inl (va_cpy f_p1_kind f_t_kind (0 : Int32).toNatClampNeg (0 : Int32).toNatClampNeg (8 : Int32).toNatClampNeg))), ((a_t 9), .inl (cy 0, 10, .inl (va_cpy f_p1_spot f_t_spot (0 : Int32).toNatClampNeg (0 : Int32).toNatClampNeg (10 : Int32).toNatClampNeg))), ((a_t 1), .inl (cy 0, 48, .inl (va_cpy f_p1_steam f_t_steam (0 : Int32).toNatClampNeg (0 : Int32).toNatClampNeg (48 : Int32).toNatClampNeg))), ((a_t 6), .inl (cy 0, 8, .inl (va_cpy f_p1_wish f_t_wish (0 : Int32).toNatClampNeg (0 : Int32).toNatClampNeg (8 : Int32).toNatClampNeg))), ((a_t 7), .inl (cy 0, 8, .inl (va_cpy f_p1_wrinkles f_t_wrinkles (0 : Int32).toNatClampNeg (0 : Int32).toNatClampNeg (8 : Int32).toNatClampNeg)))] H := hP
  have hD : va_D A [((a_p1 0), oX6 a_p1 v_p1_sight v_p1_bathers v_p1_minute v_p1_seenEver v_p1_z), ((a_t 0), oX6 a_t v_t_sight v_t_bathers v_t_minute v_t_seenEver v_t_z), ((a_p1 5), .inl (cy 0, 8, .inl f_p1_at)), ((a_p1 2), .inl (cy 0, 48, .inl f_p1_current)), ((a_p1 3), .inl (cy 0, 4, .inl f_p1_guardAt)), ((a_p1 8), .inl (cy 0, 8, .inl f_p1_key)), ((a_p1 4), .inl (cy 0, 8, .inl f_p1_kind)), ((a_p1 9), .inl (cy 0, 10, .inl f_p1_spot)), ((a_p1 1), .inl (cy 0, 48, .inl f_p1_steam)), ((a_p1 6), .inl (cy 0, 8, .inl f_p1_wish)), ((a_p1 7), .inl (cy 0, 8, .inl f_p1_wrinkles)), ((a_t 5), .inl (cy 0, 8, .inl (va_cpy f_p1_at f_t_at (0 : Int32).toNatClampNeg (0 : Int32).toNatClampNeg (8 : Int32).toNatClampNeg))), ((a_t 2), .inl (cy 0, 48, .inl (va_cpy f_p1_current f_t_current (0 : Int32).toNatClampNeg (0 : Int32).toNatClampNeg (48 : Int32).toNatClampNeg))), ((a_t 3), .inl (cy 0, 4, .inl (va_cpy f_p1_guardAt f_t_guardAt (0 : Int32).toNatClampNeg (0 : Int32).toNatClampNeg (4 : Int32).toNatClampNeg))), ((a_t 8), .inl (cy 0, 8, .inl (va_cpy f_p1_key f_t_key (0 : Int32).toNatClampNeg (0 : Int32).toNatClampNeg (8 : Int32).toNatClampNeg))), ((a_t 4), .inl (cy 0, 8, .inl (va_cpy f_p1_kind f_t_kind (0 : Int32).toNatClampNeg (0 : Int32).toNatClampNeg (8 : Int32).toNatClampNeg))), ((a_t 9), .inl (cy 0, 10, .inl (va_cpy f_p1_spot f_t_spot (0 : Int32).toNatClampNeg (0 : Int32).toNatClampNeg (10 : Int32).toNatClampNeg))), ((a_t 1), .inl (cy 0, 48, .inl (va_cpy f_p1_steam f_t_steam (0 : Int32).toNatClampNeg (0 : Int32).toNatClampNeg (48 : Int32).toNatClampNeg))), ((a_t 6), .inl (cy 0, 8, .inl (va_cpy f_p1_wish f_t_wish (0 : Int32).toNatClampNeg (0 : Int32).toNatClampNeg (8 : Int32).toNatClampNeg))), ((a_t 7), .inl (cy 0, 8, .inl (va_cpy f_p1_wrinkles f_t_wrinkles (0 : Int32).toNatClampNeg (0 : Int32).toNatClampNeg (8 : Int32).toNatClampNeg)))] := hD
  refine lv_aload_n hx hb dX6_become_134 rfl (lv_at hl 0 rfl) ?_
  refine lv_aload_n hx hb dX6_become_135 rfl (lv_at hl 1 rfl) ?_
  refine va_get (D := (dC, dI)) (ci := 5) (v := .int v_p1_sight) (C := RX6) (T := TX6) (N := 14) hx hb hts iwX6 hown hK hP 0 rfl rfl 9 (by decide) lk14 (fun _ h9 => h9) rfl dX6_become_136 ?_
  refine va_put (D := (dC, dI)) (ci := 5) (v := .int v_p1_sight) (ty := .int) (C := RX6) (T := TX6) (N := 14) hx hb hts iwX6 tyX6 tyX6_ok nmX6 hown hK hP hD hS 1 rfl rfl 9 (by decide) lk14 (fun _ h9 => h9) rfl (by decide +kernel) rfl rfl (Nat.le_of_ble_eq_true rfl) dX6_become_139 (fun H locs hP hD hS => ?_)
  have hP : va_P (dC, dI) vwCl [((a_p1 0), oX6 a_p1 v_p1_sight v_p1_bathers v_p1_minute v_p1_seenEver v_p1_z), ((a_t 0), oX6 a_t v_p1_sight v_t_bathers v_t_minute v_t_seenEver v_t_z), ((a_p1 5), .inl (cy 0, 8, .inl f_p1_at)), ((a_p1 2), .inl (cy 0, 48, .inl f_p1_current)), ((a_p1 3), .inl (cy 0, 4, .inl f_p1_guardAt)), ((a_p1 8), .inl (cy 0, 8, .inl f_p1_key)), ((a_p1 4), .inl (cy 0, 8, .inl f_p1_kind)), ((a_p1 9), .inl (cy 0, 10, .inl f_p1_spot)), ((a_p1 1), .inl (cy 0, 48, .inl f_p1_steam)), ((a_p1 6), .inl (cy 0, 8, .inl f_p1_wish)), ((a_p1 7), .inl (cy 0, 8, .inl f_p1_wrinkles)), ((a_t 5), .inl (cy 0, 8, .inl (va_cpy f_p1_at f_t_at (0 : Int32).toNatClampNeg (0 : Int32).toNatClampNeg (8 : Int32).toNatClampNeg))), ((a_t 2), .inl (cy 0, 48, .inl (va_cpy f_p1_current f_t_current (0 : Int32).toNatClampNeg (0 : Int32).toNatClampNeg (48 : Int32).toNatClampNeg))), ((a_t 3), .inl (cy 0, 4, .inl (va_cpy f_p1_guardAt f_t_guardAt (0 : Int32).toNatClampNeg (0 : Int32).toNatClampNeg (4 : Int32).toNatClampNeg))), ((a_t 8), .inl (cy 0, 8, .inl (va_cpy f_p1_key f_t_key (0 : Int32).toNatClampNeg (0 : Int32).toNatClampNeg (8 : Int32).toNatClampNeg))), ((a_t 4), .inl (cy 0, 8, .inl (va_cpy f_p1_kind f_t_kind (0 : Int32).toNatClampNeg (0 : Int32).toNatClampNeg (8 : Int32).toNatClampNeg))), ((a_t 9), .inl (cy 0, 10, .inl (va_cpy f_p1_spot f_t_spot (0 : Int32).toNatClampNeg (0 : Int32).toNatClampNeg (10 : Int32).toNatClampNeg))), ((a_t 1), .inl (cy 0, 48, .inl (va_cpy f_p1_steam f_t_steam (0 : Int32).toNatClampNeg (0 : Int32).toNatClampNeg (48 : Int32).toNatClampNeg))), ((a_t 6), .inl (cy 0, 8, .inl (va_cpy f_p1_wish f_t_wish (0 : Int32).toNatClampNeg (0 : Int32).toNatClampNeg (8 : Int32).toNatClampNeg))), ((a_t 7), .inl (cy 0, 8, .inl (va_cpy f_p1_wrinkles f_t_wrinkles (0 : Int32).toNatClampNeg (0 : Int32).toNatClampNeg (8 : Int32).toNatClampNeg)))] H := hP
  have hD : va_D A [((a_p1 0), oX6 a_p1 v_p1_sight v_p1_bathers v_p1_minute v_p1_seenEver v_p1_z), ((a_t 0), oX6 a_t v_p1_sight v_t_bathers v_t_minute v_t_seenEver v_t_z), ((a_p1 5), .inl (cy 0, 8, .inl f_p1_at)), ((a_p1 2), .inl (cy 0, 48, .inl f_p1_current)), ((a_p1 3), .inl (cy 0, 4, .inl f_p1_guardAt)), ((a_p1 8), .inl (cy 0, 8, .inl f_p1_key)), ((a_p1 4), .inl (cy 0, 8, .inl f_p1_kind)), ((a_p1 9), .inl (cy 0, 10, .inl f_p1_spot)), ((a_p1 1), .inl (cy 0, 48, .inl f_p1_steam)), ((a_p1 6), .inl (cy 0, 8, .inl f_p1_wish)), ((a_p1 7), .inl (cy 0, 8, .inl f_p1_wrinkles)), ((a_t 5), .inl (cy 0, 8, .inl (va_cpy f_p1_at f_t_at (0 : Int32).toNatClampNeg (0 : Int32).toNatClampNeg (8 : Int32).toNatClampNeg))), ((a_t 2), .inl (cy 0, 48, .inl (va_cpy f_p1_current f_t_current (0 : Int32).toNatClampNeg (0 : Int32).toNatClampNeg (48 : Int32).toNatClampNeg))), ((a_t 3), .inl (cy 0, 4, .inl (va_cpy f_p1_guardAt f_t_guardAt (0 : Int32).toNatClampNeg (0 : Int32).toNatClampNeg (4 : Int32).toNatClampNeg))), ((a_t 8), .inl (cy 0, 8, .inl (va_cpy f_p1_key f_t_key (0 : Int32).toNatClampNeg (0 : Int32).toNatClampNeg (8 : Int32).toNatClampNeg))), ((a_t 4), .inl (cy 0, 8, .inl (va_cpy f_p1_kind f_t_kind (0 : Int32).toNatClampNeg (0 : Int32).toNatClampNeg (8 : Int32).toNatClampNeg))), ((a_t 9), .inl (cy 0, 10, .inl (va_cpy f_p1_spot f_t_spot (0 : Int32).toNatClampNeg (0 : Int32).toNatClampNeg (10 : Int32).toNatClampNeg))), ((a_t 1), .inl (cy 0, 48, .inl (va_cpy f_p1_steam f_t_steam (0 : Int32).toNatClampNeg (0 : Int32).toNatClampNeg (48 : Int32).toNatClampNeg))), ((a_t 6), .inl (cy 0, 8, .inl (va_cpy f_p1_wish f_t_wish (0 : Int32).toNatClampNeg (0 : Int32).toNatClampNeg (8 : Int32).toNatClampNeg))), ((a_t 7), .inl (cy 0, 8, .inl (va_cpy f_p1_wrinkles f_t_wrinkles (0 : Int32).toNatClampNeg (0 : Int32).toNatClampNeg (8 : Int32).toNatClampNeg)))] := hD
  refine lv_aload_n hx hb dX6_become_142 rfl (lv_at hl 0 rfl) ?_
  refine lv_aload_n hx hb dX6_become_143 rfl (lv_at hl 1 rfl) ?_
  refine va_get (D := (dC, dI)) (ci := 5) (v := .int v_p1_bathers) (C := RX6) (T := TX6) (N := 14) hx hb hts iwX6 hown hK hP 0 rfl rfl 10 (by decide) lk15 (fun _ h9 => h9) rfl dX6_become_144 ?_
  refine va_put (D := (dC, dI)) (ci := 5) (v := .int v_p1_bathers) (ty := .int) (C := RX6) (T := TX6) (N := 14) hx hb hts iwX6 tyX6 tyX6_ok nmX6 hown hK hP hD hS 1 rfl rfl 10 (by decide) lk15 (fun _ h9 => h9) rfl (by decide +kernel) rfl rfl (Nat.le_of_ble_eq_true rfl) dX6_become_147 (fun H locs hP hD hS => ?_)
  have hP : va_P (dC, dI) vwCl [((a_p1 0), oX6 a_p1 v_p1_sight v_p1_bathers v_p1_minute v_p1_seenEver v_p1_z), ((a_t 0), oX6 a_t v_p1_sight v_p1_bathers v_t_minute v_t_seenEver v_t_z), ((a_p1 5), .inl (cy 0, 8, .inl f_p1_at)), ((a_p1 2), .inl (cy 0, 48, .inl f_p1_current)), ((a_p1 3), .inl (cy 0, 4, .inl f_p1_guardAt)), ((a_p1 8), .inl (cy 0, 8, .inl f_p1_key)), ((a_p1 4), .inl (cy 0, 8, .inl f_p1_kind)), ((a_p1 9), .inl (cy 0, 10, .inl f_p1_spot)), ((a_p1 1), .inl (cy 0, 48, .inl f_p1_steam)), ((a_p1 6), .inl (cy 0, 8, .inl f_p1_wish)), ((a_p1 7), .inl (cy 0, 8, .inl f_p1_wrinkles)), ((a_t 5), .inl (cy 0, 8, .inl (va_cpy f_p1_at f_t_at (0 : Int32).toNatClampNeg (0 : Int32).toNatClampNeg (8 : Int32).toNatClampNeg))), ((a_t 2), .inl (cy 0, 48, .inl (va_cpy f_p1_current f_t_current (0 : Int32).toNatClampNeg (0 : Int32).toNatClampNeg (48 : Int32).toNatClampNeg))), ((a_t 3), .inl (cy 0, 4, .inl (va_cpy f_p1_guardAt f_t_guardAt (0 : Int32).toNatClampNeg (0 : Int32).toNatClampNeg (4 : Int32).toNatClampNeg))), ((a_t 8), .inl (cy 0, 8, .inl (va_cpy f_p1_key f_t_key (0 : Int32).toNatClampNeg (0 : Int32).toNatClampNeg (8 : Int32).toNatClampNeg))), ((a_t 4), .inl (cy 0, 8, .inl (va_cpy f_p1_kind f_t_kind (0 : Int32).toNatClampNeg (0 : Int32).toNatClampNeg (8 : Int32).toNatClampNeg))), ((a_t 9), .inl (cy 0, 10, .inl (va_cpy f_p1_spot f_t_spot (0 : Int32).toNatClampNeg (0 : Int32).toNatClampNeg (10 : Int32).toNatClampNeg))), ((a_t 1), .inl (cy 0, 48, .inl (va_cpy f_p1_steam f_t_steam (0 : Int32).toNatClampNeg (0 : Int32).toNatClampNeg (48 : Int32).toNatClampNeg))), ((a_t 6), .inl (cy 0, 8, .inl (va_cpy f_p1_wish f_t_wish (0 : Int32).toNatClampNeg (0 : Int32).toNatClampNeg (8 : Int32).toNatClampNeg))), ((a_t 7), .inl (cy 0, 8, .inl (va_cpy f_p1_wrinkles f_t_wrinkles (0 : Int32).toNatClampNeg (0 : Int32).toNatClampNeg (8 : Int32).toNatClampNeg)))] H := hP
  have hD : va_D A [((a_p1 0), oX6 a_p1 v_p1_sight v_p1_bathers v_p1_minute v_p1_seenEver v_p1_z), ((a_t 0), oX6 a_t v_p1_sight v_p1_bathers v_t_minute v_t_seenEver v_t_z), ((a_p1 5), .inl (cy 0, 8, .inl f_p1_at)), ((a_p1 2), .inl (cy 0, 48, .inl f_p1_current)), ((a_p1 3), .inl (cy 0, 4, .inl f_p1_guardAt)), ((a_p1 8), .inl (cy 0, 8, .inl f_p1_key)), ((a_p1 4), .inl (cy 0, 8, .inl f_p1_kind)), ((a_p1 9), .inl (cy 0, 10, .inl f_p1_spot)), ((a_p1 1), .inl (cy 0, 48, .inl f_p1_steam)), ((a_p1 6), .inl (cy 0, 8, .inl f_p1_wish)), ((a_p1 7), .inl (cy 0, 8, .inl f_p1_wrinkles)), ((a_t 5), .inl (cy 0, 8, .inl (va_cpy f_p1_at f_t_at (0 : Int32).toNatClampNeg (0 : Int32).toNatClampNeg (8 : Int32).toNatClampNeg))), ((a_t 2), .inl (cy 0, 48, .inl (va_cpy f_p1_current f_t_current (0 : Int32).toNatClampNeg (0 : Int32).toNatClampNeg (48 : Int32).toNatClampNeg))), ((a_t 3), .inl (cy 0, 4, .inl (va_cpy f_p1_guardAt f_t_guardAt (0 : Int32).toNatClampNeg (0 : Int32).toNatClampNeg (4 : Int32).toNatClampNeg))), ((a_t 8), .inl (cy 0, 8, .inl (va_cpy f_p1_key f_t_key (0 : Int32).toNatClampNeg (0 : Int32).toNatClampNeg (8 : Int32).toNatClampNeg))), ((a_t 4), .inl (cy 0, 8, .inl (va_cpy f_p1_kind f_t_kind (0 : Int32).toNatClampNeg (0 : Int32).toNatClampNeg (8 : Int32).toNatClampNeg))), ((a_t 9), .inl (cy 0, 10, .inl (va_cpy f_p1_spot f_t_spot (0 : Int32).toNatClampNeg (0 : Int32).toNatClampNeg (10 : Int32).toNatClampNeg))), ((a_t 1), .inl (cy 0, 48, .inl (va_cpy f_p1_steam f_t_steam (0 : Int32).toNatClampNeg (0 : Int32).toNatClampNeg (48 : Int32).toNatClampNeg))), ((a_t 6), .inl (cy 0, 8, .inl (va_cpy f_p1_wish f_t_wish (0 : Int32).toNatClampNeg (0 : Int32).toNatClampNeg (8 : Int32).toNatClampNeg))), ((a_t 7), .inl (cy 0, 8, .inl (va_cpy f_p1_wrinkles f_t_wrinkles (0 : Int32).toNatClampNeg (0 : Int32).toNatClampNeg (8 : Int32).toNatClampNeg)))] := hD
  refine lv_aload_n hx hb dX6_become_150 rfl (lv_at hl 0 rfl) ?_
  refine lv_aload_n hx hb dX6_become_151 rfl (lv_at hl 1 rfl) ?_
  refine va_get (D := (dC, dI)) (ci := 5) (v := .int v_p1_minute) (C := RX6) (T := TX6) (N := 14) hx hb hts iwX6 hown hK hP 0 rfl rfl 11 (by decide) lk16 (fun _ h9 => h9) rfl dX6_become_152 ?_
  refine va_put (D := (dC, dI)) (ci := 5) (v := .int v_p1_minute) (ty := .int) (C := RX6) (T := TX6) (N := 14) hx hb hts iwX6 tyX6 tyX6_ok nmX6 hown hK hP hD hS 1 rfl rfl 11 (by decide) lk16 (fun _ h9 => h9) rfl (by decide +kernel) rfl rfl (Nat.le_of_ble_eq_true rfl) dX6_become_155 (fun H locs hP hD hS => ?_)
  have hP : va_P (dC, dI) vwCl [((a_p1 0), oX6 a_p1 v_p1_sight v_p1_bathers v_p1_minute v_p1_seenEver v_p1_z), ((a_t 0), oX6 a_t v_p1_sight v_p1_bathers v_p1_minute v_t_seenEver v_t_z), ((a_p1 5), .inl (cy 0, 8, .inl f_p1_at)), ((a_p1 2), .inl (cy 0, 48, .inl f_p1_current)), ((a_p1 3), .inl (cy 0, 4, .inl f_p1_guardAt)), ((a_p1 8), .inl (cy 0, 8, .inl f_p1_key)), ((a_p1 4), .inl (cy 0, 8, .inl f_p1_kind)), ((a_p1 9), .inl (cy 0, 10, .inl f_p1_spot)), ((a_p1 1), .inl (cy 0, 48, .inl f_p1_steam)), ((a_p1 6), .inl (cy 0, 8, .inl f_p1_wish)), ((a_p1 7), .inl (cy 0, 8, .inl f_p1_wrinkles)), ((a_t 5), .inl (cy 0, 8, .inl (va_cpy f_p1_at f_t_at (0 : Int32).toNatClampNeg (0 : Int32).toNatClampNeg (8 : Int32).toNatClampNeg))), ((a_t 2), .inl (cy 0, 48, .inl (va_cpy f_p1_current f_t_current (0 : Int32).toNatClampNeg (0 : Int32).toNatClampNeg (48 : Int32).toNatClampNeg))), ((a_t 3), .inl (cy 0, 4, .inl (va_cpy f_p1_guardAt f_t_guardAt (0 : Int32).toNatClampNeg (0 : Int32).toNatClampNeg (4 : Int32).toNatClampNeg))), ((a_t 8), .inl (cy 0, 8, .inl (va_cpy f_p1_key f_t_key (0 : Int32).toNatClampNeg (0 : Int32).toNatClampNeg (8 : Int32).toNatClampNeg))), ((a_t 4), .inl (cy 0, 8, .inl (va_cpy f_p1_kind f_t_kind (0 : Int32).toNatClampNeg (0 : Int32).toNatClampNeg (8 : Int32).toNatClampNeg))), ((a_t 9), .inl (cy 0, 10, .inl (va_cpy f_p1_spot f_t_spot (0 : Int32).toNatClampNeg (0 : Int32).toNatClampNeg (10 : Int32).toNatClampNeg))), ((a_t 1), .inl (cy 0, 48, .inl (va_cpy f_p1_steam f_t_steam (0 : Int32).toNatClampNeg (0 : Int32).toNatClampNeg (48 : Int32).toNatClampNeg))), ((a_t 6), .inl (cy 0, 8, .inl (va_cpy f_p1_wish f_t_wish (0 : Int32).toNatClampNeg (0 : Int32).toNatClampNeg (8 : Int32).toNatClampNeg))), ((a_t 7), .inl (cy 0, 8, .inl (va_cpy f_p1_wrinkles f_t_wrinkles (0 : Int32).toNatClampNeg (0 : Int32).toNatClampNeg (8 : Int32).toNatClampNeg)))] H := hP
  have hD : va_D A [((a_p1 0), oX6 a_p1 v_p1_sight v_p1_bathers v_p1_minute v_p1_seenEver v_p1_z), ((a_t 0), oX6 a_t v_p1_sight v_p1_bathers v_p1_minute v_t_seenEver v_t_z), ((a_p1 5), .inl (cy 0, 8, .inl f_p1_at)), ((a_p1 2), .inl (cy 0, 48, .inl f_p1_current)), ((a_p1 3), .inl (cy 0, 4, .inl f_p1_guardAt)), ((a_p1 8), .inl (cy 0, 8, .inl f_p1_key)), ((a_p1 4), .inl (cy 0, 8, .inl f_p1_kind)), ((a_p1 9), .inl (cy 0, 10, .inl f_p1_spot)), ((a_p1 1), .inl (cy 0, 48, .inl f_p1_steam)), ((a_p1 6), .inl (cy 0, 8, .inl f_p1_wish)), ((a_p1 7), .inl (cy 0, 8, .inl f_p1_wrinkles)), ((a_t 5), .inl (cy 0, 8, .inl (va_cpy f_p1_at f_t_at (0 : Int32).toNatClampNeg (0 : Int32).toNatClampNeg (8 : Int32).toNatClampNeg))), ((a_t 2), .inl (cy 0, 48, .inl (va_cpy f_p1_current f_t_current (0 : Int32).toNatClampNeg (0 : Int32).toNatClampNeg (48 : Int32).toNatClampNeg))), ((a_t 3), .inl (cy 0, 4, .inl (va_cpy f_p1_guardAt f_t_guardAt (0 : Int32).toNatClampNeg (0 : Int32).toNatClampNeg (4 : Int32).toNatClampNeg))), ((a_t 8), .inl (cy 0, 8, .inl (va_cpy f_p1_key f_t_key (0 : Int32).toNatClampNeg (0 : Int32).toNatClampNeg (8 : Int32).toNatClampNeg))), ((a_t 4), .inl (cy 0, 8, .inl (va_cpy f_p1_kind f_t_kind (0 : Int32).toNatClampNeg (0 : Int32).toNatClampNeg (8 : Int32).toNatClampNeg))), ((a_t 9), .inl (cy 0, 10, .inl (va_cpy f_p1_spot f_t_spot (0 : Int32).toNatClampNeg (0 : Int32).toNatClampNeg (10 : Int32).toNatClampNeg))), ((a_t 1), .inl (cy 0, 48, .inl (va_cpy f_p1_steam f_t_steam (0 : Int32).toNatClampNeg (0 : Int32).toNatClampNeg (48 : Int32).toNatClampNeg))), ((a_t 6), .inl (cy 0, 8, .inl (va_cpy f_p1_wish f_t_wish (0 : Int32).toNatClampNeg (0 : Int32).toNatClampNeg (8 : Int32).toNatClampNeg))), ((a_t 7), .inl (cy 0, 8, .inl (va_cpy f_p1_wrinkles f_t_wrinkles (0 : Int32).toNatClampNeg (0 : Int32).toNatClampNeg (8 : Int32).toNatClampNeg)))] := hD
  refine lv_aload_n hx hb dX6_become_158 rfl (lv_at hl 0 rfl) ?_
  refine lv_aload_n hx hb dX6_become_159 rfl (lv_at hl 1 rfl) ?_
  refine va_get (D := (dC, dI)) (ci := 5) (v := .int v_p1_seenEver) (C := RX6) (T := TX6) (N := 14) hx hb hts iwX6 hown hK hP 0 rfl rfl 12 (by decide) lk17 (fun _ h9 => h9) rfl dX6_become_160 ?_
  refine va_put (D := (dC, dI)) (ci := 5) (v := .int v_p1_seenEver) (ty := .int) (C := RX6) (T := TX6) (N := 14) hx hb hts iwX6 tyX6 tyX6_ok nmX6 hown hK hP hD hS 1 rfl rfl 12 (by decide) lk17 (fun _ h9 => h9) rfl (by decide +kernel) rfl rfl (Nat.le_of_ble_eq_true rfl) dX6_become_163 (fun H locs hP hD hS => ?_)
  have hP : va_P (dC, dI) vwCl [((a_p1 0), oX6 a_p1 v_p1_sight v_p1_bathers v_p1_minute v_p1_seenEver v_p1_z), ((a_t 0), oX6 a_t v_p1_sight v_p1_bathers v_p1_minute v_p1_seenEver v_t_z), ((a_p1 5), .inl (cy 0, 8, .inl f_p1_at)), ((a_p1 2), .inl (cy 0, 48, .inl f_p1_current)), ((a_p1 3), .inl (cy 0, 4, .inl f_p1_guardAt)), ((a_p1 8), .inl (cy 0, 8, .inl f_p1_key)), ((a_p1 4), .inl (cy 0, 8, .inl f_p1_kind)), ((a_p1 9), .inl (cy 0, 10, .inl f_p1_spot)), ((a_p1 1), .inl (cy 0, 48, .inl f_p1_steam)), ((a_p1 6), .inl (cy 0, 8, .inl f_p1_wish)), ((a_p1 7), .inl (cy 0, 8, .inl f_p1_wrinkles)), ((a_t 5), .inl (cy 0, 8, .inl (va_cpy f_p1_at f_t_at (0 : Int32).toNatClampNeg (0 : Int32).toNatClampNeg (8 : Int32).toNatClampNeg))), ((a_t 2), .inl (cy 0, 48, .inl (va_cpy f_p1_current f_t_current (0 : Int32).toNatClampNeg (0 : Int32).toNatClampNeg (48 : Int32).toNatClampNeg))), ((a_t 3), .inl (cy 0, 4, .inl (va_cpy f_p1_guardAt f_t_guardAt (0 : Int32).toNatClampNeg (0 : Int32).toNatClampNeg (4 : Int32).toNatClampNeg))), ((a_t 8), .inl (cy 0, 8, .inl (va_cpy f_p1_key f_t_key (0 : Int32).toNatClampNeg (0 : Int32).toNatClampNeg (8 : Int32).toNatClampNeg))), ((a_t 4), .inl (cy 0, 8, .inl (va_cpy f_p1_kind f_t_kind (0 : Int32).toNatClampNeg (0 : Int32).toNatClampNeg (8 : Int32).toNatClampNeg))), ((a_t 9), .inl (cy 0, 10, .inl (va_cpy f_p1_spot f_t_spot (0 : Int32).toNatClampNeg (0 : Int32).toNatClampNeg (10 : Int32).toNatClampNeg))), ((a_t 1), .inl (cy 0, 48, .inl (va_cpy f_p1_steam f_t_steam (0 : Int32).toNatClampNeg (0 : Int32).toNatClampNeg (48 : Int32).toNatClampNeg))), ((a_t 6), .inl (cy 0, 8, .inl (va_cpy f_p1_wish f_t_wish (0 : Int32).toNatClampNeg (0 : Int32).toNatClampNeg (8 : Int32).toNatClampNeg))), ((a_t 7), .inl (cy 0, 8, .inl (va_cpy f_p1_wrinkles f_t_wrinkles (0 : Int32).toNatClampNeg (0 : Int32).toNatClampNeg (8 : Int32).toNatClampNeg)))] H := hP
  have hD : va_D A [((a_p1 0), oX6 a_p1 v_p1_sight v_p1_bathers v_p1_minute v_p1_seenEver v_p1_z), ((a_t 0), oX6 a_t v_p1_sight v_p1_bathers v_p1_minute v_p1_seenEver v_t_z), ((a_p1 5), .inl (cy 0, 8, .inl f_p1_at)), ((a_p1 2), .inl (cy 0, 48, .inl f_p1_current)), ((a_p1 3), .inl (cy 0, 4, .inl f_p1_guardAt)), ((a_p1 8), .inl (cy 0, 8, .inl f_p1_key)), ((a_p1 4), .inl (cy 0, 8, .inl f_p1_kind)), ((a_p1 9), .inl (cy 0, 10, .inl f_p1_spot)), ((a_p1 1), .inl (cy 0, 48, .inl f_p1_steam)), ((a_p1 6), .inl (cy 0, 8, .inl f_p1_wish)), ((a_p1 7), .inl (cy 0, 8, .inl f_p1_wrinkles)), ((a_t 5), .inl (cy 0, 8, .inl (va_cpy f_p1_at f_t_at (0 : Int32).toNatClampNeg (0 : Int32).toNatClampNeg (8 : Int32).toNatClampNeg))), ((a_t 2), .inl (cy 0, 48, .inl (va_cpy f_p1_current f_t_current (0 : Int32).toNatClampNeg (0 : Int32).toNatClampNeg (48 : Int32).toNatClampNeg))), ((a_t 3), .inl (cy 0, 4, .inl (va_cpy f_p1_guardAt f_t_guardAt (0 : Int32).toNatClampNeg (0 : Int32).toNatClampNeg (4 : Int32).toNatClampNeg))), ((a_t 8), .inl (cy 0, 8, .inl (va_cpy f_p1_key f_t_key (0 : Int32).toNatClampNeg (0 : Int32).toNatClampNeg (8 : Int32).toNatClampNeg))), ((a_t 4), .inl (cy 0, 8, .inl (va_cpy f_p1_kind f_t_kind (0 : Int32).toNatClampNeg (0 : Int32).toNatClampNeg (8 : Int32).toNatClampNeg))), ((a_t 9), .inl (cy 0, 10, .inl (va_cpy f_p1_spot f_t_spot (0 : Int32).toNatClampNeg (0 : Int32).toNatClampNeg (10 : Int32).toNatClampNeg))), ((a_t 1), .inl (cy 0, 48, .inl (va_cpy f_p1_steam f_t_steam (0 : Int32).toNatClampNeg (0 : Int32).toNatClampNeg (48 : Int32).toNatClampNeg))), ((a_t 6), .inl (cy 0, 8, .inl (va_cpy f_p1_wish f_t_wish (0 : Int32).toNatClampNeg (0 : Int32).toNatClampNeg (8 : Int32).toNatClampNeg))), ((a_t 7), .inl (cy 0, 8, .inl (va_cpy f_p1_wrinkles f_t_wrinkles (0 : Int32).toNatClampNeg (0 : Int32).toNatClampNeg (8 : Int32).toNatClampNeg)))] := hD
  refine lv_aload_n hx hb dX6_become_166 rfl (lv_at hl 0 rfl) ?_
  refine lv_aload_n hx hb dX6_become_167 rfl (lv_at hl 1 rfl) ?_
  refine va_get (D := (dC, dI)) (ci := 5) (v := .int v_p1_z) (C := RX6) (T := TX6) (N := 14) hx hb hts iwX6 hown hK hP 0 rfl rfl 13 (by decide) lk18 (fun _ h9 => h9) rfl dX6_become_168 ?_
  refine va_put (D := (dC, dI)) (ci := 5) (v := .int v_p1_z) (ty := .int) (C := RX6) (T := TX6) (N := 14) hx hb hts iwX6 tyX6 tyX6_ok nmX6 hown hK hP hD hS 1 rfl rfl 13 (by decide) lk18 (fun _ h9 => h9) rfl (by decide +kernel) rfl rfl (Nat.le_of_ble_eq_true rfl) dX6_become_171 (fun H locs hP hD hS => ?_)
  have hP : va_P (dC, dI) vwCl [((a_p1 0), oX6 a_p1 v_p1_sight v_p1_bathers v_p1_minute v_p1_seenEver v_p1_z), ((a_t 0), oX6 a_t v_p1_sight v_p1_bathers v_p1_minute v_p1_seenEver v_p1_z), ((a_p1 5), .inl (cy 0, 8, .inl f_p1_at)), ((a_p1 2), .inl (cy 0, 48, .inl f_p1_current)), ((a_p1 3), .inl (cy 0, 4, .inl f_p1_guardAt)), ((a_p1 8), .inl (cy 0, 8, .inl f_p1_key)), ((a_p1 4), .inl (cy 0, 8, .inl f_p1_kind)), ((a_p1 9), .inl (cy 0, 10, .inl f_p1_spot)), ((a_p1 1), .inl (cy 0, 48, .inl f_p1_steam)), ((a_p1 6), .inl (cy 0, 8, .inl f_p1_wish)), ((a_p1 7), .inl (cy 0, 8, .inl f_p1_wrinkles)), ((a_t 5), .inl (cy 0, 8, .inl (va_cpy f_p1_at f_t_at (0 : Int32).toNatClampNeg (0 : Int32).toNatClampNeg (8 : Int32).toNatClampNeg))), ((a_t 2), .inl (cy 0, 48, .inl (va_cpy f_p1_current f_t_current (0 : Int32).toNatClampNeg (0 : Int32).toNatClampNeg (48 : Int32).toNatClampNeg))), ((a_t 3), .inl (cy 0, 4, .inl (va_cpy f_p1_guardAt f_t_guardAt (0 : Int32).toNatClampNeg (0 : Int32).toNatClampNeg (4 : Int32).toNatClampNeg))), ((a_t 8), .inl (cy 0, 8, .inl (va_cpy f_p1_key f_t_key (0 : Int32).toNatClampNeg (0 : Int32).toNatClampNeg (8 : Int32).toNatClampNeg))), ((a_t 4), .inl (cy 0, 8, .inl (va_cpy f_p1_kind f_t_kind (0 : Int32).toNatClampNeg (0 : Int32).toNatClampNeg (8 : Int32).toNatClampNeg))), ((a_t 9), .inl (cy 0, 10, .inl (va_cpy f_p1_spot f_t_spot (0 : Int32).toNatClampNeg (0 : Int32).toNatClampNeg (10 : Int32).toNatClampNeg))), ((a_t 1), .inl (cy 0, 48, .inl (va_cpy f_p1_steam f_t_steam (0 : Int32).toNatClampNeg (0 : Int32).toNatClampNeg (48 : Int32).toNatClampNeg))), ((a_t 6), .inl (cy 0, 8, .inl (va_cpy f_p1_wish f_t_wish (0 : Int32).toNatClampNeg (0 : Int32).toNatClampNeg (8 : Int32).toNatClampNeg))), ((a_t 7), .inl (cy 0, 8, .inl (va_cpy f_p1_wrinkles f_t_wrinkles (0 : Int32).toNatClampNeg (0 : Int32).toNatClampNeg (8 : Int32).toNatClampNeg)))] H := hP
  have hD : va_D A [((a_p1 0), oX6 a_p1 v_p1_sight v_p1_bathers v_p1_minute v_p1_seenEver v_p1_z), ((a_t 0), oX6 a_t v_p1_sight v_p1_bathers v_p1_minute v_p1_seenEver v_p1_z), ((a_p1 5), .inl (cy 0, 8, .inl f_p1_at)), ((a_p1 2), .inl (cy 0, 48, .inl f_p1_current)), ((a_p1 3), .inl (cy 0, 4, .inl f_p1_guardAt)), ((a_p1 8), .inl (cy 0, 8, .inl f_p1_key)), ((a_p1 4), .inl (cy 0, 8, .inl f_p1_kind)), ((a_p1 9), .inl (cy 0, 10, .inl f_p1_spot)), ((a_p1 1), .inl (cy 0, 48, .inl f_p1_steam)), ((a_p1 6), .inl (cy 0, 8, .inl f_p1_wish)), ((a_p1 7), .inl (cy 0, 8, .inl f_p1_wrinkles)), ((a_t 5), .inl (cy 0, 8, .inl (va_cpy f_p1_at f_t_at (0 : Int32).toNatClampNeg (0 : Int32).toNatClampNeg (8 : Int32).toNatClampNeg))), ((a_t 2), .inl (cy 0, 48, .inl (va_cpy f_p1_current f_t_current (0 : Int32).toNatClampNeg (0 : Int32).toNatClampNeg (48 : Int32).toNatClampNeg))), ((a_t 3), .inl (cy 0, 4, .inl (va_cpy f_p1_guardAt f_t_guardAt (0 : Int32).toNatClampNeg (0 : Int32).toNatClampNeg (4 : Int32).toNatClampNeg))), ((a_t 8), .inl (cy 0, 8, .inl (va_cpy f_p1_key f_t_key (0 : Int32).toNatClampNeg (0 : Int32).toNatClampNeg (8 : Int32).toNatClampNeg))), ((a_t 4), .inl (cy 0, 8, .inl (va_cpy f_p1_kind f_t_kind (0 : Int32).toNatClampNeg (0 : Int32).toNatClampNeg (8 : Int32).toNatClampNeg))), ((a_t 9), .inl (cy 0, 10, .inl (va_cpy f_p1_spot f_t_spot (0 : Int32).toNatClampNeg (0 : Int32).toNatClampNeg (10 : Int32).toNatClampNeg))), ((a_t 1), .inl (cy 0, 48, .inl (va_cpy f_p1_steam f_t_steam (0 : Int32).toNatClampNeg (0 : Int32).toNatClampNeg (48 : Int32).toNatClampNeg))), ((a_t 6), .inl (cy 0, 8, .inl (va_cpy f_p1_wish f_t_wish (0 : Int32).toNatClampNeg (0 : Int32).toNatClampNeg (8 : Int32).toNatClampNeg))), ((a_t 7), .inl (cy 0, 8, .inl (va_cpy f_p1_wrinkles f_t_wrinkles (0 : Int32).toNatClampNeg (0 : Int32).toNatClampNeg (8 : Int32).toNatClampNeg)))] := hD
  obtain ⟨rfl, rfl, rfl, rfl, rfl, rfl, rfl, rfl, rfl, rfl, rfl, rfl, rfl, rfl⟩ := bb_some14 h
  have hP9 := hP.sub (ws' := [((a_p1 0), oX6 a_p1 v_p1_sight v_p1_bathers v_p1_minute v_p1_seenEver v_p1_z), ((a_t 0), oX6 a_t v_p1_sight v_p1_bathers v_p1_minute v_p1_seenEver v_p1_z), ((a_p1 5), .inl (cy 0, 8, .inl f_p1_at)), ((a_p1 2), .inl (cy 0, 48, .inl f_p1_current)), ((a_p1 3), .inl (cy 0, 4, .inl f_p1_guardAt)), ((a_p1 8), .inl (cy 0, 8, .inl f_p1_key)), ((a_p1 4), .inl (cy 0, 8, .inl f_p1_kind)), ((a_p1 9), .inl (cy 0, 10, .inl f_p1_spot)), ((a_p1 1), .inl (cy 0, 48, .inl f_p1_steam)), ((a_p1 6), .inl (cy 0, 8, .inl f_p1_wish)), ((a_p1 7), .inl (cy 0, 8, .inl f_p1_wrinkles)), ((a_t 5), .inl (cy 0, 8, .inl (va_cpy f_p1_at f_t_at (0 : Int32).toNatClampNeg (0 : Int32).toNatClampNeg (8 : Int32).toNatClampNeg))), ((a_t 2), .inl (cy 0, 48, .inl (va_cpy f_p1_current f_t_current (0 : Int32).toNatClampNeg (0 : Int32).toNatClampNeg (48 : Int32).toNatClampNeg))), ((a_t 3), .inl (cy 0, 4, .inl (va_cpy f_p1_guardAt f_t_guardAt (0 : Int32).toNatClampNeg (0 : Int32).toNatClampNeg (4 : Int32).toNatClampNeg))), ((a_t 8), .inl (cy 0, 8, .inl (va_cpy f_p1_key f_t_key (0 : Int32).toNatClampNeg (0 : Int32).toNatClampNeg (8 : Int32).toNatClampNeg))), ((a_t 4), .inl (cy 0, 8, .inl (va_cpy f_p1_kind f_t_kind (0 : Int32).toNatClampNeg (0 : Int32).toNatClampNeg (8 : Int32).toNatClampNeg))), ((a_t 9), .inl (cy 0, 10, .inl (va_cpy f_p1_spot f_t_spot (0 : Int32).toNatClampNeg (0 : Int32).toNatClampNeg (10 : Int32).toNatClampNeg))), ((a_t 1), .inl (cy 0, 48, .inl (va_cpy f_p1_steam f_t_steam (0 : Int32).toNatClampNeg (0 : Int32).toNatClampNeg (48 : Int32).toNatClampNeg))), ((a_t 6), .inl (cy 0, 8, .inl (va_cpy f_p1_wish f_t_wish (0 : Int32).toNatClampNeg (0 : Int32).toNatClampNeg (8 : Int32).toNatClampNeg))), ((a_t 7), .inl (cy 0, 8, .inl (va_cpy f_p1_wrinkles f_t_wrinkles (0 : Int32).toNatClampNeg (0 : Int32).toNatClampNeg (8 : Int32).toNatClampNeg)))]) [0, 1, 2, 3, 4, 5, 6, 7, 8, 9, 10, 11, 12, 13, 14, 15, 16, 17, 18, 19] rfl
  have hD9 := hD.sub (ws' := [((a_p1 0), oX6 a_p1 v_p1_sight v_p1_bathers v_p1_minute v_p1_seenEver v_p1_z), ((a_t 0), oX6 a_t v_p1_sight v_p1_bathers v_p1_minute v_p1_seenEver v_p1_z), ((a_p1 5), .inl (cy 0, 8, .inl f_p1_at)), ((a_p1 2), .inl (cy 0, 48, .inl f_p1_current)), ((a_p1 3), .inl (cy 0, 4, .inl f_p1_guardAt)), ((a_p1 8), .inl (cy 0, 8, .inl f_p1_key)), ((a_p1 4), .inl (cy 0, 8, .inl f_p1_kind)), ((a_p1 9), .inl (cy 0, 10, .inl f_p1_spot)), ((a_p1 1), .inl (cy 0, 48, .inl f_p1_steam)), ((a_p1 6), .inl (cy 0, 8, .inl f_p1_wish)), ((a_p1 7), .inl (cy 0, 8, .inl f_p1_wrinkles)), ((a_t 5), .inl (cy 0, 8, .inl (va_cpy f_p1_at f_t_at (0 : Int32).toNatClampNeg (0 : Int32).toNatClampNeg (8 : Int32).toNatClampNeg))), ((a_t 2), .inl (cy 0, 48, .inl (va_cpy f_p1_current f_t_current (0 : Int32).toNatClampNeg (0 : Int32).toNatClampNeg (48 : Int32).toNatClampNeg))), ((a_t 3), .inl (cy 0, 4, .inl (va_cpy f_p1_guardAt f_t_guardAt (0 : Int32).toNatClampNeg (0 : Int32).toNatClampNeg (4 : Int32).toNatClampNeg))), ((a_t 8), .inl (cy 0, 8, .inl (va_cpy f_p1_key f_t_key (0 : Int32).toNatClampNeg (0 : Int32).toNatClampNeg (8 : Int32).toNatClampNeg))), ((a_t 4), .inl (cy 0, 8, .inl (va_cpy f_p1_kind f_t_kind (0 : Int32).toNatClampNeg (0 : Int32).toNatClampNeg (8 : Int32).toNatClampNeg))), ((a_t 9), .inl (cy 0, 10, .inl (va_cpy f_p1_spot f_t_spot (0 : Int32).toNatClampNeg (0 : Int32).toNatClampNeg (10 : Int32).toNatClampNeg))), ((a_t 1), .inl (cy 0, 48, .inl (va_cpy f_p1_steam f_t_steam (0 : Int32).toNatClampNeg (0 : Int32).toNatClampNeg (48 : Int32).toNatClampNeg))), ((a_t 6), .inl (cy 0, 8, .inl (va_cpy f_p1_wish f_t_wish (0 : Int32).toNatClampNeg (0 : Int32).toNatClampNeg (8 : Int32).toNatClampNeg))), ((a_t 7), .inl (cy 0, 8, .inl (va_cpy f_p1_wrinkles f_t_wrinkles (0 : Int32).toNatClampNeg (0 : Int32).toNatClampNeg (8 : Int32).toNatClampNeg)))]) [0, 1, 2, 3, 4, 5, 6, 7, 8, 9, 10, 11, 12, 13, 14, 15, 16, 17, 18, 19] (by decide) rfl
  exact W.vret hx hb hr (fun t ht hW => ⟨⟨(), rfl, trivial, by rw [ht]; exact hP9, va_K.moved hW.alike hK, hD9⟩, hS.F ht⟩) hS.2.2 dX6_become_174
/-! X6_admit -/
def uX6_admit (p1 : Int32) (p2 : Int32) (v_t_bathers : Int32) (f_t_at : Nat → Int32) (f_t_key : Nat → Int32) (f_t_kind : Nat → Int32) (f_t_wish : Nat → Int32) (f_t_wrinkles : Nat → Int32) : Option (Int32 × (Int32) × (Nat → Int32) × (Nat → Int32) × (Nat → Int32) × (Nat → Int32) × (Nat → Int32)) :=
  bb_ix v_t_bathers 8 (bb_ix v_t_bathers 8 (bb_ix v_t_bathers 8 (bb_ix v_t_bathers 8 (bb_ix v_t_bathers 8 (some (v_t_bathers, v_t_bathers + (1 : Int32), upd f_t_at v_t_bathers.toNatClampNeg p2, upd f_t_key v_t_bathers.toNatClampNeg v_t_bathers, upd f_t_kind v_t_bathers.toNatClampNeg p1, upd f_t_wish v_t_bathers.toNatClampNeg (0 : Int32), upd f_t_wrinkles v_t_bathers.toNatClampNeg (0 : Int32)))))))
theorem kdX6_admit : yX6_admit.cls = RX6 ∧ yX6_admit.cls ≠ "java/lang/invoke/MethodHandle" ∧ yX6_admit.cls ≠ "java/lang/invoke/VarHandle" ∧ (parseMethodDescriptor yX6_admit.desc).map (fun d => d.parameters.length) = some 2 := by decide +kernel
set_option maxHeartbeats 4000000 in
set_option maxRecDepth 100000 in
theorem kX6_admit (l : Launch) (dC : Nat → ClassId) (dI : Nat → Nat → Nat) (cy : Nat → ClassId) (sz : Nat) (a_t : Nat → Nat) (p1 : Int32) (p2 : Int32) (v_t_sight : Int32) (v_t_bathers : Int32) (v_t_minute : Int32) (v_t_seenEver : Int32) (v_t_z : Int32) (f_t_at : Nat → Int32) (f_t_key : Nat → Int32) (f_t_kind : Nat → Int32) (f_t_wish : Nat → Int32) (f_t_wrinkles : Nat → Int32) (r : Int32) (v_t_bathers_o : Int32) (f_t_at_o : Nat → Int32) (f_t_key_o : Nat → Int32) (f_t_kind_o : Nat → Int32) (f_t_wish_o : Nat → Int32) (f_t_wrinkles_o : Nat → Int32) (h : uX6_admit p1 p2 v_t_bathers f_t_at f_t_key f_t_kind f_t_wish f_t_wrinkles = some (r, v_t_bathers_o, f_t_at_o, f_t_key_o, f_t_kind_o, f_t_wish_o, f_t_wrinkles_o)) : Met l yX6_admit wsX6_admit ({ frames := 0, cells := 0, slots := 0, locals := 0 }) (va_Pc [.ref (a_t 0), .int p1, .int p2] (fun U => U.heap.size = sz ∧ va_P (dC, dI) vwCl [((a_t 0), oX6 a_t v_t_sight v_t_bathers v_t_minute v_t_seenEver v_t_z), ((a_t 5), .inl (cy 0, 8, .inl f_t_at)), ((a_t 8), .inl (cy 0, 8, .inl f_t_key)), ((a_t 4), .inl (cy 0, 8, .inl f_t_kind)), ((a_t 6), .inl (cy 0, 8, .inl f_t_wish)), ((a_t 7), .inl (cy 0, 8, .inl f_t_wrinkles))] U.heap ∧ va_K (dC, dI) vwCl (tyX cy) U ∧ va_D (fun _ => True) [((a_t 0), oX6 a_t v_t_sight v_t_bathers v_t_minute v_t_seenEver v_t_z), ((a_t 5), .inl (cy 0, 8, .inl f_t_at)), ((a_t 8), .inl (cy 0, 8, .inl f_t_key)), ((a_t 4), .inl (cy 0, 8, .inl f_t_kind)), ((a_t 6), .inl (cy 0, 8, .inl f_t_wish)), ((a_t 7), .inl (cy 0, 8, .inl f_t_wrinkles))])) (va_Qi (fun (r2 : Int32) (_ : Unit) => r = r2) (fun _ t => va_P (dC, dI) vwCl [((a_t 0), oX6 a_t v_t_sight v_t_bathers_o v_t_minute v_t_seenEver v_t_z), ((a_t 5), .inl (cy 0, 8, .inl f_t_at_o)), ((a_t 8), .inl (cy 0, 8, .inl f_t_key_o)), ((a_t 4), .inl (cy 0, 8, .inl f_t_kind_o)), ((a_t 6), .inl (cy 0, 8, .inl f_t_wish_o)), ((a_t 7), .inl (cy 0, 8, .inl f_t_wrinkles_o))] t.heap ∧ va_K (dC, dI) vwCl (tyX cy) t ∧ va_D (va_A [((a_t 0), oX6 a_t v_t_sight v_t_bathers v_t_minute v_t_seenEver v_t_z), ((a_t 5), .inl (cy 0, 8, .inl f_t_at)), ((a_t 8), .inl (cy 0, 8, .inl f_t_key)), ((a_t 4), .inl (cy 0, 8, .inl f_t_kind)), ((a_t 6), .inl (cy 0, 8, .inl f_t_wish)), ((a_t 7), .inl (cy 0, 8, .inl f_t_wrinkles))] sz) [((a_t 0), oX6 a_t v_t_sight v_t_bathers_o v_t_minute v_t_seenEver v_t_z), ((a_t 5), .inl (cy 0, 8, .inl f_t_at_o)), ((a_t 8), .inl (cy 0, 8, .inl f_t_key_o)), ((a_t 4), .inl (cy 0, 8, .inl f_t_kind_o)), ((a_t 6), .inl (cy 0, 8, .inl f_t_wish_o)), ((a_t 7), .inl (cy 0, 8, .inl f_t_wrinkles_o))]) (va_A [((a_t 0), oX6 a_t v_t_sight v_t_bathers v_t_minute v_t_seenEver v_t_z), ((a_t 5), .inl (cy 0, 8, .inl f_t_at)), ((a_t 8), .inl (cy 0, 8, .inl f_t_key)), ((a_t 4), .inl (cy 0, 8, .inl f_t_kind)), ((a_t 6), .inl (cy 0, 8, .inl f_t_wish)), ((a_t 7), .inl (cy 0, 8, .inl f_t_wrinkles))] sz)) 0 0 (va_A [((a_t 0), oX6 a_t v_t_sight v_t_bathers v_t_minute v_t_seenEver v_t_z), ((a_t 5), .inl (cy 0, 8, .inl f_t_at)), ((a_t 8), .inl (cy 0, 8, .inl f_t_key)), ((a_t 4), .inl (cy 0, 8, .inl f_t_kind)), ((a_t 6), .inl (cy 0, 8, .inl f_t_wish)), ((a_t 7), .inl (cy 0, 8, .inl f_t_wrinkles))] sz) := by
  refine Met.ofW (cc := cX6_admit) (maxL := 4) (ret := (some .int)) (by decide) rfl ?_
  intro p e s m args below meth c s₁ B hml hv
  obtain ⟨rfl, hsz, hP, hK, hD0⟩ := hv
  have hx := B.exec
  have hb := B.bytes
  have hr := B.returns
  have hts := atoms_spec (ws := wsX6_admit) B.pre
  have hown : s.vm.findClass RX6 = some m.cls := findClass_of_methodNamed B.named
  have hlocks := B.notSynchronized
  have iwX6 : ∀ w ∈ wsX60, w ∈ wsX6_admit := fun w h9 => List.mem_cons_of_mem _ (List.mem_append_right _ (h9))
  have lk1 := hts (Cond.fieldLink RX6 54 "BathBorder$World" "bathers" "I") (List.mem_of_getElem? (i := 1) rfl)
  have lk2 := hts (Cond.fieldLink RX6 23 "BathBorder$World" "kind" "[I") (List.mem_of_getElem? (i := 2) rfl)
  have lk3 := hts (Cond.fieldLink RX6 26 "BathBorder$World" "at" "[I") (List.mem_of_getElem? (i := 3) rfl)
  have lk4 := hts (Cond.fieldLink RX6 29 "BathBorder$World" "wish" "[I") (List.mem_of_getElem? (i := 4) rfl)
  have lk5 := hts (Cond.fieldLink RX6 32 "BathBorder$World" "wrinkles" "[I") (List.mem_of_getElem? (i := 5) rfl)
  have lk6 := hts (Cond.fieldLink RX6 35 "BathBorder$World" "key" "[I") (List.mem_of_getElem? (i := 6) rfl)
  subst hsz
  have hD := hD0.self (sz := s.heap.size)
  generalize hAe : va_A [((a_t 0), oX6 a_t v_t_sight v_t_bathers v_t_minute v_t_seenEver v_t_z), ((a_t 5), .inl (cy 0, 8, .inl f_t_at)), ((a_t 8), .inl (cy 0, 8, .inl f_t_key)), ((a_t 4), .inl (cy 0, 8, .inl f_t_kind)), ((a_t 6), .inl (cy 0, 8, .inl f_t_wish)), ((a_t 7), .inl (cy 0, 8, .inl f_t_wrinkles))] s.heap.size = A at hD ⊢
  have hA : ∀ q : Nat, s.heap.size ≤ q → A q := fun q h => by rw [← hAe]; exact Or.inr h
  have hS : va_S A s.heap s.heap [] := va_S.rf
  have hP : va_P (dC, dI) vwCl [((a_t 0), oX6 a_t v_t_sight v_t_bathers v_t_minute v_t_seenEver v_t_z), ((a_t 5), .inl (cy 0, 8, .inl f_t_at)), ((a_t 8), .inl (cy 0, 8, .inl f_t_key)), ((a_t 4), .inl (cy 0, 8, .inl f_t_kind)), ((a_t 6), .inl (cy 0, 8, .inl f_t_wish)), ((a_t 7), .inl (cy 0, 8, .inl f_t_wrinkles))] s.heap := hP
  have hl := lv_entry ([.ref (a_t 0), .int p1, .int p2]) (n := 4) (Nat.le_of_ble_eq_true rfl)
  rw [lg_entry_eq]
  generalize (lg_sl ([.ref (a_t 0), .int p1, .int p2]) ++ List.replicate (4 - (lg_sl ([.ref (a_t 0), .int p1, .int p2])).length) Slot.unset).toArray = ls at hl ⊢
  have hl : lv_has ls 4 [(0, .ref (a_t 0)), (1, .int p1), (2, .int p2)] := hl
  unfold uX6_admit at h
  refine bb_cap (fun WW toW ofW => ?_)
  refine lv_aload_n hx hb dX6_admit_0 rfl (lv_at hl 0 rfl) ?_
  refine va_get (D := (dC, dI)) (ci := 5) (v := .int v_t_bathers) (C := RX6) (T := TX6) (N := 14) hx hb hts iwX6 hown hK hP 0 rfl rfl 10 (by decide) lk1 (fun _ h9 => h9) rfl dX6_admit_1 ?_
  refine lv_istore_n (lv' := [(3, .int v_t_bathers), (0, .ref (a_t 0)), (1, .int p1), (2, .int p2)]) hx hb dX6_admit_4 rfl hl (by decide) rfl (fun ls hl => ?_)
  refine lv_aload_n hx hb dX6_admit_5 rfl (lv_at hl 1 rfl) ?_
  refine va_get (D := (dC, dI)) (ci := 5) (v := .ref (a_t 4)) (C := RX6) (T := TX6) (N := 14) hx hb hts iwX6 hown hK hP 0 rfl rfl 3 (by decide) lk2 (fun _ h9 => h9) rfl dX6_admit_6 ?_
  refine lv_iload_n hx hb dX6_admit_9 rfl (lv_at hl 0 rfl) ?_
  refine lv_iload_n hx hb dX6_admit_10 rfl (lv_at hl 2 rfl) ?_
  obtain ⟨hi1, h⟩ := bb_ix_o h
  refine va_iast hx hb hK hP hD hS 3 0 rfl rfl hi1 dX6_admit_11 (fun H locs hP hD hS => ?_)
  have hP : va_P (dC, dI) vwCl [((a_t 0), oX6 a_t v_t_sight v_t_bathers v_t_minute v_t_seenEver v_t_z), ((a_t 5), .inl (cy 0, 8, .inl f_t_at)), ((a_t 8), .inl (cy 0, 8, .inl f_t_key)), ((a_t 4), .inl (cy 0, 8, .inl (upd f_t_kind v_t_bathers.toNatClampNeg p1))), ((a_t 6), .inl (cy 0, 8, .inl f_t_wish)), ((a_t 7), .inl (cy 0, 8, .inl f_t_wrinkles))] H := hP
  have hD : va_D A [((a_t 0), oX6 a_t v_t_sight v_t_bathers v_t_minute v_t_seenEver v_t_z), ((a_t 5), .inl (cy 0, 8, .inl f_t_at)), ((a_t 8), .inl (cy 0, 8, .inl f_t_key)), ((a_t 4), .inl (cy 0, 8, .inl (upd f_t_kind v_t_bathers.toNatClampNeg p1))), ((a_t 6), .inl (cy 0, 8, .inl f_t_wish)), ((a_t 7), .inl (cy 0, 8, .inl f_t_wrinkles))] := hD
  refine lv_aload_n hx hb dX6_admit_12 rfl (lv_at hl 1 rfl) ?_
  refine va_get (D := (dC, dI)) (ci := 5) (v := .ref (a_t 5)) (C := RX6) (T := TX6) (N := 14) hx hb hts iwX6 hown hK hP 0 rfl rfl 4 (by decide) lk3 (fun _ h9 => h9) rfl dX6_admit_13 ?_
  refine lv_iload_n hx hb dX6_admit_16 rfl (lv_at hl 0 rfl) ?_
  refine lv_iload_n hx hb dX6_admit_17 rfl (lv_at hl 3 rfl) ?_
  obtain ⟨hi2, h⟩ := bb_ix_o h
  refine va_iast hx hb hK hP hD hS 1 0 rfl rfl hi2 dX6_admit_18 (fun H locs hP hD hS => ?_)
  have hP : va_P (dC, dI) vwCl [((a_t 0), oX6 a_t v_t_sight v_t_bathers v_t_minute v_t_seenEver v_t_z), ((a_t 5), .inl (cy 0, 8, .inl (upd f_t_at v_t_bathers.toNatClampNeg p2))), ((a_t 8), .inl (cy 0, 8, .inl f_t_key)), ((a_t 4), .inl (cy 0, 8, .inl (upd f_t_kind v_t_bathers.toNatClampNeg p1))), ((a_t 6), .inl (cy 0, 8, .inl f_t_wish)), ((a_t 7), .inl (cy 0, 8, .inl f_t_wrinkles))] H := hP
  have hD : va_D A [((a_t 0), oX6 a_t v_t_sight v_t_bathers v_t_minute v_t_seenEver v_t_z), ((a_t 5), .inl (cy 0, 8, .inl (upd f_t_at v_t_bathers.toNatClampNeg p2))), ((a_t 8), .inl (cy 0, 8, .inl f_t_key)), ((a_t 4), .inl (cy 0, 8, .inl (upd f_t_kind v_t_bathers.toNatClampNeg p1))), ((a_t 6), .inl (cy 0, 8, .inl f_t_wish)), ((a_t 7), .inl (cy 0, 8, .inl f_t_wrinkles))] := hD
  refine lv_aload_n hx hb dX6_admit_19 rfl (lv_at hl 1 rfl) ?_
  refine va_get (D := (dC, dI)) (ci := 5) (v := .ref (a_t 6)) (C := RX6) (T := TX6) (N := 14) hx hb hts iwX6 hown hK hP 0 rfl rfl 5 (by decide) lk4 (fun _ h9 => h9) rfl dX6_admit_20 ?_
  refine lv_iload_n hx hb dX6_admit_23 rfl (lv_at hl 0 rfl) ?_
  refine lv_iconst (v := (0 : Int32)) hx hb dX6_admit_24 (by decide) ?_
  obtain ⟨hi3, h⟩ := bb_ix_o h
  refine va_iast hx hb hK hP hD hS 4 0 rfl rfl hi3 dX6_admit_25 (fun H locs hP hD hS => ?_)
  have hP : va_P (dC, dI) vwCl [((a_t 0), oX6 a_t v_t_sight v_t_bathers v_t_minute v_t_seenEver v_t_z), ((a_t 5), .inl (cy 0, 8, .inl (upd f_t_at v_t_bathers.toNatClampNeg p2))), ((a_t 8), .inl (cy 0, 8, .inl f_t_key)), ((a_t 4), .inl (cy 0, 8, .inl (upd f_t_kind v_t_bathers.toNatClampNeg p1))), ((a_t 6), .inl (cy 0, 8, .inl (upd f_t_wish v_t_bathers.toNatClampNeg (0 : Int32)))), ((a_t 7), .inl (cy 0, 8, .inl f_t_wrinkles))] H := hP
  have hD : va_D A [((a_t 0), oX6 a_t v_t_sight v_t_bathers v_t_minute v_t_seenEver v_t_z), ((a_t 5), .inl (cy 0, 8, .inl (upd f_t_at v_t_bathers.toNatClampNeg p2))), ((a_t 8), .inl (cy 0, 8, .inl f_t_key)), ((a_t 4), .inl (cy 0, 8, .inl (upd f_t_kind v_t_bathers.toNatClampNeg p1))), ((a_t 6), .inl (cy 0, 8, .inl (upd f_t_wish v_t_bathers.toNatClampNeg (0 : Int32)))), ((a_t 7), .inl (cy 0, 8, .inl f_t_wrinkles))] := hD
  refine lv_aload_n hx hb dX6_admit_26 rfl (lv_at hl 1 rfl) ?_
  refine va_get (D := (dC, dI)) (ci := 5) (v := .ref (a_t 7)) (C := RX6) (T := TX6) (N := 14) hx hb hts iwX6 hown hK hP 0 rfl rfl 6 (by decide) lk5 (fun _ h9 => h9) rfl dX6_admit_27 ?_
  refine lv_iload_n hx hb dX6_admit_30 rfl (lv_at hl 0 rfl) ?_
  refine lv_iconst (v := (0 : Int32)) hx hb dX6_admit_31 (by decide) ?_
  obtain ⟨hi4, h⟩ := bb_ix_o h
  refine va_iast hx hb hK hP hD hS 5 0 rfl rfl hi4 dX6_admit_32 (fun H locs hP hD hS => ?_)
  have hP : va_P (dC, dI) vwCl [((a_t 0), oX6 a_t v_t_sight v_t_bathers v_t_minute v_t_seenEver v_t_z), ((a_t 5), .inl (cy 0, 8, .inl (upd f_t_at v_t_bathers.toNatClampNeg p2))), ((a_t 8), .inl (cy 0, 8, .inl f_t_key)), ((a_t 4), .inl (cy 0, 8, .inl (upd f_t_kind v_t_bathers.toNatClampNeg p1))), ((a_t 6), .inl (cy 0, 8, .inl (upd f_t_wish v_t_bathers.toNatClampNeg (0 : Int32)))), ((a_t 7), .inl (cy 0, 8, .inl (upd f_t_wrinkles v_t_bathers.toNatClampNeg (0 : Int32))))] H := hP
  have hD : va_D A [((a_t 0), oX6 a_t v_t_sight v_t_bathers v_t_minute v_t_seenEver v_t_z), ((a_t 5), .inl (cy 0, 8, .inl (upd f_t_at v_t_bathers.toNatClampNeg p2))), ((a_t 8), .inl (cy 0, 8, .inl f_t_key)), ((a_t 4), .inl (cy 0, 8, .inl (upd f_t_kind v_t_bathers.toNatClampNeg p1))), ((a_t 6), .inl (cy 0, 8, .inl (upd f_t_wish v_t_bathers.toNatClampNeg (0 : Int32)))), ((a_t 7), .inl (cy 0, 8, .inl (upd f_t_wrinkles v_t_bathers.toNatClampNeg (0 : Int32))))] := hD
  refine lv_aload_n hx hb dX6_admit_33 rfl (lv_at hl 1 rfl) ?_
  refine va_get (D := (dC, dI)) (ci := 5) (v := .ref (a_t 8)) (C := RX6) (T := TX6) (N := 14) hx hb hts iwX6 hown hK hP 0 rfl rfl 7 (by decide) lk6 (fun _ h9 => h9) rfl dX6_admit_34 ?_
  refine lv_iload_n hx hb dX6_admit_37 rfl (lv_at hl 0 rfl) ?_
  refine lv_iload_n hx hb dX6_admit_38 rfl (lv_at hl 0 rfl) ?_
  obtain ⟨hi5, h⟩ := bb_ix_o h
  refine va_iast hx hb hK hP hD hS 2 0 rfl rfl hi5 dX6_admit_39 (fun H locs hP hD hS => ?_)
  have hP : va_P (dC, dI) vwCl [((a_t 0), oX6 a_t v_t_sight v_t_bathers v_t_minute v_t_seenEver v_t_z), ((a_t 5), .inl (cy 0, 8, .inl (upd f_t_at v_t_bathers.toNatClampNeg p2))), ((a_t 8), .inl (cy 0, 8, .inl (upd f_t_key v_t_bathers.toNatClampNeg v_t_bathers))), ((a_t 4), .inl (cy 0, 8, .inl (upd f_t_kind v_t_bathers.toNatClampNeg p1))), ((a_t 6), .inl (cy 0, 8, .inl (upd f_t_wish v_t_bathers.toNatClampNeg (0 : Int32)))), ((a_t 7), .inl (cy 0, 8, .inl (upd f_t_wrinkles v_t_bathers.toNatClampNeg (0 : Int32))))] H := hP
  have hD : va_D A [((a_t 0), oX6 a_t v_t_sight v_t_bathers v_t_minute v_t_seenEver v_t_z), ((a_t 5), .inl (cy 0, 8, .inl (upd f_t_at v_t_bathers.toNatClampNeg p2))), ((a_t 8), .inl (cy 0, 8, .inl (upd f_t_key v_t_bathers.toNatClampNeg v_t_bathers))), ((a_t 4), .inl (cy 0, 8, .inl (upd f_t_kind v_t_bathers.toNatClampNeg p1))), ((a_t 6), .inl (cy 0, 8, .inl (upd f_t_wish v_t_bathers.toNatClampNeg (0 : Int32)))), ((a_t 7), .inl (cy 0, 8, .inl (upd f_t_wrinkles v_t_bathers.toNatClampNeg (0 : Int32))))] := hD
  refine lv_aload_n hx hb dX6_admit_40 rfl (lv_at hl 1 rfl) ?_
  refine lv_dup hx hb dX6_admit_41 rfl ?_
  refine va_get (D := (dC, dI)) (ci := 5) (v := .int v_t_bathers) (C := RX6) (T := TX6) (N := 14) hx hb hts iwX6 hown hK hP 0 rfl rfl 10 (by decide) lk1 (fun _ h9 => h9) rfl dX6_admit_42 ?_
  refine lv_iconst (v := (1 : Int32)) hx hb dX6_admit_45 (by decide) ?_
  refine lv_iadd hx hb dX6_admit_46 ?_
  refine va_put (D := (dC, dI)) (ci := 5) (v := .int (v_t_bathers + (1 : Int32))) (ty := .int) (C := RX6) (T := TX6) (N := 14) hx hb hts iwX6 tyX6 tyX6_ok nmX6 hown hK hP hD hS 0 rfl rfl 10 (by decide) lk1 (fun _ h9 => h9) rfl (by decide +kernel) rfl rfl (Nat.le_of_ble_eq_true rfl) dX6_admit_47 (fun H locs hP hD hS => ?_)
  have hP : va_P (dC, dI) vwCl [((a_t 0), oX6 a_t v_t_sight (v_t_bathers + (1 : Int32)) v_t_minute v_t_seenEver v_t_z), ((a_t 5), .inl (cy 0, 8, .inl (upd f_t_at v_t_bathers.toNatClampNeg p2))), ((a_t 8), .inl (cy 0, 8, .inl (upd f_t_key v_t_bathers.toNatClampNeg v_t_bathers))), ((a_t 4), .inl (cy 0, 8, .inl (upd f_t_kind v_t_bathers.toNatClampNeg p1))), ((a_t 6), .inl (cy 0, 8, .inl (upd f_t_wish v_t_bathers.toNatClampNeg (0 : Int32)))), ((a_t 7), .inl (cy 0, 8, .inl (upd f_t_wrinkles v_t_bathers.toNatClampNeg (0 : Int32))))] H := hP
  have hD : va_D A [((a_t 0), oX6 a_t v_t_sight (v_t_bathers + (1 : Int32)) v_t_minute v_t_seenEver v_t_z), ((a_t 5), .inl (cy 0, 8, .inl (upd f_t_at v_t_bathers.toNatClampNeg p2))), ((a_t 8), .inl (cy 0, 8, .inl (upd f_t_key v_t_bathers.toNatClampNeg v_t_bathers))), ((a_t 4), .inl (cy 0, 8, .inl (upd f_t_kind v_t_bathers.toNatClampNeg p1))), ((a_t 6), .inl (cy 0, 8, .inl (upd f_t_wish v_t_bathers.toNatClampNeg (0 : Int32)))), ((a_t 7), .inl (cy 0, 8, .inl (upd f_t_wrinkles v_t_bathers.toNatClampNeg (0 : Int32))))] := hD
  refine lv_iload_n hx hb dX6_admit_50 rfl (lv_at hl 0 rfl) ?_
  obtain ⟨rfl, rfl, rfl, rfl, rfl, rfl, rfl⟩ := bb_some7 h
  have hP9 := hP.sub (ws' := [((a_t 0), oX6 a_t v_t_sight (v_t_bathers + (1 : Int32)) v_t_minute v_t_seenEver v_t_z), ((a_t 5), .inl (cy 0, 8, .inl (upd f_t_at v_t_bathers.toNatClampNeg p2))), ((a_t 8), .inl (cy 0, 8, .inl (upd f_t_key v_t_bathers.toNatClampNeg v_t_bathers))), ((a_t 4), .inl (cy 0, 8, .inl (upd f_t_kind v_t_bathers.toNatClampNeg p1))), ((a_t 6), .inl (cy 0, 8, .inl (upd f_t_wish v_t_bathers.toNatClampNeg (0 : Int32)))), ((a_t 7), .inl (cy 0, 8, .inl (upd f_t_wrinkles v_t_bathers.toNatClampNeg (0 : Int32))))]) [0, 1, 2, 3, 4, 5] rfl
  have hD9 := hD.sub (ws' := [((a_t 0), oX6 a_t v_t_sight (v_t_bathers + (1 : Int32)) v_t_minute v_t_seenEver v_t_z), ((a_t 5), .inl (cy 0, 8, .inl (upd f_t_at v_t_bathers.toNatClampNeg p2))), ((a_t 8), .inl (cy 0, 8, .inl (upd f_t_key v_t_bathers.toNatClampNeg v_t_bathers))), ((a_t 4), .inl (cy 0, 8, .inl (upd f_t_kind v_t_bathers.toNatClampNeg p1))), ((a_t 6), .inl (cy 0, 8, .inl (upd f_t_wish v_t_bathers.toNatClampNeg (0 : Int32)))), ((a_t 7), .inl (cy 0, 8, .inl (upd f_t_wrinkles v_t_bathers.toNatClampNeg (0 : Int32))))]) [0, 1, 2, 3, 4, 5] (by decide) rfl
  exact W.iret hx hb hr (fun t ht hW => ⟨⟨_, (), rfl, rfl, by rw [ht]; exact hP9, va_K.moved hW.alike hK, hD9⟩, hS.F ht⟩) hS.2.2 dX6_admit_51
/-! X6_draw -/
def uX6_draw (v_t_z : Int32) : Option (Int32 × (Int32)) :=
  some ((((v_t_z * (1103515245 : Int32)) + (12345 : Int32)).toUInt32 >>> ((8 : Int32).toUInt32 &&& Int32.toUInt32 31)).toInt32, (v_t_z * (1103515245 : Int32)) + (12345 : Int32))
theorem kdX6_draw : yX6_draw.cls = RX6 ∧ yX6_draw.cls ≠ "java/lang/invoke/MethodHandle" ∧ yX6_draw.cls ≠ "java/lang/invoke/VarHandle" ∧ (parseMethodDescriptor yX6_draw.desc).map (fun d => d.parameters.length) = some 0 := by decide +kernel
set_option maxHeartbeats 4000000 in
set_option maxRecDepth 100000 in
theorem kX6_draw (l : Launch) (dC : Nat → ClassId) (dI : Nat → Nat → Nat) (cy : Nat → ClassId) (sz : Nat) (a_t : Nat → Nat) (v_t_sight : Int32) (v_t_bathers : Int32) (v_t_minute : Int32) (v_t_seenEver : Int32) (v_t_z : Int32) (r : Int32) (v_t_z_o : Int32) (h : uX6_draw v_t_z = some (r, v_t_z_o)) : Met l yX6_draw wsX6_draw ({ frames := 0, cells := 0, slots := 0, locals := 0 }) (va_Pc [.ref (a_t 0)] (fun U => U.heap.size = sz ∧ va_P (dC, dI) vwCl [((a_t 0), oX6 a_t v_t_sight v_t_bathers v_t_minute v_t_seenEver v_t_z)] U.heap ∧ va_K (dC, dI) vwCl (tyX cy) U ∧ va_D (fun _ => True) [((a_t 0), oX6 a_t v_t_sight v_t_bathers v_t_minute v_t_seenEver v_t_z)])) (va_Qi (fun (r2 : Int32) (_ : Unit) => r = r2) (fun _ t => va_P (dC, dI) vwCl [((a_t 0), oX6 a_t v_t_sight v_t_bathers v_t_minute v_t_seenEver v_t_z_o)] t.heap ∧ va_K (dC, dI) vwCl (tyX cy) t ∧ va_D (va_A [((a_t 0), oX6 a_t v_t_sight v_t_bathers v_t_minute v_t_seenEver v_t_z)] sz) [((a_t 0), oX6 a_t v_t_sight v_t_bathers v_t_minute v_t_seenEver v_t_z_o)]) (va_A [((a_t 0), oX6 a_t v_t_sight v_t_bathers v_t_minute v_t_seenEver v_t_z)] sz)) 0 0 (va_A [((a_t 0), oX6 a_t v_t_sight v_t_bathers v_t_minute v_t_seenEver v_t_z)] sz) := by
  refine Met.ofW (cc := cX6_draw) (maxL := 1) (ret := (some .int)) (by decide) rfl ?_
  intro p e s m args below meth c s₁ B hml hv
  obtain ⟨rfl, hsz, hP, hK, hD0⟩ := hv
  have hx := B.exec
  have hb := B.bytes
  have hr := B.returns
  have hts := atoms_spec (ws := wsX6_draw) B.pre
  have hown : s.vm.findClass RX6 = some m.cls := findClass_of_methodNamed B.named
  have hlocks := B.notSynchronized
  have iwX6 : ∀ w ∈ wsX60, w ∈ wsX6_draw := fun w h9 => List.mem_cons_of_mem _ (List.mem_append_right _ (h9))
  have lk1 := hts (Cond.fieldLink RX6 45 "BathBorder$World" "z" "I") (List.mem_of_getElem? (i := 1) rfl)
  have lk2 := hts (Cond.constant RX6 63 (1103515245)) (List.mem_of_getElem? (i := 2) rfl)
  subst hsz
  have hD := hD0.self (sz := s.heap.size)
  generalize hAe : va_A [((a_t 0), oX6 a_t v_t_sight v_t_bathers v_t_minute v_t_seenEver v_t_z)] s.heap.size = A at hD ⊢
  have hA : ∀ q : Nat, s.heap.size ≤ q → A q := fun q h => by rw [← hAe]; exact Or.inr h
  have hS : va_S A s.heap s.heap [] := va_S.rf
  have hP : va_P (dC, dI) vwCl [((a_t 0), oX6 a_t v_t_sight v_t_bathers v_t_minute v_t_seenEver v_t_z)] s.heap := hP
  have hl := lv_entry ([.ref (a_t 0)]) (n := 1) (Nat.le_of_ble_eq_true rfl)
  rw [lg_entry_eq]
  generalize (lg_sl ([.ref (a_t 0)]) ++ List.replicate (1 - (lg_sl ([.ref (a_t 0)])).length) Slot.unset).toArray = ls at hl ⊢
  have hl : lv_has ls 1 [(0, .ref (a_t 0))] := hl
  unfold uX6_draw at h
  refine bb_cap (fun WW toW ofW => ?_)
  refine lv_aload_n hx hb dX6_draw_0 rfl (lv_at hl 0 rfl) ?_
  refine lv_aload_n hx hb dX6_draw_1 rfl (lv_at hl 0 rfl) ?_
  refine va_get (D := (dC, dI)) (ci := 5) (v := .int v_t_z) (C := RX6) (T := TX6) (N := 14) hx hb hts iwX6 hown hK hP 0 rfl rfl 13 (by decide) lk1 (fun _ h9 => h9) rfl dX6_draw_2 ?_
  refine lv_ldc (v := (1103515245 : Int32)) hx hb hown lk2 dX6_draw_5 ?_
  refine lv_imul hx hb dX6_draw_7 ?_
  refine lv_sipush (v := (12345 : Int32)) hx hb dX6_draw_8 (by decide) ?_
  refine lv_iadd hx hb dX6_draw_11 ?_
  refine va_put (D := (dC, dI)) (ci := 5) (v := .int ((v_t_z * (1103515245 : Int32)) + (12345 : Int32))) (ty := .int) (C := RX6) (T := TX6) (N := 14) hx hb hts iwX6 tyX6 tyX6_ok nmX6 hown hK hP hD hS 0 rfl rfl 13 (by decide) lk1 (fun _ h9 => h9) rfl (by decide +kernel) rfl rfl (Nat.le_of_ble_eq_true rfl) dX6_draw_12 (fun H locs hP hD hS => ?_)
  have hP : va_P (dC, dI) vwCl [((a_t 0), oX6 a_t v_t_sight v_t_bathers v_t_minute v_t_seenEver ((v_t_z * (1103515245 : Int32)) + (12345 : Int32)))] H := hP
  have hD : va_D A [((a_t 0), oX6 a_t v_t_sight v_t_bathers v_t_minute v_t_seenEver ((v_t_z * (1103515245 : Int32)) + (12345 : Int32)))] := hD
  refine lv_aload_n hx hb dX6_draw_15 rfl (lv_at hl 0 rfl) ?_
  refine va_get (D := (dC, dI)) (ci := 5) (v := .int ((v_t_z * (1103515245 : Int32)) + (12345 : Int32))) (C := RX6) (T := TX6) (N := 14) hx hb hts iwX6 hown hK hP 0 rfl rfl 13 (by decide) lk1 (fun _ h9 => h9) rfl dX6_draw_16 ?_
  refine lv_bipush (v := (8 : Int32)) hx hb dX6_draw_19 (by decide) ?_
  refine lv_iushr hx hb dX6_draw_21 rfl ?_
  obtain ⟨rfl, rfl⟩ := bb_some2 h
  have hP9 := hP.sub (ws' := [((a_t 0), oX6 a_t v_t_sight v_t_bathers v_t_minute v_t_seenEver ((v_t_z * (1103515245 : Int32)) + (12345 : Int32)))]) [0] rfl
  have hD9 := hD.sub (ws' := [((a_t 0), oX6 a_t v_t_sight v_t_bathers v_t_minute v_t_seenEver ((v_t_z * (1103515245 : Int32)) + (12345 : Int32)))]) [0] (by decide) rfl
  exact W.iret hx hb hr (fun t ht hW => ⟨⟨_, (), rfl, rfl, by rw [ht]; exact hP9, va_K.moved hW.alike hK, hD9⟩, hS.F ht⟩) hS.2.2 dX6_draw_22
/-! X6_seenFrom -/
def uX6_seenFrom_s11 (x1_4 : Int32) (x2_5 : Int32) (f_t_steam_6 : Nat → Int32) (rec7 : Int64 → Int32 → Option (Int64)) (x3_2 : Int64) (x5_3 : Int32) : Option (Int64) :=
  (if (48 : Int32) ≤ x5_3 then some x3_2 else bb_b1 (uX0_apart x1_4 x5_3) (fun (r11 : Int32) => bb_ix x5_3 48 (bb_cut (fun (x3_15 : Int64) => rec7 x3_15 (x5_3 + (1 : Int32))) (fun k16 => (if (x2_5 - (f_t_steam_6 x5_3.toNatClampNeg)) < r11 then k16 x3_2 else k16 (x3_2 ||| ((1 : Int64) <<< (x5_3.toInt64 &&& 63))))))))
def uX6_seenFrom (nn : Nat) (p1 : Int32) (p2 : Int32) (f_t_steam : Nat → Int32) : Option (Int64) :=
  (if 0 ≤ p1 then bb_loop2 (uX6_seenFrom_s11 p1 p2 f_t_steam) nn (0 : Int64) (0 : Int32) else some (0 : Int64))
theorem kdX6_seenFrom : yX6_seenFrom.cls = RX6 ∧ yX6_seenFrom.cls ≠ "java/lang/invoke/MethodHandle" ∧ yX6_seenFrom.cls ≠ "java/lang/invoke/VarHandle" ∧ (parseMethodDescriptor yX6_seenFrom.desc).map (fun d => d.parameters.length) = some 2 := by decide +kernel
set_option maxHeartbeats 4000000 in
set_option maxRecDepth 100000 in
theorem kX6_seenFrom (l : Launch) (dC : Nat → ClassId) (dI : Nat → Nat → Nat) (cy : Nat → ClassId) (a_t : Nat → Nat) (p1 : Int32) (p2 : Int32) (v_t_sight : Int32) (v_t_bathers : Int32) (v_t_minute : Int32) (v_t_seenEver : Int32) (v_t_z : Int32) (f_t_steam : Nat → Int32) (nn : Nat) (r : Int64) (h : uX6_seenFrom nn p1 p2 f_t_steam = some r) : Met l yX6_seenFrom wsX6_seenFrom ({ frames := 2, cells := 0, slots := 0, locals := 42 }) (va_Pc [.ref (a_t 0), .int p1, .int p2] (fun U => va_P (dC, dI) vwCl [((a_t 0), oX6 a_t v_t_sight v_t_bathers v_t_minute v_t_seenEver v_t_z), ((a_t 1), .inl (cy 0, 48, .inl f_t_steam))] U.heap ∧ va_K (dC, dI) vwCl (tyX cy) U)) (vp_Sl (fun r2 => r = r2)) 0 0 (fun _ => False) := by
  refine Met.ofW (cc := cX6_seenFrom) (maxL := 6) (ret := (some .long)) (by decide) rfl ?_
  intro p e s m args below meth c s₁ B hml hv
  obtain ⟨rfl, hP, hK⟩ := hv
  have hx := B.exec
  have hb := B.bytes
  have hr := B.returns
  have hts := atoms_spec (ws := wsX6_seenFrom) B.pre
  have hown : s.vm.findClass RX6 = some m.cls := findClass_of_methodNamed B.named
  have hlocks := B.notSynchronized
  have iwX6 : ∀ w ∈ wsX60, w ∈ wsX6_seenFrom := fun w h9 => List.mem_cons_of_mem _ (List.mem_append_right _ (h9))
  have lk1 := hts (Cond.fieldLink RX6 11 "BathBorder$World" "steam" "[I") (List.mem_of_getElem? (i := 1) rfl)
  have hl := lv_entry ([.ref (a_t 0), .int p1, .int p2]) (n := 6) (Nat.le_of_ble_eq_true rfl)
  rw [lg_entry_eq]
  generalize (lg_sl ([.ref (a_t 0), .int p1, .int p2]) ++ List.replicate (6 - (lg_sl ([.ref (a_t 0), .int p1, .int p2])).length) Slot.unset).toArray = ls at hl ⊢
  have hl : lv_has ls 6 [(0, .ref (a_t 0)), (1, .int p1), (2, .int p2)] := hl
  unfold uX6_seenFrom at h
  refine bb_cap (fun WW toW ofW => ?_)
  refine lv_lconst (v := (0 : Int64)) hx hb dX6_seenFrom_0 (by decide) ?_
  refine lv_lstore_n (lv' := [(3, .long (0 : Int64)), (0, .ref (a_t 0)), (1, .int p1), (2, .int p2)]) hx hb dX6_seenFrom_1 rfl hl (by decide) rfl (fun ls hl => ?_)
  refine lv_iload_n hx hb dX6_seenFrom_2 rfl (lv_at hl 2 rfl) ?_
  refine lv_if_ge (tgt := 8) hx hb dX6_seenFrom_3 (by decide) (fun c1 => ?_) (fun c1 => ?_)
  · replace h := bb_ifp c1 h
    refine lv_iconst (v := (0 : Int32)) hx hb dX6_seenFrom_8 (by decide) ?_
    refine lv_istore (lv' := [(5, .int (0 : Int32)), (3, .long (0 : Int64)), (0, .ref (a_t 0)), (1, .int p1), (2, .int p2)]) hx hb dX6_seenFrom_9 hl (by decide) rfl (fun ls hl => ?_)
    have L8 : ∀ (n : Nat) (x3_2 : Int64) (x5_3 : Int32) (ls : Array Slot), bb_loop2 (uX6_seenFrom_s11 p1 p2 f_t_steam) n x3_2 x5_3 = some r → lv_has ls 6 [(0, .ref (a_t 0)), (1, .int p1), (2, .int p2), (3, .long x3_2), (5, .int x5_3)] → WW s.heap [] (F0 m 11 ls []) := by
      intro n
      induction n with
      | zero => intro x3_2 x5_3 ls h; exact (bb_no h).elim
      | succ n ih9 =>
        intro x3_2 x5_3 ls h hl
        refine ofW _ _ _ ?_
        obtain ⟨rec7, erec7, h⟩ := bb_loop2_o h
        unfold uX6_seenFrom_s11 at h
        refine lv_iload hx hb dX6_seenFrom_11 (lv_at hl 4 rfl) ?_
        refine lv_bipush (v := (48 : Int32)) hx hb dX6_seenFrom_13 (by decide) ?_
        refine lv_icmp_ge (tgt := 49) hx hb dX6_seenFrom_15 (by decide) (fun c10 => ?_) (fun c10 => ?_)
        · replace h := bb_ifp c10 h
          refine lv_lload_n hx hb dX6_seenFrom_49 rfl (lv_at hl 3 rfl) ?_
          obtain rfl := bb_some1 h
          exact W.lret hx hb hr (fun t ht hW => ⟨_, rfl, rfl, ht⟩) (fun q hq => by cases hq) dX6_seenFrom_50
        · replace h := bb_ifn c10 h
          refine lv_iload_n hx hb dX6_seenFrom_18 rfl (lv_at hl 1 rfl) ?_
          refine lv_iload hx hb dX6_seenFrom_19 (lv_at hl 4 rfl) ?_
          obtain ⟨r11, hc12, h⟩ := bb_b1_o h
          refine vp_callSi (W.runS (As := [.int p1, .int x5_3]) (rest := []) ⟨hx, hb, hml, hown, hts⟩ (kX0_apart l dC dI cy p1 x5_3 r11 hc12) (va_cwS 2 hts gX6_seenFrom_X0_apart rfl rfl rfl kdX0_apart ⟨Nat.le_of_ble_eq_true rfl, Nat.le_of_ble_eq_true rfl⟩) (bb_preS (hP.sub (ws' := []) [] rfl) hK) rfl rfl hl.1 rfl (lv_room (Nat.le_of_ble_eq_true rfl)) dX6_seenFrom_21 ⟨Nat.zero_le _, Nat.zero_le _⟩) (fun t13 et13 => ?_)
          obtain rfl := et13
          refine lv_iload_n hx hb dX6_seenFrom_24 rfl (lv_at hl 2 rfl) ?_
          refine lv_aload_n hx hb dX6_seenFrom_25 rfl (lv_at hl 0 rfl) ?_
          refine va_get (D := (dC, dI)) (ci := 5) (v := .ref (a_t 1)) (C := RX6) (T := TX6) (N := 14) hx hb hts iwX6 hown hK hP 0 rfl rfl 0 (by decide) lk1 (fun _ h9 => h9) rfl dX6_seenFrom_26 ?_
          refine lv_iload hx hb dX6_seenFrom_29 (lv_at hl 4 rfl) ?_
          obtain ⟨hi14, h⟩ := bb_ix_o h
          refine va_iald hx hb hK hP 1 0 rfl rfl hi14 dX6_seenFrom_31 ?_
          refine lv_isub hx hb dX6_seenFrom_32 ?_
          obtain ⟨k16, ek16, h⟩ := bb_cut_o h
          have Jk16 : ∀ (x3_15 : Int64) (ls : Array Slot), k16 x3_15 = some r → lv_has ls 6 [(0, .ref (a_t 0)), (1, .int p1), (2, .int p2), (3, .long x3_15), (5, .int x5_3)] → WW s.heap [] (F0 m 43 ls []) := by
            intro x3_15 ls h hl
            refine ofW _ _ _ ?_
            subst ek16
            refine lv_iinc (v := x5_3 + (1 : Int32)) (lv' := [(5, .int (x5_3 + (1 : Int32))), (0, .ref (a_t 0)), (1, .int p1), (2, .int p2), (3, .long x3_15)]) hx hb dX6_seenFrom_43 hl (k := 4) rfl rfl (by decide) rfl (fun ls hl => ?_)
            refine lv_goto (tgt := 11) hx hb dX6_seenFrom_46 (by decide) ?_
            rw [erec7] at h
            exact toW _ _ _ (ih9 x3_15 (x5_3 + (1 : Int32)) _ h (lv_sub hl [1, 2, 3, 4, 0] rfl))
          refine lv_icmp_gt (tgt := 43) hx hb dX6_seenFrom_33 (by decide) (fun c17 => ?_) (fun c17 => ?_)
          · replace h := bb_ifp c17 h
            exact toW _ _ _ (Jk16 x3_2 _ h (lv_sub hl [0, 1, 2, 3, 4] rfl))
          · replace h := bb_ifn c17 h
            refine lv_lload_n hx hb dX6_seenFrom_36 rfl (lv_at hl 3 rfl) ?_
            refine lv_lconst (v := (1 : Int64)) hx hb dX6_seenFrom_37 (by decide) ?_
            refine lv_iload hx hb dX6_seenFrom_38 (lv_at hl 4 rfl) ?_
            refine lv_lshl hx hb dX6_seenFrom_40 rfl ?_
            refine lv_lor hx hb dX6_seenFrom_41 ?_
            refine lv_lstore_n (lv' := [(3, .long (x3_2 ||| ((1 : Int64) <<< (x5_3.toInt64 &&& 63)))), (0, .ref (a_t 0)), (1, .int p1), (2, .int p2), (5, .int x5_3)]) hx hb dX6_seenFrom_42 rfl hl (by decide) rfl (fun ls hl => ?_)
            exact toW _ _ _ (Jk16 (x3_2 ||| ((1 : Int64) <<< (x5_3.toInt64 &&& 63))) _ h (lv_sub hl [1, 2, 3, 0, 4] rfl))
    exact toW _ _ _ (L8 nn (0 : Int64) (0 : Int32) _ h (lv_sub hl [2, 3, 4, 1, 0] rfl))
  · replace h := bb_ifn c1 h
    refine lv_lload_n hx hb dX6_seenFrom_6 rfl (lv_at hl 0 rfl) ?_
    obtain rfl := bb_some1 h
    exact W.lret hx hb hr (fun t ht hW => ⟨_, rfl, rfl, ht⟩) (fun q hq => by cases hq) dX6_seenFrom_7
/-! X6_seenCells -/
def uX6_seenCells_s5 (nn : Nat) (x1_3 : Int32) (f_t_guardAt_4 : Nat → Int32) (f_t_steam_5 : Nat → Int32) (rec6 : Int64 → Int32 → Option (Int64)) (x2_1 : Int64) (x4_2 : Int32) : Option (Int64) :=
  (if (4 : Int32) ≤ x4_2 then some x2_1 else bb_ix x4_2 4 (bb_b1 (uX6_seenFrom nn (f_t_guardAt_4 x4_2.toNatClampNeg) x1_3 f_t_steam_5) (fun (r11 : Int64) => rec6 (x2_1 ||| r11) (x4_2 + (1 : Int32)))))
def uX6_seenCells (nn : Nat) (p1 : Int32) (f_t_guardAt : Nat → Int32) (f_t_steam : Nat → Int32) : Option (Int64) :=
  bb_loop2 (uX6_seenCells_s5 nn p1 f_t_guardAt f_t_steam) nn (0 : Int64) (0 : Int32)
theorem kdX6_seenCells : yX6_seenCells.cls = RX6 ∧ yX6_seenCells.cls ≠ "java/lang/invoke/MethodHandle" ∧ yX6_seenCells.cls ≠ "java/lang/invoke/VarHandle" ∧ (parseMethodDescriptor yX6_seenCells.desc).map (fun d => d.parameters.length) = some 1 := by decide +kernel
set_option maxHeartbeats 4000000 in
set_option maxRecDepth 100000 in
theorem kX6_seenCells (l : Launch) (dC : Nat → ClassId) (dI : Nat → Nat → Nat) (cy : Nat → ClassId) (a_t : Nat → Nat) (p1 : Int32) (v_t_sight : Int32) (v_t_bathers : Int32) (v_t_minute : Int32) (v_t_seenEver : Int32) (v_t_z : Int32) (f_t_guardAt : Nat → Int32) (f_t_steam : Nat → Int32) (nn : Nat) (r : Int64) (h : uX6_seenCells nn p1 f_t_guardAt f_t_steam = some r) : Met l yX6_seenCells wsX6_seenCells ({ frames := 3, cells := 0, slots := 0, locals := 67 }) (va_Pc [.ref (a_t 0), .int p1] (fun U => va_P (dC, dI) vwCl [((a_t 0), oX6 a_t v_t_sight v_t_bathers v_t_minute v_t_seenEver v_t_z), ((a_t 3), .inl (cy 0, 4, .inl f_t_guardAt)), ((a_t 1), .inl (cy 0, 48, .inl f_t_steam))] U.heap ∧ va_K (dC, dI) vwCl (tyX cy) U)) (vp_Sl (fun r2 => r = r2)) 0 0 (fun _ => False) := by
  refine Met.ofW (cc := cX6_seenCells) (maxL := 5) (ret := (some .long)) (by decide) rfl ?_
  intro p e s m args below meth c s₁ B hml hv
  obtain ⟨rfl, hP, hK⟩ := hv
  have hx := B.exec
  have hb := B.bytes
  have hr := B.returns
  have hts := atoms_spec (ws := wsX6_seenCells) B.pre
  have hown : s.vm.findClass RX6 = some m.cls := findClass_of_methodNamed B.named
  have hlocks := B.notSynchronized
  have iwX6 : ∀ w ∈ wsX60, w ∈ wsX6_seenCells := fun w h9 => List.mem_cons_of_mem _ (List.mem_append_right _ (h9))
  have lk1 := hts (Cond.fieldLink RX6 20 "BathBorder$World" "guardAt" "[I") (List.mem_of_getElem? (i := 1) rfl)
  have hl := lv_entry ([.ref (a_t 0), .int p1]) (n := 5) (Nat.le_of_ble_eq_true rfl)
  rw [lg_entry_eq]
  generalize (lg_sl ([.ref (a_t 0), .int p1]) ++ List.replicate (5 - (lg_sl ([.ref (a_t 0), .int p1])).length) Slot.unset).toArray = ls at hl ⊢
  have hl : lv_has ls 5 [(0, .ref (a_t 0)), (1, .int p1)] := hl
  unfold uX6_seenCells at h
  refine bb_cap (fun WW toW ofW => ?_)
  refine lv_lconst (v := (0 : Int64)) hx hb dX6_seenCells_0 (by decide) ?_
  refine lv_lstore_n (lv' := [(2, .long (0 : Int64)), (0, .ref (a_t 0)), (1, .int p1)]) hx hb dX6_seenCells_1 rfl hl (by decide) rfl (fun ls hl => ?_)
  refine lv_iconst (v := (0 : Int32)) hx hb dX6_seenCells_2 (by decide) ?_
  refine lv_istore (lv' := [(4, .int (0 : Int32)), (2, .long (0 : Int64)), (0, .ref (a_t 0)), (1, .int p1)]) hx hb dX6_seenCells_3 hl (by decide) rfl (fun ls hl => ?_)
  have L7 : ∀ (n : Nat) (x2_1 : Int64) (x4_2 : Int32) (ls : Array Slot), bb_loop2 (uX6_seenCells_s5 nn p1 f_t_guardAt f_t_steam) n x2_1 x4_2 = some r → lv_has ls 5 [(0, .ref (a_t 0)), (1, .int p1), (2, .long x2_1), (4, .int x4_2)] → WW s.heap [] (F0 m 5 ls []) := by
    intro n
    induction n with
    | zero => intro x2_1 x4_2 ls h; exact (bb_no h).elim
    | succ n ih8 =>
      intro x2_1 x4_2 ls h hl
      refine ofW _ _ _ ?_
      obtain ⟨rec6, erec6, h⟩ := bb_loop2_o h
      unfold uX6_seenCells_s5 at h
      refine lv_iload hx hb dX6_seenCells_5 (lv_at hl 3 rfl) ?_
      refine lv_iconst (v := (4 : Int32)) hx hb dX6_seenCells_7 (by decide) ?_
      refine lv_icmp_ge (tgt := 32) hx hb dX6_seenCells_8 (by decide) (fun c9 => ?_) (fun c9 => ?_)
      · replace h := bb_ifp c9 h
        refine lv_lload_n hx hb dX6_seenCells_32 rfl (lv_at hl 2 rfl) ?_
        obtain rfl := bb_some1 h
        exact W.lret hx hb hr (fun t ht hW => ⟨_, rfl, rfl, ht⟩) (fun q hq => by cases hq) dX6_seenCells_33
      · replace h := bb_ifn c9 h
        refine lv_lload_n hx hb dX6_seenCells_11 rfl (lv_at hl 2 rfl) ?_
        refine lv_aload_n hx hb dX6_seenCells_12 rfl (lv_at hl 0 rfl) ?_
        refine lv_aload_n hx hb dX6_seenCells_13 rfl (lv_at hl 0 rfl) ?_
        refine va_get (D := (dC, dI)) (ci := 5) (v := .ref (a_t 3)) (C := RX6) (T := TX6) (N := 14) hx hb hts iwX6 hown hK hP 0 rfl rfl 2 (by decide) lk1 (fun _ h9 => h9) rfl dX6_seenCells_14 ?_
        refine lv_iload hx hb dX6_seenCells_17 (lv_at hl 3 rfl) ?_
        obtain ⟨hi10, h⟩ := bb_ix_o h
        refine va_iald hx hb hK hP 1 0 rfl rfl hi10 dX6_seenCells_19 ?_
        refine lv_iload_n hx hb dX6_seenCells_20 rfl (lv_at hl 1 rfl) ?_
        obtain ⟨r11, hc12, h⟩ := bb_b1_o h
        refine vp_callSl (W.runV (As := [.int (f_t_guardAt x4_2.toNatClampNeg), .int p1]) (rest := [.long x2_1]) ⟨hx, hb, hml, hown, hts⟩ (kX6_seenFrom l dC dI cy a_t (f_t_guardAt x4_2.toNatClampNeg) p1 v_t_sight v_t_bathers v_t_minute v_t_seenEver v_t_z f_t_steam nn r11 hc12) (cwV 2 hts gX6_seenCells_X6_seenFrom rfl rfl rfl kdX6_seenFrom ⟨Nat.le_of_ble_eq_true rfl, Nat.le_of_ble_eq_true rfl⟩) (bb_preV (va_recv hK hP (ci := 5) (q0 := 0) rfl rfl) (hP.sub (ws' := [((a_t 0), oX6 a_t v_t_sight v_t_bathers v_t_minute v_t_seenEver v_t_z), ((a_t 1), .inl (cy 0, 48, .inl f_t_steam))]) [0, 2] rfl) hK) rfl rfl hl.1 rfl (lv_room (Nat.le_of_ble_eq_true rfl)) dX6_seenCells_21 ⟨Nat.zero_le _, Nat.zero_le _⟩) (fun t13 et13 => ?_)
        obtain rfl := et13
        refine lv_lor hx hb dX6_seenCells_24 ?_
        refine lv_lstore_n (lv' := [(2, .long (x2_1 ||| r11)), (0, .ref (a_t 0)), (1, .int p1), (4, .int x4_2)]) hx hb dX6_seenCells_25 rfl hl (by decide) rfl (fun ls hl => ?_)
        refine lv_iinc (v := x4_2 + (1 : Int32)) (lv' := [(4, .int (x4_2 + (1 : Int32))), (2, .long (x2_1 ||| r11)), (0, .ref (a_t 0)), (1, .int p1)]) hx hb dX6_seenCells_26 hl (k := 3) rfl rfl (by decide) rfl (fun ls hl => ?_)
        refine lv_goto (tgt := 5) hx hb dX6_seenCells_29 (by decide) ?_
        rw [erec6] at h
        exact toW _ _ _ (ih8 (x2_1 ||| r11) (x4_2 + (1 : Int32)) _ h (lv_sub hl [2, 3, 1, 0] rfl))
  exact toW _ _ _ (L7 nn (0 : Int64) (0 : Int32) _ h (lv_sub hl [2, 3, 1, 0] rfl))
/-! X6_seenByOthers -/
def uX6_seenByOthers_s5 (nn : Nat) (x1_3 : Int32) (v_t_sight_4 : Int32) (f_t_guardAt_5 : Nat → Int32) (f_t_steam_6 : Nat → Int32) (rec7 : Int64 → Int32 → Option (Int64)) (x2_1 : Int64) (x4_2 : Int32) : Option (Int64) :=
  (if (4 : Int32) ≤ x4_2 then some x2_1 else bb_cut (fun (x2_11 : Int64) => rec7 x2_11 (x4_2 + (1 : Int32))) (fun k12 => (if x4_2 = x1_3 then k12 x2_1 else bb_ix x4_2 4 (bb_b1 (uX6_seenFrom nn (f_t_guardAt_5 x4_2.toNatClampNeg) v_t_sight_4 f_t_steam_6) (fun (r15 : Int64) => k12 (x2_1 ||| r15))))))
def uX6_seenByOthers (nn : Nat) (p1 : Int32) (v_t_sight : Int32) (f_t_guardAt : Nat → Int32) (f_t_steam : Nat → Int32) : Option (Int64) :=
  bb_loop2 (uX6_seenByOthers_s5 nn p1 v_t_sight f_t_guardAt f_t_steam) nn (0 : Int64) (0 : Int32)
theorem kdX6_seenByOthers : yX6_seenByOthers.cls = RX6 ∧ yX6_seenByOthers.cls ≠ "java/lang/invoke/MethodHandle" ∧ yX6_seenByOthers.cls ≠ "java/lang/invoke/VarHandle" ∧ (parseMethodDescriptor yX6_seenByOthers.desc).map (fun d => d.parameters.length) = some 1 := by decide +kernel
set_option maxHeartbeats 4000000 in
set_option maxRecDepth 100000 in
theorem kX6_seenByOthers (l : Launch) (dC : Nat → ClassId) (dI : Nat → Nat → Nat) (cy : Nat → ClassId) (a_t : Nat → Nat) (p1 : Int32) (v_t_sight : Int32) (v_t_bathers : Int32) (v_t_minute : Int32) (v_t_seenEver : Int32) (v_t_z : Int32) (f_t_guardAt : Nat → Int32) (f_t_steam : Nat → Int32) (nn : Nat) (r : Int64) (h : uX6_seenByOthers nn p1 v_t_sight f_t_guardAt f_t_steam = some r) : Met l yX6_seenByOthers wsX6_seenByOthers ({ frames := 3, cells := 0, slots := 0, locals := 67 }) (va_Pc [.ref (a_t 0), .int p1] (fun U => va_P (dC, dI) vwCl [((a_t 0), oX6 a_t v_t_sight v_t_bathers v_t_minute v_t_seenEver v_t_z), ((a_t 3), .inl (cy 0, 4, .inl f_t_guardAt)), ((a_t 1), .inl (cy 0, 48, .inl f_t_steam))] U.heap ∧ va_K (dC, dI) vwCl (tyX cy) U)) (vp_Sl (fun r2 => r = r2)) 0 0 (fun _ => False) := by
  refine Met.ofW (cc := cX6_seenByOthers) (maxL := 5) (ret := (some .long)) (by decide) rfl ?_
  intro p e s m args below meth c s₁ B hml hv
  obtain ⟨rfl, hP, hK⟩ := hv
  have hx := B.exec
  have hb := B.bytes
  have hr := B.returns
  have hts := atoms_spec (ws := wsX6_seenByOthers) B.pre
  have hown : s.vm.findClass RX6 = some m.cls := findClass_of_methodNamed B.named
  have hlocks := B.notSynchronized
  have iwX6 : ∀ w ∈ wsX60, w ∈ wsX6_seenByOthers := fun w h9 => List.mem_cons_of_mem _ (List.mem_append_right _ (h9))
  have lk1 := hts (Cond.fieldLink RX6 20 "BathBorder$World" "guardAt" "[I") (List.mem_of_getElem? (i := 1) rfl)
  have lk2 := hts (Cond.fieldLink RX6 41 "BathBorder$World" "sight" "I") (List.mem_of_getElem? (i := 2) rfl)
  have hl := lv_entry ([.ref (a_t 0), .int p1]) (n := 5) (Nat.le_of_ble_eq_true rfl)
  rw [lg_entry_eq]
  generalize (lg_sl ([.ref (a_t 0), .int p1]) ++ List.replicate (5 - (lg_sl ([.ref (a_t 0), .int p1])).length) Slot.unset).toArray = ls at hl ⊢
  have hl : lv_has ls 5 [(0, .ref (a_t 0)), (1, .int p1)] := hl
  unfold uX6_seenByOthers at h
  refine bb_cap (fun WW toW ofW => ?_)
  refine lv_lconst (v := (0 : Int64)) hx hb dX6_seenByOthers_0 (by decide) ?_
  refine lv_lstore_n (lv' := [(2, .long (0 : Int64)), (0, .ref (a_t 0)), (1, .int p1)]) hx hb dX6_seenByOthers_1 rfl hl (by decide) rfl (fun ls hl => ?_)
  refine lv_iconst (v := (0 : Int32)) hx hb dX6_seenByOthers_2 (by decide) ?_
  refine lv_istore (lv' := [(4, .int (0 : Int32)), (2, .long (0 : Int64)), (0, .ref (a_t 0)), (1, .int p1)]) hx hb dX6_seenByOthers_3 hl (by decide) rfl (fun ls hl => ?_)
  have L8 : ∀ (n : Nat) (x2_1 : Int64) (x4_2 : Int32) (ls : Array Slot), bb_loop2 (uX6_seenByOthers_s5 nn p1 v_t_sight f_t_guardAt f_t_steam) n x2_1 x4_2 = some r → lv_has ls 5 [(0, .ref (a_t 0)), (1, .int p1), (2, .long x2_1), (4, .int x4_2)] → WW s.heap [] (F0 m 5 ls []) := by
    intro n
    induction n with
    | zero => intro x2_1 x4_2 ls h; exact (bb_no h).elim
    | succ n ih9 =>
      intro x2_1 x4_2 ls h hl
      refine ofW _ _ _ ?_
      obtain ⟨rec7, erec7, h⟩ := bb_loop2_o h
      unfold uX6_seenByOthers_s5 at h
      refine lv_iload hx hb dX6_seenByOthers_5 (lv_at hl 3 rfl) ?_
      refine lv_iconst (v := (4 : Int32)) hx hb dX6_seenByOthers_7 (by decide) ?_
      refine lv_icmp_ge (tgt := 41) hx hb dX6_seenByOthers_8 (by decide) (fun c10 => ?_) (fun c10 => ?_)
      · replace h := bb_ifp c10 h
        refine lv_lload_n hx hb dX6_seenByOthers_41 rfl (lv_at hl 2 rfl) ?_
        obtain rfl := bb_some1 h
        exact W.lret hx hb hr (fun t ht hW => ⟨_, rfl, rfl, ht⟩) (fun q hq => by cases hq) dX6_seenByOthers_42
      · replace h := bb_ifn c10 h
        refine lv_iload hx hb dX6_seenByOthers_11 (lv_at hl 3 rfl) ?_
        refine lv_iload_n hx hb dX6_seenByOthers_13 rfl (lv_at hl 1 rfl) ?_
        obtain ⟨k12, ek12, h⟩ := bb_cut_o h
        have Jk12 : ∀ (x2_11 : Int64) (ls : Array Slot), k12 x2_11 = some r → lv_has ls 5 [(0, .ref (a_t 0)), (1, .int p1), (2, .long x2_11), (4, .int x4_2)] → WW s.heap [] (F0 m 35 ls []) := by
          intro x2_11 ls h hl
          refine ofW _ _ _ ?_
          subst ek12
          refine lv_iinc (v := x4_2 + (1 : Int32)) (lv' := [(4, .int (x4_2 + (1 : Int32))), (0, .ref (a_t 0)), (1, .int p1), (2, .long x2_11)]) hx hb dX6_seenByOthers_35 hl (k := 3) rfl rfl (by decide) rfl (fun ls hl => ?_)
          refine lv_goto (tgt := 5) hx hb dX6_seenByOthers_38 (by decide) ?_
          rw [erec7] at h
          exact toW _ _ _ (ih9 x2_11 (x4_2 + (1 : Int32)) _ h (lv_sub hl [1, 2, 3, 0] rfl))
        refine lv_icmp_eq (tgt := 35) hx hb dX6_seenByOthers_14 (by decide) (fun c13 => ?_) (fun c13 => ?_)
        · replace h := bb_ifp c13 h
          exact toW _ _ _ (Jk12 x2_1 _ h (lv_sub hl [0, 1, 2, 3] rfl))
        · replace h := bb_ifn c13 h
          refine lv_lload_n hx hb dX6_seenByOthers_17 rfl (lv_at hl 2 rfl) ?_
          refine lv_aload_n hx hb dX6_seenByOthers_18 rfl (lv_at hl 0 rfl) ?_
          refine lv_aload_n hx hb dX6_seenByOthers_19 rfl (lv_at hl 0 rfl) ?_
          refine va_get (D := (dC, dI)) (ci := 5) (v := .ref (a_t 3)) (C := RX6) (T := TX6) (N := 14) hx hb hts iwX6 hown hK hP 0 rfl rfl 2 (by decide) lk1 (fun _ h9 => h9) rfl dX6_seenByOthers_20 ?_
          refine lv_iload hx hb dX6_seenByOthers_23 (lv_at hl 3 rfl) ?_
          obtain ⟨hi14, h⟩ := bb_ix_o h
          refine va_iald hx hb hK hP 1 0 rfl rfl hi14 dX6_seenByOthers_25 ?_
          refine lv_aload_n hx hb dX6_seenByOthers_26 rfl (lv_at hl 0 rfl) ?_
          refine va_get (D := (dC, dI)) (ci := 5) (v := .int v_t_sight) (C := RX6) (T := TX6) (N := 14) hx hb hts iwX6 hown hK hP 0 rfl rfl 9 (by decide) lk2 (fun _ h9 => h9) rfl dX6_seenByOthers_27 ?_
          obtain ⟨r15, hc16, h⟩ := bb_b1_o h
          refine vp_callSl (W.runV (As := [.int (f_t_guardAt x4_2.toNatClampNeg), .int v_t_sight]) (rest := [.long x2_1]) ⟨hx, hb, hml, hown, hts⟩ (kX6_seenFrom l dC dI cy a_t (f_t_guardAt x4_2.toNatClampNeg) v_t_sight v_t_sight v_t_bathers v_t_minute v_t_seenEver v_t_z f_t_steam nn r15 hc16) (cwV 2 hts gX6_seenByOthers_X6_seenFrom rfl rfl rfl kdX6_seenFrom ⟨Nat.le_of_ble_eq_true rfl, Nat.le_of_ble_eq_true rfl⟩) (bb_preV (va_recv hK hP (ci := 5) (q0 := 0) rfl rfl) (hP.sub (ws' := [((a_t 0), oX6 a_t v_t_sight v_t_bathers v_t_minute v_t_seenEver v_t_z), ((a_t 1), .inl (cy 0, 48, .inl f_t_steam))]) [0, 2] rfl) hK) rfl rfl hl.1 rfl (lv_room (Nat.le_of_ble_eq_true rfl)) dX6_seenByOthers_30 ⟨Nat.zero_le _, Nat.zero_le _⟩) (fun t17 et17 => ?_)
          obtain rfl := et17
          refine lv_lor hx hb dX6_seenByOthers_33 ?_
          refine lv_lstore_n (lv' := [(2, .long (x2_1 ||| r15)), (0, .ref (a_t 0)), (1, .int p1), (4, .int x4_2)]) hx hb dX6_seenByOthers_34 rfl hl (by decide) rfl (fun ls hl => ?_)
          exact toW _ _ _ (Jk12 (x2_1 ||| r15) _ h (lv_sub hl [1, 2, 0, 3] rfl))
  exact toW _ _ _ (L8 nn (0 : Int64) (0 : Int32) _ h (lv_sub hl [2, 3, 1, 0] rfl))
/-! X6_guardsWhoSee -/
def uX6_guardsWhoSee_s4 (x1_3 : Int32) (v_t_sight_4 : Int32) (f_t_guardAt_5 : Nat → Int32) (f_t_steam_6 : Nat → Int32) (rec7 : Int32 → Int32 → Option (Int32)) (x2_1 : Int32) (x3_2 : Int32) : Option (Int32) :=
  (if (4 : Int32) ≤ x3_2 then some x2_1 else bb_ix x3_2 4 (bb_cut (fun (x2_12 : Int32) => rec7 x2_12 (x3_2 + (1 : Int32))) (fun k13 => (if (f_t_guardAt_5 x3_2.toNatClampNeg) < 0 then k13 x2_1 else bb_b1 (uX0_apart (f_t_guardAt_5 x3_2.toNatClampNeg) x1_3) (fun (r15 : Int32) => bb_ix x1_3 48 ((if (v_t_sight_4 - (f_t_steam_6 x1_3.toNatClampNeg)) < r15 then k13 x2_1 else k13 (x2_1 ||| ((1 : Int32) <<< (x3_2 &&& 31))))))))))
def uX6_guardsWhoSee (nn : Nat) (p1 : Int32) (v_t_sight : Int32) (f_t_guardAt : Nat → Int32) (f_t_steam : Nat → Int32) : Option (Int32) :=
  bb_loop2 (uX6_guardsWhoSee_s4 p1 v_t_sight f_t_guardAt f_t_steam) nn (0 : Int32) (0 : Int32)
theorem kdX6_guardsWhoSee : yX6_guardsWhoSee.cls = RX6 ∧ yX6_guardsWhoSee.cls ≠ "java/lang/invoke/MethodHandle" ∧ yX6_guardsWhoSee.cls ≠ "java/lang/invoke/VarHandle" ∧ (parseMethodDescriptor yX6_guardsWhoSee.desc).map (fun d => d.parameters.length) = some 1 := by decide +kernel
set_option maxHeartbeats 4000000 in
set_option maxRecDepth 100000 in
theorem kX6_guardsWhoSee (l : Launch) (dC : Nat → ClassId) (dI : Nat → Nat → Nat) (cy : Nat → ClassId) (a_t : Nat → Nat) (p1 : Int32) (v_t_sight : Int32) (v_t_bathers : Int32) (v_t_minute : Int32) (v_t_seenEver : Int32) (v_t_z : Int32) (f_t_guardAt : Nat → Int32) (f_t_steam : Nat → Int32) (nn : Nat) (r : Int32) (h : uX6_guardsWhoSee nn p1 v_t_sight f_t_guardAt f_t_steam = some r) : Met l yX6_guardsWhoSee wsX6_guardsWhoSee ({ frames := 2, cells := 0, slots := 0, locals := 42 }) (va_Pc [.ref (a_t 0), .int p1] (fun U => va_P (dC, dI) vwCl [((a_t 0), oX6 a_t v_t_sight v_t_bathers v_t_minute v_t_seenEver v_t_z), ((a_t 3), .inl (cy 0, 4, .inl f_t_guardAt)), ((a_t 1), .inl (cy 0, 48, .inl f_t_steam))] U.heap ∧ va_K (dC, dI) vwCl (tyX cy) U)) (vp_Si (fun r2 => r = r2)) 0 0 (fun _ => False) := by
  refine Met.ofW (cc := cX6_guardsWhoSee) (maxL := 5) (ret := (some .int)) (by decide) rfl ?_
  intro p e s m args below meth c s₁ B hml hv
  obtain ⟨rfl, hP, hK⟩ := hv
  have hx := B.exec
  have hb := B.bytes
  have hr := B.returns
  have hts := atoms_spec (ws := wsX6_guardsWhoSee) B.pre
  have hown : s.vm.findClass RX6 = some m.cls := findClass_of_methodNamed B.named
  have hlocks := B.notSynchronized
  have iwX6 : ∀ w ∈ wsX60, w ∈ wsX6_guardsWhoSee := fun w h9 => List.mem_cons_of_mem _ (List.mem_append_right _ (h9))
  have lk1 := hts (Cond.fieldLink RX6 20 "BathBorder$World" "guardAt" "[I") (List.mem_of_getElem? (i := 1) rfl)
  have lk2 := hts (Cond.fieldLink RX6 41 "BathBorder$World" "sight" "I") (List.mem_of_getElem? (i := 2) rfl)
  have lk3 := hts (Cond.fieldLink RX6 11 "BathBorder$World" "steam" "[I") (List.mem_of_getElem? (i := 3) rfl)
  have hl := lv_entry ([.ref (a_t 0), .int p1]) (n := 5) (Nat.le_of_ble_eq_true rfl)
  rw [lg_entry_eq]
  generalize (lg_sl ([.ref (a_t 0), .int p1]) ++ List.replicate (5 - (lg_sl ([.ref (a_t 0), .int p1])).length) Slot.unset).toArray = ls at hl ⊢
  have hl : lv_has ls 5 [(0, .ref (a_t 0)), (1, .int p1)] := hl
  unfold uX6_guardsWhoSee at h
  refine bb_cap (fun WW toW ofW => ?_)
  refine lv_iconst (v := (0 : Int32)) hx hb dX6_guardsWhoSee_0 (by decide) ?_
  refine lv_istore_n (lv' := [(2, .int (0 : Int32)), (0, .ref (a_t 0)), (1, .int p1)]) hx hb dX6_guardsWhoSee_1 rfl hl (by decide) rfl (fun ls hl => ?_)
  refine lv_iconst (v := (0 : Int32)) hx hb dX6_guardsWhoSee_2 (by decide) ?_
  refine lv_istore_n (lv' := [(3, .int (0 : Int32)), (2, .int (0 : Int32)), (0, .ref (a_t 0)), (1, .int p1)]) hx hb dX6_guardsWhoSee_3 rfl hl (by decide) rfl (fun ls hl => ?_)
  have L8 : ∀ (n : Nat) (x2_1 : Int32) (x3_2 : Int32) (ls : Array Slot), bb_loop2 (uX6_guardsWhoSee_s4 p1 v_t_sight f_t_guardAt f_t_steam) n x2_1 x3_2 = some r → lv_has ls 5 [(0, .ref (a_t 0)), (1, .int p1), (2, .int x2_1), (3, .int x3_2)] → WW s.heap [] (F0 m 4 ls []) := by
    intro n
    induction n with
    | zero => intro x2_1 x3_2 ls h; exact (bb_no h).elim
    | succ n ih9 =>
      intro x2_1 x3_2 ls h hl
      refine ofW _ _ _ ?_
      obtain ⟨rec7, erec7, h⟩ := bb_loop2_o h
      unfold uX6_guardsWhoSee_s4 at h
      refine lv_iload_n hx hb dX6_guardsWhoSee_4 rfl (lv_at hl 3 rfl) ?_
      refine lv_iconst (v := (4 : Int32)) hx hb dX6_guardsWhoSee_5 (by decide) ?_
      refine lv_icmp_ge (tgt := 54) hx hb dX6_guardsWhoSee_6 (by decide) (fun c10 => ?_) (fun c10 => ?_)
      · replace h := bb_ifp c10 h
        refine lv_iload_n hx hb dX6_guardsWhoSee_54 rfl (lv_at hl 2 rfl) ?_
        obtain rfl := bb_some1 h
        exact W.iret hx hb hr (fun t ht hW => ⟨_, rfl, rfl, ht⟩) (fun q hq => by cases hq) dX6_guardsWhoSee_55
      · replace h := bb_ifn c10 h
        refine lv_aload_n hx hb dX6_guardsWhoSee_9 rfl (lv_at hl 0 rfl) ?_
        refine va_get (D := (dC, dI)) (ci := 5) (v := .ref (a_t 3)) (C := RX6) (T := TX6) (N := 14) hx hb hts iwX6 hown hK hP 0 rfl rfl 2 (by decide) lk1 (fun _ h9 => h9) rfl dX6_guardsWhoSee_10 ?_
        refine lv_iload_n hx hb dX6_guardsWhoSee_13 rfl (lv_at hl 3 rfl) ?_
        obtain ⟨hi11, h⟩ := bb_ix_o h
        refine va_iald hx hb hK hP 1 0 rfl rfl hi11 dX6_guardsWhoSee_14 ?_
        refine lv_istore (lv' := [(4, .int (f_t_guardAt x3_2.toNatClampNeg)), (0, .ref (a_t 0)), (1, .int p1), (2, .int x2_1), (3, .int x3_2)]) hx hb dX6_guardsWhoSee_15 hl (by decide) rfl (fun ls hl => ?_)
        refine lv_iload hx hb dX6_guardsWhoSee_17 (lv_at hl 0 rfl) ?_
        obtain ⟨k13, ek13, h⟩ := bb_cut_o h
        have Jk13 : ∀ (x2_12 : Int32) (ls : Array Slot), k13 x2_12 = some r → lv_has ls 5 [(0, .ref (a_t 0)), (1, .int p1), (2, .int x2_12), (3, .int x3_2)] → WW s.heap [] (F0 m 48 ls []) := by
          intro x2_12 ls h hl
          refine ofW _ _ _ ?_
          subst ek13
          refine lv_iinc (v := x3_2 + (1 : Int32)) (lv' := [(3, .int (x3_2 + (1 : Int32))), (0, .ref (a_t 0)), (1, .int p1), (2, .int x2_12)]) hx hb dX6_guardsWhoSee_48 hl (k := 3) rfl rfl (by decide) rfl (fun ls hl => ?_)
          refine lv_goto (tgt := 4) hx hb dX6_guardsWhoSee_51 (by decide) ?_
          rw [erec7] at h
          exact toW _ _ _ (ih9 x2_12 (x3_2 + (1 : Int32)) _ h (lv_sub hl [1, 2, 3, 0] rfl))
        refine lv_if_lt (tgt := 48) hx hb dX6_guardsWhoSee_19 (by decide) (fun c14 => ?_) (fun c14 => ?_)
        · replace h := bb_ifp c14 h
          exact toW _ _ _ (Jk13 x2_1 _ h (lv_sub hl [1, 2, 3, 4] rfl))
        · replace h := bb_ifn c14 h
          refine lv_iload hx hb dX6_guardsWhoSee_22 (lv_at hl 0 rfl) ?_
          refine lv_iload_n hx hb dX6_guardsWhoSee_24 rfl (lv_at hl 2 rfl) ?_
          obtain ⟨r15, hc16, h⟩ := bb_b1_o h
          refine vp_callSi (W.runS (As := [.int (f_t_guardAt x3_2.toNatClampNeg), .int p1]) (rest := []) ⟨hx, hb, hml, hown, hts⟩ (kX0_apart l dC dI cy (f_t_guardAt x3_2.toNatClampNeg) p1 r15 hc16) (va_cwS 2 hts gX6_guardsWhoSee_X0_apart rfl rfl rfl kdX0_apart ⟨Nat.le_of_ble_eq_true rfl, Nat.le_of_ble_eq_true rfl⟩) (bb_preS (hP.sub (ws' := []) [] rfl) hK) rfl rfl hl.1 rfl (lv_room (Nat.le_of_ble_eq_true rfl)) dX6_guardsWhoSee_25 ⟨Nat.zero_le _, Nat.zero_le _⟩) (fun t17 et17 => ?_)
          obtain rfl := et17
          refine lv_aload_n hx hb dX6_guardsWhoSee_28 rfl (lv_at hl 1 rfl) ?_
          refine va_get (D := (dC, dI)) (ci := 5) (v := .int v_t_sight) (C := RX6) (T := TX6) (N := 14) hx hb hts iwX6 hown hK hP 0 rfl rfl 9 (by decide) lk2 (fun _ h9 => h9) rfl dX6_guardsWhoSee_29 ?_
          refine lv_aload_n hx hb dX6_guardsWhoSee_32 rfl (lv_at hl 1 rfl) ?_
          refine va_get (D := (dC, dI)) (ci := 5) (v := .ref (a_t 1)) (C := RX6) (T := TX6) (N := 14) hx hb hts iwX6 hown hK hP 0 rfl rfl 0 (by decide) lk3 (fun _ h9 => h9) rfl dX6_guardsWhoSee_33 ?_
          refine lv_iload_n hx hb dX6_guardsWhoSee_36 rfl (lv_at hl 2 rfl) ?_
          obtain ⟨hi18, h⟩ := bb_ix_o h
          refine va_iald hx hb hK hP 2 0 rfl rfl hi18 dX6_guardsWhoSee_37 ?_
          refine lv_isub hx hb dX6_guardsWhoSee_38 ?_
          refine lv_icmp_gt (tgt := 48) hx hb dX6_guardsWhoSee_39 (by decide) (fun c19 => ?_) (fun c19 => ?_)
          · replace h := bb_ifp c19 h
            exact toW _ _ _ (Jk13 x2_1 _ h (lv_sub hl [1, 2, 3, 4] rfl))
          · replace h := bb_ifn c19 h
            refine lv_iload_n hx hb dX6_guardsWhoSee_42 rfl (lv_at hl 3 rfl) ?_
            refine lv_iconst (v := (1 : Int32)) hx hb dX6_guardsWhoSee_43 (by decide) ?_
            refine lv_iload_n hx hb dX6_guardsWhoSee_44 rfl (lv_at hl 4 rfl) ?_
            refine lv_ishl hx hb dX6_guardsWhoSee_45 ?_
            refine lv_ior hx hb dX6_guardsWhoSee_46 ?_
            refine lv_istore_n (lv' := [(2, .int (x2_1 ||| ((1 : Int32) <<< (x3_2 &&& 31)))), (4, .int (f_t_guardAt x3_2.toNatClampNeg)), (0, .ref (a_t 0)), (1, .int p1), (3, .int x3_2)]) hx hb dX6_guardsWhoSee_47 rfl hl (by decide) rfl (fun ls hl => ?_)
            exact toW _ _ _ (Jk13 (x2_1 ||| ((1 : Int32) <<< (x3_2 &&& 31))) _ h (lv_sub hl [2, 3, 0, 4] rfl))
  exact toW _ _ _ (L8 nn (0 : Int32) (0 : Int32) _ h (lv_sub hl [2, 3, 1, 0] rfl))
/-! X6_bestPost -/
def uX6_bestPost_s6 (nn : Nat) (v_t_sight_4 : Int32) (f_t_steam_5 : Nat → Int32) (rec6 : Int32 → Int32 → Int32 → Option (Int32)) (x1_1 : Int32) (x2_2 : Int32) (x3_3 : Int32) : Option (Int32) :=
  (if (48 : Int32) ≤ x3_3 then some x1_1 else bb_b1 (uX6_seenFrom nn x3_3 v_t_sight_4 f_t_steam_5) (fun (r10 : Int64) => bb_b1 (uJ13_bitCount_95d88 r10) (fun (r13 : Int32) => bb_cut (fun (x1_16 : Int32) (x2_17 : Int32) => rec6 x1_16 x2_17 (x3_3 + (1 : Int32))) (fun k18 => (if r13 ≤ x2_2 then k18 x1_1 x2_2 else k18 x3_3 r13)))))
def uX6_bestPost (nn : Nat) (v_t_sight : Int32) (f_t_steam : Nat → Int32) : Option (Int32) :=
  bb_loop3 (uX6_bestPost_s6 nn v_t_sight f_t_steam) nn (0 : Int32) (-1 : Int32) (0 : Int32)
theorem kdX6_bestPost : yX6_bestPost.cls = RX6 ∧ yX6_bestPost.cls ≠ "java/lang/invoke/MethodHandle" ∧ yX6_bestPost.cls ≠ "java/lang/invoke/VarHandle" ∧ (parseMethodDescriptor yX6_bestPost.desc).map (fun d => d.parameters.length) = some 0 := by decide +kernel
set_option maxHeartbeats 4000000 in
set_option maxRecDepth 100000 in
theorem kX6_bestPost (l : Launch) (dC : Nat → ClassId) (dI : Nat → Nat → Nat) (cy : Nat → ClassId) (a_t : Nat → Nat) (v_t_sight : Int32) (v_t_bathers : Int32) (v_t_minute : Int32) (v_t_seenEver : Int32) (v_t_z : Int32) (f_t_steam : Nat → Int32) (nn : Nat) (r : Int32) (h : uX6_bestPost nn v_t_sight f_t_steam = some r) : Met l yX6_bestPost wsX6_bestPost ({ frames := 3, cells := 0, slots := 0, locals := 67 }) (va_Pc [.ref (a_t 0)] (fun U => va_P (dC, dI) vwCl [((a_t 0), oX6 a_t v_t_sight v_t_bathers v_t_minute v_t_seenEver v_t_z), ((a_t 1), .inl (cy 0, 48, .inl f_t_steam))] U.heap ∧ va_K (dC, dI) vwCl (tyX cy) U)) (vp_Si (fun r2 => r = r2)) 0 0 (fun _ => False) := by
  refine Met.ofW (cc := cX6_bestPost) (maxL := 5) (ret := (some .int)) (by decide) rfl ?_
  intro p e s m args below meth c s₁ B hml hv
  obtain ⟨rfl, hP, hK⟩ := hv
  have hx := B.exec
  have hb := B.bytes
  have hr := B.returns
  have hts := atoms_spec (ws := wsX6_bestPost) B.pre
  have hown : s.vm.findClass RX6 = some m.cls := findClass_of_methodNamed B.named
  have hlocks := B.notSynchronized
  have iwX6 : ∀ w ∈ wsX60, w ∈ wsX6_bestPost := fun w h9 => List.mem_cons_of_mem _ (List.mem_append_right _ (h9))
  have lk1 := hts (Cond.fieldLink RX6 41 "BathBorder$World" "sight" "I") (List.mem_of_getElem? (i := 1) rfl)
  have hl := lv_entry ([.ref (a_t 0)]) (n := 5) (Nat.le_of_ble_eq_true rfl)
  rw [lg_entry_eq]
  generalize (lg_sl ([.ref (a_t 0)]) ++ List.replicate (5 - (lg_sl ([.ref (a_t 0)])).length) Slot.unset).toArray = ls at hl ⊢
  have hl : lv_has ls 5 [(0, .ref (a_t 0))] := hl
  unfold uX6_bestPost at h
  refine bb_cap (fun WW toW ofW => ?_)
  refine lv_iconst (v := (0 : Int32)) hx hb dX6_bestPost_0 (by decide) ?_
  refine lv_istore_n (lv' := [(1, .int (0 : Int32)), (0, .ref (a_t 0))]) hx hb dX6_bestPost_1 rfl hl (by decide) rfl (fun ls hl => ?_)
  refine lv_iconst (v := (-1 : Int32)) hx hb dX6_bestPost_2 (by decide) ?_
  refine lv_istore_n (lv' := [(2, .int (-1 : Int32)), (1, .int (0 : Int32)), (0, .ref (a_t 0))]) hx hb dX6_bestPost_3 rfl hl (by decide) rfl (fun ls hl => ?_)
  refine lv_iconst (v := (0 : Int32)) hx hb dX6_bestPost_4 (by decide) ?_
  refine lv_istore_n (lv' := [(3, .int (0 : Int32)), (2, .int (-1 : Int32)), (1, .int (0 : Int32)), (0, .ref (a_t 0))]) hx hb dX6_bestPost_5 rfl hl (by decide) rfl (fun ls hl => ?_)
  have L7 : ∀ (n : Nat) (x1_1 : Int32) (x2_2 : Int32) (x3_3 : Int32) (ls : Array Slot), bb_loop3 (uX6_bestPost_s6 nn v_t_sight f_t_steam) n x1_1 x2_2 x3_3 = some r → lv_has ls 5 [(0, .ref (a_t 0)), (1, .int x1_1), (2, .int x2_2), (3, .int x3_3)] → WW s.heap [] (F0 m 6 ls []) := by
    intro n
    induction n with
    | zero => intro x1_1 x2_2 x3_3 ls h; exact (bb_no h).elim
    | succ n ih8 =>
      intro x1_1 x2_2 x3_3 ls h hl
      refine ofW _ _ _ ?_
      obtain ⟨rec6, erec6, h⟩ := bb_loop3_o h
      unfold uX6_bestPost_s6 at h
      refine lv_iload_n hx hb dX6_bestPost_6 rfl (lv_at hl 3 rfl) ?_
      refine lv_bipush (v := (48 : Int32)) hx hb dX6_bestPost_7 (by decide) ?_
      refine lv_icmp_ge (tgt := 43) hx hb dX6_bestPost_9 (by decide) (fun c9 => ?_) (fun c9 => ?_)
      · replace h := bb_ifp c9 h
        refine lv_iload_n hx hb dX6_bestPost_43 rfl (lv_at hl 1 rfl) ?_
        obtain rfl := bb_some1 h
        exact W.iret hx hb hr (fun t ht hW => ⟨_, rfl, rfl, ht⟩) (fun q hq => by cases hq) dX6_bestPost_44
      · replace h := bb_ifn c9 h
        refine lv_aload_n hx hb dX6_bestPost_12 rfl (lv_at hl 0 rfl) ?_
        refine lv_iload_n hx hb dX6_bestPost_13 rfl (lv_at hl 3 rfl) ?_
        refine lv_aload_n hx hb dX6_bestPost_14 rfl (lv_at hl 0 rfl) ?_
        refine va_get (D := (dC, dI)) (ci := 5) (v := .int v_t_sight) (C := RX6) (T := TX6) (N := 14) hx hb hts iwX6 hown hK hP 0 rfl rfl 9 (by decide) lk1 (fun _ h9 => h9) rfl dX6_bestPost_15 ?_
        obtain ⟨r10, hc11, h⟩ := bb_b1_o h
        refine vp_callSl (W.runV (As := [.int x3_3, .int v_t_sight]) (rest := []) ⟨hx, hb, hml, hown, hts⟩ (kX6_seenFrom l dC dI cy a_t x3_3 v_t_sight v_t_sight v_t_bathers v_t_minute v_t_seenEver v_t_z f_t_steam nn r10 hc11) (cwV 2 hts gX6_bestPost_X6_seenFrom rfl rfl rfl kdX6_seenFrom ⟨Nat.le_of_ble_eq_true rfl, Nat.le_of_ble_eq_true rfl⟩) (bb_preV (va_recv hK hP (ci := 5) (q0 := 0) rfl rfl) hP hK) rfl rfl hl.1 rfl (lv_room (Nat.le_of_ble_eq_true rfl)) dX6_bestPost_18 ⟨Nat.zero_le _, Nat.zero_le _⟩) (fun t12 et12 => ?_)
        obtain rfl := et12
        obtain ⟨r13, hc14, h⟩ := bb_b1_o h
        refine vp_callSi (W.runS (As := [.long r10]) (rest := []) ⟨hx, hb, hml, hown, hts⟩ (kJ13_bitCount_95d88 l dC dI cy r10 r13 hc14) (va_cwS 1 hts gX6_bestPost_J13_bitCount_95d88 rfl rfl rfl kdJ13_bitCount_95d88 ⟨Nat.le_of_ble_eq_true rfl, Nat.le_of_ble_eq_true rfl⟩) (bb_preS (hP.sub (ws' := []) [] rfl) hK) rfl rfl hl.1 rfl (lv_room (Nat.le_of_ble_eq_true rfl)) dX6_bestPost_21 ⟨Nat.zero_le _, Nat.zero_le _⟩) (fun t15 et15 => ?_)
        obtain rfl := et15
        refine lv_istore (lv' := [(4, .int r13), (0, .ref (a_t 0)), (1, .int x1_1), (2, .int x2_2), (3, .int x3_3)]) hx hb dX6_bestPost_24 hl (by decide) rfl (fun ls hl => ?_)
        refine lv_iload hx hb dX6_bestPost_26 (lv_at hl 0 rfl) ?_
        refine lv_iload_n hx hb dX6_bestPost_28 rfl (lv_at hl 3 rfl) ?_
        obtain ⟨k18, ek18, h⟩ := bb_cut_o h
        have Jk18 : ∀ (x1_16 : Int32) (x2_17 : Int32) (ls : Array Slot), k18 x1_16 x2_17 = some r → lv_has ls 5 [(0, .ref (a_t 0)), (1, .int x1_16), (2, .int x2_17), (3, .int x3_3)] → WW s.heap [] (F0 m 37 ls []) := by
          intro x1_16 x2_17 ls h hl
          refine ofW _ _ _ ?_
          subst ek18
          refine lv_iinc (v := x3_3 + (1 : Int32)) (lv' := [(3, .int (x3_3 + (1 : Int32))), (0, .ref (a_t 0)), (1, .int x1_16), (2, .int x2_17)]) hx hb dX6_bestPost_37 hl (k := 3) rfl rfl (by decide) rfl (fun ls hl => ?_)
          refine lv_goto (tgt := 6) hx hb dX6_bestPost_40 (by decide) ?_
          rw [erec6] at h
          exact toW _ _ _ (ih8 x1_16 x2_17 (x3_3 + (1 : Int32)) _ h (lv_sub hl [1, 2, 3, 0] rfl))
        refine lv_icmp_le (tgt := 37) hx hb dX6_bestPost_29 (by decide) (fun c19 => ?_) (fun c19 => ?_)
        · replace h := bb_ifp c19 h
          exact toW _ _ _ (Jk18 x1_1 x2_2 _ h (lv_sub hl [1, 2, 3, 4] rfl))
        · replace h := bb_ifn c19 h
          refine lv_iload_n hx hb dX6_bestPost_32 rfl (lv_at hl 4 rfl) ?_
          refine lv_istore_n (lv' := [(1, .int x3_3), (4, .int r13), (0, .ref (a_t 0)), (2, .int x2_2), (3, .int x3_3)]) hx hb dX6_bestPost_33 rfl hl (by decide) rfl (fun ls hl => ?_)
          refine lv_iload hx hb dX6_bestPost_34 (lv_at hl 1 rfl) ?_
          refine lv_istore_n (lv' := [(2, .int r13), (1, .int x3_3), (4, .int r13), (0, .ref (a_t 0)), (3, .int x3_3)]) hx hb dX6_bestPost_36 rfl hl (by decide) rfl (fun ls hl => ?_)
          exact toW _ _ _ (Jk18 x3_3 r13 _ h (lv_sub hl [3, 1, 0, 4] rfl))
  exact toW _ _ _ (L7 nn (0 : Int32) (-1 : Int32) (0 : Int32) _ h (lv_sub hl [3, 2, 1, 0] rfl))
/-! X6_whoIsAt -/
def uX6_whoIsAt_s4 (x1_3 : Int32) (v_t_bathers_4 : Int32) (f_t_at_5 : Nat → Int32) (rec6 : Int32 → Int32 → Option (Int32)) (x2_1 : Int32) (x3_2 : Int32) : Option (Int32) :=
  (if v_t_bathers_4 ≤ x3_2 then some x2_1 else bb_ix x3_2 8 (bb_cut (fun (x2_11 : Int32) => rec6 x2_11 (x3_2 + (1 : Int32))) (fun k12 => (if (f_t_at_5 x3_2.toNatClampNeg) = x1_3 then k12 (x2_1 ||| ((1 : Int32) <<< (x3_2 &&& 31))) else k12 x2_1))))
def uX6_whoIsAt (nn : Nat) (p1 : Int32) (v_t_bathers : Int32) (f_t_at : Nat → Int32) : Option (Int32) :=
  bb_loop2 (uX6_whoIsAt_s4 p1 v_t_bathers f_t_at) nn (0 : Int32) (0 : Int32)
theorem kdX6_whoIsAt : yX6_whoIsAt.cls = RX6 ∧ yX6_whoIsAt.cls ≠ "java/lang/invoke/MethodHandle" ∧ yX6_whoIsAt.cls ≠ "java/lang/invoke/VarHandle" ∧ (parseMethodDescriptor yX6_whoIsAt.desc).map (fun d => d.parameters.length) = some 1 := by decide +kernel
set_option maxHeartbeats 4000000 in
set_option maxRecDepth 100000 in
theorem kX6_whoIsAt (l : Launch) (dC : Nat → ClassId) (dI : Nat → Nat → Nat) (cy : Nat → ClassId) (a_t : Nat → Nat) (p1 : Int32) (v_t_sight : Int32) (v_t_bathers : Int32) (v_t_minute : Int32) (v_t_seenEver : Int32) (v_t_z : Int32) (f_t_at : Nat → Int32) (nn : Nat) (r : Int32) (h : uX6_whoIsAt nn p1 v_t_bathers f_t_at = some r) : Met l yX6_whoIsAt wsX6_whoIsAt ({ frames := 0, cells := 0, slots := 0, locals := 0 }) (va_Pc [.ref (a_t 0), .int p1] (fun U => va_P (dC, dI) vwCl [((a_t 0), oX6 a_t v_t_sight v_t_bathers v_t_minute v_t_seenEver v_t_z), ((a_t 5), .inl (cy 0, 8, .inl f_t_at))] U.heap ∧ va_K (dC, dI) vwCl (tyX cy) U)) (vp_Si (fun r2 => r = r2)) 0 0 (fun _ => False) := by
  refine Met.ofW (cc := cX6_whoIsAt) (maxL := 4) (ret := (some .int)) (by decide) rfl ?_
  intro p e s m args below meth c s₁ B hml hv
  obtain ⟨rfl, hP, hK⟩ := hv
  have hx := B.exec
  have hb := B.bytes
  have hr := B.returns
  have hts := atoms_spec (ws := wsX6_whoIsAt) B.pre
  have hown : s.vm.findClass RX6 = some m.cls := findClass_of_methodNamed B.named
  have hlocks := B.notSynchronized
  have iwX6 : ∀ w ∈ wsX60, w ∈ wsX6_whoIsAt := fun w h9 => List.mem_cons_of_mem _ (List.mem_append_right _ (h9))
  have lk1 := hts (Cond.fieldLink RX6 54 "BathBorder$World" "bathers" "I") (List.mem_of_getElem? (i := 1) rfl)
  have lk2 := hts (Cond.fieldLink RX6 26 "BathBorder$World" "at" "[I") (List.mem_of_getElem? (i := 2) rfl)
  have hl := lv_entry ([.ref (a_t 0), .int p1]) (n := 4) (Nat.le_of_ble_eq_true rfl)
  rw [lg_entry_eq]
  generalize (lg_sl ([.ref (a_t 0), .int p1]) ++ List.replicate (4 - (lg_sl ([.ref (a_t 0), .int p1])).length) Slot.unset).toArray = ls at hl ⊢
  have hl : lv_has ls 4 [(0, .ref (a_t 0)), (1, .int p1)] := hl
  unfold uX6_whoIsAt at h
  refine bb_cap (fun WW toW ofW => ?_)
  refine lv_iconst (v := (0 : Int32)) hx hb dX6_whoIsAt_0 (by decide) ?_
  refine lv_istore_n (lv' := [(2, .int (0 : Int32)), (0, .ref (a_t 0)), (1, .int p1)]) hx hb dX6_whoIsAt_1 rfl hl (by decide) rfl (fun ls hl => ?_)
  refine lv_iconst (v := (0 : Int32)) hx hb dX6_whoIsAt_2 (by decide) ?_
  refine lv_istore_n (lv' := [(3, .int (0 : Int32)), (2, .int (0 : Int32)), (0, .ref (a_t 0)), (1, .int p1)]) hx hb dX6_whoIsAt_3 rfl hl (by decide) rfl (fun ls hl => ?_)
  have L7 : ∀ (n : Nat) (x2_1 : Int32) (x3_2 : Int32) (ls : Array Slot), bb_loop2 (uX6_whoIsAt_s4 p1 v_t_bathers f_t_at) n x2_1 x3_2 = some r → lv_has ls 4 [(0, .ref (a_t 0)), (1, .int p1), (2, .int x2_1), (3, .int x3_2)] → WW s.heap [] (F0 m 4 ls []) := by
    intro n
    induction n with
    | zero => intro x2_1 x3_2 ls h; exact (bb_no h).elim
    | succ n ih8 =>
      intro x2_1 x3_2 ls h hl
      refine ofW _ _ _ ?_
      obtain ⟨rec6, erec6, h⟩ := bb_loop2_o h
      unfold uX6_whoIsAt_s4 at h
      refine lv_iload_n hx hb dX6_whoIsAt_4 rfl (lv_at hl 3 rfl) ?_
      refine lv_aload_n hx hb dX6_whoIsAt_5 rfl (lv_at hl 0 rfl) ?_
      refine va_get (D := (dC, dI)) (ci := 5) (v := .int v_t_bathers) (C := RX6) (T := TX6) (N := 14) hx hb hts iwX6 hown hK hP 0 rfl rfl 10 (by decide) lk1 (fun _ h9 => h9) rfl dX6_whoIsAt_6 ?_
      refine lv_icmp_ge (tgt := 34) hx hb dX6_whoIsAt_9 (by decide) (fun c9 => ?_) (fun c9 => ?_)
      · replace h := bb_ifp c9 h
        refine lv_iload_n hx hb dX6_whoIsAt_34 rfl (lv_at hl 2 rfl) ?_
        obtain rfl := bb_some1 h
        exact W.iret hx hb hr (fun t ht hW => ⟨_, rfl, rfl, ht⟩) (fun q hq => by cases hq) dX6_whoIsAt_35
      · replace h := bb_ifn c9 h
        refine lv_aload_n hx hb dX6_whoIsAt_12 rfl (lv_at hl 0 rfl) ?_
        refine va_get (D := (dC, dI)) (ci := 5) (v := .ref (a_t 5)) (C := RX6) (T := TX6) (N := 14) hx hb hts iwX6 hown hK hP 0 rfl rfl 4 (by decide) lk2 (fun _ h9 => h9) rfl dX6_whoIsAt_13 ?_
        refine lv_iload_n hx hb dX6_whoIsAt_16 rfl (lv_at hl 3 rfl) ?_
        obtain ⟨hi10, h⟩ := bb_ix_o h
        refine va_iald hx hb hK hP 1 0 rfl rfl hi10 dX6_whoIsAt_17 ?_
        refine lv_iload_n hx hb dX6_whoIsAt_18 rfl (lv_at hl 1 rfl) ?_
        obtain ⟨k12, ek12, h⟩ := bb_cut_o h
        have Jk12 : ∀ (x2_11 : Int32) (ls : Array Slot), k12 x2_11 = some r → lv_has ls 4 [(0, .ref (a_t 0)), (1, .int p1), (2, .int x2_11), (3, .int x3_2)] → WW s.heap [] (F0 m 28 ls []) := by
          intro x2_11 ls h hl
          refine ofW _ _ _ ?_
          subst ek12
          refine lv_iinc (v := x3_2 + (1 : Int32)) (lv' := [(3, .int (x3_2 + (1 : Int32))), (0, .ref (a_t 0)), (1, .int p1), (2, .int x2_11)]) hx hb dX6_whoIsAt_28 hl (k := 3) rfl rfl (by decide) rfl (fun ls hl => ?_)
          refine lv_goto (tgt := 4) hx hb dX6_whoIsAt_31 (by decide) ?_
          rw [erec6] at h
          exact toW _ _ _ (ih8 x2_11 (x3_2 + (1 : Int32)) _ h (lv_sub hl [1, 2, 3, 0] rfl))
        refine lv_icmp_ne (tgt := 28) hx hb dX6_whoIsAt_19 (by decide) (fun c13 => ?_) (fun c13 => ?_)
        · replace h := bb_ifn c13 h
          exact toW _ _ _ (Jk12 x2_1 _ h (lv_sub hl [0, 1, 2, 3] rfl))
        · replace h := bb_ifp c13 h
          refine lv_iload_n hx hb dX6_whoIsAt_22 rfl (lv_at hl 2 rfl) ?_
          refine lv_iconst (v := (1 : Int32)) hx hb dX6_whoIsAt_23 (by decide) ?_
          refine lv_iload_n hx hb dX6_whoIsAt_24 rfl (lv_at hl 3 rfl) ?_
          refine lv_ishl hx hb dX6_whoIsAt_25 ?_
          refine lv_ior hx hb dX6_whoIsAt_26 ?_
          refine lv_istore_n (lv' := [(2, .int (x2_1 ||| ((1 : Int32) <<< (x3_2 &&& 31)))), (0, .ref (a_t 0)), (1, .int p1), (3, .int x3_2)]) hx hb dX6_whoIsAt_27 rfl hl (by decide) rfl (fun ls hl => ?_)
          exact toW _ _ _ (Jk12 (x2_1 ||| ((1 : Int32) <<< (x3_2 &&& 31))) _ h (lv_sub hl [1, 2, 0, 3] rfl))
  exact toW _ _ _ (L7 nn (0 : Int32) (0 : Int32) _ h (lv_sub hl [2, 3, 1, 0] rfl))
/-! X6_howManyAt -/
def uX6_howManyAt (nn : Nat) (p1 : Int32) (v_t_bathers : Int32) (f_t_at : Nat → Int32) : Option (Int32) :=
  bb_b1 (uX6_whoIsAt nn p1 v_t_bathers f_t_at) (fun (r1 : Int32) => bb_b1 (uJ6_bitCount_0f7a4 r1) (fun (r4 : Int32) => some r4))
theorem kdX6_howManyAt : yX6_howManyAt.cls = RX6 ∧ yX6_howManyAt.cls ≠ "java/lang/invoke/MethodHandle" ∧ yX6_howManyAt.cls ≠ "java/lang/invoke/VarHandle" ∧ (parseMethodDescriptor yX6_howManyAt.desc).map (fun d => d.parameters.length) = some 1 := by decide +kernel
set_option maxHeartbeats 4000000 in
set_option maxRecDepth 100000 in
theorem kX6_howManyAt (l : Launch) (dC : Nat → ClassId) (dI : Nat → Nat → Nat) (cy : Nat → ClassId) (a_t : Nat → Nat) (p1 : Int32) (v_t_sight : Int32) (v_t_bathers : Int32) (v_t_minute : Int32) (v_t_seenEver : Int32) (v_t_z : Int32) (f_t_at : Nat → Int32) (nn : Nat) (r : Int32) (h : uX6_howManyAt nn p1 v_t_bathers f_t_at = some r) : Met l yX6_howManyAt wsX6_howManyAt ({ frames := 1, cells := 0, slots := 0, locals := 23 }) (va_Pc [.ref (a_t 0), .int p1] (fun U => va_P (dC, dI) vwCl [((a_t 0), oX6 a_t v_t_sight v_t_bathers v_t_minute v_t_seenEver v_t_z), ((a_t 5), .inl (cy 0, 8, .inl f_t_at))] U.heap ∧ va_K (dC, dI) vwCl (tyX cy) U)) (vp_Si (fun r2 => r = r2)) 0 0 (fun _ => False) := by
  refine Met.ofW (cc := cX6_howManyAt) (maxL := 2) (ret := (some .int)) (by decide) rfl ?_
  intro p e s m args below meth c s₁ B hml hv
  obtain ⟨rfl, hP, hK⟩ := hv
  have hx := B.exec
  have hb := B.bytes
  have hr := B.returns
  have hts := atoms_spec (ws := wsX6_howManyAt) B.pre
  have hown : s.vm.findClass RX6 = some m.cls := findClass_of_methodNamed B.named
  have hlocks := B.notSynchronized
  have hl := lv_entry ([.ref (a_t 0), .int p1]) (n := 2) (Nat.le_of_ble_eq_true rfl)
  rw [lg_entry_eq]
  generalize (lg_sl ([.ref (a_t 0), .int p1]) ++ List.replicate (2 - (lg_sl ([.ref (a_t 0), .int p1])).length) Slot.unset).toArray = ls at hl ⊢
  have hl : lv_has ls 2 [(0, .ref (a_t 0)), (1, .int p1)] := hl
  unfold uX6_howManyAt at h
  refine bb_cap (fun WW toW ofW => ?_)
  refine lv_aload_n hx hb dX6_howManyAt_0 rfl (lv_at hl 0 rfl) ?_
  refine lv_iload_n hx hb dX6_howManyAt_1 rfl (lv_at hl 1 rfl) ?_
  obtain ⟨r1, hc2, h⟩ := bb_b1_o h
  refine vp_callSi (W.runV (As := [.int p1]) (rest := []) ⟨hx, hb, hml, hown, hts⟩ (kX6_whoIsAt l dC dI cy a_t p1 v_t_sight v_t_bathers v_t_minute v_t_seenEver v_t_z f_t_at nn r1 hc2) (cwV 1 hts gX6_howManyAt_X6_whoIsAt rfl rfl rfl kdX6_whoIsAt ⟨Nat.le_of_ble_eq_true rfl, Nat.le_of_ble_eq_true rfl⟩) (bb_preV (va_recv hK hP (ci := 5) (q0 := 0) rfl rfl) hP hK) rfl rfl hl.1 rfl (lv_room (Nat.le_of_ble_eq_true rfl)) dX6_howManyAt_2 ⟨Nat.zero_le _, Nat.zero_le _⟩) (fun t3 et3 => ?_)
  obtain rfl := et3
  obtain ⟨r4, hc5, h⟩ := bb_b1_o h
  refine vp_callSi (W.runS (As := [.int r1]) (rest := []) ⟨hx, hb, hml, hown, hts⟩ (kJ6_bitCount_0f7a4 l dC dI cy r1 r4 hc5) (va_cwS 1 hts gX6_howManyAt_J6_bitCount_0f7a4 rfl rfl rfl kdJ6_bitCount_0f7a4 ⟨Nat.le_of_ble_eq_true rfl, Nat.le_of_ble_eq_true rfl⟩) (bb_preS (hP.sub (ws' := []) [] rfl) hK) rfl rfl hl.1 rfl (lv_room (Nat.le_of_ble_eq_true rfl)) dX6_howManyAt_5 ⟨Nat.zero_le _, Nat.zero_le _⟩) (fun t6 et6 => ?_)
  obtain rfl := et6
  obtain rfl := bb_some1 h
  exact W.iret hx hb hr (fun t ht hW => ⟨_, rfl, rfl, ht⟩) (fun q hq => by cases hq) dX6_howManyAt_8
/-! X6_howManyOut -/
def uX6_howManyOut (nn : Nat) (v_t_bathers : Int32) (f_t_at : Nat → Int32) : Option (Int32) :=
  bb_b1 (uX6_howManyAt nn (100 : Int32) v_t_bathers f_t_at) (fun (r1 : Int32) => bb_b1 (uX6_howManyAt nn (101 : Int32) v_t_bathers f_t_at) (fun (r4 : Int32) => some (r1 + r4)))
theorem kdX6_howManyOut : yX6_howManyOut.cls = RX6 ∧ yX6_howManyOut.cls ≠ "java/lang/invoke/MethodHandle" ∧ yX6_howManyOut.cls ≠ "java/lang/invoke/VarHandle" ∧ (parseMethodDescriptor yX6_howManyOut.desc).map (fun d => d.parameters.length) = some 0 := by decide +kernel
set_option maxHeartbeats 4000000 in
set_option maxRecDepth 100000 in
theorem kX6_howManyOut (l : Launch) (dC : Nat → ClassId) (dI : Nat → Nat → Nat) (cy : Nat → ClassId) (a_t : Nat → Nat) (v_t_sight : Int32) (v_t_bathers : Int32) (v_t_minute : Int32) (v_t_seenEver : Int32) (v_t_z : Int32) (f_t_at : Nat → Int32) (nn : Nat) (r : Int32) (h : uX6_howManyOut nn v_t_bathers f_t_at = some r) : Met l yX6_howManyOut wsX6_howManyOut ({ frames := 2, cells := 0, slots := 0, locals := 44 }) (va_Pc [.ref (a_t 0)] (fun U => va_P (dC, dI) vwCl [((a_t 0), oX6 a_t v_t_sight v_t_bathers v_t_minute v_t_seenEver v_t_z), ((a_t 5), .inl (cy 0, 8, .inl f_t_at))] U.heap ∧ va_K (dC, dI) vwCl (tyX cy) U)) (vp_Si (fun r2 => r = r2)) 0 0 (fun _ => False) := by
  refine Met.ofW (cc := cX6_howManyOut) (maxL := 1) (ret := (some .int)) (by decide) rfl ?_
  intro p e s m args below meth c s₁ B hml hv
  obtain ⟨rfl, hP, hK⟩ := hv
  have hx := B.exec
  have hb := B.bytes
  have hr := B.returns
  have hts := atoms_spec (ws := wsX6_howManyOut) B.pre
  have hown : s.vm.findClass RX6 = some m.cls := findClass_of_methodNamed B.named
  have hlocks := B.notSynchronized
  have hl := lv_entry ([.ref (a_t 0)]) (n := 1) (Nat.le_of_ble_eq_true rfl)
  rw [lg_entry_eq]
  generalize (lg_sl ([.ref (a_t 0)]) ++ List.replicate (1 - (lg_sl ([.ref (a_t 0)])).length) Slot.unset).toArray = ls at hl ⊢
  have hl : lv_has ls 1 [(0, .ref (a_t 0))] := hl
  unfold uX6_howManyOut at h
  refine bb_cap (fun WW toW ofW => ?_)
  refine lv_aload_n hx hb dX6_howManyOut_0 rfl (lv_at hl 0 rfl) ?_
  refine lv_bipush (v := (100 : Int32)) hx hb dX6_howManyOut_1 (by decide) ?_
  obtain ⟨r1, hc2, h⟩ := bb_b1_o h
  refine vp_callSi (W.runV (As := [.int (100 : Int32)]) (rest := []) ⟨hx, hb, hml, hown, hts⟩ (kX6_howManyAt l dC dI cy a_t (100 : Int32) v_t_sight v_t_bathers v_t_minute v_t_seenEver v_t_z f_t_at nn r1 hc2) (cwV 1 hts gX6_howManyOut_X6_howManyAt rfl rfl rfl kdX6_howManyAt ⟨Nat.le_of_ble_eq_true rfl, Nat.le_of_ble_eq_true rfl⟩) (bb_preV (va_recv hK hP (ci := 5) (q0 := 0) rfl rfl) hP hK) rfl rfl hl.1 rfl (lv_room (Nat.le_of_ble_eq_true rfl)) dX6_howManyOut_3 ⟨Nat.zero_le _, Nat.zero_le _⟩) (fun t3 et3 => ?_)
  obtain rfl := et3
  refine lv_aload_n hx hb dX6_howManyOut_6 rfl (lv_at hl 0 rfl) ?_
  refine lv_bipush (v := (101 : Int32)) hx hb dX6_howManyOut_7 (by decide) ?_
  obtain ⟨r4, hc5, h⟩ := bb_b1_o h
  refine vp_callSi (W.runV (As := [.int (101 : Int32)]) (rest := [.int r1]) ⟨hx, hb, hml, hown, hts⟩ (kX6_howManyAt l dC dI cy a_t (101 : Int32) v_t_sight v_t_bathers v_t_minute v_t_seenEver v_t_z f_t_at nn r4 hc5) (cwV 1 hts gX6_howManyOut_X6_howManyAt rfl rfl rfl kdX6_howManyAt ⟨Nat.le_of_ble_eq_true rfl, Nat.le_of_ble_eq_true rfl⟩) (bb_preV (va_recv hK hP (ci := 5) (q0 := 0) rfl rfl) hP hK) rfl rfl hl.1 rfl (lv_room (Nat.le_of_ble_eq_true rfl)) dX6_howManyOut_9 ⟨Nat.zero_le _, Nat.zero_le _⟩) (fun t6 et6 => ?_)
  obtain rfl := et6
  refine lv_iadd hx hb dX6_howManyOut_12 ?_
  obtain rfl := bb_some1 h
  exact W.iret hx hb hr (fun t ht hW => ⟨_, rfl, rfl, ht⟩) (fun q hq => by cases hq) dX6_howManyOut_13
/-! X6_steamOfAll -/
def uX6_steamOfAll_s4 (f_t_steam_3 : Nat → Int32) (rec4 : Int32 → Int32 → Option (Int32)) (x1_1 : Int32) (x2_2 : Int32) : Option (Int32) :=
  (if (48 : Int32) ≤ x2_2 then some x1_1 else bb_ix x2_2 48 (rec4 (x1_1 + (f_t_steam_3 x2_2.toNatClampNeg)) (x2_2 + (1 : Int32))))
def uX6_steamOfAll (nn : Nat) (f_t_steam : Nat → Int32) : Option (Int32) :=
  bb_loop2 (uX6_steamOfAll_s4 f_t_steam) nn (0 : Int32) (0 : Int32)
theorem kdX6_steamOfAll : yX6_steamOfAll.cls = RX6 ∧ yX6_steamOfAll.cls ≠ "java/lang/invoke/MethodHandle" ∧ yX6_steamOfAll.cls ≠ "java/lang/invoke/VarHandle" ∧ (parseMethodDescriptor yX6_steamOfAll.desc).map (fun d => d.parameters.length) = some 0 := by decide +kernel
set_option maxHeartbeats 4000000 in
set_option maxRecDepth 100000 in
theorem kX6_steamOfAll (l : Launch) (dC : Nat → ClassId) (dI : Nat → Nat → Nat) (cy : Nat → ClassId) (a_t : Nat → Nat) (v_t_sight : Int32) (v_t_bathers : Int32) (v_t_minute : Int32) (v_t_seenEver : Int32) (v_t_z : Int32) (f_t_steam : Nat → Int32) (nn : Nat) (r : Int32) (h : uX6_steamOfAll nn f_t_steam = some r) : Met l yX6_steamOfAll wsX6_steamOfAll ({ frames := 0, cells := 0, slots := 0, locals := 0 }) (va_Pc [.ref (a_t 0)] (fun U => va_P (dC, dI) vwCl [((a_t 0), oX6 a_t v_t_sight v_t_bathers v_t_minute v_t_seenEver v_t_z), ((a_t 1), .inl (cy 0, 48, .inl f_t_steam))] U.heap ∧ va_K (dC, dI) vwCl (tyX cy) U)) (vp_Si (fun r2 => r = r2)) 0 0 (fun _ => False) := by
  refine Met.ofW (cc := cX6_steamOfAll) (maxL := 3) (ret := (some .int)) (by decide) rfl ?_
  intro p e s m args below meth c s₁ B hml hv
  obtain ⟨rfl, hP, hK⟩ := hv
  have hx := B.exec
  have hb := B.bytes
  have hr := B.returns
  have hts := atoms_spec (ws := wsX6_steamOfAll) B.pre
  have hown : s.vm.findClass RX6 = some m.cls := findClass_of_methodNamed B.named
  have hlocks := B.notSynchronized
  have iwX6 : ∀ w ∈ wsX60, w ∈ wsX6_steamOfAll := fun w h9 => List.mem_cons_of_mem _ (List.mem_append_right _ (h9))
  have lk1 := hts (Cond.fieldLink RX6 11 "BathBorder$World" "steam" "[I") (List.mem_of_getElem? (i := 1) rfl)
  have hl := lv_entry ([.ref (a_t 0)]) (n := 3) (Nat.le_of_ble_eq_true rfl)
  rw [lg_entry_eq]
  generalize (lg_sl ([.ref (a_t 0)]) ++ List.replicate (3 - (lg_sl ([.ref (a_t 0)])).length) Slot.unset).toArray = ls at hl ⊢
  have hl : lv_has ls 3 [(0, .ref (a_t 0))] := hl
  unfold uX6_steamOfAll at h
  refine bb_cap (fun WW toW ofW => ?_)
  refine lv_iconst (v := (0 : Int32)) hx hb dX6_steamOfAll_0 (by decide) ?_
  refine lv_istore_n (lv' := [(1, .int (0 : Int32)), (0, .ref (a_t 0))]) hx hb dX6_steamOfAll_1 rfl hl (by decide) rfl (fun ls hl => ?_)
  refine lv_iconst (v := (0 : Int32)) hx hb dX6_steamOfAll_2 (by decide) ?_
  refine lv_istore_n (lv' := [(2, .int (0 : Int32)), (1, .int (0 : Int32)), (0, .ref (a_t 0))]) hx hb dX6_steamOfAll_3 rfl hl (by decide) rfl (fun ls hl => ?_)
  have L5 : ∀ (n : Nat) (x1_1 : Int32) (x2_2 : Int32) (ls : Array Slot), bb_loop2 (uX6_steamOfAll_s4 f_t_steam) n x1_1 x2_2 = some r → lv_has ls 3 [(0, .ref (a_t 0)), (1, .int x1_1), (2, .int x2_2)] → WW s.heap [] (F0 m 4 ls []) := by
    intro n
    induction n with
    | zero => intro x1_1 x2_2 ls h; exact (bb_no h).elim
    | succ n ih6 =>
      intro x1_1 x2_2 ls h hl
      refine ofW _ _ _ ?_
      obtain ⟨rec4, erec4, h⟩ := bb_loop2_o h
      unfold uX6_steamOfAll_s4 at h
      refine lv_iload_n hx hb dX6_steamOfAll_4 rfl (lv_at hl 2 rfl) ?_
      refine lv_bipush (v := (48 : Int32)) hx hb dX6_steamOfAll_5 (by decide) ?_
      refine lv_icmp_ge (tgt := 25) hx hb dX6_steamOfAll_7 (by decide) (fun c7 => ?_) (fun c7 => ?_)
      · replace h := bb_ifp c7 h
        refine lv_iload_n hx hb dX6_steamOfAll_25 rfl (lv_at hl 1 rfl) ?_
        obtain rfl := bb_some1 h
        exact W.iret hx hb hr (fun t ht hW => ⟨_, rfl, rfl, ht⟩) (fun q hq => by cases hq) dX6_steamOfAll_26
      · replace h := bb_ifn c7 h
        refine lv_iload_n hx hb dX6_steamOfAll_10 rfl (lv_at hl 1 rfl) ?_
        refine lv_aload_n hx hb dX6_steamOfAll_11 rfl (lv_at hl 0 rfl) ?_
        refine va_get (D := (dC, dI)) (ci := 5) (v := .ref (a_t 1)) (C := RX6) (T := TX6) (N := 14) hx hb hts iwX6 hown hK hP 0 rfl rfl 0 (by decide) lk1 (fun _ h9 => h9) rfl dX6_steamOfAll_12 ?_
        refine lv_iload_n hx hb dX6_steamOfAll_15 rfl (lv_at hl 2 rfl) ?_
        obtain ⟨hi8, h⟩ := bb_ix_o h
        refine va_iald hx hb hK hP 1 0 rfl rfl hi8 dX6_steamOfAll_16 ?_
        refine lv_iadd hx hb dX6_steamOfAll_17 ?_
        refine lv_istore_n (lv' := [(1, .int (x1_1 + (f_t_steam x2_2.toNatClampNeg))), (0, .ref (a_t 0)), (2, .int x2_2)]) hx hb dX6_steamOfAll_18 rfl hl (by decide) rfl (fun ls hl => ?_)
        refine lv_iinc (v := x2_2 + (1 : Int32)) (lv' := [(2, .int (x2_2 + (1 : Int32))), (1, .int (x1_1 + (f_t_steam x2_2.toNatClampNeg))), (0, .ref (a_t 0))]) hx hb dX6_steamOfAll_19 hl (k := 2) rfl rfl (by decide) rfl (fun ls hl => ?_)
        refine lv_goto (tgt := 4) hx hb dX6_steamOfAll_22 (by decide) ?_
        rw [erec4] at h
        exact toW _ _ _ (ih6 (x1_1 + (f_t_steam x2_2.toNatClampNeg)) (x2_2 + (1 : Int32)) _ h (lv_sub hl [2, 1, 0] rfl))
  exact toW _ _ _ (L5 nn (0 : Int32) (0 : Int32) _ h (lv_sub hl [2, 1, 0] rfl))
/-! X6_heldSpots -/
def uX6_heldSpots_s4 (f_t_spot_3 : Nat → Int32) (rec4 : Int32 → Int32 → Option (Int32)) (x1_1 : Int32) (x2_2 : Int32) : Option (Int32) :=
  (if (10 : Int32) ≤ x2_2 then some x1_1 else bb_ix x2_2 10 (bb_cut (fun (x1_9 : Int32) => rec4 x1_9 (x2_2 + (1 : Int32))) (fun k10 => (if (f_t_spot_3 x2_2.toNatClampNeg) < 0 then k10 x1_1 else k10 (x1_1 + (1 : Int32))))))
def uX6_heldSpots (nn : Nat) (f_t_spot : Nat → Int32) : Option (Int32) :=
  bb_loop2 (uX6_heldSpots_s4 f_t_spot) nn (0 : Int32) (0 : Int32)
theorem kdX6_heldSpots : yX6_heldSpots.cls = RX6 ∧ yX6_heldSpots.cls ≠ "java/lang/invoke/MethodHandle" ∧ yX6_heldSpots.cls ≠ "java/lang/invoke/VarHandle" ∧ (parseMethodDescriptor yX6_heldSpots.desc).map (fun d => d.parameters.length) = some 0 := by decide +kernel
set_option maxHeartbeats 4000000 in
set_option maxRecDepth 100000 in
theorem kX6_heldSpots (l : Launch) (dC : Nat → ClassId) (dI : Nat → Nat → Nat) (cy : Nat → ClassId) (a_t : Nat → Nat) (v_t_sight : Int32) (v_t_bathers : Int32) (v_t_minute : Int32) (v_t_seenEver : Int32) (v_t_z : Int32) (f_t_spot : Nat → Int32) (nn : Nat) (r : Int32) (h : uX6_heldSpots nn f_t_spot = some r) : Met l yX6_heldSpots wsX6_heldSpots ({ frames := 0, cells := 0, slots := 0, locals := 0 }) (va_Pc [.ref (a_t 0)] (fun U => va_P (dC, dI) vwCl [((a_t 0), oX6 a_t v_t_sight v_t_bathers v_t_minute v_t_seenEver v_t_z), ((a_t 9), .inl (cy 0, 10, .inl f_t_spot))] U.heap ∧ va_K (dC, dI) vwCl (tyX cy) U)) (vp_Si (fun r2 => r = r2)) 0 0 (fun _ => False) := by
  refine Met.ofW (cc := cX6_heldSpots) (maxL := 3) (ret := (some .int)) (by decide) rfl ?_
  intro p e s m args below meth c s₁ B hml hv
  obtain ⟨rfl, hP, hK⟩ := hv
  have hx := B.exec
  have hb := B.bytes
  have hr := B.returns
  have hts := atoms_spec (ws := wsX6_heldSpots) B.pre
  have hown : s.vm.findClass RX6 = some m.cls := findClass_of_methodNamed B.named
  have hlocks := B.notSynchronized
  have iwX6 : ∀ w ∈ wsX60, w ∈ wsX6_heldSpots := fun w h9 => List.mem_cons_of_mem _ (List.mem_append_right _ (h9))
  have lk1 := hts (Cond.fieldLink RX6 38 "BathBorder$World" "spot" "[I") (List.mem_of_getElem? (i := 1) rfl)
  have hl := lv_entry ([.ref (a_t 0)]) (n := 3) (Nat.le_of_ble_eq_true rfl)
  rw [lg_entry_eq]
  generalize (lg_sl ([.ref (a_t 0)]) ++ List.replicate (3 - (lg_sl ([.ref (a_t 0)])).length) Slot.unset).toArray = ls at hl ⊢
  have hl : lv_has ls 3 [(0, .ref (a_t 0))] := hl
  unfold uX6_heldSpots at h
  refine bb_cap (fun WW toW ofW => ?_)
  refine lv_iconst (v := (0 : Int32)) hx hb dX6_heldSpots_0 (by decide) ?_
  refine lv_istore_n (lv' := [(1, .int (0 : Int32)), (0, .ref (a_t 0))]) hx hb dX6_heldSpots_1 rfl hl (by decide) rfl (fun ls hl => ?_)
  refine lv_iconst (v := (0 : Int32)) hx hb dX6_heldSpots_2 (by decide) ?_
  refine lv_istore_n (lv' := [(2, .int (0 : Int32)), (1, .int (0 : Int32)), (0, .ref (a_t 0))]) hx hb dX6_heldSpots_3 rfl hl (by decide) rfl (fun ls hl => ?_)
  have L5 : ∀ (n : Nat) (x1_1 : Int32) (x2_2 : Int32) (ls : Array Slot), bb_loop2 (uX6_heldSpots_s4 f_t_spot) n x1_1 x2_2 = some r → lv_has ls 3 [(0, .ref (a_t 0)), (1, .int x1_1), (2, .int x2_2)] → WW s.heap [] (F0 m 4 ls []) := by
    intro n
    induction n with
    | zero => intro x1_1 x2_2 ls h; exact (bb_no h).elim
    | succ n ih6 =>
      intro x1_1 x2_2 ls h hl
      refine ofW _ _ _ ?_
      obtain ⟨rec4, erec4, h⟩ := bb_loop2_o h
      unfold uX6_heldSpots_s4 at h
      refine lv_iload_n hx hb dX6_heldSpots_4 rfl (lv_at hl 2 rfl) ?_
      refine lv_bipush (v := (10 : Int32)) hx hb dX6_heldSpots_5 (by decide) ?_
      refine lv_icmp_ge (tgt := 28) hx hb dX6_heldSpots_7 (by decide) (fun c7 => ?_) (fun c7 => ?_)
      · replace h := bb_ifp c7 h
        refine lv_iload_n hx hb dX6_heldSpots_28 rfl (lv_at hl 1 rfl) ?_
        obtain rfl := bb_some1 h
        exact W.iret hx hb hr (fun t ht hW => ⟨_, rfl, rfl, ht⟩) (fun q hq => by cases hq) dX6_heldSpots_29
      · replace h := bb_ifn c7 h
        refine lv_aload_n hx hb dX6_heldSpots_10 rfl (lv_at hl 0 rfl) ?_
        refine va_get (D := (dC, dI)) (ci := 5) (v := .ref (a_t 9)) (C := RX6) (T := TX6) (N := 14) hx hb hts iwX6 hown hK hP 0 rfl rfl 8 (by decide) lk1 (fun _ h9 => h9) rfl dX6_heldSpots_11 ?_
        refine lv_iload_n hx hb dX6_heldSpots_14 rfl (lv_at hl 2 rfl) ?_
        obtain ⟨hi8, h⟩ := bb_ix_o h
        refine va_iald hx hb hK hP 1 0 rfl rfl hi8 dX6_heldSpots_15 ?_
        obtain ⟨k10, ek10, h⟩ := bb_cut_o h
        have Jk10 : ∀ (x1_9 : Int32) (ls : Array Slot), k10 x1_9 = some r → lv_has ls 3 [(0, .ref (a_t 0)), (1, .int x1_9), (2, .int x2_2)] → WW s.heap [] (F0 m 22 ls []) := by
          intro x1_9 ls h hl
          refine ofW _ _ _ ?_
          subst ek10
          refine lv_iinc (v := x2_2 + (1 : Int32)) (lv' := [(2, .int (x2_2 + (1 : Int32))), (0, .ref (a_t 0)), (1, .int x1_9)]) hx hb dX6_heldSpots_22 hl (k := 2) rfl rfl (by decide) rfl (fun ls hl => ?_)
          refine lv_goto (tgt := 4) hx hb dX6_heldSpots_25 (by decide) ?_
          rw [erec4] at h
          exact toW _ _ _ (ih6 x1_9 (x2_2 + (1 : Int32)) _ h (lv_sub hl [1, 2, 0] rfl))
        refine lv_if_lt (tgt := 22) hx hb dX6_heldSpots_16 (by decide) (fun c11 => ?_) (fun c11 => ?_)
        · replace h := bb_ifp c11 h
          exact toW _ _ _ (Jk10 x1_1 _ h (lv_sub hl [0, 1, 2] rfl))
        · replace h := bb_ifn c11 h
          refine lv_iinc (v := x1_1 + (1 : Int32)) (lv' := [(1, .int (x1_1 + (1 : Int32))), (0, .ref (a_t 0)), (2, .int x2_2)]) hx hb dX6_heldSpots_19 hl (k := 1) rfl rfl (by decide) rfl (fun ls hl => ?_)
          exact toW _ _ _ (Jk10 (x1_1 + (1 : Int32)) _ h (lv_sub hl [1, 0, 2] rfl))
  exact toW _ _ _ (L5 nn (0 : Int32) (0 : Int32) _ h (lv_sub hl [2, 1, 0] rfl))
/-! X6_ringOf -/
def uX6_ringOf_s7 (v_t_bathers_4 : Int32) (f_t_key_5 : Nat → Int32) (rec6 : Int32 → Int32 → Int32 → Option (Int32)) (x2_1 : Int32) (x3_2 : Int32) (x4_3 : Int32) : Option (Int32) :=
  (if v_t_bathers_4 ≤ x4_3 then some x2_1 else bb_ix x3_2 8 (rec6 (x2_1 ||| ((1 : Int32) <<< (x3_2 &&& 31))) (f_t_key_5 x3_2.toNatClampNeg) (x4_3 + (1 : Int32))))
def uX6_ringOf (nn : Nat) (p1 : Int32) (v_t_bathers : Int32) (f_t_key : Nat → Int32) : Option (Int32) :=
  bb_loop3 (uX6_ringOf_s7 v_t_bathers f_t_key) nn (0 : Int32) p1 (0 : Int32)
theorem kdX6_ringOf : yX6_ringOf.cls = RX6 ∧ yX6_ringOf.cls ≠ "java/lang/invoke/MethodHandle" ∧ yX6_ringOf.cls ≠ "java/lang/invoke/VarHandle" ∧ (parseMethodDescriptor yX6_ringOf.desc).map (fun d => d.parameters.length) = some 1 := by decide +kernel
set_option maxHeartbeats 4000000 in
set_option maxRecDepth 100000 in
theorem kX6_ringOf (l : Launch) (dC : Nat → ClassId) (dI : Nat → Nat → Nat) (cy : Nat → ClassId) (a_t : Nat → Nat) (p1 : Int32) (v_t_sight : Int32) (v_t_bathers : Int32) (v_t_minute : Int32) (v_t_seenEver : Int32) (v_t_z : Int32) (f_t_key : Nat → Int32) (nn : Nat) (r : Int32) (h : uX6_ringOf nn p1 v_t_bathers f_t_key = some r) : Met l yX6_ringOf wsX6_ringOf ({ frames := 0, cells := 0, slots := 0, locals := 0 }) (va_Pc [.ref (a_t 0), .int p1] (fun U => va_P (dC, dI) vwCl [((a_t 0), oX6 a_t v_t_sight v_t_bathers v_t_minute v_t_seenEver v_t_z), ((a_t 8), .inl (cy 0, 8, .inl f_t_key))] U.heap ∧ va_K (dC, dI) vwCl (tyX cy) U)) (vp_Si (fun r2 => r = r2)) 0 0 (fun _ => False) := by
  refine Met.ofW (cc := cX6_ringOf) (maxL := 5) (ret := (some .int)) (by decide) rfl ?_
  intro p e s m args below meth c s₁ B hml hv
  obtain ⟨rfl, hP, hK⟩ := hv
  have hx := B.exec
  have hb := B.bytes
  have hr := B.returns
  have hts := atoms_spec (ws := wsX6_ringOf) B.pre
  have hown : s.vm.findClass RX6 = some m.cls := findClass_of_methodNamed B.named
  have hlocks := B.notSynchronized
  have iwX6 : ∀ w ∈ wsX60, w ∈ wsX6_ringOf := fun w h9 => List.mem_cons_of_mem _ (List.mem_append_right _ (h9))
  have lk1 := hts (Cond.fieldLink RX6 54 "BathBorder$World" "bathers" "I") (List.mem_of_getElem? (i := 1) rfl)
  have lk2 := hts (Cond.fieldLink RX6 35 "BathBorder$World" "key" "[I") (List.mem_of_getElem? (i := 2) rfl)
  have hl := lv_entry ([.ref (a_t 0), .int p1]) (n := 5) (Nat.le_of_ble_eq_true rfl)
  rw [lg_entry_eq]
  generalize (lg_sl ([.ref (a_t 0), .int p1]) ++ List.replicate (5 - (lg_sl ([.ref (a_t 0), .int p1])).length) Slot.unset).toArray = ls at hl ⊢
  have hl : lv_has ls 5 [(0, .ref (a_t 0)), (1, .int p1)] := hl
  unfold uX6_ringOf at h
  refine bb_cap (fun WW toW ofW => ?_)
  refine lv_iconst (v := (0 : Int32)) hx hb dX6_ringOf_0 (by decide) ?_
  refine lv_istore_n (lv' := [(2, .int (0 : Int32)), (0, .ref (a_t 0)), (1, .int p1)]) hx hb dX6_ringOf_1 rfl hl (by decide) rfl (fun ls hl => ?_)
  refine lv_iload_n hx hb dX6_ringOf_2 rfl (lv_at hl 2 rfl) ?_
  refine lv_istore_n (lv' := [(3, .int p1), (2, .int (0 : Int32)), (0, .ref (a_t 0)), (1, .int p1)]) hx hb dX6_ringOf_3 rfl hl (by decide) rfl (fun ls hl => ?_)
  refine lv_iconst (v := (0 : Int32)) hx hb dX6_ringOf_4 (by decide) ?_
  refine lv_istore (lv' := [(4, .int (0 : Int32)), (3, .int p1), (2, .int (0 : Int32)), (0, .ref (a_t 0)), (1, .int p1)]) hx hb dX6_ringOf_5 hl (by decide) rfl (fun ls hl => ?_)
  have L7 : ∀ (n : Nat) (x2_1 : Int32) (x3_2 : Int32) (x4_3 : Int32) (ls : Array Slot), bb_loop3 (uX6_ringOf_s7 v_t_bathers f_t_key) n x2_1 x3_2 x4_3 = some r → lv_has ls 5 [(0, .ref (a_t 0)), (2, .int x2_1), (3, .int x3_2), (4, .int x4_3)] → WW s.heap [] (F0 m 7 ls []) := by
    intro n
    induction n with
    | zero => intro x2_1 x3_2 x4_3 ls h; exact (bb_no h).elim
    | succ n ih8 =>
      intro x2_1 x3_2 x4_3 ls h hl
      refine ofW _ _ _ ?_
      obtain ⟨rec6, erec6, h⟩ := bb_loop3_o h
      unfold uX6_ringOf_s7 at h
      refine lv_iload hx hb dX6_ringOf_7 (lv_at hl 3 rfl) ?_
      refine lv_aload_n hx hb dX6_ringOf_9 rfl (lv_at hl 0 rfl) ?_
      refine va_get (D := (dC, dI)) (ci := 5) (v := .int v_t_bathers) (C := RX6) (T := TX6) (N := 14) hx hb hts iwX6 hown hK hP 0 rfl rfl 10 (by decide) lk1 (fun _ h9 => h9) rfl dX6_ringOf_10 ?_
      refine lv_icmp_ge (tgt := 35) hx hb dX6_ringOf_13 (by decide) (fun c9 => ?_) (fun c9 => ?_)
      · replace h := bb_ifp c9 h
        refine lv_iload_n hx hb dX6_ringOf_35 rfl (lv_at hl 1 rfl) ?_
        obtain rfl := bb_some1 h
        exact W.iret hx hb hr (fun t ht hW => ⟨_, rfl, rfl, ht⟩) (fun q hq => by cases hq) dX6_ringOf_36
      · replace h := bb_ifn c9 h
        refine lv_iload_n hx hb dX6_ringOf_16 rfl (lv_at hl 1 rfl) ?_
        refine lv_iconst (v := (1 : Int32)) hx hb dX6_ringOf_17 (by decide) ?_
        refine lv_iload_n hx hb dX6_ringOf_18 rfl (lv_at hl 2 rfl) ?_
        refine lv_ishl hx hb dX6_ringOf_19 ?_
        refine lv_ior hx hb dX6_ringOf_20 ?_
        refine lv_istore_n (lv' := [(2, .int (x2_1 ||| ((1 : Int32) <<< (x3_2 &&& 31)))), (0, .ref (a_t 0)), (3, .int x3_2), (4, .int x4_3)]) hx hb dX6_ringOf_21 rfl hl (by decide) rfl (fun ls hl => ?_)
        refine lv_aload_n hx hb dX6_ringOf_22 rfl (lv_at hl 1 rfl) ?_
        refine va_get (D := (dC, dI)) (ci := 5) (v := .ref (a_t 8)) (C := RX6) (T := TX6) (N := 14) hx hb hts iwX6 hown hK hP 0 rfl rfl 7 (by decide) lk2 (fun _ h9 => h9) rfl dX6_ringOf_23 ?_
        refine lv_iload_n hx hb dX6_ringOf_26 rfl (lv_at hl 2 rfl) ?_
        obtain ⟨hi10, h⟩ := bb_ix_o h
        refine va_iald hx hb hK hP 1 0 rfl rfl hi10 dX6_ringOf_27 ?_
        refine lv_istore_n (lv' := [(3, .int (f_t_key x3_2.toNatClampNeg)), (2, .int (x2_1 ||| ((1 : Int32) <<< (x3_2 &&& 31)))), (0, .ref (a_t 0)), (4, .int x4_3)]) hx hb dX6_ringOf_28 rfl hl (by decide) rfl (fun ls hl => ?_)
        refine lv_iinc (v := x4_3 + (1 : Int32)) (lv' := [(4, .int (x4_3 + (1 : Int32))), (3, .int (f_t_key x3_2.toNatClampNeg)), (2, .int (x2_1 ||| ((1 : Int32) <<< (x3_2 &&& 31)))), (0, .ref (a_t 0))]) hx hb dX6_ringOf_29 hl (k := 3) rfl rfl (by decide) rfl (fun ls hl => ?_)
        refine lv_goto (tgt := 7) hx hb dX6_ringOf_32 (by decide) ?_
        rw [erec6] at h
        exact toW _ _ _ (ih8 (x2_1 ||| ((1 : Int32) <<< (x3_2 &&& 31))) (f_t_key x3_2.toNatClampNeg) (x4_3 + (1 : Int32)) _ h (lv_sub hl [3, 2, 1, 0] rfl))
  exact toW _ _ _ (L7 nn (0 : Int32) p1 (0 : Int32) _ h (lv_sub hl [3, 2, 1, 0] rfl))
/-! X6_swapsToOrder -/
def uX6_swapsToOrder_s50 (nn : Nat) (v_t_bathers_9 : Int32) (f_t_key_10 : Nat → Int32) (k_86 : Int32 → Option (Int32)) (rec11 : Int32 → Int32 → Int32 → Option (Int32)) (x2_6 : Int32) (x3_7 : Int32) (x4_8 : Int32) : Option (Int32) :=
  (if v_t_bathers_9 ≤ x4_8 then k_86 x3_7 else bb_cut (fun (x2_15 : Int32) (x3_16 : Int32) => rec11 x2_15 x3_16 (x4_8 + (1 : Int32))) (fun k17 => (if ((x2_6 >>> (x4_8 &&& 31)) &&& (1 : Int32)) = 0 then bb_b1 (uX6_ringOf nn x4_8 v_t_bathers_9 f_t_key_10) (fun (r19 : Int32) => k17 (x2_6 ||| r19) (x3_7 + (1 : Int32))) else k17 x2_6 x3_7)))
def uX6_swapsToOrder_s4 (v_t_bathers_24 : Int32) (f_t_key_25 : Nat → Int32) (k_29 : Int32 → Option (Int32)) (rec26 : Int32 → Int32 → Option (Int32)) (x1_22 : Int32) (x2_23 : Int32) : Option (Int32) :=
  (if v_t_bathers_24 ≤ x2_23 then k_29 x1_22 else bb_ix x2_23 8 (rec26 (x1_22 ||| ((1 : Int32) <<< ((f_t_key_25 x2_23.toNatClampNeg) &&& 31))) (x2_23 + (1 : Int32))))
def uX6_swapsToOrder (nn : Nat) (v_t_bathers : Int32) (f_t_key : Nat → Int32) : Option (Int32) :=
  bb_cut (fun (x1_1 : Int32) => (if x1_1 = (((1 : Int32) <<< (v_t_bathers &&& 31)) - (1 : Int32)) then bb_cut (fun (x3_4 : Int32) => some (v_t_bathers - x3_4)) (fun k5 => bb_loop3 (uX6_swapsToOrder_s50 nn v_t_bathers f_t_key k5) nn (0 : Int32) (0 : Int32) (0 : Int32)) else some (-1 : Int32))) (fun k2 => bb_loop2 (uX6_swapsToOrder_s4 v_t_bathers f_t_key k2) nn (0 : Int32) (0 : Int32))
theorem kdX6_swapsToOrder : yX6_swapsToOrder.cls = RX6 ∧ yX6_swapsToOrder.cls ≠ "java/lang/invoke/MethodHandle" ∧ yX6_swapsToOrder.cls ≠ "java/lang/invoke/VarHandle" ∧ (parseMethodDescriptor yX6_swapsToOrder.desc).map (fun d => d.parameters.length) = some 0 := by decide +kernel
set_option maxHeartbeats 4000000 in
set_option maxRecDepth 100000 in
theorem kX6_swapsToOrder (l : Launch) (dC : Nat → ClassId) (dI : Nat → Nat → Nat) (cy : Nat → ClassId) (a_t : Nat → Nat) (v_t_sight : Int32) (v_t_bathers : Int32) (v_t_minute : Int32) (v_t_seenEver : Int32) (v_t_z : Int32) (f_t_key : Nat → Int32) (nn : Nat) (r : Int32) (h : uX6_swapsToOrder nn v_t_bathers f_t_key = some r) : Met l yX6_swapsToOrder wsX6_swapsToOrder ({ frames := 1, cells := 0, slots := 0, locals := 24 }) (va_Pc [.ref (a_t 0)] (fun U => va_P (dC, dI) vwCl [((a_t 0), oX6 a_t v_t_sight v_t_bathers v_t_minute v_t_seenEver v_t_z), ((a_t 8), .inl (cy 0, 8, .inl f_t_key))] U.heap ∧ va_K (dC, dI) vwCl (tyX cy) U)) (vp_Si (fun r2 => r = r2)) 0 0 (fun _ => False) := by
  refine Met.ofW (cc := cX6_swapsToOrder) (maxL := 5) (ret := (some .int)) (by decide) rfl ?_
  intro p e s m args below meth c s₁ B hml hv
  obtain ⟨rfl, hP, hK⟩ := hv
  have hx := B.exec
  have hb := B.bytes
  have hr := B.returns
  have hts := atoms_spec (ws := wsX6_swapsToOrder) B.pre
  have hown : s.vm.findClass RX6 = some m.cls := findClass_of_methodNamed B.named
  have hlocks := B.notSynchronized
  have iwX6 : ∀ w ∈ wsX60, w ∈ wsX6_swapsToOrder := fun w h9 => List.mem_cons_of_mem _ (List.mem_append_right _ (h9))
  have lk1 := hts (Cond.fieldLink RX6 54 "BathBorder$World" "bathers" "I") (List.mem_of_getElem? (i := 1) rfl)
  have lk2 := hts (Cond.fieldLink RX6 35 "BathBorder$World" "key" "[I") (List.mem_of_getElem? (i := 2) rfl)
  have hl := lv_entry ([.ref (a_t 0)]) (n := 5) (Nat.le_of_ble_eq_true rfl)
  rw [lg_entry_eq]
  generalize (lg_sl ([.ref (a_t 0)]) ++ List.replicate (5 - (lg_sl ([.ref (a_t 0)])).length) Slot.unset).toArray = ls at hl ⊢
  have hl : lv_has ls 5 [(0, .ref (a_t 0))] := hl
  unfold uX6_swapsToOrder at h
  refine bb_cap (fun WW toW ofW => ?_)
  refine lv_iconst (v := (0 : Int32)) hx hb dX6_swapsToOrder_0 (by decide) ?_
  refine lv_istore_n (lv' := [(1, .int (0 : Int32)), (0, .ref (a_t 0))]) hx hb dX6_swapsToOrder_1 rfl hl (by decide) rfl (fun ls hl => ?_)
  refine lv_iconst (v := (0 : Int32)) hx hb dX6_swapsToOrder_2 (by decide) ?_
  refine lv_istore_n (lv' := [(2, .int (0 : Int32)), (1, .int (0 : Int32)), (0, .ref (a_t 0))]) hx hb dX6_swapsToOrder_3 rfl hl (by decide) rfl (fun ls hl => ?_)
  obtain ⟨k2, ek2, h⟩ := bb_cut_o h
  have Jk2 : ∀ (x1_1 : Int32) (ls : Array Slot), k2 x1_1 = some r → lv_has ls 5 [(0, .ref (a_t 0)), (1, .int x1_1)] → WW s.heap [] (F0 m 29 ls []) := by
    intro x1_1 ls h hl
    refine ofW _ _ _ ?_
    subst ek2
    refine lv_iload_n hx hb dX6_swapsToOrder_29 rfl (lv_at hl 1 rfl) ?_
    refine lv_iconst (v := (1 : Int32)) hx hb dX6_swapsToOrder_30 (by decide) ?_
    refine lv_aload_n hx hb dX6_swapsToOrder_31 rfl (lv_at hl 0 rfl) ?_
    refine va_get (D := (dC, dI)) (ci := 5) (v := .int v_t_bathers) (C := RX6) (T := TX6) (N := 14) hx hb hts iwX6 hown hK hP 0 rfl rfl 10 (by decide) lk1 (fun _ h9 => h9) rfl dX6_swapsToOrder_32 ?_
    refine lv_ishl hx hb dX6_swapsToOrder_35 ?_
    refine lv_iconst (v := (1 : Int32)) hx hb dX6_swapsToOrder_36 (by decide) ?_
    refine lv_isub hx hb dX6_swapsToOrder_37 ?_
    refine lv_icmp_eq (tgt := 43) hx hb dX6_swapsToOrder_38 (by decide) (fun c3 => ?_) (fun c3 => ?_)
    · replace h := bb_ifp c3 h
      refine lv_iconst (v := (0 : Int32)) hx hb dX6_swapsToOrder_43 (by decide) ?_
      refine lv_istore_n (lv' := [(2, .int (0 : Int32)), (0, .ref (a_t 0)), (1, .int x1_1)]) hx hb dX6_swapsToOrder_44 rfl hl (by decide) rfl (fun ls hl => ?_)
      refine lv_iconst (v := (0 : Int32)) hx hb dX6_swapsToOrder_45 (by decide) ?_
      refine lv_istore_n (lv' := [(3, .int (0 : Int32)), (2, .int (0 : Int32)), (0, .ref (a_t 0)), (1, .int x1_1)]) hx hb dX6_swapsToOrder_46 rfl hl (by decide) rfl (fun ls hl => ?_)
      refine lv_iconst (v := (0 : Int32)) hx hb dX6_swapsToOrder_47 (by decide) ?_
      refine lv_istore (lv' := [(4, .int (0 : Int32)), (3, .int (0 : Int32)), (2, .int (0 : Int32)), (0, .ref (a_t 0)), (1, .int x1_1)]) hx hb dX6_swapsToOrder_48 hl (by decide) rfl (fun ls hl => ?_)
      obtain ⟨k5, ek5, h⟩ := bb_cut_o h
      have Jk5 : ∀ (x3_4 : Int32) (ls : Array Slot), k5 x3_4 = some r → lv_has ls 5 [(0, .ref (a_t 0)), (3, .int x3_4)] → WW s.heap [] (F0 m 86 ls []) := by
        intro x3_4 ls h hl
        refine ofW _ _ _ ?_
        subst ek5
        refine lv_aload_n hx hb dX6_swapsToOrder_86 rfl (lv_at hl 0 rfl) ?_
        refine va_get (D := (dC, dI)) (ci := 5) (v := .int v_t_bathers) (C := RX6) (T := TX6) (N := 14) hx hb hts iwX6 hown hK hP 0 rfl rfl 10 (by decide) lk1 (fun _ h9 => h9) rfl dX6_swapsToOrder_87 ?_
        refine lv_iload_n hx hb dX6_swapsToOrder_90 rfl (lv_at hl 1 rfl) ?_
        refine lv_isub hx hb dX6_swapsToOrder_91 ?_
        obtain rfl := bb_some1 h
        exact W.iret hx hb hr (fun t ht hW => ⟨_, rfl, rfl, ht⟩) (fun q hq => by cases hq) dX6_swapsToOrder_92
      have L12 : ∀ (n : Nat) (x2_6 : Int32) (x3_7 : Int32) (x4_8 : Int32) (ls : Array Slot), bb_loop3 (uX6_swapsToOrder_s50 nn v_t_bathers f_t_key k5) n x2_6 x3_7 x4_8 = some r → lv_has ls 5 [(0, .ref (a_t 0)), (2, .int x2_6), (3, .int x3_7), (4, .int x4_8)] → WW s.heap [] (F0 m 50 ls []) := by
        intro n
        induction n with
        | zero => intro x2_6 x3_7 x4_8 ls h; exact (bb_no h).elim
        | succ n ih13 =>
          intro x2_6 x3_7 x4_8 ls h hl
          refine ofW _ _ _ ?_
          obtain ⟨rec11, erec11, h⟩ := bb_loop3_o h
          unfold uX6_swapsToOrder_s50 at h
          refine lv_iload hx hb dX6_swapsToOrder_50 (lv_at hl 3 rfl) ?_
          refine lv_aload_n hx hb dX6_swapsToOrder_52 rfl (lv_at hl 0 rfl) ?_
          refine va_get (D := (dC, dI)) (ci := 5) (v := .int v_t_bathers) (C := RX6) (T := TX6) (N := 14) hx hb hts iwX6 hown hK hP 0 rfl rfl 10 (by decide) lk1 (fun _ h9 => h9) rfl dX6_swapsToOrder_53 ?_
          refine lv_icmp_ge (tgt := 86) hx hb dX6_swapsToOrder_56 (by decide) (fun c14 => ?_) (fun c14 => ?_)
          · replace h := bb_ifp c14 h
            exact toW _ _ _ (Jk5 x3_7 _ h (lv_sub hl [0, 2] rfl))
          · replace h := bb_ifn c14 h
            refine lv_iload_n hx hb dX6_swapsToOrder_59 rfl (lv_at hl 1 rfl) ?_
            refine lv_iload hx hb dX6_swapsToOrder_60 (lv_at hl 3 rfl) ?_
            refine lv_ishr hx hb dX6_swapsToOrder_62 ?_
            refine lv_iconst (v := (1 : Int32)) hx hb dX6_swapsToOrder_63 (by decide) ?_
            refine lv_iand hx hb dX6_swapsToOrder_64 ?_
            obtain ⟨k17, ek17, h⟩ := bb_cut_o h
            have Jk17 : ∀ (x2_15 : Int32) (x3_16 : Int32) (ls : Array Slot), k17 x2_15 x3_16 = some r → lv_has ls 5 [(0, .ref (a_t 0)), (2, .int x2_15), (3, .int x3_16), (4, .int x4_8)] → WW s.heap [] (F0 m 80 ls []) := by
              intro x2_15 x3_16 ls h hl
              refine ofW _ _ _ ?_
              subst ek17
              refine lv_iinc (v := x4_8 + (1 : Int32)) (lv' := [(4, .int (x4_8 + (1 : Int32))), (0, .ref (a_t 0)), (2, .int x2_15), (3, .int x3_16)]) hx hb dX6_swapsToOrder_80 hl (k := 3) rfl rfl (by decide) rfl (fun ls hl => ?_)
              refine lv_goto (tgt := 50) hx hb dX6_swapsToOrder_83 (by decide) ?_
              rw [erec11] at h
              exact toW _ _ _ (ih13 x2_15 x3_16 (x4_8 + (1 : Int32)) _ h (lv_sub hl [1, 2, 3, 0] rfl))
            refine lv_if_ne (tgt := 80) hx hb dX6_swapsToOrder_65 (by decide) (fun c18 => ?_) (fun c18 => ?_)
            · replace h := bb_ifn c18 h
              exact toW _ _ _ (Jk17 x2_6 x3_7 _ h (lv_sub hl [0, 1, 2, 3] rfl))
            · replace h := bb_ifp c18 h
              refine lv_iinc (v := x3_7 + (1 : Int32)) (lv' := [(3, .int (x3_7 + (1 : Int32))), (0, .ref (a_t 0)), (2, .int x2_6), (4, .int x4_8)]) hx hb dX6_swapsToOrder_68 hl (k := 2) rfl rfl (by decide) rfl (fun ls hl => ?_)
              refine lv_iload_n hx hb dX6_swapsToOrder_71 rfl (lv_at hl 2 rfl) ?_
              refine lv_aload_n hx hb dX6_swapsToOrder_72 rfl (lv_at hl 1 rfl) ?_
              refine lv_iload hx hb dX6_swapsToOrder_73 (lv_at hl 3 rfl) ?_
              obtain ⟨r19, hc20, h⟩ := bb_b1_o h
              refine vp_callSi (W.runV (As := [.int x4_8]) (rest := [.int x2_6]) ⟨hx, hb, hml, hown, hts⟩ (kX6_ringOf l dC dI cy a_t x4_8 v_t_sight v_t_bathers v_t_minute v_t_seenEver v_t_z f_t_key nn r19 hc20) (cwV 1 hts gX6_swapsToOrder_X6_ringOf rfl rfl rfl kdX6_ringOf ⟨Nat.le_of_ble_eq_true rfl, Nat.le_of_ble_eq_true rfl⟩) (bb_preV (va_recv hK hP (ci := 5) (q0 := 0) rfl rfl) hP hK) rfl rfl hl.1 rfl (lv_room (Nat.le_of_ble_eq_true rfl)) dX6_swapsToOrder_75 ⟨Nat.zero_le _, Nat.zero_le _⟩) (fun t21 et21 => ?_)
              obtain rfl := et21
              refine lv_ior hx hb dX6_swapsToOrder_78 ?_
              refine lv_istore_n (lv' := [(2, .int (x2_6 ||| r19)), (3, .int (x3_7 + (1 : Int32))), (0, .ref (a_t 0)), (4, .int x4_8)]) hx hb dX6_swapsToOrder_79 rfl hl (by decide) rfl (fun ls hl => ?_)
              exact toW _ _ _ (Jk17 (x2_6 ||| r19) (x3_7 + (1 : Int32)) _ h (lv_sub hl [2, 0, 1, 3] rfl))
      exact toW _ _ _ (L12 nn (0 : Int32) (0 : Int32) (0 : Int32) _ h (lv_sub hl [3, 2, 1, 0] rfl))
    · replace h := bb_ifn c3 h
      refine lv_iconst (v := (-1 : Int32)) hx hb dX6_swapsToOrder_41 (by decide) ?_
      obtain rfl := bb_some1 h
      exact W.iret hx hb hr (fun t ht hW => ⟨_, rfl, rfl, ht⟩) (fun q hq => by cases hq) dX6_swapsToOrder_42
  have L27 : ∀ (n : Nat) (x1_22 : Int32) (x2_23 : Int32) (ls : Array Slot), bb_loop2 (uX6_swapsToOrder_s4 v_t_bathers f_t_key k2) n x1_22 x2_23 = some r → lv_has ls 5 [(0, .ref (a_t 0)), (1, .int x1_22), (2, .int x2_23)] → WW s.heap [] (F0 m 4 ls []) := by
    intro n
    induction n with
    | zero => intro x1_22 x2_23 ls h; exact (bb_no h).elim
    | succ n ih28 =>
      intro x1_22 x2_23 ls h hl
      refine ofW _ _ _ ?_
      obtain ⟨rec26, erec26, h⟩ := bb_loop2_o h
      unfold uX6_swapsToOrder_s4 at h
      refine lv_iload_n hx hb dX6_swapsToOrder_4 rfl (lv_at hl 2 rfl) ?_
      refine lv_aload_n hx hb dX6_swapsToOrder_5 rfl (lv_at hl 0 rfl) ?_
      refine va_get (D := (dC, dI)) (ci := 5) (v := .int v_t_bathers) (C := RX6) (T := TX6) (N := 14) hx hb hts iwX6 hown hK hP 0 rfl rfl 10 (by decide) lk1 (fun _ h9 => h9) rfl dX6_swapsToOrder_6 ?_
      refine lv_icmp_ge (tgt := 29) hx hb dX6_swapsToOrder_9 (by decide) (fun c29 => ?_) (fun c29 => ?_)
      · replace h := bb_ifp c29 h
        exact toW _ _ _ (Jk2 x1_22 _ h (lv_sub hl [0, 1] rfl))
      · replace h := bb_ifn c29 h
        refine lv_iload_n hx hb dX6_swapsToOrder_12 rfl (lv_at hl 1 rfl) ?_
        refine lv_iconst (v := (1 : Int32)) hx hb dX6_swapsToOrder_13 (by decide) ?_
        refine lv_aload_n hx hb dX6_swapsToOrder_14 rfl (lv_at hl 0 rfl) ?_
        refine va_get (D := (dC, dI)) (ci := 5) (v := .ref (a_t 8)) (C := RX6) (T := TX6) (N := 14) hx hb hts iwX6 hown hK hP 0 rfl rfl 7 (by decide) lk2 (fun _ h9 => h9) rfl dX6_swapsToOrder_15 ?_
        refine lv_iload_n hx hb dX6_swapsToOrder_18 rfl (lv_at hl 2 rfl) ?_
        obtain ⟨hi30, h⟩ := bb_ix_o h
        refine va_iald hx hb hK hP 1 0 rfl rfl hi30 dX6_swapsToOrder_19 ?_
        refine lv_ishl hx hb dX6_swapsToOrder_20 ?_
        refine lv_ior hx hb dX6_swapsToOrder_21 ?_
        refine lv_istore_n (lv' := [(1, .int (x1_22 ||| ((1 : Int32) <<< ((f_t_key x2_23.toNatClampNeg) &&& 31)))), (0, .ref (a_t 0)), (2, .int x2_23)]) hx hb dX6_swapsToOrder_22 rfl hl (by decide) rfl (fun ls hl => ?_)
        refine lv_iinc (v := x2_23 + (1 : Int32)) (lv' := [(2, .int (x2_23 + (1 : Int32))), (1, .int (x1_22 ||| ((1 : Int32) <<< ((f_t_key x2_23.toNatClampNeg) &&& 31)))), (0, .ref (a_t 0))]) hx hb dX6_swapsToOrder_23 hl (k := 2) rfl rfl (by decide) rfl (fun ls hl => ?_)
        refine lv_goto (tgt := 4) hx hb dX6_swapsToOrder_26 (by decide) ?_
        rw [erec26] at h
        exact toW _ _ _ (ih28 (x1_22 ||| ((1 : Int32) <<< ((f_t_key x2_23.toNatClampNeg) &&& 31))) (x2_23 + (1 : Int32)) _ h (lv_sub hl [2, 1, 0] rfl))
  exact toW _ _ _ (L27 nn (0 : Int32) (0 : Int32) _ h (lv_sub hl [2, 1, 0] rfl))
