/-! ===== the start ===== -/
theorem st_arr {args : Array Value} {s : State} {ty : FieldType} (h : (Cond.arrayClass ty).before args s = true) (hty : ty = .int ∨ ty = .long ∨ ty = .boolean) : ∃ cA : ClassId, ArrOfT s cA ty ∧ va_RA s cA ty := by
  obtain ⟨cA, k, comp, h1, h2, h3⟩ := Cond.arrayClass_spec h
  refine ⟨cA, fun n z => ⟨fun k h => (by cases h), k, h2, comp, h3⟩, ?_⟩
  rcases hty with rfl | rfl | rfl <;> exact h1
theorem st_arrO {args : Array Value} {s : State} {C : String} (h : (Cond.arrayOver (.object C)).before args s = true) : ∃ cA : ClassId, ArrOfT s cA (.object C) ∧ va_RA s cA (.object C) := by
  obtain ⟨comp, cA, k, h1, h2, h3, h4, h5⟩ := Cond.arrayOver_spec h
  exact ⟨cA, fun n z => ⟨fun k h => (by cases h), k, h3, comp, h4⟩, k, comp, h3, h4, h1, h5⟩
def st_own (i : Nat) : String := if i < 14 then "BathBorder$TextReader" else "BathBorderModel"
def st_ix (i : Nat) : Nat := ([82, 84, 86, 88, 90, 92, 94, 103, 113, 117, 46, 61, 65, 70, 349] : List Nat).getD i 0
def st_jx (i : Nat) : Nat := ([302, 304, 306, 308, 310, 312, 300, 313, 321, 323, 331, 337, 339, 344] : List Nat).getD i 0
def st_F : List Cond := flatC (Jvm.Cond.and given_1 narrow_1)
theorem st_1 : ∀ i, i < 15 → Cond.exactly (.string (st_own i) (st_ix i)) "java/lang/String" ∈ st_F := by decide +kernel
theorem st_2 : ∀ i, i < 15 → Cond.eq (.field (.string (st_own i) (st_ix i)) "java/lang/String" "coder" "B") (.int 0) ∈ st_F := by decide +kernel
theorem st_3 : ∀ i, i < 15 → Cond.arrayOf (.field (.string (st_own i) (st_ix i)) "java/lang/String" "value" "[B") .byte ∈ st_F := by decide +kernel
theorem st_4 : ∀ i, i < 15 → Cond.eq (.length (.field (.string (st_own i) (st_ix i)) "java/lang/String" "value" "[B")) (.int (Int32.ofNat (bb_len i))) ∈ st_F := by decide +kernel
theorem st_5 : ∀ i, i < 15 → ∀ j, j < 8 → j < bb_len i → Cond.eq (.elem (.field (.string (st_own i) (st_ix i)) "java/lang/String" "value" "[B") (.int (Int32.ofNat j))) (.int (bb_byt i j)) ∈ st_F := by decide +kernel
theorem st_6 : ∀ i, i < 14 → Cond.eq (.string "BathBorder$TextReader" (st_ix i)) (.string "BathBorderModel" (st_jx i)) ∈ st_F := by decide +kernel
theorem st_7 : ∀ j, j < 7 → Cond.eq (.elem (.static "BathBorder$Walker" "ABOVE" "[I") (.int (Int32.ofNat j))) (.int (bb_above j)) ∈ st_F := by decide +kernel
theorem st_8 : ∀ q ∈ bb_consts, Cond.stringRef q.1 q.2.1 q.2.2.1 ∈ lw_tbl := by decide +kernel
theorem st_9 : ∀ q ∈ bb_consts, q.2.2.2 < 15 ∧ ((q.1 = st_own q.2.2.2 ∧ q.2.1 = st_ix q.2.2.2) ∨ (q.2.2.2 < 14 ∧ q.1 = "BathBorderModel" ∧ q.2.1 = st_jx q.2.2.2)) := by decide +kernel
theorem ev_start {s : State} {args : Array Value} (hgv : (Jvm.Cond.and given_1 narrow_1).before args s = true) (hts : ∀ w ∈ lw_tbl, w.before args s = true) : ∃ (aK aV : Nat → Nat) (aT : Nat), EV aK aV aT (fun q : Nat => s.heap.size ≤ q) s s.heap := by
  have hs : ∀ w ∈ st_F, w.before args s = true := flat_of_before _ hgv
  have hA : ∀ a : Nat, a < s.heap.size → ¬ (fun q : Nat => s.heap.size ≤ q) a := fun a h => Nat.not_le.mpr h
  have h0 : ∀ i : Nat, ∃ q : Nat × Nat, i < 15 → (Term.string (st_own i) (st_ix i)).eval args s none [] s = some (.ref q.1) ∧ va_O "java/lang/String" q.1 (fun q : Nat => s.heap.size ≤ q) s s.heap ∧ va_OF "java/lang/String" "coder" "B" (.int 0) q.1 (fun q : Nat => s.heap.size ≤ q) s s.heap ∧ va_OF "java/lang/String" "value" "[B" (.ref q.2) q.1 (fun q : Nat => s.heap.size ≤ q) s s.heap ∧ va_T .byte q.2 (bb_len i) (fun j => .int (bb_byt i j)) (fun q : Nat => s.heap.size ≤ q) s s.heap := by
    intro i
    by_cases hi : i < 15
    · have hl := wlen8 i hi
      obtain ⟨a, c, cA, kA, q1, q2, q3, q4, q5, q6, -⟩ := Cond.exactly_spec (args := args) (first := s) (o := none) (s := s) (idx := []) (t := .string (st_own i) (st_ix i)) (cls := "java/lang/String") (hs _ (st_1 i hi))
      obtain ⟨t, ht, hT⟩ := va_Tof (f := fun j => .int (bb_byt i j)) (A := fun q : Nat => s.heap.size ≤ q) (N := bb_len i) (by omega) (hs _ (st_3 i hi)) (va_eqt (hs _ (st_4 i hi))) (fun j hj => va_eqt (hs _ (st_5 i hi j (by omega) hj))) hA
      exact ⟨(a, t), fun _ => ⟨q1, ⟨cA, q3, q5, by rw [q6]; exact q2, hA a (Array.getElem?_eq_some_iff.mp q3).1⟩, vk_OFof q1 (va_eqt (hs _ (st_2 i hi))) hA, vk_OFof q1 ht hA, hT⟩⟩
    · exact ⟨(0, 0), fun h => absurd h hi⟩
  obtain ⟨ad, had⟩ := Classical.axiomOfChoice h0
  obtain ⟨t, ht, hT⟩ := va_Tof (f := fun j => .int (bb_above j)) (A := fun q : Nat => s.heap.size ≤ q) (N := 7) (ty := .int) (tm := .static "BathBorder$Walker" "ABOVE" "[I") (by decide) (hs _ (by decide +kernel)) (va_eqt (hs (.eq (.length (.static "BathBorder$Walker" "ABOVE" "[I")) (.int 7)) (by decide +kernel))) (fun j hj => va_eqt (hs _ (st_7 j hj))) hA
  refine ⟨fun i => (ad i).1, fun i => (ad i).2, t, fun i hi => (had i hi).2, va_Zof (hts _ (by decide +kernel)) (hts _ (by decide +kernel)) (va_eqt (hs (.eq (.static "java/lang/String" "COMPACT_STRINGS" "Z") (.int 1)) (by decide +kernel))) hA, va_Zqof (hts _ (by decide +kernel)) (hts _ (by decide +kernel)) (hs _ (by decide +kernel)) hA, ⟨va_Zof (hts _ (by decide +kernel)) (hts _ (by decide +kernel)) ht hA, hT⟩, fun q hq => ?_⟩
  obtain ⟨h15, hh⟩ := st_9 q hq
  have h1 := (had q.2.2.2 h15).1
  refine vk_R.of (A := args) (hts _ (st_8 q hq)) ?_
  rcases hh with ⟨e1, e2⟩ | ⟨h14, e1, e2⟩
  · rw [e1, e2]
    exact h1
  · rw [e1, e2]
    rw [show st_own q.2.2.2 = "BathBorder$TextReader" from if_pos h14] at h1
    exact va_eqR (hs _ (st_6 _ h14)) h1
