/-! ===== acts that only store ===== -/
theorem litadd (n c : Nat) : (OfNat.ofNat n : Int32) + nI c = nI ((OfNat.ofNat n : Nat) + c) := nI_add n c
theorem litmul (n c : Nat) : (OfNat.ofNat n : Int32) * nI c = nI ((OfNat.ofNat n : Nat) * c) := pk_mul n c
theorem addlit (n c : Nat) : nI c + (OfNat.ofNat n : Int32) = nI (c + (OfNat.ofNat n : Nat)) := nI_add c n
theorem a5_ (c : Nat) : (5 : Int32) + nI c = nI (5 + c) := nI_add 5 c
theorem a9_ (c : Nat) : (9 : Int32) + nI c = nI (9 + c) := nI_add 9 c
theorem a57_ (c : Nat) : (57 : Int32) + nI c = nI (57 + c) := nI_add 57 c
theorem a105_ (c : Nat) : (105 : Int32) + nI c = nI (105 + c) := nI_add 105 c
theorem a145_ (c : Nat) : (145 : Int32) + nI c = nI (145 + c) := nI_add 145 c
theorem a8_ (c : Nat) : (8 : Int32) + nI c = nI (8 + c) := nI_add 8 c
theorem a40_ (c : Nat) : (40 : Int32) + nI c = nI (40 + c) := nI_add 40 c
theorem a100_ (c : Nat) : (100 : Int32) + nI c = nI (100 + c) := nI_add 100 c
theorem m5_ (c : Nat) : (5 : Int32) * nI c = nI (5 * c) := pk_mul 5 c
theorem m8_ (c : Nat) : (8 : Int32) * nI c = nI (8 * c) := pk_mul 8 c
theorem m40_ (c : Nat) : (40 : Int32) * nI c = nI (40 * c) := pk_mul 40 c
theorem p0_ (c : Nat) : nI c + (0 : Int32) = nI (c + 0) := nI_add c 0
theorem p1_ (c : Nat) : nI c + (1 : Int32) = nI (c + 1) := nI_add c 1
theorem p2_ (c : Nat) : nI c + (2 : Int32) = nI (c + 2) := nI_add c 2
theorem p3_ (c : Nat) : nI c + (3 : Int32) = nI (c + 3) := nI_add c 3
theorem p4_ (c : Nat) : nI c + (4 : Int32) = nI (c + 4) := nI_add c 4
theorem p5_ (c : Nat) : nI c + (5 : Int32) = nI (c + 5) := nI_add c 5
theorem p6_ (c : Nat) : nI c + (6 : Int32) = nI (c + 6) := nI_add c 6
theorem p7_ (c : Nat) : nI c + (7 : Int32) = nI (c + 7) := nI_add c 7
theorem p8_ (c : Nat) : nI c + (8 : Int32) = nI (c + 8) := nI_add c 8
theorem becomes8 {k : Nat} (hk : k < 155) (v : Int32) (s : Nat → Int32) : uX8_becomes (nI k) v s = some (s k, upd s k v) := by
  unfold uX8_becomes
  rw [ixn hk (by decide), ixn hk (by decide), cln (by omega)]
theorem its8 {b w : Nat} (hb : b < 8) (hw : w < 5) (s : Nat → Int32) : uX8_its (nI b) (nI w) s = some (s (105 + 5 * b + w)) := by
  unfold uX8_its
  rw [litmul, litadd, nAdd, ixn (by omega) (by decide), cln (by omega)]
theorem sets8 {b w : Nat} (hb : b < 8) (hw : w < 5) (v : Int32) (s : Nat → Int32) : uX8_sets (nI b) (nI w) v s = some (upd s (105 + 5 * b + w) v) := by
  unfold uX8_sets
  rw [litmul, litadd, nAdd, ixn (by omega) (by decide), cln (by omega)]
theorem replace7 {n k : Nat} (hk : k < n) (hn : n < 2 ^ 31) (v : Int32) (f : Nat → Int32) : uX7_replace n (nI k) v f = some (f k, upd f k v) := by
  unfold uX7_replace
  rw [ixn hk hn, ixn hk hn, cln (by omega)]
theorem bat {n : Nat} {p : Int32} (hn : n ≤ 8) (h1 : (0 : Int32) ≤ p) (h2 : p ≤ nI n - 1) : ∃ b : Nat, b < n ∧ p = nI b := by
  rcases Nat.eq_zero_or_pos n with e | e
  · subst e
    exact absurd (show (0 : Int32) ≤ nI 0 - 1 from by rw [i_le] at *; omega) (by decide)
  · have e1 : nI n - 1 = nI (n - 1) := by
      have e2 := nI_pred (n - 1)
      rw [show n - 1 + 1 = n by omega] at e2
      exact e2
    rw [e1] at h2
    obtain ⟨j, hj, ej⟩ := nat_of (n := n - 1) (nI_toInt (by omega)) h1 h2
    exact ⟨j, by omega, ej⟩
section OPS1
variable {s ga st cu ki at_ wi wr ke sp : Nat → Int32} {mi ba si ev z : Int32}
theorem op_fill (hR : RW s ga st cu ki at_ wi wr ke sp mi ba si ev z) (hI : IW s) (fo : Nat → Int32) (p1 p2 p3 : Int32) :
    ∃ r fo2 cu2 st2 s2, uX7_fill p1 p2 p3 fo cu st = some (r, fo2, cu2, st2) ∧ uX8_fill p1 p2 p3 fo s = some (r, fo2, s2) ∧ RW s2 ga st2 cu2 ki at_ wi wr ke sp mi ba si ev z ∧ IW s2 := by
  unfold uX7_fill uX8_fill
  simp only [cell0, cell8, find78, fnd0, bb_cut_s, bb_b0_s, bb_b1_s, bb_b2_s, bb_b3_s, bb_b4_s, bb_b5_s, bb_b6_s, bb_b7_s, bb_b8_s, bb_b9_s, bb_b10_s, bb_b11_s, bb_b12_s, bb_b13_s, bb_b14_s, bb_b15_s, bb_b16_s]
  rcases win p1 0 47 with ⟨e1, a1, b1⟩ | ⟨e1, -⟩
  · have e2 : uX8_in p2.toInt64 0 1 = uX7_isWithin p2 0 1 := in8 p2 0 1
    simp only [e1, e2, bb_b0_s, bb_b1_s, bb_b2_s, bb_b3_s, bb_b4_s, bb_b5_s, bb_b6_s, bb_b7_s, bb_b8_s, bb_b9_s, bb_b10_s, bb_b11_s, bb_b12_s, bb_b13_s, bb_b14_s, bb_b15_s, bb_b16_s, e10, e00, e11, if_true, if_false]
    rcases win p2 0 1 with ⟨e3, -, -⟩ | ⟨e3, -⟩
    · simp only [e3, bb_b0_s, bb_b1_s, bb_b2_s, bb_b3_s, bb_b4_s, bb_b5_s, bb_b6_s, bb_b7_s, bb_b8_s, bb_b9_s, bb_b10_s, bb_b11_s, bb_b12_s, bb_b13_s, bb_b14_s, bb_b15_s, bb_b16_s, e10, e00, e11, if_true, if_false]
      obtain ⟨c, hc, rfl⟩ := nat_of (n := 47) (by decide) a1 b1
      by_cases e4 : p2 = 0
      · have e5 : uX8_in p3.toInt64 0 9 = uX7_isWithin p3 0 9 := in8 p3 0 9
        simp only [e4, e5, e10, e00, e11, if_true, if_false]
        rcases win p3 0 9 with ⟨e6, a6, b6⟩ | ⟨e6, -⟩
        · obtain ⟨v, hv, rfl⟩ := nat_of (n := 9) (by decide) a6 b6
          simp only [e6, bb_b0_s, bb_b1_s, bb_b2_s, bb_b3_s, bb_b4_s, bb_b5_s, bb_b6_s, bb_b7_s, bb_b8_s, bb_b9_s, bb_b10_s, bb_b11_s, bb_b12_s, bb_b13_s, bb_b14_s, bb_b15_s, bb_b16_s, e10, e00, e11, if_true, if_false, a5_, a9_, a57_, a105_, a145_, m5_, nAdd, becomes8 (show 9 + c < 155 by omega), replace7 (show c < 48 by omega) (by decide), hR.st_ (show c < 48 by omega)]
          exact ⟨_, _, _, _, _, rfl, rfl, hR.u_st (by omega) _, hI.u_st (by omega) ⟨v, hv, rfl⟩⟩
        · simp only [e6, bb_b0_s, bb_b1_s, bb_b2_s, bb_b3_s, bb_b4_s, bb_b5_s, bb_b6_s, bb_b7_s, bb_b8_s, bb_b9_s, bb_b10_s, bb_b11_s, bb_b12_s, bb_b13_s, bb_b14_s, bb_b15_s, bb_b16_s, e10, e00, e11, if_true, if_false]
          exact ⟨_, _, _, _, _, rfl, rfl, hR, hI⟩
      · have e5 : uX8_in p3.toInt64 0 4 = uX7_isWithin p3 0 4 := in8 p3 0 4
        simp only [if_neg e4, e5]
        rcases win p3 0 4 with ⟨e6, a6, b6⟩ | ⟨e6, -⟩
        · obtain ⟨v, hv, rfl⟩ := nat_of (n := 4) (by decide) a6 b6
          simp only [e6, bb_b0_s, bb_b1_s, bb_b2_s, bb_b3_s, bb_b4_s, bb_b5_s, bb_b6_s, bb_b7_s, bb_b8_s, bb_b9_s, bb_b10_s, bb_b11_s, bb_b12_s, bb_b13_s, bb_b14_s, bb_b15_s, bb_b16_s, e10, e00, e11, if_true, if_false, a5_, a9_, a57_, a105_, a145_, m5_, nAdd, becomes8 (show 57 + c < 155 by omega), replace7 (show c < 48 by omega) (by decide), hR.cu_ (show c < 48 by omega)]
          exact ⟨_, _, _, _, _, rfl, rfl, hR.u_cu (by omega) _, hI.u_cu (by omega) ⟨v, hv, rfl⟩⟩
        · simp only [e6, bb_b0_s, bb_b1_s, bb_b2_s, bb_b3_s, bb_b4_s, bb_b5_s, bb_b6_s, bb_b7_s, bb_b8_s, bb_b9_s, bb_b10_s, bb_b11_s, bb_b12_s, bb_b13_s, bb_b14_s, bb_b15_s, bb_b16_s, e10, e00, e11, if_true, if_false]
          exact ⟨_, _, _, _, _, rfl, rfl, hR, hI⟩
    · simp only [e3, bb_b0_s, bb_b1_s, bb_b2_s, bb_b3_s, bb_b4_s, bb_b5_s, bb_b6_s, bb_b7_s, bb_b8_s, bb_b9_s, bb_b10_s, bb_b11_s, bb_b12_s, bb_b13_s, bb_b14_s, bb_b15_s, bb_b16_s, e10, e00, e11, if_true, if_false]
      exact ⟨_, _, _, _, _, rfl, rfl, hR, hI⟩
  · simp only [e1, bb_b0_s, bb_b1_s, bb_b2_s, bb_b3_s, bb_b4_s, bb_b5_s, bb_b6_s, bb_b7_s, bb_b8_s, bb_b9_s, bb_b10_s, bb_b11_s, bb_b12_s, bb_b13_s, bb_b14_s, bb_b15_s, bb_b16_s, e10, e00, e11, if_true, if_false]
    exact ⟨_, _, _, _, _, rfl, rfl, hR, hI⟩
theorem op_guard (hR : RW s ga st cu ki at_ wi wr ke sp mi ba si ev z) (hI : IW s) (fo : Nat → Int32) (p1 p2 : Int32) :
    ∃ r fo2 ga2 s2, uX7_guard p1 p2 fo ga = some (r, fo2, ga2) ∧ uX8_guard p1 p2 fo s = some (r, fo2, s2) ∧ RW s2 ga2 st cu ki at_ wi wr ke sp mi ba si ev z ∧ IW s2 := by
  unfold uX7_guard uX8_guard
  have e2 : uX8_in p2.toInt64 (-1) 47 = uX7_isWithin p2 (-1) 47 := in8 p2 (-1) 47
  simp only [guard7, guard8, find78, fnd0, e2, bb_b0_s, bb_b1_s, bb_b2_s, bb_b3_s, bb_b4_s, bb_b5_s, bb_b6_s, bb_b7_s, bb_b8_s, bb_b9_s, bb_b10_s, bb_b11_s, bb_b12_s, bb_b13_s, bb_b14_s, bb_b15_s, bb_b16_s]
  rcases win p1 0 3 with ⟨e1, a1, b1⟩ | ⟨e1, -⟩
  · simp only [e1, bb_b0_s, bb_b1_s, bb_b2_s, bb_b3_s, bb_b4_s, bb_b5_s, bb_b6_s, bb_b7_s, bb_b8_s, bb_b9_s, bb_b10_s, bb_b11_s, bb_b12_s, bb_b13_s, bb_b14_s, bb_b15_s, bb_b16_s, e10, e00, e11, if_true, if_false]
    obtain ⟨c, hc, rfl⟩ := nat_of (n := 3) (by decide) a1 b1
    rcases win p2 (-1) 47 with ⟨e3, a3, b3⟩ | ⟨e3, -⟩
    · simp only [e3, bb_b0_s, bb_b1_s, bb_b2_s, bb_b3_s, bb_b4_s, bb_b5_s, bb_b6_s, bb_b7_s, bb_b8_s, bb_b9_s, bb_b10_s, bb_b11_s, bb_b12_s, bb_b13_s, bb_b14_s, bb_b15_s, bb_b16_s, e10, e00, e11, if_true, if_false, a5_, a9_, a57_, a105_, a145_, m5_, nAdd, becomes8 (show 5 + c < 155 by omega), replace7 (show c < 4 by omega) (by decide), hR.ga_ (show c < 4 by omega)]
      refine ⟨_, _, _, _, rfl, rfl, hR.u_ga (by omega) _, hI.u_ga (by omega) ?_⟩
      rw [i_le] at a3 b3
      have h1 : (-1 : Int32).toInt = -1 := by decide
      have h2 : (47 : Int32).toInt = 47 := by decide
      rw [h1] at a3
      rw [h2] at b3
      by_cases h3 : p2.toInt = -1
      · exact Or.inl ((i_eq _ _).mpr (by rw [h3, h1]))
      · refine Or.inr ⟨p2.toInt.toNat, by omega, ?_⟩
        rw [i_eq, nI_toInt (by omega)]
        omega
    · simp only [e3, bb_b0_s, bb_b1_s, bb_b2_s, bb_b3_s, bb_b4_s, bb_b5_s, bb_b6_s, bb_b7_s, bb_b8_s, bb_b9_s, bb_b10_s, bb_b11_s, bb_b12_s, bb_b13_s, bb_b14_s, bb_b15_s, bb_b16_s, e10, e00, e11, if_true, if_false]
      exact ⟨_, _, _, _, rfl, rfl, hR, hI⟩
  · simp only [e1, bb_b0_s, bb_b1_s, bb_b2_s, bb_b3_s, bb_b4_s, bb_b5_s, bb_b6_s, bb_b7_s, bb_b8_s, bb_b9_s, bb_b10_s, bb_b11_s, bb_b12_s, bb_b13_s, bb_b14_s, bb_b15_s, bb_b16_s, e10, e00, e11, if_true, if_false]
    exact ⟨_, _, _, _, rfl, rfl, hR, hI⟩
theorem op_sight (hR : RW s ga st cu ki at_ wi wr ke sp mi ba si ev z) (hI : IW s) (fo : Nat → Int32) (p1 : Int32) :
    ∃ r fo2 si2 s2, uX7_sight p1 fo si = some (r, fo2, si2) ∧ uX8_sight p1 fo s = some (r, fo2, s2) ∧ RW s2 ga st cu ki at_ wi wr ke sp mi ba si2 ev z ∧ IW s2 := by
  unfold uX7_sight uX8_sight
  have e2 : uX8_in p1.toInt64 0 12 = uX7_isWithin p1 0 12 := in8 p1 0 12
  simp only [find78, fnd0, e2, bb_b0_s, bb_b1_s, bb_b2_s, bb_b3_s, bb_b4_s, bb_b5_s, bb_b6_s, bb_b7_s, bb_b8_s, bb_b9_s, bb_b10_s, bb_b11_s, bb_b12_s, bb_b13_s, bb_b14_s, bb_b15_s, bb_b16_s]
  rcases win p1 0 12 with ⟨e1, a1, b1⟩ | ⟨e1, -⟩
  · simp only [e1, bb_b0_s, bb_b1_s, bb_b2_s, bb_b3_s, bb_b4_s, bb_b5_s, bb_b6_s, bb_b7_s, bb_b8_s, bb_b9_s, bb_b10_s, bb_b11_s, bb_b12_s, bb_b13_s, bb_b14_s, bb_b15_s, bb_b16_s, e10, e00, e11, if_true, if_false]
    obtain ⟨c, hc, rfl⟩ := nat_of (n := 12) (by decide) a1 b1
    have e3 : uX8_becomes 2 (nI c) s = some (si, upd s 2 (nI c)) := by rw [← hR.si_]; exact becomes8 (show 2 < 155 by omega) _ _
    simp only [e3, bb_b0_s, bb_b1_s, bb_b2_s, bb_b3_s, bb_b4_s, bb_b5_s, bb_b6_s, bb_b7_s, bb_b8_s, bb_b9_s, bb_b10_s, bb_b11_s, bb_b12_s, bb_b13_s, bb_b14_s, bb_b15_s, bb_b16_s]
    exact ⟨_, _, _, _, rfl, rfl, hR.u_si _, hI.u_si ⟨c, hc, rfl⟩⟩
  · simp only [e1, bb_b0_s, bb_b1_s, bb_b2_s, bb_b3_s, bb_b4_s, bb_b5_s, bb_b6_s, bb_b7_s, bb_b8_s, bb_b9_s, bb_b10_s, bb_b11_s, bb_b12_s, bb_b13_s, bb_b14_s, bb_b15_s, bb_b16_s, e10, e00, e11, if_true, if_false]
    exact ⟨_, _, _, _, rfl, rfl, hR, hI⟩
theorem op_seed (hR : RW s ga st cu ki at_ wi wr ke sp mi ba si ev z) (hI : IW s) (p1 : Int32) :
    ∃ r z2 s2, uX7_seed p1 z = some (r, z2) ∧ uX8_seed p1 s = some (r, s2) ∧ RW s2 ga st cu ki at_ wi wr ke sp mi ba si ev z2 ∧ IW s2 := by
  unfold uX7_seed uX8_seed
  have e3 : uX8_becomes 4 p1 s = some (z, upd s 4 p1) := by rw [← hR.z_]; exact becomes8 (show 4 < 155 by omega) _ _
  simp only [e3, bb_b0_s, bb_b1_s, bb_b2_s, bb_b3_s, bb_b4_s, bb_b5_s, bb_b6_s, bb_b7_s, bb_b8_s, bb_b9_s, bb_b10_s, bb_b11_s, bb_b12_s, bb_b13_s, bb_b14_s, bb_b15_s, bb_b16_s]
  exact ⟨_, _, _, rfl, rfl, hR.u_z _, hI.u_z trivial⟩
theorem op_hold (hR : RW s ga st cu ki at_ wi wr ke sp mi ba si ev z) (hI : IW s) (fo : Nat → Int32) (p1 p2 : Int32) :
    ∃ r fo2 sp2 s2, uX7_hold p1 p2 fo ba sp = some (r, fo2, sp2) ∧ uX8_hold p1 p2 fo s = some (r, fo2, s2) ∧ RW s2 ga st cu ki at_ wi wr ke sp2 mi ba si ev z ∧ IW s2 := by
  unfold uX7_hold uX8_hold
  obtain ⟨n, hn, en⟩ := hI.ba_
  have eb : ba = nI n := by rw [← hR.ba_]; exact en
  simp only [spot7, spot8, bather7, bather8, find78, fnd0, bb_cut_s, hR.ba_, bb_b0_s, bb_b1_s, bb_b2_s, bb_b3_s, bb_b4_s, bb_b5_s, bb_b6_s, bb_b7_s, bb_b8_s, bb_b9_s, bb_b10_s, bb_b11_s, bb_b12_s, bb_b13_s, bb_b14_s, bb_b15_s, bb_b16_s]
  rcases win p1 0 9 with ⟨e1, a1, b1⟩ | ⟨e1, -⟩
  · simp only [e1, bb_b0_s, bb_b1_s, bb_b2_s, bb_b3_s, bb_b4_s, bb_b5_s, bb_b6_s, bb_b7_s, bb_b8_s, bb_b9_s, bb_b10_s, bb_b11_s, bb_b12_s, bb_b13_s, bb_b14_s, bb_b15_s, bb_b16_s, e10, e00, e11, if_true, if_false]
    obtain ⟨c, hc, rfl⟩ := nat_of (n := 9) (by decide) a1 b1
    simp only [a5_, a9_, a57_, a105_, a145_, m5_, nAdd, ixn (show 145 + c < 155 by omega) (by decide), cln (show 145 + c < 2 ^ 31 by omega), ixn (show c < 10 by omega) (by decide), cln (show c < 2 ^ 31 by omega)]
    by_cases e2 : p2 = -1
    · simp only [if_pos e2]
      exact ⟨_, _, _, _, rfl, rfl, hR.u_sp (by omega) _, hI.u_sp (by omega) (Or.inl e2)⟩
    · simp only [if_neg e2]
      rcases win p2 0 (ba - 1) with ⟨e3, a3, b3⟩ | ⟨e3, -⟩
      · simp only [e3, bb_b0_s, bb_b1_s, bb_b2_s, bb_b3_s, bb_b4_s, bb_b5_s, bb_b6_s, bb_b7_s, bb_b8_s, bb_b9_s, bb_b10_s, bb_b11_s, bb_b12_s, bb_b13_s, bb_b14_s, bb_b15_s, bb_b16_s, e10, e00, e11, if_true, if_false]
        rw [eb] at b3
        obtain ⟨b, hb, rfl⟩ := bat hn a3 b3
        refine ⟨_, _, _, _, rfl, rfl, hR.u_sp (by omega) _, hI.u_sp (by omega) (Or.inr ⟨b, rfl, ?_⟩)⟩
        rw [en, nI_toInt (by omega)]
        omega
      · simp only [e3, bb_b0_s, bb_b1_s, bb_b2_s, bb_b3_s, bb_b4_s, bb_b5_s, bb_b6_s, bb_b7_s, bb_b8_s, bb_b9_s, bb_b10_s, bb_b11_s, bb_b12_s, bb_b13_s, bb_b14_s, bb_b15_s, bb_b16_s, e10, e00, e11, if_true, if_false]
        exact ⟨_, _, _, _, rfl, rfl, hR, hI⟩
  · simp only [e1, bb_b0_s, bb_b1_s, bb_b2_s, bb_b3_s, bb_b4_s, bb_b5_s, bb_b6_s, bb_b7_s, bb_b8_s, bb_b9_s, bb_b10_s, bb_b11_s, bb_b12_s, bb_b13_s, bb_b14_s, bb_b15_s, bb_b16_s, e10, e00, e11, if_true, if_false]
    exact ⟨_, _, _, _, rfl, rfl, hR, hI⟩
end OPS1
