/-! ===== change, swap, status, wipe ===== -/
theorem chw_t {b : Nat} (hb : b < 8) {v hi : Int32} (f fo : Nat → Int32) (e : uX7_isWithin v 0 hi = some 1) : uX7_changeWithin 8 (nI b) v hi f fo = some (f b, upd f b v, fo) := by
  unfold uX7_changeWithin
  simp only [e, bb_b0_s, bb_b1_s, bb_b2_s, bb_b3_s, bb_b4_s, bb_b5_s, bb_b6_s, bb_b7_s, bb_b8_s, bb_b9_s, bb_b10_s, bb_b11_s, bb_b12_s, bb_b13_s, bb_b14_s, bb_b15_s, bb_b16_s, e10, e00, e11, if_true, if_false, replace7 hb (show 8 < 2 ^ 31 by decide)]
theorem chw_f {b : Nat} {v hi : Int32} (f fo : Nat → Int32) (e : uX7_isWithin v 0 hi = some 0) : uX7_changeWithin 8 (nI b) v hi f fo = some (-1000001, f, nfd 0 fo) := by
  unfold uX7_changeWithin
  simp only [e, bb_b0_s, bb_b1_s, bb_b2_s, bb_b3_s, bb_b4_s, bb_b5_s, bb_b6_s, bb_b7_s, bb_b8_s, bb_b9_s, bb_b10_s, bb_b11_s, bb_b12_s, bb_b13_s, bb_b14_s, bb_b15_s, bb_b16_s, e10, e00, e11, if_true, if_false, fnd0]
section OPS3
variable {s ga st cu ki at_ wi wr ke sp : Nat → Int32} {mi ba si ev z : Int32}
theorem op_change (hR : RW s ga st cu ki at_ wi wr ke sp mi ba si ev z) (hI : IW s) (fo : Nat → Int32) (p1 p2 p3 : Int32) :
    ∃ r fo2 at2 ke2 ki2 wi2 wr2 s2, uX7_change p1 p2 p3 fo ba at_ ke ki wi wr = some (r, fo2, at2, ke2, ki2, wi2, wr2) ∧ uX8_change p1 p2 p3 fo s = some (r, fo2, s2) ∧ RW s2 ga st cu ki2 at2 wi2 wr2 ke2 sp mi ba si ev z ∧ IW s2 := by
  unfold uX7_change uX8_change
  obtain ⟨n, hn, en⟩ := hI.ba_
  have eb : ba = nI n := by rw [← hR.ba_]; exact en
  simp only [bather7, bather8, hR.ba_, find78, fnd0, bb_b0_s, bb_b1_s, bb_b2_s, bb_b3_s, bb_b4_s, bb_b5_s, bb_b6_s, bb_b7_s, bb_b8_s, bb_b9_s, bb_b10_s, bb_b11_s, bb_b12_s, bb_b13_s, bb_b14_s, bb_b15_s, bb_b16_s]
  rcases win p1 0 (ba - 1) with ⟨e1, a1, b1⟩ | ⟨e1, -⟩
  · simp only [e1, bb_b0_s, bb_b1_s, bb_b2_s, bb_b3_s, bb_b4_s, bb_b5_s, bb_b6_s, bb_b7_s, bb_b8_s, bb_b9_s, bb_b10_s, bb_b11_s, bb_b12_s, bb_b13_s, bb_b14_s, bb_b15_s, bb_b16_s, e10, e00, e11, if_true, if_false]
    rw [eb] at b1
    obtain ⟨b, hb, rfl⟩ := bat hn a1 b1
    have hb8 : b < 8 := by omega
    by_cases h0 : p2 = 0
    · subst h0
      have em : uX8_mayBe 0 p3 = uX7_isWithin p3 0 6 := by unfold uX8_mayBe; simp only [if_true, b1_id, kind8]
      have ei : ∀ v : Int32, uX8_becomes ((105 : Int32) + (5 : Int32) * nI b + 0) v s = some (s (105 + 5 * b), upd s (105 + 5 * b) v) := fun v => by rw [m5_, a105_, p0_]; have h := becomes8 (k := 105 + 5 * b + 0) (by omega) v s; rw [show 105 + 5 * b + 0 = 105 + 5 * b by omega] at h; rw [show 105 + 5 * b + 0 = 105 + 5 * b by omega]; exact h
      simp only [if_true, em]
      rcases win p3 0 6 with ⟨e6, a6, b6⟩ | ⟨e6, -⟩
      · simp only [e6, chw_t hb8 _ _ e6, bb_b0_s, bb_b1_s, bb_b2_s, bb_b3_s, bb_b4_s, bb_b5_s, bb_b6_s, bb_b7_s, bb_b8_s, bb_b9_s, bb_b10_s, bb_b11_s, bb_b12_s, bb_b13_s, bb_b14_s, bb_b15_s, bb_b16_s, e10, e00, e11, if_true, if_false, ei, hR.ki_ hb8]
        obtain ⟨v, hv, rfl⟩ := nat_of (n := 6) (by decide) a6 b6
        exact ⟨_, _, _, _, _, _, _, _, rfl, rfl, hR.u_ki hb8 _, hI.u_ki hb8 (⟨v, hv, rfl⟩)⟩
      · simp only [e6, chw_f _ _ e6, bb_b0_s, bb_b1_s, bb_b2_s, bb_b3_s, bb_b4_s, bb_b5_s, bb_b6_s, bb_b7_s, bb_b8_s, bb_b9_s, bb_b10_s, bb_b11_s, bb_b12_s, bb_b13_s, bb_b14_s, bb_b15_s, bb_b16_s, e10, e00, e11, if_true, if_false]
        exact ⟨_, _, _, _, _, _, _, _, rfl, rfl, hR, hI⟩
    by_cases h1 : p2 = 1
    · subst h1
      have em : uX8_mayBe 1 p3 = uX7_isWithin p3 0 47 := by unfold uX8_mayBe; simp only [if_neg (show ¬ (1 : Int32) = 0 by decide), if_true, b1_id, cell8]
      have ei : ∀ v : Int32, uX8_becomes ((105 : Int32) + (5 : Int32) * nI b + 1) v s = some (s (106 + 5 * b), upd s (106 + 5 * b) v) := fun v => by rw [m5_, a105_, p1_]; have h := becomes8 (k := 105 + 5 * b + 1) (by omega) v s; rw [show 105 + 5 * b + 1 = 106 + 5 * b by omega] at h; rw [show 105 + 5 * b + 1 = 106 + 5 * b by omega]; exact h
      simp only [if_neg (show ¬ (1 : Int32) = 0 by decide), if_true, em]
      rcases win p3 0 47 with ⟨e6, a6, b6⟩ | ⟨e6, -⟩
      · simp only [e6, chw_t hb8 _ _ e6, bb_b0_s, bb_b1_s, bb_b2_s, bb_b3_s, bb_b4_s, bb_b5_s, bb_b6_s, bb_b7_s, bb_b8_s, bb_b9_s, bb_b10_s, bb_b11_s, bb_b12_s, bb_b13_s, bb_b14_s, bb_b15_s, bb_b16_s, e10, e00, e11, if_true, if_false, ei, hR.at__ hb8]
        obtain ⟨v, hv, rfl⟩ := nat_of (n := 47) (by decide) a6 b6
        exact ⟨_, _, _, _, _, _, _, _, rfl, rfl, hR.u_at_ hb8 _, hI.u_at_ hb8 (Or.inl ⟨v, by omega, rfl⟩)⟩
      · simp only [e6, chw_f _ _ e6, bb_b0_s, bb_b1_s, bb_b2_s, bb_b3_s, bb_b4_s, bb_b5_s, bb_b6_s, bb_b7_s, bb_b8_s, bb_b9_s, bb_b10_s, bb_b11_s, bb_b12_s, bb_b13_s, bb_b14_s, bb_b15_s, bb_b16_s, e10, e00, e11, if_true, if_false]
        exact ⟨_, _, _, _, _, _, _, _, rfl, rfl, hR, hI⟩
    by_cases h2 : p2 = 2
    · subst h2
      have em : uX8_mayBe 2 p3 = uX7_isWithin p3 0 1 := by unfold uX8_mayBe; simp only [if_neg (show ¬ (2 : Int32) = 0 by decide), if_neg (show ¬ (2 : Int32) = 1 by decide), if_true, b1_id, side8]
      have ei : ∀ v : Int32, uX8_becomes ((105 : Int32) + (5 : Int32) * nI b + 2) v s = some (s (107 + 5 * b), upd s (107 + 5 * b) v) := fun v => by rw [m5_, a105_, p2_]; have h := becomes8 (k := 105 + 5 * b + 2) (by omega) v s; rw [show 105 + 5 * b + 2 = 107 + 5 * b by omega] at h; rw [show 105 + 5 * b + 2 = 107 + 5 * b by omega]; exact h
      simp only [if_neg (show ¬ (2 : Int32) = 0 by decide), if_neg (show ¬ (2 : Int32) = 1 by decide), if_true, em]
      rcases win p3 0 1 with ⟨e6, a6, b6⟩ | ⟨e6, -⟩
      · simp only [e6, chw_t hb8 _ _ e6, bb_b0_s, bb_b1_s, bb_b2_s, bb_b3_s, bb_b4_s, bb_b5_s, bb_b6_s, bb_b7_s, bb_b8_s, bb_b9_s, bb_b10_s, bb_b11_s, bb_b12_s, bb_b13_s, bb_b14_s, bb_b15_s, bb_b16_s, e10, e00, e11, if_true, if_false, ei, hR.wi_ hb8]
        obtain ⟨v, hv, rfl⟩ := nat_of (n := 1) (by decide) a6 b6
        exact ⟨_, _, _, _, _, _, _, _, rfl, rfl, hR.u_wi hb8 _, hI.u_wi hb8 (⟨v, hv, rfl⟩)⟩
      · simp only [e6, chw_f _ _ e6, bb_b0_s, bb_b1_s, bb_b2_s, bb_b3_s, bb_b4_s, bb_b5_s, bb_b6_s, bb_b7_s, bb_b8_s, bb_b9_s, bb_b10_s, bb_b11_s, bb_b12_s, bb_b13_s, bb_b14_s, bb_b15_s, bb_b16_s, e10, e00, e11, if_true, if_false]
        exact ⟨_, _, _, _, _, _, _, _, rfl, rfl, hR, hI⟩
    by_cases h3 : p2 = 3
    · subst h3
      have em : uX8_mayBe 3 p3 = uX7_isWithin p3 0 99 := by unfold uX8_mayBe; simp only [if_neg (show ¬ (3 : Int32) = 0 by decide), if_neg (show ¬ (3 : Int32) = 1 by decide), if_neg (show ¬ (3 : Int32) = 2 by decide), if_true, b1_id]; exact in8 p3 0 99
      have ei : ∀ v : Int32, uX8_becomes ((105 : Int32) + (5 : Int32) * nI b + 3) v s = some (s (108 + 5 * b), upd s (108 + 5 * b) v) := fun v => by rw [m5_, a105_, p3_]; have h := becomes8 (k := 105 + 5 * b + 3) (by omega) v s; rw [show 105 + 5 * b + 3 = 108 + 5 * b by omega] at h; rw [show 105 + 5 * b + 3 = 108 + 5 * b by omega]; exact h
      simp only [if_neg (show ¬ (3 : Int32) = 0 by decide), if_neg (show ¬ (3 : Int32) = 1 by decide), if_neg (show ¬ (3 : Int32) = 2 by decide), if_true, em]
      rcases win p3 0 99 with ⟨e6, a6, b6⟩ | ⟨e6, -⟩
      · simp only [e6, chw_t hb8 _ _ e6, bb_b0_s, bb_b1_s, bb_b2_s, bb_b3_s, bb_b4_s, bb_b5_s, bb_b6_s, bb_b7_s, bb_b8_s, bb_b9_s, bb_b10_s, bb_b11_s, bb_b12_s, bb_b13_s, bb_b14_s, bb_b15_s, bb_b16_s, e10, e00, e11, if_true, if_false, ei, hR.wr_ hb8]
        obtain ⟨v, hv, rfl⟩ := nat_of (n := 99) (by decide) a6 b6
        exact ⟨_, _, _, _, _, _, _, _, rfl, rfl, hR.u_wr hb8 _, hI.u_wr hb8 (⟨v, hv, rfl⟩)⟩
      · simp only [e6, chw_f _ _ e6, bb_b0_s, bb_b1_s, bb_b2_s, bb_b3_s, bb_b4_s, bb_b5_s, bb_b6_s, bb_b7_s, bb_b8_s, bb_b9_s, bb_b10_s, bb_b11_s, bb_b12_s, bb_b13_s, bb_b14_s, bb_b15_s, bb_b16_s, e10, e00, e11, if_true, if_false]
        exact ⟨_, _, _, _, _, _, _, _, rfl, rfl, hR, hI⟩
    by_cases h4 : p2 = 4
    · subst h4
      have em : uX8_mayBe 4 p3 = uX7_isWithin p3 0 7 := by
        unfold uX8_mayBe
        have e5 : uX8_in p3.toInt64 0 7 = uX7_isWithin p3 0 7 := in8 p3 0 7
        simp only [if_neg (show ¬ (4 : Int32) = 0 by decide), if_neg (show ¬ (4 : Int32) = 1 by decide), if_neg (show ¬ (4 : Int32) = 2 by decide), if_neg (show ¬ (4 : Int32) = 3 by decide), if_true, e5]
        rcases win p3 0 7 with ⟨e6, -, -⟩ | ⟨e6, -⟩ <;> simp only [e6, bb_b0_s, bb_b1_s, bb_b2_s, bb_b3_s, bb_b4_s, bb_b5_s, bb_b6_s, bb_b7_s, bb_b8_s, bb_b9_s, bb_b10_s, bb_b11_s, bb_b12_s, bb_b13_s, bb_b14_s, bb_b15_s, bb_b16_s, e10, e00, e11, if_true, if_false]
      have ei : ∀ v : Int32, uX8_becomes ((105 : Int32) + (5 : Int32) * nI b + 4) v s = some (s (109 + 5 * b), upd s (109 + 5 * b) v) := fun v => by rw [m5_, a105_, p4_]; have h := becomes8 (k := 105 + 5 * b + 4) (by omega) v s; rw [show 105 + 5 * b + 4 = 109 + 5 * b by omega] at h; rw [show 105 + 5 * b + 4 = 109 + 5 * b by omega]; exact h
      simp only [if_neg (show ¬ (4 : Int32) = 0 by decide), if_neg (show ¬ (4 : Int32) = 1 by decide), if_neg (show ¬ (4 : Int32) = 2 by decide), if_neg (show ¬ (4 : Int32) = 3 by decide), if_true, em]
      rcases win p3 0 7 with ⟨e6, a6, b6⟩ | ⟨e6, -⟩
      · simp only [e6, chw_t hb8 _ _ e6, bb_b0_s, bb_b1_s, bb_b2_s, bb_b3_s, bb_b4_s, bb_b5_s, bb_b6_s, bb_b7_s, bb_b8_s, bb_b9_s, bb_b10_s, bb_b11_s, bb_b12_s, bb_b13_s, bb_b14_s, bb_b15_s, bb_b16_s, e10, e00, e11, if_true, if_false, ei, hR.ke_ hb8]
        obtain ⟨v, hv, rfl⟩ := nat_of (n := 7) (by decide) a6 b6
        exact ⟨_, _, _, _, _, _, _, _, rfl, rfl, hR.u_ke hb8 _, hI.u_ke hb8 (⟨v, hv, rfl⟩)⟩
      · simp only [e6, chw_f _ _ e6, bb_b0_s, bb_b1_s, bb_b2_s, bb_b3_s, bb_b4_s, bb_b5_s, bb_b6_s, bb_b7_s, bb_b8_s, bb_b9_s, bb_b10_s, bb_b11_s, bb_b12_s, bb_b13_s, bb_b14_s, bb_b15_s, bb_b16_s, e10, e00, e11, if_true, if_false]
        exact ⟨_, _, _, _, _, _, _, _, rfl, rfl, hR, hI⟩
    have em : uX8_mayBe p2 p3 = some 0 := by unfold uX8_mayBe; simp only [if_neg h0, if_neg h1, if_neg h2, if_neg h3, if_neg h4]
    simp only [if_neg h0, if_neg h1, if_neg h2, if_neg h3, if_neg h4, em, bb_b0_s, bb_b1_s, bb_b2_s, bb_b3_s, bb_b4_s, bb_b5_s, bb_b6_s, bb_b7_s, bb_b8_s, bb_b9_s, bb_b10_s, bb_b11_s, bb_b12_s, bb_b13_s, bb_b14_s, bb_b15_s, bb_b16_s, e10, e00, e11, if_true, if_false]
    exact ⟨_, _, _, _, _, _, _, _, rfl, rfl, hR, hI⟩
  · simp only [e1, bb_b0_s, bb_b1_s, bb_b2_s, bb_b3_s, bb_b4_s, bb_b5_s, bb_b6_s, bb_b7_s, bb_b8_s, bb_b9_s, bb_b10_s, bb_b11_s, bb_b12_s, bb_b13_s, bb_b14_s, bb_b15_s, bb_b16_s, e10, e00, e11, if_true, if_false]
    exact ⟨_, _, _, _, _, _, _, _, rfl, rfl, hR, hI⟩
theorem op_swap (hR : RW s ga st cu ki at_ wi wr ke sp mi ba si ev z) (hI : IW s) (fo : Nat → Int32) (p1 p2 : Int32) :
    ∃ r fo2 ke2 s2, uX7_swap p1 p2 fo ba ke = some (r, fo2, ke2) ∧ uX8_swap p1 p2 fo s = some (r, fo2, s2) ∧ RW s2 ga st cu ki at_ wi wr ke2 sp mi ba si ev z ∧ IW s2 := by
  unfold uX7_swap uX8_swap
  obtain ⟨n, hn, en⟩ := hI.ba_
  have eb : ba = nI n := by rw [← hR.ba_]; exact en
  simp only [bather7, bather8, hR.ba_, find78, fnd0, bb_b0_s, bb_b1_s, bb_b2_s, bb_b3_s, bb_b4_s, bb_b5_s, bb_b6_s, bb_b7_s, bb_b8_s, bb_b9_s, bb_b10_s, bb_b11_s, bb_b12_s, bb_b13_s, bb_b14_s, bb_b15_s, bb_b16_s]
  rcases win p1 0 (ba - 1) with ⟨e1, a1, b1⟩ | ⟨e1, -⟩
  · rcases win p2 0 (ba - 1) with ⟨e2, a2, b2⟩ | ⟨e2, -⟩
    · simp only [e1, e2, bb_b0_s, bb_b1_s, bb_b2_s, bb_b3_s, bb_b4_s, bb_b5_s, bb_b6_s, bb_b7_s, bb_b8_s, bb_b9_s, bb_b10_s, bb_b11_s, bb_b12_s, bb_b13_s, bb_b14_s, bb_b15_s, bb_b16_s, e10, e00, e11, if_true, if_false]
      by_cases h : p1 = p2
      · simp only [if_pos h]
        exact ⟨_, _, _, _, rfl, rfl, hR, hI⟩
      · rw [eb] at b1 b2
        obtain ⟨a, ha, rfl⟩ := bat hn a1 b1
        obtain ⟨b, hb, rfl⟩ := bat hn a2 b2
        have hab : a ≠ b := fun e => h (by rw [e])
        have i4 : ∀ (c : Nat) (hc : c < 8) (f : Nat → Int32), uX8_its (nI c) 4 f = some (f (109 + 5 * c)) := fun c hc f => by rw [show 109 + 5 * c = 105 + 5 * c + 4 by omega]; exact its8 (w := 4) hc (by omega) f
        have t4 : ∀ (c : Nat) (hc : c < 8) (v : Int32) (f : Nat → Int32), uX8_sets (nI c) 4 v f = some (upd f (109 + 5 * c) v) := fun c hc v f => by rw [show 109 + 5 * c = 105 + 5 * c + 4 by omega]; exact sets8 (w := 4) hc (by omega) v f
        simp only [if_neg h, i4 a (by omega), i4 b (by omega), t4 a (by omega), t4 b (by omega), hR.ke_ (show a < 8 by omega), hR.ke_ (show b < 8 by omega), ixn (show a < 8 by omega) (show 8 < 2 ^ 31 by decide), ixn (show b < 8 by omega) (show 8 < 2 ^ 31 by decide), cln (show a < 2 ^ 31 by omega), cln (show b < 2 ^ 31 by omega), replace7 (show b < 8 by omega) (show 8 < 2 ^ 31 by decide), bb_b0_s, bb_b1_s, bb_b2_s, bb_b3_s, bb_b4_s, bb_b5_s, bb_b6_s, bb_b7_s, bb_b8_s, bb_b9_s, bb_b10_s, bb_b11_s, bb_b12_s, bb_b13_s, bb_b14_s, bb_b15_s, bb_b16_s]
        have ka := hI.ke_ (show a < 8 by omega)
        have kb := hI.ke_ (show b < 8 by omega)
        rw [hR.ke_ (show a < 8 by omega)] at ka
        rw [hR.ke_ (show b < 8 by omega)] at kb
        have hR2 := (hR.u_ke (show a < 8 by omega) (ke b)).u_ke (show b < 8 by omega) (ke a)
        have hI2 := (hI.u_ke (show a < 8 by omega) kb).u_ke (show b < 8 by omega) ka
        by_cases h2 : ke a = ke b
        · simp only [if_pos h2]
          refine ⟨_, _, _, _, rfl, rfl, ?_, hI2⟩
          refine hR2.ext7 (fun i _ => rfl) (fun i _ => rfl) (fun i _ => rfl) (fun i _ => rfl) (fun i _ => rfl) (fun i _ => rfl) (fun i _ => rfl) (fun i _ => ?_) (fun i _ => rfl)
          by_cases q1 : i = b
          · subst q1; rw [pk_us]; exact h2.symm
          · rw [pk_un q1]
            by_cases q2 : i = a
            · subst q2; rw [pk_us]; exact h2
            · rw [pk_un q2]
        · simp only [if_neg h2]
          refine ⟨_, _, _, _, rfl, rfl, ?_, hI2⟩
          refine hR2.ext7 (fun i _ => rfl) (fun i _ => rfl) (fun i _ => rfl) (fun i _ => rfl) (fun i _ => rfl) (fun i _ => rfl) (fun i _ => rfl) (fun i _ => ?_) (fun i _ => rfl)
          by_cases q1 : i = b
          · subst q1; rw [pk_us, pk_un (Ne.symm hab), pk_us]
          · rw [pk_un q1]
            by_cases q2 : i = a
            · subst q2; rw [pk_us, pk_us]
            · rw [pk_un q2, pk_un q2, pk_un q1]
    · simp only [e1, e2, bb_b0_s, bb_b1_s, bb_b2_s, bb_b3_s, bb_b4_s, bb_b5_s, bb_b6_s, bb_b7_s, bb_b8_s, bb_b9_s, bb_b10_s, bb_b11_s, bb_b12_s, bb_b13_s, bb_b14_s, bb_b15_s, bb_b16_s, e10, e00, e11, if_true, if_false]
      exact ⟨_, _, _, _, rfl, rfl, hR, hI⟩
  · simp only [e1, bb_b0_s, bb_b1_s, bb_b2_s, bb_b3_s, bb_b4_s, bb_b5_s, bb_b6_s, bb_b7_s, bb_b8_s, bb_b9_s, bb_b10_s, bb_b11_s, bb_b12_s, bb_b13_s, bb_b14_s, bb_b15_s, bb_b16_s, e10, e00, e11, if_true, if_false]
    exact ⟨_, _, _, _, rfl, rfl, hR, hI⟩
end OPS3
theorem op_wipe (n : Int32) : uX7_wipe n = some (n, 0) ∧ uX8_wipe n = some (n, 0) := ⟨rfl, rfl⟩
