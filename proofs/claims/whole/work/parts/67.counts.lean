/-! ===== who is where, how many; cell, now, count, status, as ===== -/
theorem orI_cong {f g : Nat → Int32} : ∀ n, (∀ i, i < n → f i = g i) → orI f n = orI g n
  | 0, _ => rfl
  | n + 1, h => by
    show orI f n ||| f n = orI g n ||| g n
    rw [orI_cong n (fun i hi => h i (by omega)), h n (by omega)]
theorem gb_cong {p q : Nat → Bool} {i : Nat} (h : p i = q i) : gb p i = gb q i := by unfold gb; rw [h]
theorem bc8 : ∀ b0 b1 b2 b3 b4 b5 b6 b7 : Bool, uJ6_bitCount_0f7a4 (((((((((0 : Int32) ||| (if b0 = true then (1 : Int32) <<< (nI 0 &&& 31) else 0)) ||| (if b1 = true then (1 : Int32) <<< (nI 1 &&& 31) else 0)) ||| (if b2 = true then (1 : Int32) <<< (nI 2 &&& 31) else 0)) ||| (if b3 = true then (1 : Int32) <<< (nI 3 &&& 31) else 0)) ||| (if b4 = true then (1 : Int32) <<< (nI 4 &&& 31) else 0)) ||| (if b5 = true then (1 : Int32) <<< (nI 5 &&& 31) else 0)) ||| (if b6 = true then (1 : Int32) <<< (nI 6 &&& 31) else 0)) ||| (if b7 = true then (1 : Int32) <<< (nI 7 &&& 31) else 0)) = some (nI ((((((((0 + (if b0 = true then 1 else 0)) + (if b1 = true then 1 else 0)) + (if b2 = true then 1 else 0)) + (if b3 = true then 1 else 0)) + (if b4 = true then 1 else 0)) + (if b5 = true then 1 else 0)) + (if b6 = true then 1 else 0)) + (if b7 = true then 1 else 0))) := by decide +kernel
theorem bc6 (p : Nat → Bool) {n : Nat} (hn : n ≤ 8) : uJ6_bitCount_0f7a4 (orI (gb p) n) = some (nI (cntN p n)) := by
  have key : ∀ d, orI (gb (fun i => p i && decide (i < n))) (n + d) = orI (gb p) n ∧ cntN (fun i => p i && decide (i < n)) (n + d) = cntN p n := fun d => by
    induction d with
    | zero =>
      constructor
      · exact orI_cong n (fun i hi => gb_cong (by simp [hi]))
      · exact cntN_cong n (fun i hi => by simp [hi])
    | succ d ih =>
      constructor
      · show orI _ (n + d) ||| gb _ (n + d) = _
        have e : gb (fun i => p i && decide (i < n)) (n + d) = 0 := by unfold gb; rw [if_neg (by simp)]
        rw [e, or0, ih.1]
      · show cntN _ (n + d) + (if (p (n + d) && decide (n + d < n)) then 1 else 0) = _
        rw [ih.2]
        simp
  obtain ⟨k1, k2⟩ := key (8 - n)
  rw [show n + (8 - n) = 8 by omega] at k1 k2
  rw [← k1, ← k2]
  exact bc8 _ _ _ _ _ _ _ _
theorem whoIsAt6 {nn n : Nat} (hn : 8 < nn) (h8 : n ≤ 8) (v : Int32) (f : Nat → Int32) : uX6_whoIsAt nn v (nI n) f = some (orI (gb (fun b => decide (f b = v))) n) := by
  unfold uX6_whoIsAt
  refine for2 (F1 := fun i => orI (gb (fun b => decide (f b = v))) i) (F2 := fun i => nI i) (N := n) (fun rec2 => ?_) (fun rec2 i hi => ?_) nn (by omega)
  · unfold uX6_whoIsAt_s4
    rw [if_pos (nI_le (Nat.le_refl _) (by omega))]
  · unfold uX6_whoIsAt_s4
    rw [if_neg (nI_ge hi (by omega)), ixn (show i < 8 by omega) (by decide), bb_cut_s, cln (by omega), p1_]
    show _ = rec2 (orI _ i ||| gb _ i) _
    unfold gb
    by_cases h : f i = v
    · rw [if_pos h, if_pos (by simp [h])]
    · rw [if_neg h, if_neg (by simp [h]), or0]
theorem howManyAt6 {nn n : Nat} (hn : 8 < nn) (h8 : n ≤ 8) (v : Int32) (f : Nat → Int32) : uX6_howManyAt nn v (nI n) f = some (nI (cntN (fun b => decide (f b = v)) n)) := by
  unfold uX6_howManyAt
  rw [whoIsAt6 hn h8, bb_b1_s, bc6 _ h8, bb_b1_s]
section COUNTS
variable {s ga st cu ki at_ wi wr ke sp : Nat → Int32} {mi ba si ev z : Int32}
theorem manyAt8 {nn : Nat} (hn : 8 < nn) (hV : IV s) (v : Int32) : uX8_manyAt nn v s = some (nI (cntN (fun b => decide (s (106 + 5 * b) = v)) (nO s))) := by
  obtain ⟨en, hle⟩ := hV.n
  unfold uX8_manyAt
  refine for2 (F1 := fun i => nI (cntN (fun b => decide (s (106 + 5 * b) = v)) i)) (F2 := fun i => nI i) (N := nO s) (fun rec2 => ?_) (fun rec2 i hi => ?_) nn (by omega)
  · unfold uX8_manyAt_s4
    rw [cl1, en, if_pos (nI_le (Nat.le_refl _) (by omega))]
  · unfold uX8_manyAt_s4
    rw [cl1, en, if_neg (nI_ge hi (by omega)), its_a (show i < 8 by omega), bb_b1_s, bb_cut_s, p1_]
    show _ = rec2 (nI (cntN _ i + (if decide (s (106 + 5 * i) = v) = true then 1 else 0))) _
    by_cases h : s (106 + 5 * i) = v
    · rw [if_pos h, if_pos (by simp [h])]; simp only [p1_]
    · rw [if_neg h, if_neg (by simp [h])]; simp only [p0_]
theorem outSet8 {nn : Nat} (hn : 8 < nn) (hV : IV s) (v : Int32) : uX8_outSet nn v s = some (orI (gb (fun b => decide (s (106 + 5 * b) = 100 + v))) (nO s)) := by
  obtain ⟨en, hle⟩ := hV.n
  unfold uX8_outSet
  refine for2 (F1 := fun i => orI (gb (fun b => decide (s (106 + 5 * b) = 100 + v))) i) (F2 := fun i => nI i) (N := nO s) (fun rec2 => ?_) (fun rec2 i hi => ?_) nn (by omega)
  · unfold uX8_outSet_s4
    rw [cl1, en, if_pos (nI_le (Nat.le_refl _) (by omega))]
  · unfold uX8_outSet_s4
    rw [cl1, en, if_neg (nI_ge hi (by omega)), its_a (show i < 8 by omega), bb_b1_s, bb_cut_s, p1_]
    show _ = rec2 (orI _ i ||| gb _ i) _
    unfold gb
    by_cases h : s (106 + 5 * i) = 100 + v
    · rw [if_pos h, if_pos (by simp [h])]
    · rw [if_neg h, if_neg (by simp [h])]
theorem outMany8 {nn : Nat} (hn : 8 < nn) (hV : IV s) : uX8_outMany nn s = some (nI (cntN (fun b => !decide (aO s b < 48)) (nO s))) := by
  obtain ⟨en, hle⟩ := hV.n
  unfold uX8_outMany
  refine for2 (F1 := fun i => nI (cntN (fun b => !decide (aO s b < 48)) i)) (F2 := fun i => nI i) (N := nO s) (fun rec2 => ?_) (fun rec2 i hi => ?_) nn (by omega)
  · unfold uX8_outMany_s4
    rw [cl1, en, if_pos (nI_le (Nat.le_refl _) (by omega))]
  · unfold uX8_outMany_s4
    rw [cl1, en, if_neg (nI_ge hi (by omega)), isIn8 (show i < 8 by omega) hV, bb_b1_s, bb_cut_s, p1_]
    show _ = rec2 (nI (cntN _ i + (if (!decide (aO s i < 48)) = true then 1 else 0))) _
    by_cases h : aO s i < 48
    · rw [if_pos h, if_neg (by decide), if_neg (by simp [h])]; simp only [p0_]
    · rw [if_neg h, if_pos (by decide), if_pos (by simp [h])]; simp only [p1_]
theorem out78 (hR : RW s ga st cu ki at_ wi wr ke sp mi ba si ev z) (hV : IV s) : ∀ n, n ≤ 8 → cntN (fun b => decide (at_ b = 100)) n + cntN (fun b => decide (at_ b = 101)) n = cntN (fun b => !decide (aO s b < 48)) n
  | 0, _ => rfl
  | n + 1, h => by
    have ih := out78 hR hV n (by omega)
    have e := (hR.k7 hV (show n < 8 by omega)).2.1
    have ha := (hV.a (show n < 8 by omega)).2
    unfold cntN
    have e0 : (at_ n = 100) = (aO s n = 100) := by rw [e, show (100 : Int32) = nI 100 from rfl]; exact lit_eq (by omega) (by omega)
    have e1 : (at_ n = 101) = (aO s n = 101) := by rw [e, show (101 : Int32) = nI 101 from rfl]; exact lit_eq (by omega) (by omega)
    simp only [e0, e1]
    rcases ha with h1 | h1 | h1
    · simp [h1, show ¬ aO s n = 100 by omega, show ¬ aO s n = 101 by omega]; omega
    · simp [h1]; omega
    · simp [h1]; omega
theorem howManyOut6 {nn : Nat} (hn : 8 < nn) (hR : RW s ga st cu ki at_ wi wr ke sp mi ba si ev z) (hV : IV s) : uX6_howManyOut nn ba at_ = some (nI (cntN (fun b => !decide (aO s b < 48)) (nO s))) := by
  obtain ⟨en, hle⟩ := hV.n
  have eb : ba = nI (nO s) := hR.ba_.symm.trans en
  unfold uX6_howManyOut
  rw [eb, howManyAt6 hn hle, bb_b1_s, howManyAt6 hn hle, bb_b1_s, nAdd, out78 hR hV _ hle]
theorem guardsWhoSee6 {nn c : Nat} (hn : 4 < nn) (hc : c < 48) (si : Int32) (ga st : Nat → Int32) : uX6_guardsWhoSee nn (nI c) si ga st = some (orI (gb (sb7 si ga st c)) 4) := by
  unfold uX6_guardsWhoSee
  refine for2 (F1 := fun i => orI (gb (sb7 si ga st c)) i) (F2 := fun i => nI i) (N := 4) (fun rec2 => ?_) (fun rec2 i hi => ?_) nn (by omega)
  · rfl
  · unfold uX6_guardsWhoSee_s4
    rw [if_neg (show ¬ (4 : Int32) ≤ nI i from nI_ge (b := 4) hi (by decide)), ixn hi (by decide), bb_cut_s, cln (by omega), p1_]
    show _ = rec2 (orI _ i ||| gb _ i) _
    unfold gb sb7 sv
    by_cases h : ga i < 0
    · rw [if_pos h, if_neg (by simp [h]), or0]
    · rw [if_neg h, ap0, bb_b1_s, ixn hc (by decide), cln (by omega)]
      by_cases h2 : si - st c < apv (ga i) (nI c)
      · rw [if_pos h2, if_neg (by simp [h2]), or0]
      · rw [if_neg h2, if_pos (by simp [h, h2])]
theorem op_cell {nn : Nat} (hn : 155 < nn) (hR : RW s ga st cu ki at_ wi wr ke sp mi ba si ev z) (hI : IW s) (fo : Nat → Int32) (p1 p2 : Int32) :
    ∃ r fo2, uX7_cell nn p1 p2 fo si ba at_ cu ga st = some (r, fo2) ∧ uX8_cell nn p1 p2 fo s = some (r, fo2) := by
  have hV := hI.v
  obtain ⟨en, hle⟩ := hV.n
  have eb : ba = nI (nO s) := hR.ba_.symm.trans en
  unfold uX7_cell uX8_cell
  have e6 : uX8_in p2.toInt64 0 3 = uX7_isWithin p2 0 3 := in8 p2 0 3
  simp only [cell0, cell8, find78, fnd0, e6, bb_b0_s, bb_b1_s, bb_b2_s, bb_b3_s, bb_b4_s, bb_b5_s, bb_b6_s, bb_b7_s, bb_b8_s, bb_b9_s, bb_b10_s, bb_b11_s, bb_b12_s, bb_b13_s, bb_b14_s, bb_b15_s, bb_b16_s]
  rcases win p1 0 47 with ⟨e1, h1, h2⟩ | ⟨e1, -⟩
  · obtain ⟨c, hc, rfl⟩ := nat_of (n := 47) (by decide) h1 h2
    have hc8 : c < 48 := by omega
    simp only [e1, bb_b0_s, bb_b1_s, bb_b2_s, bb_b3_s, bb_b4_s, bb_b5_s, bb_b6_s, bb_b7_s, bb_b8_s, bb_b9_s, bb_b10_s, bb_b11_s, bb_b12_s, bb_b13_s, bb_b14_s, bb_b15_s, bb_b16_s, e10, e00, e11, if_true, if_false, ixn hc8 (show 48 < 2 ^ 31 by decide), cln (show c < 2 ^ 31 by omega), a9_, a57_, ixn (show 9 + c < 155 by omega) (show 155 < 2 ^ 31 by decide), ixn (show 57 + c < 155 by omega) (show 155 < 2 ^ 31 by decide), cln (show 9 + c < 2 ^ 31 by omega), cln (show 57 + c < 2 ^ 31 by omega), hR.st_ hc8, hR.cu_ hc8, eb, guardsWhoSee6 (show 4 < nn by omega) hc8, seenBy8 (show 4 < nn by omega) hc8, howManyAt6 (show 8 < nn by omega) hle, manyAt8 (show 8 < nn by omega) hV]
    rcases win p2 0 3 with ⟨e2, h3, h4⟩ | ⟨e2, h3⟩
    · obtain ⟨m, hm, rfl⟩ := nat_of (n := 3) (by decide) h3 h4
      simp only [e2, e10, e00, e11, if_true, if_false, bb_b0_s, bb_b1_s, bb_b2_s, bb_b3_s, bb_b4_s, bb_b5_s, bb_b6_s, bb_b7_s, bb_b8_s, bb_b9_s, bb_b10_s, bb_b11_s, bb_b12_s, bb_b13_s, bb_b14_s, bb_b15_s, bb_b16_s]
      rcases (show m = 0 ∨ m = 1 ∨ m = 2 ∨ m = 3 by omega) with rfl | rfl | rfl | rfl
      · exact ⟨_, _, rfl, rfl⟩
      · exact ⟨_, _, rfl, rfl⟩
      · refine ⟨orI (gb (sb7 si ga st c)) 4, fo, rfl, ?_⟩
        rw [if_neg (show ¬ nI 2 = 0 by decide), if_neg (show ¬ nI 2 = 1 by decide), if_pos (show nI 2 = 2 by decide), orI_cong 4 (fun g hg => gb_cong (sb78 hR hc8 hg))]
      · refine ⟨nI (cntN (fun b => decide (at_ b = nI c)) (nO s)), fo, rfl, ?_⟩
        rw [if_neg (show ¬ nI 3 = 0 by decide), if_neg (show ¬ nI 3 = 1 by decide), if_neg (show ¬ nI 3 = 2 by decide), cntN_cong (nO s) (fun b hb => by rw [hR.at__ (show b < 8 by omega)])]
    · simp only [e2, e10, e00, e11, if_true, if_false, bb_b0_s, bb_b1_s, bb_b2_s, bb_b3_s, bb_b4_s, bb_b5_s, bb_b6_s, bb_b7_s, bb_b8_s, bb_b9_s, bb_b10_s, bb_b11_s, bb_b12_s, bb_b13_s, bb_b14_s, bb_b15_s, bb_b16_s]
      have n0 : ∀ m : Nat, m ≤ 3 → ¬ p2 = nI m := fun m hm e => h3 (by subst e; exact ⟨nI_pos' (by omega), nI_le (b := 3) hm (by decide)⟩)
      rw [if_neg (show ¬ p2 = 0 from n0 0 (by omega)), if_neg (show ¬ p2 = 1 from n0 1 (by omega)), if_neg (show ¬ p2 = 2 from n0 2 (by omega)), if_neg (show ¬ p2 = 3 from n0 3 (by omega))]
      exact ⟨_, _, rfl, rfl⟩
  · simp only [e1, bb_b0_s, bb_b1_s, bb_b2_s, bb_b3_s, bb_b4_s, bb_b5_s, bb_b6_s, bb_b7_s, bb_b8_s, bb_b9_s, bb_b10_s, bb_b11_s, bb_b12_s, bb_b13_s, bb_b14_s, bb_b15_s, bb_b16_s, e10, e00, e11, if_true, if_false]
    exact ⟨_, _, rfl, rfl⟩
theorem seenMany8 {nn : Nat} (hn : 48 < nn) : uX8_seenMany nn s = some (nI (cntN (sc8 s) 48)) := by
  unfold uX8_seenMany
  refine for2 (F1 := fun i => nI (cntN (sc8 s) i)) (F2 := fun i => nI i) (N := 48) (fun rec2 => ?_) (fun rec2 i hi => ?_) nn (by omega)
  · unfold uX8_seenMany_s4
    rw [if_pos (by decide)]
  · unfold uX8_seenMany_s4
    rw [if_neg (show ¬ (48 : Int32) ≤ nI i from nI_ge (b := 48) hi (by decide)), isSeen8 (by omega) hi, bb_b1_s, bb_cut_s, p1_]
    show _ = rec2 (nI (cntN _ i + (if sc8 s i = true then 1 else 0))) _
    by_cases h : sc8 s i = true
    · simp only [if_pos h, e10, e00, e11, if_true, if_false, p1_]
    · simp only [if_neg h, e10, e00, e11, if_true, if_false, p0_]
/-- a set of cells has as many bits as cells -/
theorem cnt64 (x : Int64) {p : Nat → Bool} (h : ∀ k, k < 64 → lb x k = (decide (k < 48) && p k)) : cntN (lb x) 64 = cntN p 48 := by
  rw [cntN_cong 64 h, show 64 = 48 + 16 from rfl, cntN_split]
  have e1 : cntN (fun k => decide (k < 48) && p k) 48 = cntN p 48 := cntN_cong 48 (fun i hi => by simp [hi])
  have e2 : ∀ n, cntN (fun k => decide (48 + k < 48) && p (48 + k)) n = 0 := fun n => by
    induction n with
    | zero => rfl
    | succ n ih => unfold cntN; rw [ih]; simp; omega
  rw [e1, e2]; rfl
theorem op_now {nn : Nat} (hn : 155 < nn) (hR : RW s ga st cu ki at_ wi wr ke sp mi ba si ev z) (hI : IW s) (fo : Nat → Int32) (p1 : Int32) :
    ∃ r fo2, uX7_now nn p1 fo si ba mi ev at_ ga st = some (r, fo2) ∧ uX8_now nn p1 fo s = some (r, fo2) := by
  have hV := hI.v
  obtain ⟨en, hle⟩ := hV.n
  have eb : ba = nI (nO s) := hR.ba_.symm.trans en
  have e5 : cntN (lb (seenX si ga st)) 64 = cntN (sc8 s) 48 := cnt64 _ (fun k hk => by
    rw [lb_seenX _ _ _ hk]
    by_cases h : k < 48
    · rw [sc78 hR h]
    · simp [h])
  unfold uX7_now uX8_now
  simp only [find78, fnd0, bb_cut_s, eb, whoIsAt6 (show 8 < nn by omega) hle, outSet8 (show 8 < nn by omega) hV, seenCells6 (show 48 < nn by omega), bitCount13, e5, seenMany8 (show 48 < nn by omega), cl2, show (0 : Int32).toNatClampNeg = 0 by decide, show (3 : Int32).toNatClampNeg = 3 by decide, hR.mi_, hR.ev_, hR.si_, bb_b0_s, bb_b1_s, bb_b2_s, bb_b3_s, bb_b4_s, bb_b5_s, bb_b6_s, bb_b7_s, bb_b8_s, bb_b9_s, bb_b10_s, bb_b11_s, bb_b12_s, bb_b13_s, bb_b14_s, bb_b15_s, bb_b16_s]
  have ea : ∀ v : Int32, orI (gb (fun b => decide (at_ b = v))) (nO s) = orI (gb (fun b => decide (s (106 + 5 * b) = v))) (nO s) := fun v => orI_cong _ (fun b hb => gb_cong (by rw [hR.at__ (show b < 8 by omega)]))
  rw [ea, ea]
  by_cases h0 : p1 = 0
  · simp only [if_pos h0]; exact ⟨_, _, rfl, rfl⟩
  by_cases h1 : p1 = 1
  · subst h1
    exact ⟨_, _, rfl, rfl⟩
  by_cases h2 : p1 = 2
  · subst h2
    exact ⟨_, _, rfl, rfl⟩
  simp only [if_neg h0, if_neg h1, if_neg h2]
  by_cases h3 : p1 = 3
  · simp only [if_pos h3]; exact ⟨_, _, rfl, rfl⟩
  by_cases h4 : p1 = 4
  · simp only [if_neg h3, if_pos h4]; exact ⟨_, _, rfl, rfl⟩
  by_cases h5 : p1 = 5
  · simp only [if_neg h3, if_neg h4, if_pos h5]; exact ⟨_, _, rfl, rfl⟩
  simp only [if_neg h3, if_neg h4, if_neg h5]
  exact ⟨_, _, rfl, rfl⟩
end COUNTS
