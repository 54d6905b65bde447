/-! ===== enough ===== -/
def anyX (p : Nat → Bool) (x : Nat) : Bool := anyG (fun g => p g && x.testBit g)
def allB (p : Nat → Bool) : Nat → Bool
  | 0 => true
  | n + 1 => allB p n && p n
theorem allB_iff (p : Nat → Bool) : ∀ n, allB p n = true ↔ ∀ i, i < n → p i = true
  | 0 => ⟨fun _ i hi => by omega, fun _ => rfl⟩
  | n + 1 => by
    unfold allB
    rw [Bool.and_eq_true, allB_iff p n]
    constructor
    · intro h i hi
      rcases Nat.lt_or_ge i n with q | q
      · exact h.1 i q
      · obtain rfl : i = n := by omega
        exact h.2
    · exact fun h => ⟨fun i hi => h i (by omega), h n (by omega)⟩
theorem en4 : ∀ b0 b1 b2 b3 : Bool, ∀ x, x < 16 → ((((((((0 : Int32) ||| (if b0 = true then (1 : Int32) <<< (nI 0 &&& 31) else 0)) ||| (if b1 = true then (1 : Int32) <<< (nI 1 &&& 31) else 0)) ||| (if b2 = true then (1 : Int32) <<< (nI 2 &&& 31) else 0)) ||| (if b3 = true then (1 : Int32) <<< (nI 3 &&& 31) else 0)) &&& nI x) = 0) ↔ ((b0 && x.testBit 0) || (b1 && x.testBit 1) || (b2 && x.testBit 2) || (b3 && x.testBit 3)) = false) := by decide +kernel
theorem en_and (p : Nat → Bool) {x : Nat} (hx : x < 16) : (orI (gb p) 4 &&& nI x) = 0 ↔ anyX p x = false := en4 (p 0) (p 1) (p 2) (p 3) x hx
theorem on_bit : ∀ x, x < 16 → ∀ i, i < 8 → ((nI x >>> (nI i &&& 31)) &&& 1) = nI (if x.testBit i = true then 1 else 0) := by decide +kernel
theorem on_cnt : ∀ x, x < 16 → uJ6_bitCount_0f7a4 (nI x) = some (nI (cntN (fun k => x.testBit k) 8)) := by decide +kernel
theorem ones8 {nn x : Nat} (hn : 8 < nn) (hx : x < 16) : uX8_ones nn (nI x) = some (nI (cntN (fun k => x.testBit k) 8)) := by
  unfold uX8_ones
  refine for2 (F1 := fun i => nI (cntN (fun k => x.testBit k) i)) (F2 := fun i => nI i) (N := 8) (fun rec2 => ?_) (fun rec2 i hi => ?_) nn (by omega)
  · unfold uX8_ones_s4
    rw [if_pos (by decide)]
  · unfold uX8_ones_s4
    rw [if_neg (show ¬ (8 : Int32) ≤ nI i from nI_ge (b := 8) hi (by decide)), on_bit x hx i hi, nAdd, p1_]
    rfl
theorem any_sub {p : Nat → Bool} {x : Nat} (h : anyX p x = true) : anyG p = true := by
  change ((p 0 && x.testBit 0) || (p 1 && x.testBit 1) || (p 2 && x.testBit 2) || (p 3 && x.testBit 3)) = true at h
  show (p 0 || p 1 || p 2 || p 3) = true
  revert h
  cases p 0 <;> cases p 1 <;> cases p 2 <;> cases p 3 <;> simp
theorem any_cong {p q : Nat → Bool} (h : ∀ g, g < 4 → p g = q g) : anyG p = anyG q := by
  unfold anyG
  rw [h 0 (by omega), h 1 (by omega), h 2 (by omega), h 3 (by omega)]
def enB (sb : Nat → Nat → Bool) (x c : Nat) : Bool := !anyG (sb c) || anyX (sb c) x
def bE (sb : Nat → Nat → Bool) : Nat → Nat
  | 0 => 15
  | i + 1 => if cntN (fun k => i.testBit k) 8 < cntN (fun k => (bE sb i).testBit k) 8 ∧ allB (enB sb i) 48 = true then i else bE sb i
theorem bE_lt (sb : Nat → Nat → Bool) : ∀ i, i ≤ 16 → bE sb i < 16
  | 0, _ => by show 15 < 16; omega
  | i + 1, h => by
    have ih := bE_lt sb i (by omega)
    unfold bE
    split <;> omega
section ENOUGH
variable {s ga st cu ki at_ wi wr ke sp : Nat → Int32} {mi ba si ev z : Int32}
theorem isEnough8 {nn x : Nat} (hn : 155 < nn) (hx : x < 16) : uX8_isEnough nn (nI x) s = some (if allB (enB (sb8 s) x) 48 = true then 1 else 0) := by
  unfold uX8_isEnough
  refine for2 (F1 := fun i => if allB (enB (sb8 s) x) i = true then (1 : Int32) else 0) (F2 := fun i => nI i) (N := 48) (fun rec2 => ?_) (fun rec2 i hi => ?_) nn (by omega)
  · unfold uX8_isEnough_s4
    rw [if_pos (by decide)]
    generalize allB (enB (sb8 s) x) 48 = v
    cases v <;> rfl
  · unfold uX8_isEnough_s4
    rw [if_neg (show ¬ (48 : Int32) ≤ nI i from nI_ge (b := 48) hi (by decide)), seenBy8 (by omega) hi, bb_b1_s]
    simp only [bb_cut_s, p1_]
    show _ = rec2 (if (allB (enB (sb8 s) x) i && enB (sb8 s) x i) = true then (1 : Int32) else 0) _
    have e1 := orI_zero (sb8 s i)
    have e2 := en_and (sb8 s i) hx
    unfold enB
    cases h : allB (fun c => !anyG (sb8 s c) || anyX (sb8 s c) x) i
    · rfl
    · rw [if_neg (by decide)]
      by_cases h1 : orI (gb (sb8 s i)) 4 = 0
      · rw [if_pos h1, e1.mp h1]
        rfl
      · have h1b : anyG (sb8 s i) = true := by
          cases q : anyG (sb8 s i)
          · exact absurd (e1.mpr q) h1
          · rfl
        rw [if_neg h1, h1b]
        by_cases h2 : (orI (gb (sb8 s i)) 4 &&& nI x) = 0
        · rw [if_pos h2, e2.mp h2]
          rfl
        · have h2b : anyX (sb8 s i) x = true := by
            cases q : anyX (sb8 s i) x
            · exact absurd (e2.mpr q) h2
            · rfl
          rw [if_neg h2, h2b]
          rfl
theorem enough8 {nn : Nat} (hn : 155 < nn) : uX8_enough nn s = some (nI (bE (sb8 s) 15)) := by
  unfold uX8_enough
  have e16 : bE (sb8 s) 16 = bE (sb8 s) 15 := by
    show (if _ then 15 else bE (sb8 s) 15) = _
    by_cases h : bE (sb8 s) 15 = 15
    · rw [h]; split <;> rfl
    · rw [if_neg]
      intro q
      have h1 := bE_lt (sb8 s) 15 (by omega)
      have key : ∀ y, y < 16 → ¬ cntN (fun k => (15 : Nat).testBit k) 8 < cntN (fun k => y.testBit k) 8 := by decide +kernel
      exact key _ h1 q.1
  rw [← e16]
  refine for2 (F1 := fun i => nI (bE (sb8 s) i)) (F2 := fun i => nI i) (N := 16) (fun rec2 => ?_) (fun rec2 i hi => ?_) nn (by omega)
  · unfold uX8_enough_s5
    rw [if_pos (by decide)]
  · unfold uX8_enough_s5
    have hb := bE_lt (sb8 s) i (by omega)
    have c1 := cntN_le (fun k => i.testBit k) 8
    have c2 := cntN_le (fun k => (bE (sb8 s) i).testBit k) 8
    rw [if_neg (show ¬ (16 : Int32) ≤ nI i from nI_ge (b := 16) hi (by decide)), ones8 (by omega) hi, bb_b1_s, ones8 (by omega) hb, bb_b1_s]
    simp only [isEnough8 hn hi, bb_cut_s, p1_, bb_b0_s, bb_b1_s, bb_b2_s, bb_b3_s, bb_b4_s, bb_b5_s, bb_b6_s, bb_b7_s, bb_b8_s, bb_b9_s, bb_b10_s, bb_b11_s, bb_b12_s, bb_b13_s, bb_b14_s, bb_b15_s, bb_b16_s, nI_le_iff (show cntN (fun k => (bE (sb8 s) i).testBit k) 8 < 2 ^ 31 by omega) (show cntN (fun k => i.testBit k) 8 < 2 ^ 31 by omega)]
    have el : bE (sb8 s) (i + 1) = if cntN (fun k => i.testBit k) 8 < cntN (fun k => (bE (sb8 s) i).testBit k) 8 ∧ allB (enB (sb8 s) i) 48 = true then i else bE (sb8 s) i := rfl
    by_cases h1 : allB (enB (sb8 s) i) 48 = true
    · simp only [if_pos h1, e10, e00, e11, if_true, if_false]
      by_cases h2 : cntN (fun k => (bE (sb8 s) i).testBit k) 8 ≤ cntN (fun k => i.testBit k) 8
      · rw [if_pos h2]
        rw [if_neg (fun q => by omega)] at el
        rw [el]
        by_cases h3 : nI i = 15
        · by_cases h4 : nI (bE (sb8 s) i) = 15
          · rw [if_pos h3, if_pos h4, h3, ← h4]
          · rw [if_pos h3, if_neg h4]
        · rw [if_neg h3]
      · rw [if_neg h2]
        rw [if_pos ⟨by omega, h1⟩] at el
        rw [el]
    · rw [if_neg (fun q => h1 q.2)] at el
      simp only [if_neg h1, e10, e00, e11, if_true, if_false]
      rw [el]
      split <;> rfl
def togX (f : Nat → Int64) (x : Nat) : Int64 := orL (fun g => if x.testBit g = true then f g else 0) 4
theorem together7 {nn x : Nat} (hn : 155 < nn) (hx : x < 16) (f : Nat → Int64) : uX7_seenTogether nn (nI x) f = some (togX f x) := by
  unfold uX7_seenTogether
  refine for2 (F1 := fun i => orL (fun g => if x.testBit g = true then f g else 0) i) (F2 := fun i => nI i) (N := 4) (fun rec2 => ?_) (fun rec2 i hi => ?_) nn (by omega)
  · rfl
  · unfold uX7_seenTogether_s5
    rw [if_neg (show ¬ (4 : Int32) ≤ nI i from nI_ge (b := 4) hi (by decide)), on_bit x hx i (by omega), bb_cut_s, p1_, ixn hi (by decide), cln (by omega)]
    show _ = rec2 (orL _ i ||| (if x.testBit i = true then f i else 0)) _
    by_cases h : x.testBit i = true
    · rw [if_pos h, if_pos h, if_neg (by decide)]
    · rw [if_neg h, if_neg h, if_pos (by decide), orL0]
theorem lb_tog {f : Nat → Int64} (hf : ∀ g, g < 4 → f g = orL (cb (fun c => sb7 si ga st c g)) 48) {x k : Nat} (hk : k < 64) : lb (togX f x) k = (decide (k < 48) && anyX (sb7 si ga st k) x) := by
  unfold togX anyX anyG
  rw [orL4]
  have e : ∀ g, g < 4 → lb (if x.testBit g = true then f g else 0) k = (decide (k < 48) && (sb7 si ga st k g && x.testBit g)) := fun g hg => by
    cases h : x.testBit g
    · rw [if_neg (by decide), lb_0]; simp
    · rw [if_pos rfl, hf g hg, lb_cells _ hk]; simp
  rw [lb_or, lb_or, lb_or, lb_or, lb_0, e 0 (by omega), e 1 (by omega), e 2 (by omega), e 3 (by omega)]
  cases decide (k < 48) <;> simp
theorem tog_eq {f : Nat → Int64} (hf : ∀ g, g < 4 → f g = orL (cb (fun c => sb7 si ga st c g)) 48) (x : Nat) : togX f x = togX f 15 ↔ allB (enB (sb7 si ga st) x) 48 = true := by
  have e15 : ∀ k, anyX (sb7 si ga st k) 15 = anyG (sb7 si ga st k) := fun k => by
    unfold anyX anyG
    have q : (15 : Nat).testBit 0 = true ∧ (15 : Nat).testBit 1 = true ∧ (15 : Nat).testBit 2 = true ∧ (15 : Nat).testBit 3 = true := by decide
    simp only [q.1, q.2.1, q.2.2.1, q.2.2.2, Bool.and_true]
  have sub : ∀ k, anyX (sb7 si ga st k) x = true → anyG (sb7 si ga st k) = true := fun k h => any_sub h
  rw [allB_iff]
  constructor
  · intro h c hc
    have h2 : lb (togX f x) c = lb (togX f 15) c := by rw [h]
    rw [lb_tog hf (by omega), lb_tog hf (by omega), e15] at h2
    simp only [hc, decide_true, Bool.true_and] at h2
    unfold enB
    rw [h2]
    cases anyG (sb7 si ga st c) <;> rfl
  · intro h
    refine lb_ext (fun k hk => ?_)
    rw [lb_tog hf hk, lb_tog hf hk, e15]
    by_cases hc : k < 48
    · have h2 := h k hc
      unfold enB at h2
      have h3 := sub k
      congr 1
      cases q1 : anyG (sb7 si ga st k)
      · cases q2 : anyX (sb7 si ga st k) x
        · rfl
        · rw [q1] at h3; exact absurd (h3 q2) (by decide)
      · rw [q1] at h2
        simpa using h2
    · simp [hc]
theorem bE_cong {p q : Nat → Nat → Bool} (h : ∀ c, c < 48 → ∀ g, g < 4 → p c g = q c g) : ∀ i, bE p i = bE q i
  | 0 => rfl
  | i + 1 => by
    have ih := bE_cong h i
    have e : allB (enB p i) 48 = true ↔ allB (enB q i) 48 = true := by
      rw [allB_iff, allB_iff]
      have e2 : ∀ c, c < 48 → enB p i c = enB q i c := fun c hc => by
        unfold enB anyX
        rw [any_cong (h c hc), any_cong (p := fun g => p c g && i.testBit g) (q := fun g => q c g && i.testBit g) (fun g hg => by rw [h c hc g hg])]
      exact ⟨fun h c hc => by rw [← e2 c hc]; exact h c hc, fun h c hc => by rw [e2 c hc]; exact h c hc⟩
    unfold bE
    rw [ih]
    simp only [e]
theorem op_enough {nn : Nat} (hn : 155 < nn) (hR : RW s ga st cu ki at_ wi wr ke sp mi ba si ev z) (bg : Nat → Int64) : ∃ r bg2, uX7_enough nn bg si ga st = some (r, bg2) ∧ uX8_enough nn s = some r := by
  unfold uX7_enough
  rw [bb_cut_s]
  have L : ∀ K : (Nat → Int64) → Option (Int32 × (Nat → Int64)), ∃ f, (∀ g, g < 4 → f g = orL (cb (fun c => sb7 si ga st c g)) 48) ∧ bb_loop2 (uX7_enough_s2 nn si ga st K) nn 0 bg = K f := by
    intro K
    refine inv2 (fun i x1 f => x1 = nI i ∧ ∀ g, g < i → f g = orL (cb (fun c => sb7 si ga st c g)) 48) 4 (fun o => ∃ f, (∀ g, g < 4 → f g = orL (cb (fun c => sb7 si ga st c g)) 48) ∧ o = K f) ?_ ?_ nn (by omega) 0 bg ⟨rfl, fun g hg => by omega⟩
    · rintro rec2 x1 f ⟨rfl, h⟩
      exact ⟨f, h, rfl⟩
    · rintro rec2 i x1 f hi ⟨rfl, h⟩
      refine Or.inl ?_
      unfold uX7_enough_s2
      rw [if_neg (show ¬ (4 : Int32) ≤ nI i from nI_ge (b := 4) hi (by decide)), ixn hi (by decide), cln (by omega), seenFrom6 (by omega), bb_b1_s, ixn hi (by decide), p1_]
      refine ⟨_, _, ⟨rfl, ?_⟩, rfl⟩
      intro g hg
      by_cases e : g = i
      · subst e; rw [pk_uLs]; rfl
      · rw [pk_uLn e]; exact h g (by omega)
  obtain ⟨f, hf, e1⟩ := L (fun f => bb_b1 (uX7_seenTogether nn 15 f) (fun r3 => bb_loop2 (uX7_enough_s57 nn 15 r3 f) nn 15 0))
  have e2 : uX7_seenTogether nn 15 f = some (togX f 15) := together7 (x := 15) hn (by omega) f
  rw [e1, e2, bb_b1_s]
  have e3 : bE (sb8 s) 15 = bE (sb7 si ga st) 15 := bE_cong (fun c hc g hg => sb78 hR hc hg) 15
  refine ⟨nI (bE (sb7 si ga st) 15), f, ?_, by rw [enough8 hn, e3]⟩
  refine for2 (F1 := fun i => nI (bE (sb7 si ga st) i)) (F2 := fun i => nI i) (N := 15) (fun rec2 => ?_) (fun rec2 i hi => ?_) nn (by omega)
  · unfold uX7_enough_s57
    rw [if_pos (by decide)]
  · unfold uX7_enough_s57
    have hb := bE_lt (sb7 si ga st) i (by omega)
    have c1 := cntN_le (fun k => i.testBit k) 8
    have c2 := cntN_le (fun k => (bE (sb7 si ga st) i).testBit k) 8
    rw [if_neg (show ¬ (15 : Int32) ≤ nI i from nI_ge (b := 15) hi (by decide)), on_cnt i (by omega), bb_b1_s, on_cnt _ hb, bb_b1_s]
    simp only [together7 hn (show i < 16 by omega), bb_cut_s, p1_, bb_b0_s, bb_b1_s, bb_b2_s, bb_b3_s, bb_b4_s, bb_b5_s, bb_b6_s, bb_b7_s, bb_b8_s, bb_b9_s, bb_b10_s, bb_b11_s, bb_b12_s, bb_b13_s, bb_b14_s, bb_b15_s, bb_b16_s, nI_le_iff (show cntN (fun k => (bE (sb7 si ga st) i).testBit k) 8 < 2 ^ 31 by omega) (show cntN (fun k => i.testBit k) 8 < 2 ^ 31 by omega), lg_cmp_eq, tog_eq hf]
    have el : bE (sb7 si ga st) (i + 1) = if cntN (fun k => i.testBit k) 8 < cntN (fun k => (bE (sb7 si ga st) i).testBit k) 8 ∧ allB (enB (sb7 si ga st) i) 48 = true then i else bE (sb7 si ga st) i := rfl
    by_cases h2 : cntN (fun k => (bE (sb7 si ga st) i).testBit k) 8 ≤ cntN (fun k => i.testBit k) 8
    · rw [if_neg (fun q => by omega)] at el
      rw [if_pos h2, el]
    · by_cases h1 : allB (enB (sb7 si ga st) i) 48 = true
      · rw [if_pos ⟨by omega, h1⟩] at el
        rw [if_neg h2, if_pos h1, el]
      · rw [if_neg (fun q => h1 q.2)] at el
        rw [if_neg h2, if_neg h1, el]
end ENOUGH
