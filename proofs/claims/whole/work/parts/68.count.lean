/-! ===== count, status, as, boilers ===== -/
theorem smI_cong {f g : Nat → Int32} : ∀ n, (∀ i, i < n → f i = g i) → smI f n = smI g n
  | 0, _ => rfl
  | n + 1, h => by
    show smI f n + f n = smI g n + g n
    rw [smI_cong n (fun i hi => h i (by omega)), h n (by omega)]
theorem under8 {nn : Nat} (hn : 9 < nn) : ∀ k, k < 7 → ∀ v, v < 7 → uX8_isUnder nn (nI k) (nI v) = uX4_isOfKind nn (nI k) (nI v) ∧ ∃ r, uX4_isOfKind nn (nI k) (nI v) = some r := by
  obtain ⟨m, rfl⟩ : ∃ m, nn = m + 9 := ⟨nn - 9, by omega⟩
  intro k hk v hv
  rcases (show k = 0 ∨ k = 1 ∨ k = 2 ∨ k = 3 ∨ k = 4 ∨ k = 5 ∨ k = 6 by omega) with rfl | rfl | rfl | rfl | rfl | rfl | rfl <;> rcases (show v = 0 ∨ v = 1 ∨ v = 2 ∨ v = 3 ∨ v = 4 ∨ v = 5 ∨ v = 6 by omega) with rfl | rfl | rfl | rfl | rfl | rfl | rfl
  all_goals exact ⟨rfl, _, rfl⟩
section COUNT
variable {s ga st cu ki at_ wi wr ke sp : Nat → Int32} {mi ba si ev z : Int32}
theorem allSteam8 {nn : Nat} (hn : 48 < nn) : uX8_allSteam nn s = some (smI (fun i => s (9 + i)) 48) := by
  unfold uX8_allSteam
  refine for2 (F1 := fun i => smI (fun i => s (9 + i)) i) (F2 := fun i => nI i) (N := 48) (fun rec2 => ?_) (fun rec2 i hi => ?_) nn (by omega)
  · unfold uX8_allSteam_s4
    rw [if_pos (by decide)]
  · unfold uX8_allSteam_s4
    rw [if_neg (show ¬ (48 : Int32) ≤ nI i from nI_ge (b := 48) hi (by decide)), a9_, ixn (show 9 + i < 155 by omega) (by decide), cln (by omega), p1_]
    rfl
theorem steamOfAll6 {nn : Nat} (hn : 48 < nn) (st : Nat → Int32) : uX6_steamOfAll nn st = some (smI st 48) := by
  unfold uX6_steamOfAll
  refine for2 (F1 := fun i => smI st i) (F2 := fun i => nI i) (N := 48) (fun rec2 => ?_) (fun rec2 i hi => ?_) nn (by omega)
  · unfold uX6_steamOfAll_s4
    rw [if_pos (by decide)]
  · unfold uX6_steamOfAll_s4
    rw [if_neg (show ¬ (48 : Int32) ≤ nI i from nI_ge (b := 48) hi (by decide)), ixn hi (by decide), cln (by omega), p1_]
    rfl
theorem held8 {nn : Nat} (hn : 48 < nn) : uX8_held nn s = some (nI (cntN (fun i => decide (0 ≤ s (145 + i))) 10)) := by
  unfold uX8_held
  refine for2 (F1 := fun i => nI (cntN (fun i => decide (0 ≤ s (145 + i))) i)) (F2 := fun i => nI i) (N := 10) (fun rec2 => ?_) (fun rec2 i hi => ?_) nn (by omega)
  · rfl
  · unfold uX8_held_s4
    rw [if_neg (show ¬ (10 : Int32) ≤ nI i from nI_ge (b := 10) hi (by decide)), a145_, ixn (show 145 + i < 155 by omega) (by decide), bb_cut_s, cln (by omega), p1_]
    show _ = rec2 (nI (cntN _ i + (if decide (0 ≤ s (145 + i)) = true then 1 else 0))) _
    by_cases h : 0 ≤ s (145 + i)
    · rw [if_pos h, if_pos (by simp [h])]; simp only [p1_]
    · rw [if_neg h, if_neg (by simp [h])]; simp only [p0_]
theorem heldSpots6 {nn : Nat} (hn : 48 < nn) (sp : Nat → Int32) : uX6_heldSpots nn sp = some (nI (cntN (fun i => decide (0 ≤ sp i)) 10)) := by
  unfold uX6_heldSpots
  refine for2 (F1 := fun i => nI (cntN (fun i => decide (0 ≤ sp i)) i)) (F2 := fun i => nI i) (N := 10) (fun rec2 => ?_) (fun rec2 i hi => ?_) nn (by omega)
  · rfl
  · unfold uX6_heldSpots_s4
    rw [if_neg (show ¬ (10 : Int32) ≤ nI i from nI_ge (b := 10) hi (by decide)), ixn hi (by decide), bb_cut_s, cln (by omega), p1_]
    show _ = rec2 (nI (cntN _ i + (if decide (0 ≤ sp i) = true then 1 else 0))) _
    have e : (sp i < 0) = ¬ (0 ≤ sp i) := propext (by rw [i_lt, i_le]; omega)
    by_cases h : 0 ≤ sp i
    · rw [if_neg (by rw [e]; exact fun q => q h), if_pos (by simp [h])]; simp only [p1_]
    · rw [if_pos (by rw [e]; exact h), if_neg (by simp [h])]; rfl
theorem op_count {nn : Nat} (hn : 155 < nn) (hR : RW s ga st cu ki at_ wi wr ke sp mi ba si ev z) (hI : IW s) (fo : Nat → Int32) (p1 le : Int32) :
    ∃ r fo2, uX7_count nn p1 fo le ba mi ev z at_ sp st = some (r, fo2) ∧ uX8_count nn p1 le fo s = some (r, fo2) := by
  have hV := hI.v
  unfold uX7_count uX8_count
  simp only [find78, fnd0, howManyOut6 (show 8 < nn by omega) hR hV, outMany8 (show 8 < nn by omega) hV, steamOfAll6 (show 48 < nn by omega), allSteam8 (show 48 < nn by omega), heldSpots6 (show 48 < nn by omega), held8 (show 48 < nn by omega), cl1, show (0 : Int32).toNatClampNeg = 0 by decide, show (3 : Int32).toNatClampNeg = 3 by decide, show (4 : Int32).toNatClampNeg = 4 by decide, hR.mi_, hR.ba_, hR.ev_, hR.z_, bb_b0_s, bb_b1_s, bb_b2_s, bb_b3_s, bb_b4_s, bb_b5_s, bb_b6_s, bb_b7_s, bb_b8_s, bb_b9_s, bb_b10_s, bb_b11_s, bb_b12_s, bb_b13_s, bb_b14_s, bb_b15_s, bb_b16_s]
  rw [smI_cong 48 (fun i hi => hR.st_ hi), cntN_cong (p := fun i => decide (0 ≤ s (145 + i))) (q := fun i => decide (0 ≤ sp i)) 10 (fun i hi => by rw [hR.sp_ hi])]
  by_cases h0 : p1 = 0
  · simp only [if_pos h0]; exact ⟨_, _, rfl, rfl⟩
  by_cases h1 : p1 = 1
  · simp only [if_neg h0, if_pos h1]; exact ⟨_, _, rfl, rfl⟩
  by_cases h2 : p1 = 2
  · simp only [if_neg h0, if_neg h1, if_pos h2]; exact ⟨_, _, rfl, rfl⟩
  by_cases h3 : p1 = 3
  · simp only [if_neg h0, if_neg h1, if_neg h2, if_pos h3]; exact ⟨_, _, rfl, rfl⟩
  by_cases h4 : p1 = 4
  · simp only [if_neg h0, if_neg h1, if_neg h2, if_neg h3, if_pos h4]; exact ⟨_, _, rfl, rfl⟩
  by_cases h5 : p1 = 5
  · simp only [if_neg h0, if_neg h1, if_neg h2, if_neg h3, if_neg h4, if_pos h5]; exact ⟨_, _, rfl, rfl⟩
  by_cases h6 : p1 = 6
  · simp only [if_neg h0, if_neg h1, if_neg h2, if_neg h3, if_neg h4, if_neg h5, if_pos h6]; exact ⟨_, _, rfl, rfl⟩
  by_cases h7 : p1 = 7
  · simp only [if_neg h0, if_neg h1, if_neg h2, if_neg h3, if_neg h4, if_neg h5, if_neg h6, if_pos h7]; exact ⟨_, _, rfl, rfl⟩
  simp only [if_neg h0, if_neg h1, if_neg h2, if_neg h3, if_neg h4, if_neg h5, if_neg h6, if_neg h7]
  exact ⟨_, _, rfl, rfl⟩
theorem op_status {nn : Nat} (hn : 155 < nn) (fo : Nat → Int32) (p1 : Int32) :
    ∃ r fo2, uX7_status nn p1 fo = some (r, fo2) ∧ uX8_status nn p1 fo = some (r, fo2) := by
  unfold uX7_status uX8_status
  have e6 : uX8_in p1.toInt64 (-1) 6 = uX7_isWithin p1 (-1) 6 := in8 p1 (-1) 6
  have L8 : bb_loop2 (uX8_status_s24 p1 fo) nn 0 0 = some (smI (fun i => if p1 < 0 ∨ p1 = nI i then fo i else 0) 7, fo) := by
    refine for2 (F1 := fun i => smI (fun i => if p1 < 0 ∨ p1 = nI i then fo i else 0) i) (F2 := fun i => nI i) (N := 7) (fun rec2 => ?_) (fun rec2 i hi => ?_) nn (by omega)
    · rfl
    · unfold uX8_status_s24
      rw [if_neg (show ¬ (7 : Int32) ≤ nI i from nI_ge (b := 7) hi (by decide))]
      simp only [ixn hi (show 7 < 2 ^ 31 by decide), bb_cut_s, cln (show i < 2 ^ 31 by omega), p1_]
      show _ = rec2 (smI _ i + (if p1 < 0 ∨ p1 = nI i then fo i else 0)) _
      by_cases h : p1 < 0
      · rw [if_pos h, if_pos (Or.inl h)]
      · by_cases h2 : p1 = nI i
        · rw [if_neg h, if_pos h2, if_pos (Or.inr h2)]
        · rw [if_neg h, if_neg h2, if_neg (fun q => q.elim h h2)]
  have L7 : bb_loop2 (uX7_status_s31 fo) nn 0 0 = some (smI fo 7, fo) := by
    refine for2 (F1 := fun i => smI fo i) (F2 := fun i => nI i) (N := 7) (fun rec2 => ?_) (fun rec2 i hi => ?_) nn (by omega)
    · rfl
    · unfold uX7_status_s31
      rw [if_neg (show ¬ (7 : Int32) ≤ nI i from nI_ge (b := 7) hi (by decide)), ixn hi (by decide), cln (by omega), p1_]
      rfl
  simp only [find78, fnd0, e6, L7, L8, bb_b0_s, bb_b1_s, bb_b2_s, bb_b3_s, bb_b4_s, bb_b5_s, bb_b6_s, bb_b7_s, bb_b8_s, bb_b9_s, bb_b10_s, bb_b11_s, bb_b12_s, bb_b13_s, bb_b14_s, bb_b15_s, bb_b16_s]
  rcases win p1 (-1) 6 with ⟨e1, h1, h2⟩ | ⟨e1, -⟩
  · simp only [e1, bb_b0_s, bb_b1_s, bb_b2_s, bb_b3_s, bb_b4_s, bb_b5_s, bb_b6_s, bb_b7_s, bb_b8_s, bb_b9_s, bb_b10_s, bb_b11_s, bb_b12_s, bb_b13_s, bb_b14_s, bb_b15_s, bb_b16_s, e10, e00, e11, if_true, if_false]
    by_cases h : p1 < 0
    · rw [if_pos h, smI_cong (f := fun i => if p1 < 0 ∨ p1 = nI i then fo i else 0) (g := fo) 7 (fun i _ => if_pos (Or.inl h))]
      exact ⟨_, _, rfl, rfl⟩
    · obtain ⟨j, hj, rfl⟩ := nat_of (n := 6) (by decide) (show (0 : Int32) ≤ p1 by rw [i_le]; rw [i_lt] at h; omega) h2
      rw [if_neg h, ixn (show j < 7 by omega) (by decide), cln (by omega)]
      refine ⟨fo j, fo, rfl, ?_⟩
      have e : ∀ i, i < 7 → ((nI j < 0 ∨ nI j = nI i) ↔ j = i) := fun i hi => by rw [nI_eq (by omega) (by omega)]; exact ⟨fun q => q.resolve_left h, Or.inr⟩
      rw [smI_cong (f := fun i => if nI j < 0 ∨ nI j = nI i then fo i else 0) 7 (g := fun i => if j = i then fo i else 0) (fun i hi => by
        by_cases q : j = i
        · rw [if_pos ((e i hi).mpr q), if_pos q]
        · rw [if_neg (fun r => q ((e i hi).mp r)), if_neg q])]
      rcases (show j = 0 ∨ j = 1 ∨ j = 2 ∨ j = 3 ∨ j = 4 ∨ j = 5 ∨ j = 6 by omega) with rfl | rfl | rfl | rfl | rfl | rfl | rfl
      all_goals simp [smI]
  · simp only [e1, bb_b0_s, bb_b1_s, bb_b2_s, bb_b3_s, bb_b4_s, bb_b5_s, bb_b6_s, bb_b7_s, bb_b8_s, bb_b9_s, bb_b10_s, bb_b11_s, bb_b12_s, bb_b13_s, bb_b14_s, bb_b15_s, bb_b16_s, e10, e00, e11, if_true, if_false]
    exact ⟨_, _, rfl, rfl⟩
theorem op_as {nn : Nat} (hn : 155 < nn) (hR : RW s ga st cu ki at_ wi wr ke sp mi ba si ev z) (hI : IW s) (fo : Nat → Int32) (p1 p2 : Int32) :
    ∃ r fo2, uX7_as nn p1 p2 fo ba ki sp = some (r, fo2) ∧ uX8_as nn p1 p2 fo s = some (r, fo2) := by
  have hV := hI.v
  obtain ⟨en, hle⟩ := hV.n
  have eb : ba = nI (nO s) := hR.ba_.symm.trans en
  unfold uX7_as uX8_as
  simp only [spot7, spot8, kind7, kind8, find78, fnd0, fnd2, fnd5, bather7, bb_b0_s, bb_b1_s, bb_b2_s, bb_b3_s, bb_b4_s, bb_b5_s, bb_b6_s, bb_b7_s, bb_b8_s, bb_b9_s, bb_b10_s, bb_b11_s, bb_b12_s, bb_b13_s, bb_b14_s, bb_b15_s, bb_b16_s]
  rcases win p1 0 9 with ⟨e1, h1, h2⟩ | ⟨e1, -⟩
  · rcases win p2 0 6 with ⟨e2, h3, h4⟩ | ⟨e2, -⟩
    · obtain ⟨j, hj, rfl⟩ := nat_of (n := 9) (by decide) h1 h2
      obtain ⟨v, hv, rfl⟩ := nat_of (n := 6) (by decide) h3 h4
      simp only [e1, e2, bb_b0_s, bb_b1_s, bb_b2_s, bb_b3_s, bb_b4_s, bb_b5_s, bb_b6_s, bb_b7_s, bb_b8_s, bb_b9_s, bb_b10_s, bb_b11_s, bb_b12_s, bb_b13_s, bb_b14_s, bb_b15_s, bb_b16_s, e10, e00, e11, if_true, if_false, a145_, ixn (show j < 10 by omega) (show 10 < 2 ^ 31 by decide), ixn (show 145 + j < 155 by omega) (show 155 < 2 ^ 31 by decide), cln (show j < 2 ^ 31 by omega), cln (show 145 + j < 2 ^ 31 by omega), hR.sp_ (show j < 10 by omega)]
      have hs := hV.sp_ (show j < 10 by omega)
      rw [hR.sp_ (show j < 10 by omega), en] at hs
      rcases hs with e | ⟨b, e, hb⟩
      · rw [e, if_neg (show ¬ (0 : Int32) ≤ -1 by decide), win_f (fun q => absurd q.1 (by decide))]
        exact ⟨_, _, rfl, rfl⟩
      · rw [nI_toInt (by omega)] at hb
        have hb8 : b < 8 := by omega
        obtain ⟨n, hn2⟩ : ∃ n, nO s = n + 1 := ⟨nO s - 1, by omega⟩
        have ew : uX7_isWithin (nI b) 0 (ba - 1) = some 1 := win_t (nI_pos' (by omega)) (by rw [eb, hn2, nI_m1]; exact nI_le (by omega) (by omega))
        obtain ⟨u1, r, u2⟩ := under8 (nn := nn) (by omega) (kO s b) (hV.k hb8).2 v (by omega)
        simp only [e, if_pos (show (0 : Int32) ≤ nI b from nI_pos' (by omega)), ew, bb_b0_s, bb_b1_s, bb_b2_s, bb_b3_s, bb_b4_s, bb_b5_s, bb_b6_s, bb_b7_s, bb_b8_s, bb_b9_s, bb_b10_s, bb_b11_s, bb_b12_s, bb_b13_s, bb_b14_s, bb_b15_s, bb_b16_s, e10, e00, e11, if_true, if_false, ixn hb8 (show 8 < 2 ^ 31 by decide), cln (show b < 2 ^ 31 by omega), its_k hb8, (hV.k hb8).1, (hR.k7 hV hb8).1, u1, u2]
        by_cases h : r = 0
        · simp only [if_pos h]; exact ⟨_, _, rfl, rfl⟩
        · simp only [if_neg h]; exact ⟨_, _, rfl, rfl⟩
    · simp only [e1, e2, bb_b0_s, bb_b1_s, bb_b2_s, bb_b3_s, bb_b4_s, bb_b5_s, bb_b6_s, bb_b7_s, bb_b8_s, bb_b9_s, bb_b10_s, bb_b11_s, bb_b12_s, bb_b13_s, bb_b14_s, bb_b15_s, bb_b16_s, e10, e00, e11, if_true, if_false]
      exact ⟨_, _, rfl, rfl⟩
  · simp only [e1, bb_b0_s, bb_b1_s, bb_b2_s, bb_b3_s, bb_b4_s, bb_b5_s, bb_b6_s, bb_b7_s, bb_b8_s, bb_b9_s, bb_b10_s, bb_b11_s, bb_b12_s, bb_b13_s, bb_b14_s, bb_b15_s, bb_b16_s, e10, e00, e11, if_true, if_false]
    exact ⟨_, _, rfl, rfl⟩
theorem vL_vL (f : Nat → Int64) (k : Nat) (a b : Int64) : vp_updL (vp_updL f k a) k b = vp_updL f k b := by
  funext j
  by_cases h : j = k
  · subst h; rw [pk_uLs, pk_uLs]
  · rw [pk_uLn h, pk_uLn h, pk_uLn h]
def smL (f : Nat → Int64) : Nat → Int64
  | 0 => 0
  | n + 1 => smL f n + f n
theorem smL_cong {f g : Nat → Int64} : ∀ n, (∀ i, i < n → f i = g i) → smL f n = smL g n
  | 0, _ => rfl
  | n + 1, h => by
    show smL f n + f n = smL g n + g n
    rw [smL_cong n (fun i hi => h i (by omega)), h n (by omega)]
theorem boil_in {nn x m : Nat} (hx : 1 ≤ x) (hx4 : x ≤ 40) (hm : m ≤ 40) (hn : 155 < nn) (f : Nat → Int64) (K : (Nat → Int64) → Option (Int64 × (Nat → Int32) × (Nat → Int64))) : bb_loop2 (uX7_boilers_s57 (nI m) (nI x) K) nn 1 (vp_updL f x 0) = K (vp_updL f x (smL (fun d => f (x - (d + 1))) (min m x))) := by
  refine for2 (F1 := fun i => nI (i + 1)) (F2 := fun i => vp_updL f x (smL (fun d => f (x - (d + 1))) i)) (N := min m x) (fun rec2 => ?_) (fun rec2 i hi => ?_) nn (by omega)
  · unfold uX7_boilers_s57
    by_cases h : m ≤ x
    · rw [if_pos (show nI m < nI (min m x + 1) from nI_lt (by omega) (by omega))]
    · by_cases h2 : nI m < nI (min m x + 1)
      · rw [if_pos h2]
      · rw [if_neg h2, if_pos (show nI x < nI (min m x + 1) from nI_lt (by omega) (by omega))]
  · unfold uX7_boilers_s57
    have e : nI x - nI (i + 1) = nI (x - (i + 1)) := pk_sub (by omega)
    rw [if_neg (nI_nlt (by omega) (by omega)), if_neg (nI_nlt (by omega) (by omega)), e, ixn (show x < 41 by omega) (by decide), ixn (show x - (i + 1) < 41 by omega) (by decide), ixn (show x < 41 by omega) (by decide), cln (by omega), cln (by omega), p1_, vL_vL, pk_uLs, pk_uLn (by omega)]
    rfl
def dpB (m : Nat) (f : Nat → Int64) : Nat → (Nat → Int64)
  | 0 => vp_updL f 0 1
  | i + 1 => vp_updL (dpB m f i) (i + 1) (smL (fun d => dpB m f i (i + 1 - (d + 1))) (min m (i + 1)))
theorem dpB_eq (m : Nat) (f g : Nat → Int64) : ∀ i j, j ≤ i → dpB m f i j = dpB m g i j
  | 0, j, h => by
    obtain rfl : j = 0 := by omega
    show vp_updL f 0 1 0 = vp_updL g 0 1 0
    rw [pk_uLs, pk_uLs]
  | i + 1, j, h => by
    unfold dpB
    by_cases e : j = i + 1
    · subst e
      rw [pk_uLs, pk_uLs]
      exact smL_cong _ (fun d hd => dpB_eq m f g i _ (by omega))
    · rw [pk_uLn e, pk_uLn e]
      exact dpB_eq m f g i j (by omega)
theorem op_boilers {nn : Nat} (hn : 155 < nn) (fo : Nat → Int32) (he rb : Nat → Int64) (p1 p2 : Int32) :
    ∃ r fo2 he2 rb2, uX7_boilers nn p1 p2 fo he = some (r, fo2, he2) ∧ uX8_boilers nn p1 p2 fo rb = some (r, fo2, rb2) := by
  unfold uX7_boilers uX8_boilers
  have e6 : uX8_in p1.toInt64 0 40 = uX7_isWithin p1 0 40 := in8 p1 0 40
  have e7 : uX8_in p2.toInt64 1 40 = uX7_isWithin p2 1 40 := in8 p2 1 40
  simp only [find78, fnd0, e6, e7, bb_cut_s, show (0 : Int32).toNatClampNeg = 0 by decide, bb_b0_s, bb_b1_s, bb_b2_s, bb_b3_s, bb_b4_s, bb_b5_s, bb_b6_s, bb_b7_s, bb_b8_s, bb_b9_s, bb_b10_s, bb_b11_s, bb_b12_s, bb_b13_s, bb_b14_s, bb_b15_s, bb_b16_s]
  rcases win p1 0 40 with ⟨e1, h1, h2⟩ | ⟨e1, -⟩
  · rcases win p2 1 40 with ⟨e2, h3, h4⟩ | ⟨e2, -⟩
    · obtain ⟨n, hn4, rfl⟩ := nat_of (n := 40) (by decide) h1 h2
      obtain ⟨m, hm, rfl⟩ := nat_of (n := 40) (by decide) (show (0 : Int32) ≤ p2 by rw [i_le] at h3 ⊢; exact Int.le_trans (by decide) h3) h4
      simp only [e1, e2, bb_b0_s, bb_b1_s, bb_b2_s, bb_b3_s, bb_b4_s, bb_b5_s, bb_b6_s, bb_b7_s, bb_b8_s, bb_b9_s, bb_b10_s, bb_b11_s, bb_b12_s, bb_b13_s, bb_b14_s, bb_b15_s, bb_b16_s, e10, e00, e11, if_true, if_false, ixn (show n < 41 by omega) (show 41 < 2 ^ 31 by decide), cln (show n < 2 ^ 31 by omega)]
      have L7 : ∀ K : (Nat → Int64) → Option (Int64 × (Nat → Int32) × (Nat → Int64)), bb_loop2 (uX7_boilers_s42 nn (nI n) (nI m) K) nn 1 (vp_updL he 0 1) = K (dpB m he n) := by
        intro K
        refine for2 (F1 := fun i => nI (i + 1)) (F2 := fun i => dpB m he i) (N := n) (fun rec2 => ?_) (fun rec2 i hi => ?_) nn (by omega)
        · unfold uX7_boilers_s42
          rw [if_pos (nI_lt (by omega) (by omega))]
        · unfold uX7_boilers_s42
          rw [if_neg (nI_nlt (by omega) (by omega)), ixn (show i + 1 < 41 by omega) (by decide), bb_cut_s, cln (by omega), boil_in (by omega) (by omega) hm hn, p1_]
          rfl
      have L8 : ∀ K : (Nat → Int64) → Option (Int64 × (Nat → Int32) × (Nat → Int64)), bb_loop2 (uX8_boilers_s33 nn (nI n) (nI m) K) nn 0 rb = K (dpB m rb n) := by
        intro K
        refine for2 (F1 := fun i => nI i) (F2 := fun i => match i with | 0 => rb | i + 1 => dpB m rb i) (N := n + 1) (fun rec2 => ?_) (fun rec2 i hi => ?_) nn (by omega)
        · unfold uX8_boilers_s33
          rw [if_pos (nI_lt (by omega) (by omega))]
        · unfold uX8_boilers_s33
          rw [if_neg (nI_nlt (by omega) (by omega))]
          cases i with
          | zero =>
            obtain ⟨q, rfl⟩ : ∃ q, nn = q + 1 := ⟨nn - 1, by omega⟩
            have hin : ∀ (K2 : (Nat → Int64) → Option (Int64 × (Nat → Int32) × (Nat → Int64))) g, bb_loop2 (uX8_boilers_s56 (nI m) (nI 0) K2) (q + 1) 1 g = K2 g := by
              intro K2 g
              show uX8_boilers_s56 (nI m) (nI 0) K2 _ 1 g = K2 g
              unfold uX8_boilers_s56
              rw [if_pos (show nI 0 < (1 : Int32) by decide)]
              split <;> rfl
            simp only [bb_cut_s, hin, if_pos (show nI 0 = 0 from rfl), ixn (show 0 < 41 by omega) (show 41 < 2 ^ 31 by decide), cln (show 0 < 2 ^ 31 by omega), p1_]
            rfl
          | succ i =>
            have h0 : ¬ nI (i + 1) = 0 := fun q => by have := (nI_eq (b := 0) (by omega) (by omega)).mp q; omega
            simp only [bb_cut_s, if_neg h0, ixn (show i + 1 < 41 by omega) (show 41 < 2 ^ 31 by decide), cln (show i + 1 < 2 ^ 31 by omega), p1_]
            exact boil_in (by omega) (by omega) hm hn _ _
      rw [L7, L8]
      by_cases h : nI n = 0
      · simp only [if_pos h]; exact ⟨_, _, _, _, rfl, rfl⟩
      · simp only [if_neg h]
        rw [dpB_eq m he rb n n (Nat.le_refl _)]
        exact ⟨_, _, _, _, rfl, rfl⟩
    · simp only [e1, e2, bb_b0_s, bb_b1_s, bb_b2_s, bb_b3_s, bb_b4_s, bb_b5_s, bb_b6_s, bb_b7_s, bb_b8_s, bb_b9_s, bb_b10_s, bb_b11_s, bb_b12_s, bb_b13_s, bb_b14_s, bb_b15_s, bb_b16_s, e10, e00, e11, if_true, if_false]
      exact ⟨_, _, _, _, rfl, rfl⟩
  · simp only [e1, bb_b0_s, bb_b1_s, bb_b2_s, bb_b3_s, bb_b4_s, bb_b5_s, bb_b6_s, bb_b7_s, bb_b8_s, bb_b9_s, bb_b10_s, bb_b11_s, bb_b12_s, bb_b13_s, bb_b14_s, bb_b15_s, bb_b16_s, e10, e00, e11, if_true, if_false]
    exact ⟨_, _, _, _, rfl, rfl⟩
end COUNT
