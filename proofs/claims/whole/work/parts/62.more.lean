/-! ===== of, tax, meet ===== -/
section MORE
variable {s ga st cu ki at_ wi wr ke sp : Nat → Int32} {mi ba si ev z : Int32}
theorem isCaught8 {nn : Nat} (hn : 4 < nn) (hV : IV s) {b : Nat} (hb : b < 8) : uX8_isCaught nn (nI b) s = some (if (decide (aO s b < 48) && sc8 s (aO s b)) then 1 else 0) := by
  unfold uX8_isCaught
  simp only [isIn8 hb hV, its_a hb, (hV.a hb).1, bb_b0_s, bb_b1_s, bb_b2_s, bb_b3_s, bb_b4_s, bb_b5_s, bb_b6_s, bb_b7_s, bb_b8_s, bb_b9_s, bb_b10_s, bb_b11_s, bb_b12_s, bb_b13_s, bb_b14_s, bb_b15_s, bb_b16_s]
  by_cases h : aO s b < 48
  · simp only [if_pos h, e10, e00, e11, if_true, if_false, isSeen8 hn h, bb_b0_s, bb_b1_s, bb_b2_s, bb_b3_s, bb_b4_s, bb_b5_s, bb_b6_s, bb_b7_s, bb_b8_s, bb_b9_s, bb_b10_s, bb_b11_s, bb_b12_s, bb_b13_s, bb_b14_s, bb_b15_s, bb_b16_s]
    cases e : sc8 s (aO s b) <;> simp [h]
  · simp [h]
theorem lit_eq {j m : Nat} (hj : j < 2 ^ 31) (hm : m < 2 ^ 31) : (nI j = nI m) = (j = m) := propext (nI_eq hj hm)
theorem op_of {nn : Nat} (hn : 155 < nn) (hR : RW s ga st cu ki at_ wi wr ke sp mi ba si ev z) (hI : IW s) (fo : Nat → Int32) (p1 p2 k0 a0 w0 r0 : Int32) :
    ∃ r fo2 k1 a1 w1 r1, uX7_of nn p1 p2 fo k0 a0 w0 r0 si ba at_ cu ga ke ki st wi wr = some (r, fo2, k1, a1, w1, r1) ∧ uX8_of nn p1 p2 fo s = some (r, fo2) := by
  have hV := hI.v
  obtain ⟨en, hle⟩ := hV.n
  have eb : ba = nI (nO s) := hR.ba_.symm.trans en
  unfold uX7_of uX8_of
  have e6 : uX8_in p2.toInt64 0 6 = uX7_isWithin p2 0 6 := in8 p2 0 6
  simp only [bather7, bather8, hR.ba_, find78, fnd0, e6, seenCells6 (show 48 < nn by omega), bb_b0_s, bb_b1_s, bb_b2_s, bb_b3_s, bb_b4_s, bb_b5_s, bb_b6_s, bb_b7_s, bb_b8_s, bb_b9_s, bb_b10_s, bb_b11_s, bb_b12_s, bb_b13_s, bb_b14_s, bb_b15_s, bb_b16_s]
  rcases win p1 0 (ba - 1) with ⟨e1, h1, h2⟩ | ⟨e1, -⟩
  · rw [eb] at h2
    obtain ⟨b, hb, rfl⟩ := bat hle h1 h2
    have hb8 : b < 8 := by omega
    obtain ⟨c1, c2, c3, c4⟩ := hR.k7 hV hb8
    simp only [e1, bb_b0_s, bb_b1_s, bb_b2_s, bb_b3_s, bb_b4_s, bb_b5_s, bb_b6_s, bb_b7_s, bb_b8_s, bb_b9_s, bb_b10_s, bb_b11_s, bb_b12_s, bb_b13_s, bb_b14_s, bb_b15_s, bb_b16_s, e10, e00, e11, if_true, if_false, take4 hb8, c1, c2, c3, c4, ixn hb8 (show 8 < 2 ^ 31 by decide), cln (show b < 2 ^ 31 by omega)]
    rcases win p2 0 6 with ⟨e2, h3, h4⟩ | ⟨e2, h3⟩
    · obtain ⟨m, hm, rfl⟩ := nat_of (n := 6) (by decide) h3 h4
      simp only [e2, bb_b0_s, bb_b1_s, bb_b2_s, bb_b3_s, bb_b4_s, bb_b5_s, bb_b6_s, bb_b7_s, bb_b8_s, bb_b9_s, bb_b10_s, bb_b11_s, bb_b12_s, bb_b13_s, bb_b14_s, bb_b15_s, bb_b16_s, e10, e00, e11, if_true, if_false]
      rcases (show m = 0 ∨ m = 1 ∨ m = 2 ∨ m = 3 ∨ m = 4 ∨ m = 5 ∨ m = 6 by omega) with rfl | rfl | rfl | rfl | rfl | rfl | rfl
      · refine ⟨nI (kO s b), fo, _, _, _, _, rfl, ?_⟩
        rw [if_neg (by decide), show nI 0 = 0 from rfl, its_k hb8, (hV.k hb8).1]; rfl
      · refine ⟨nI (aO s b), fo, _, _, _, _, rfl, ?_⟩
        rw [if_neg (by decide), show nI 1 = 1 from rfl, its_a hb8, (hV.a hb8).1]; rfl
      · refine ⟨nI (wO s b), fo, _, _, _, _, rfl, ?_⟩
        rw [if_neg (by decide), show nI 2 = 2 from rfl, its_w hb8, (hV.w_ hb8).1]; rfl
      · refine ⟨nI (rO s b), fo, _, _, _, _, rfl, ?_⟩
        rw [if_neg (by decide), show nI 3 = 3 from rfl, its_r hb8, (hV.r hb8).1]; rfl
      · refine ⟨ke b, fo, _, _, _, _, rfl, ?_⟩
        rw [if_neg (by decide), show nI 4 = 4 from rfl, its_e hb8, hR.ke_ hb8]; rfl
      · rw [if_neg (show ¬ nI 5 = 0 by decide), if_neg (show ¬ nI 5 = 1 by decide), if_neg (show ¬ nI 5 = 2 by decide), if_neg (show ¬ nI 5 = 3 by decide), if_neg (show ¬ nI 5 = 4 by decide), if_pos (show nI 5 = 5 by decide), if_pos (show (5 : Int32) ≤ nI 5 by decide), if_neg (show ¬ nI 5 = 6 by decide)]
        simp only [isIn8 hb8 hV, its_a hb8, (hV.a hb8).1, bb_b0_s, bb_b1_s, bb_b2_s, bb_b3_s, bb_b4_s, bb_b5_s, bb_b6_s, bb_b7_s, bb_b8_s, bb_b9_s, bb_b10_s, bb_b11_s, bb_b12_s, bb_b13_s, bb_b14_s, bb_b15_s, bb_b16_s]
        by_cases h : aO s b < 48
        · have e9 := target4 (hV.k hb8).2 h (hV.w_ hb8).2 (hV.q h).2 (hR.q7 hV _ h).1 (seenX si ga st)
          have e8 := step8 (nn := nn) (by omega) hb8 (hV.k hb8).2 h (hV.w_ hb8).2 (hV.q h).2 (hV.k hb8).1 (hV.a hb8).1 (hV.w_ hb8).1 (hV.q h).1
          rw [tg_cong h (hV.w_ hb8).2 (fun c hc => lb78 hR hc)] at e9
          simp only [if_pos h, e10, e00, e11, if_true, if_false, e8, e9, bb_b0_s, bb_b1_s, bb_b2_s, bb_b3_s, bb_b4_s, bb_b5_s, bb_b6_s, bb_b7_s, bb_b8_s, bb_b9_s, bb_b10_s, bb_b11_s, bb_b12_s, bb_b13_s, bb_b14_s, bb_b15_s, bb_b16_s]
          exact ⟨_, _, _, _, _, _, rfl, rfl⟩
        · have e9 : uX4_target (seenX si ga st) (nI (kO s b)) (nI (aO s b)) (nI (wO s b)) cu = some (nI (aO s b)) := by
            unfold uX4_target
            simp only [out4 (show aO s b = 100 ∨ aO s b = 101 by have := (hV.a hb8).2; omega), bb_b0_s, bb_b1_s, bb_b2_s, bb_b3_s, bb_b4_s, bb_b5_s, bb_b6_s, bb_b7_s, bb_b8_s, bb_b9_s, bb_b10_s, bb_b11_s, bb_b12_s, bb_b13_s, bb_b14_s, bb_b15_s, bb_b16_s, e10, e00, e11, if_true, if_false]
          simp only [if_neg h, e10, e00, e11, if_true, if_false, e9, bb_b0_s, bb_b1_s, bb_b2_s, bb_b3_s, bb_b4_s, bb_b5_s, bb_b6_s, bb_b7_s, bb_b8_s, bb_b9_s, bb_b10_s, bb_b11_s, bb_b12_s, bb_b13_s, bb_b14_s, bb_b15_s, bb_b16_s]
          exact ⟨_, _, _, _, _, _, rfl, rfl⟩
      · rw [if_neg (show ¬ nI 6 = 0 by decide), if_neg (show ¬ nI 6 = 1 by decide), if_neg (show ¬ nI 6 = 2 by decide), if_neg (show ¬ nI 6 = 3 by decide), if_neg (show ¬ nI 6 = 4 by decide), if_neg (show ¬ nI 6 = 5 by decide), if_pos (show nI 6 = 6 by decide), if_pos (show (5 : Int32) ≤ nI 6 by decide), if_pos (show nI 6 = 6 by decide)]
        simp only [isCaught8 (show 4 < nn by omega) hV hb8, isSeenP (hV.a hb8).2 (fun c hc => lb78 hR hc), bb_b0_s, bb_b1_s, bb_b2_s, bb_b3_s, bb_b4_s, bb_b5_s, bb_b6_s, bb_b7_s, bb_b8_s, bb_b9_s, bb_b10_s, bb_b11_s, bb_b12_s, bb_b13_s, bb_b14_s, bb_b15_s, bb_b16_s]
        cases (decide (aO s b < 48) && sc8 s (aO s b))
        · exact ⟨_, _, _, _, _, _, rfl, rfl⟩
        · exact ⟨_, _, _, _, _, _, rfl, rfl⟩
    · simp only [e2, bb_b0_s, bb_b1_s, bb_b2_s, bb_b3_s, bb_b4_s, bb_b5_s, bb_b6_s, bb_b7_s, bb_b8_s, bb_b9_s, bb_b10_s, bb_b11_s, bb_b12_s, bb_b13_s, bb_b14_s, bb_b15_s, bb_b16_s, e10, e00, e11, if_true, if_false]
      have n0 : ∀ m : Nat, m ≤ 6 → ¬ p2 = nI m := fun m hm e => h3 (by subst e; exact ⟨nI_pos' (by omega), nI_le (b := 6) hm (by decide)⟩)
      rw [if_neg (show ¬ p2 = 0 from n0 0 (by omega)), if_neg (show ¬ p2 = 1 from n0 1 (by omega)), if_neg (show ¬ p2 = 2 from n0 2 (by omega)), if_neg (show ¬ p2 = 3 from n0 3 (by omega)), if_neg (show ¬ p2 = 4 from n0 4 (by omega)), if_neg (show ¬ p2 = 5 from n0 5 (by omega)), if_neg (show ¬ p2 = 6 from n0 6 (by omega))]
      exact ⟨_, _, _, _, _, _, rfl, rfl⟩
  · simp only [e1, bb_b0_s, bb_b1_s, bb_b2_s, bb_b3_s, bb_b4_s, bb_b5_s, bb_b6_s, bb_b7_s, bb_b8_s, bb_b9_s, bb_b10_s, bb_b11_s, bb_b12_s, bb_b13_s, bb_b14_s, bb_b15_s, bb_b16_s, e10, e00, e11, if_true, if_false]
    exact ⟨_, _, _, _, _, _, rfl, rfl⟩
def colv (a : Nat) : Int32 := if a < 48 then nI (a % 8) else if a = 100 then 0 else 7
theorem taxed4 {a : Nat} (ha : a < 48 ∨ a = 100 ∨ a = 101) : uX4_taxedColumn (nI a) = some (colv a) := by
  unfold uX4_taxedColumn colv
  by_cases h : a < 48
  · simp only [isInP ha, if_pos h, bb_b0_s, bb_b1_s, bb_b2_s, bb_b3_s, bb_b4_s, bb_b5_s, bb_b6_s, bb_b7_s, bb_b8_s, bb_b9_s, bb_b10_s, bb_b11_s, bb_b12_s, bb_b13_s, bb_b14_s, bb_b15_s, bb_b16_s, e10, e00, e11, if_true, if_false, col0 h]
  · rcases (show a = 100 ∨ a = 101 by omega) with rfl | rfl <;> rfl
theorem column8 {b a : Nat} (hb : b < 8) {t : Nat → Int32} (ha : a < 48 ∨ a = 100 ∨ a = 101) (e : t (106 + 5 * b) = nI a) : uX8_columnOf (nI b) t = some (colv a) := by
  unfold uX8_columnOf colv
  simp only [its_a hb, e, bb_b0_s, bb_b1_s, bb_b2_s, bb_b3_s, bb_b4_s, bb_b5_s, bb_b6_s, bb_b7_s, bb_b8_s, bb_b9_s, bb_b10_s, bb_b11_s, bb_b12_s, bb_b13_s, bb_b14_s, bb_b15_s, bb_b16_s]
  by_cases h : a < 48
  · rw [if_neg (fun q => by have := (nI_eq (b := 100) (by omega) (by decide)).mp q; omega), if_neg (fun q => by have := (nI_eq (b := 101) (by omega) (by decide)).mp q; omega), if_pos h, colI a h]
  · rcases (show a = 100 ∨ a = 101 by omega) with rfl | rfl <;> rfl
def smI (f : Nat → Int32) : Nat → Int32
  | 0 => 0
  | n + 1 => smI f n + f n
theorem op_tax {nn : Nat} (hn : 155 < nn) (hR : RW s ga st cu ki at_ wi wr ke sp mi ba si ev z) (hI : IW s) (fo as : Nat → Int32) (p1 p2 k0 a0 w0 r0 : Int32) :
    ∃ r fo2 k1 a1 w1 r1 as2 s2, uX7_tax nn p1 p2 fo k0 a0 w0 r0 si ba at_ cu ga ki st wi wr = some (r, fo2, k1, a1, w1, r1) ∧ uX8_tax nn p1 p2 as fo s = some (r, as2, fo2, s2) ∧ RW s2 ga st cu ki at_ wi wr ke sp mi ba si ev z ∧ IW s2 := by
  have hV := hI.v
  obtain ⟨en, hle⟩ := hV.n
  have eb : ba = nI (nO s) := hR.ba_.symm.trans en
  unfold uX7_tax uX8_tax
  simp only [bather7, bather8, ahead8, hR.ba_, find78, fnd0, seenCells6 (show 48 < nn by omega), lends8 hn, bb_cut_s, bb_b0_s, bb_b1_s, bb_b2_s, bb_b3_s, bb_b4_s, bb_b5_s, bb_b6_s, bb_b7_s, bb_b8_s, bb_b9_s, bb_b10_s, bb_b11_s, bb_b12_s, bb_b13_s, bb_b14_s, bb_b15_s, bb_b16_s]
  rcases win p1 0 (ba - 1) with ⟨e1, h1, h2⟩ | ⟨e1, -⟩
  · rcases win p2 0 100 with ⟨e2, h3, h4⟩ | ⟨e2, -⟩
    · rw [eb] at h2
      obtain ⟨b, hb, rfl⟩ := bat hle h1 h2
      obtain ⟨m, hm, rfl⟩ := nat_of (n := 100) (by decide) h3 h4
      have hb8 : b < 8 := by omega
      obtain ⟨c1, c2, c3, c4⟩ := hR.k7 hV hb8
      simp only [e1, e2, bb_b0_s, bb_b1_s, bb_b2_s, bb_b3_s, bb_b4_s, bb_b5_s, bb_b6_s, bb_b7_s, bb_b8_s, bb_b9_s, bb_b10_s, bb_b11_s, bb_b12_s, bb_b13_s, bb_b14_s, bb_b15_s, bb_b16_s, e10, e00, e11, if_true, if_false, take4 hb8, c1, c2, c3, c4]
      have L7 : bb_loop4 (uX7_tax_s53 (nI m) (seenX si ga st) fo (nI (kO s b)) (nI (wO s b)) cu) nn 0 0 (nI (aO s b)) (nI (rO s b)) = some (smI (fun i => colv (pan (kO s b) (wO s b) (qO s) (sc8 s) (aO s b) (i + 1))) m, fo, nI (kO s b), nI (pan (kO s b) (wO s b) (qO s) (sc8 s) (aO s b) m), nI (wO s b), nI (pwn (kO s b) (wO s b) (qO s) (sc8 s) (aO s b) (rO s b) m)) := by
        refine for4 (F1 := fun i => smI (fun i => colv (pan (kO s b) (wO s b) (qO s) (sc8 s) (aO s b) (i + 1))) i) (F2 := fun i => nI i) (F3 := fun i => nI (pan (kO s b) (wO s b) (qO s) (sc8 s) (aO s b) i)) (F4 := fun i => nI (pwn (kO s b) (wO s b) (qO s) (sc8 s) (aO s b) (rO s b) i)) (N := m) (fun rec2 => ?_) (fun rec2 i hi => ?_) nn (by omega)
        · unfold uX7_tax_s53
          rw [if_pos (nI_le (Nat.le_refl _) (by omega))]
        · unfold uX7_tax_s53
          rw [if_neg (nI_ge hi (by omega)), passN (hV.k hb8).2 (hV.a hb8).2 (hV.w_ hb8).2 (hV.r hb8).2 (hR.q7 hV) (fun c hc => lb78 hR hc) i]
          simp only [bb_b0_s, bb_b1_s, bb_b2_s, bb_b3_s, bb_b4_s, bb_b5_s, bb_b6_s, bb_b7_s, bb_b8_s, bb_b9_s, bb_b10_s, bb_b11_s, bb_b12_s, bb_b13_s, bb_b14_s, bb_b15_s, bb_b16_s, taxed4 (pan_ok (hV.w_ hb8).2 (hV.a hb8).2 _), p1_]
          rfl
      have L8 : ∀ K : Int32 → (Nat → Int32) → Option (Int32 × (Nat → Int32) × (Nat → Int32) × (Nat → Int32)), bb_loop3 (uX8_tax_s30 nn (nI b) (nI m) K) nn 0 0 s = K (smI (fun i => colv (pan (kO s b) (wO s b) (qO s) (sc8 s) (aO s b) (i + 1))) m) (ami s m) := by
        intro K
        refine for3 (F1 := fun i => smI (fun i => colv (pan (kO s b) (wO s b) (qO s) (sc8 s) (aO s b) (i + 1))) i) (F2 := fun i => nI i) (F3 := fun i => ami s i) (N := m) (fun rec2 => ?_) (fun rec2 i hi => ?_) nn (by omega)
        · unfold uX8_tax_s30
          rw [if_pos (nI_le (Nat.le_refl _) (by omega))]
        · unfold uX8_tax_s30
          have e9 : ami s (i + 1) (106 + 5 * b) = nI (pan (kO s b) (wO s b) (qO s) (sc8 s) (aO s b) (i + 1)) := by rw [((hV.ami (i + 1)).a hb8).1, (ami_at hV hb (i + 1)).1]
          rw [if_neg (nI_ge hi (by omega)), aMinute8 (by omega) (hV.ami i), bb_b1_s]
          show bb_b1 (uX8_columnOf (nI b) (ami s (i + 1))) _ = _
          rw [column8 hb8 (pan_ok (hV.w_ hb8).2 (hV.a hb8).2 _) e9, bb_b1_s, p1_]
          rfl
      rw [L7, L8]
      simp only [laysBack8 hn, bb_b0_s, bb_b1_s, bb_b2_s, bb_b3_s, bb_b4_s, bb_b5_s, bb_b6_s, bb_b7_s, bb_b8_s, bb_b9_s, bb_b10_s, bb_b11_s, bb_b12_s, bb_b13_s, bb_b14_s, bb_b15_s, bb_b16_s]
      exact ⟨_, _, _, _, _, _, _, _, rfl, rfl, hR.back _ _, hI.back _ _⟩
    · simp only [e1, e2, bb_b0_s, bb_b1_s, bb_b2_s, bb_b3_s, bb_b4_s, bb_b5_s, bb_b6_s, bb_b7_s, bb_b8_s, bb_b9_s, bb_b10_s, bb_b11_s, bb_b12_s, bb_b13_s, bb_b14_s, bb_b15_s, bb_b16_s, e10, e00, e11, if_true, if_false]
      exact ⟨_, _, _, _, _, _, _, _, rfl, rfl, hR, hI⟩
  · simp only [e1, bb_b0_s, bb_b1_s, bb_b2_s, bb_b3_s, bb_b4_s, bb_b5_s, bb_b6_s, bb_b7_s, bb_b8_s, bb_b9_s, bb_b10_s, bb_b11_s, bb_b12_s, bb_b13_s, bb_b14_s, bb_b15_s, bb_b16_s, e10, e00, e11, if_true, if_false]
    exact ⟨_, _, _, _, _, _, _, _, rfl, rfl, hR, hI⟩
theorem so_meet {nn : Nat} (hV : IV s) {b c : Nat} (hb : b < nO s) (hc : c < nO s) (n : Nat) : uX8_isSo nn (nI b) 2 (nI c) (ami s n) = some (if (decide (pan (kO s b) (wO s b) (qO s) (sc8 s) (aO s b) n < 48) && decide (pan (kO s b) (wO s b) (qO s) (sc8 s) (aO s b) n = pan (kO s c) (wO s c) (qO s) (sc8 s) (aO s c) n)) then 1 else 0) := by
  have hle := hV.n.2
  have ea := ((hV.ami n).a (show b < 8 by omega)).1
  have ec := ((hV.ami n).a (show c < 8 by omega)).1
  rw [(ami_at hV hb n).1] at ea
  rw [(ami_at hV hc n).1] at ec
  have hok := pan_ok (k := kO s b) (q := qO s) (sn := sc8 s) (hV.w_ (show b < 8 by omega)).2 (hV.a (show b < 8 by omega)).2 n
  have hok2 := pan_ok (k := kO s c) (q := qO s) (sn := sc8 s) (hV.w_ (show c < 8 by omega)).2 (hV.a (show c < 8 by omega)).2 n
  unfold uX8_isSo
  rw [if_neg (show ¬ (2 : Int32) = 0 by decide), if_neg (show ¬ (2 : Int32) = 1 by decide), isInN hV hb n]
  by_cases h : pan (kO s b) (wO s b) (qO s) (sc8 s) (aO s b) n < 48
  · simp only [if_pos h, bb_b0_s, bb_b1_s, bb_b2_s, bb_b3_s, bb_b4_s, bb_b5_s, bb_b6_s, bb_b7_s, bb_b8_s, bb_b9_s, bb_b10_s, bb_b11_s, bb_b12_s, bb_b13_s, bb_b14_s, bb_b15_s, bb_b16_s, e10, e00, e11, if_true, if_false, its_a (show b < 8 by omega), its_a (show c < 8 by omega), ea, ec, lit_eq (show pan (kO s b) (wO s b) (qO s) (sc8 s) (aO s b) n < 2 ^ 31 by omega) (show pan (kO s c) (wO s c) (qO s) (sc8 s) (aO s c) n < 2 ^ 31 by omega)]
    by_cases h2 : pan (kO s b) (wO s b) (qO s) (sc8 s) (aO s b) n = pan (kO s c) (wO s c) (qO s) (sc8 s) (aO s c) n
    · rw [if_pos h2]; simp [h, h2]; omega
    · rw [if_neg h2]; simp [h, h2]
  · simp [h, bb_b1_s]
theorem op_meet {nn : Nat} (hn : 155 < nn) (hR : RW s ga st cu ki at_ wi wr ke sp mi ba si ev z) (hI : IW s) (fo as : Nat → Int32) (p1 p2 j0 j1 j2 j3 k0 a0 w0 r0 : Int32) :
    ∃ r fo2 x0 x1 x2 x3 k1 a1 w1 r1 as2 s2, uX7_meet nn p1 p2 fo j0 j1 j2 j3 k0 a0 w0 r0 si ba at_ cu ga ki st wi wr = some (r, fo2, x0, x1, x2, x3, k1, a1, w1, r1) ∧ uX8_meet nn p1 p2 as fo s = some (r, as2, fo2, s2) ∧ RW s2 ga st cu ki at_ wi wr ke sp mi ba si ev z ∧ IW s2 := by
  have hV := hI.v
  obtain ⟨en, hle⟩ := hV.n
  have eb : ba = nI (nO s) := hR.ba_.symm.trans en
  unfold uX7_meet uX8_meet
  simp only [bather7, bather8, hR.ba_, find78, fnd0, fnd3, seenCells6 (show 48 < nn by omega), bb_cut_s, bb_b0_s, bb_b1_s, bb_b2_s, bb_b3_s, bb_b4_s, bb_b5_s, bb_b6_s, bb_b7_s, bb_b8_s, bb_b9_s, bb_b10_s, bb_b11_s, bb_b12_s, bb_b13_s, bb_b14_s, bb_b15_s, bb_b16_s]
  rcases win p1 0 (ba - 1) with ⟨e1, h1, h2⟩ | ⟨e1, -⟩
  · rcases win p2 0 (ba - 1) with ⟨e2, h3, h4⟩ | ⟨e2, -⟩
    · simp only [e1, e2, bb_b0_s, bb_b1_s, bb_b2_s, bb_b3_s, bb_b4_s, bb_b5_s, bb_b6_s, bb_b7_s, bb_b8_s, bb_b9_s, bb_b10_s, bb_b11_s, bb_b12_s, bb_b13_s, bb_b14_s, bb_b15_s, bb_b16_s, e10, e00, e11, if_true, if_false]
      by_cases hp : p1 = p2
      · simp only [if_pos hp]
        exact ⟨_, _, _, _, _, _, _, _, _, _, _, _, rfl, rfl, hR, hI⟩
      · rw [eb] at h2 h4
        obtain ⟨b, hb, rfl⟩ := bat hle h1 h2
        obtain ⟨c, hc, rfl⟩ := bat hle h3 h4
        have hb8 : b < 8 := by omega
        have hc8 : c < 8 := by omega
        obtain ⟨c1, c2, c3, c4⟩ := hR.k7 hV hb8
        obtain ⟨d1, d2, d3, d4⟩ := hR.k7 hV hc8
        have e3 := until8 hn hV (fun n _ => so_meet hV hb hc n) as
        have hT := fa_first_le (fun n => decide (pan (kO s b) (wO s b) (qO s) (sc8 s) (aO s b) n < 48) && decide (pan (kO s b) (wO s b) (qO s) (sc8 s) (aO s b) n = pan (kO s c) (wO s c) (qO s) (sc8 s) (aO s c) n)) 101
        have hno := fa_first_no (fun n => decide (pan (kO s b) (wO s b) (qO s) (sc8 s) (aO s b) n < 48) && decide (pan (kO s b) (wO s b) (qO s) (sc8 s) (aO s b) n = pan (kO s c) (wO s c) (qO s) (sc8 s) (aO s c) n)) 101
        have hyes := fa_first_yes (fun n => decide (pan (kO s b) (wO s b) (qO s) (sc8 s) (aO s b) n < 48) && decide (pan (kO s b) (wO s b) (qO s) (sc8 s) (aO s b) n = pan (kO s c) (wO s c) (qO s) (sc8 s) (aO s c) n)) 101
        generalize fa_first (fun n => decide (pan (kO s b) (wO s b) (qO s) (sc8 s) (aO s b) n < 48) && decide (pan (kO s b) (wO s b) (qO s) (sc8 s) (aO s b) n = pan (kO s c) (wO s c) (qO s) (sc8 s) (aO s c) n)) 101 = T at e3 hT hno hyes
        simp only [if_neg hp, take4 hb8, take4 hc8, c1, c2, c3, c4, d1, d2, d3, d4, e3, orNone8 hT, bb_b0_s, bb_b1_s, bb_b2_s, bb_b3_s, bb_b4_s, bb_b5_s, bb_b6_s, bb_b7_s, bb_b8_s, bb_b9_s, bb_b10_s, bb_b11_s, bb_b12_s, bb_b13_s, bb_b14_s, bb_b15_s, bb_b16_s]
        have okb := pan_ok (k := kO s b) (q := qO s) (sn := sc8 s) (hV.w_ hb8).2 (hV.a hb8).2
        have okc := pan_ok (k := kO s c) (q := qO s) (sn := sc8 s) (hV.w_ hc8).2 (hV.a hc8).2
        have L7 : ∀ K : Int32 → Int32 → Int32 → Int32 → Option (Int32 × (Nat → Int32) × Int32 × Int32 × Int32 × Int32 × Int32 × Int32 × Int32 × Int32), bb_loop5 (uX7_meet_s61 (seenX si ga st) fo (nI (kO s c)) (nI (wO s c)) (nI (kO s b)) (nI (wO s b)) cu K) nn 0 (nI (aO s c)) (nI (rO s c)) (nI (aO s b)) (nI (rO s b)) = if T ≤ 100 then some (nI T, fo, nI (kO s c), nI (pan (kO s c) (wO s c) (qO s) (sc8 s) (aO s c) T), nI (wO s c), nI (pwn (kO s c) (wO s c) (qO s) (sc8 s) (aO s c) (rO s c) T), nI (kO s b), nI (pan (kO s b) (wO s b) (qO s) (sc8 s) (aO s b) T), nI (wO s b), nI (pwn (kO s b) (wO s b) (qO s) (sc8 s) (aO s b) (rO s b) T)) else K (nI (pan (kO s c) (wO s c) (qO s) (sc8 s) (aO s c) T)) (nI (pwn (kO s c) (wO s c) (qO s) (sc8 s) (aO s c) (rO s c) T)) (nI (pan (kO s b) (wO s b) (qO s) (sc8 s) (aO s b) T)) (nI (pwn (kO s b) (wO s b) (qO s) (sc8 s) (aO s b) (rO s b) T)) := by
          intro K
          refine for5 (F1 := fun i => nI i) (F2 := fun i => nI (pan (kO s c) (wO s c) (qO s) (sc8 s) (aO s c) i)) (F3 := fun i => nI (pwn (kO s c) (wO s c) (qO s) (sc8 s) (aO s c) (rO s c) i)) (F4 := fun i => nI (pan (kO s b) (wO s b) (qO s) (sc8 s) (aO s b) i)) (F5 := fun i => nI (pwn (kO s b) (wO s b) (qO s) (sc8 s) (aO s b) (rO s b) i)) (N := T) (fun rec2 => ?_) (fun rec2 i hi => ?_) nn (by omega)
          · unfold uX7_meet_s61
            by_cases h : T ≤ 100
            · have hy := hyes (by omega)
              simp only [Bool.and_eq_true, decide_eq_true_eq] at hy
              rw [if_neg (show ¬ (100 : Int32) < nI T from by rw [i_lt, show ((100 : Int32).toInt) = 100 from by decide, nI_toInt (by omega)]; omega), isInP (okb T), if_pos hy.1, if_pos h]
              simp only [bb_b0_s, bb_b1_s, bb_b2_s, bb_b3_s, bb_b4_s, bb_b5_s, bb_b6_s, bb_b7_s, bb_b8_s, bb_b9_s, bb_b10_s, bb_b11_s, bb_b12_s, bb_b13_s, bb_b14_s, bb_b15_s, bb_b16_s, e10, e00, e11, if_true, if_false, bb_cut_s, lit_eq (show pan (kO s b) (wO s b) (qO s) (sc8 s) (aO s b) T < 2 ^ 31 by omega) (show pan (kO s c) (wO s c) (qO s) (sc8 s) (aO s c) T < 2 ^ 31 by have := okc T; omega), if_pos hy.2]
            · rw [if_pos (show (100 : Int32) < nI T from nI_lt (a := 100) (by omega) (by omega)), if_neg h]
          · unfold uX7_meet_s61
            have hz := hno i hi
            have ob := okb i
            have oc := okc i
            rw [if_neg (show ¬ (100 : Int32) < nI i from by rw [i_lt, show ((100 : Int32).toInt) = 100 from by decide, nI_toInt (by omega)]; omega), isInP ob]
            simp only [bb_b0_s, bb_b1_s, bb_b2_s, bb_b3_s, bb_b4_s, bb_b5_s, bb_b6_s, bb_b7_s, bb_b8_s, bb_b9_s, bb_b10_s, bb_b11_s, bb_b12_s, bb_b13_s, bb_b14_s, bb_b15_s, bb_b16_s, bb_cut_s, passN (hV.k hb8).2 (hV.a hb8).2 (hV.w_ hb8).2 (hV.r hb8).2 (hR.q7 hV) (fun c hc => lb78 hR hc) i, passN (hV.k hc8).2 (hV.a hc8).2 (hV.w_ hc8).2 (hV.r hc8).2 (hR.q7 hV) (fun c hc => lb78 hR hc) i, p1_]
            by_cases h : pan (kO s b) (wO s b) (qO s) (sc8 s) (aO s b) i < 48
            · have h2 : ¬ pan (kO s b) (wO s b) (qO s) (sc8 s) (aO s b) i = pan (kO s c) (wO s c) (qO s) (sc8 s) (aO s c) i := by
                intro q
                simp only [Bool.and_eq_false_iff, decide_eq_false_iff_not] at hz
                rcases hz with q2 | q2
                · exact q2 h
                · exact q2 q
              simp only [if_pos h, e10, e00, e11, if_true, if_false, lit_eq (show pan (kO s b) (wO s b) (qO s) (sc8 s) (aO s b) i < 2 ^ 31 by omega) (show pan (kO s c) (wO s c) (qO s) (sc8 s) (aO s c) i < 2 ^ 31 by omega), if_neg h2]
            · simp only [if_neg h, e10, e00, e11, if_true, if_false]
        rw [L7]
        by_cases h : T ≤ 100
        · simp only [if_pos h, bb_b0_s, bb_b1_s, bb_b2_s, bb_b3_s, bb_b4_s, bb_b5_s, bb_b6_s, bb_b7_s, bb_b8_s, bb_b9_s, bb_b10_s, bb_b11_s, bb_b12_s, bb_b13_s, bb_b14_s, bb_b15_s, bb_b16_s]
          exact ⟨_, _, _, _, _, _, _, _, _, _, _, _, rfl, rfl, hR.back _ _, hI.back _ _⟩
        · simp only [if_neg h, bb_b0_s, bb_b1_s, bb_b2_s, bb_b3_s, bb_b4_s, bb_b5_s, bb_b6_s, bb_b7_s, bb_b8_s, bb_b9_s, bb_b10_s, bb_b11_s, bb_b12_s, bb_b13_s, bb_b14_s, bb_b15_s, bb_b16_s]
          exact ⟨_, _, _, _, _, _, _, _, _, _, _, _, rfl, rfl, hR.back _ _, hI.back _ _⟩
    · simp only [e1, e2, bb_b0_s, bb_b1_s, bb_b2_s, bb_b3_s, bb_b4_s, bb_b5_s, bb_b6_s, bb_b7_s, bb_b8_s, bb_b9_s, bb_b10_s, bb_b11_s, bb_b12_s, bb_b13_s, bb_b14_s, bb_b15_s, bb_b16_s, e10, e00, e11, if_true, if_false]
      exact ⟨_, _, _, _, _, _, _, _, _, _, _, _, rfl, rfl, hR, hI⟩
  · simp only [e1, bb_b0_s, bb_b1_s, bb_b2_s, bb_b3_s, bb_b4_s, bb_b5_s, bb_b6_s, bb_b7_s, bb_b8_s, bb_b9_s, bb_b10_s, bb_b11_s, bb_b12_s, bb_b13_s, bb_b14_s, bb_b15_s, bb_b16_s, e10, e00, e11, if_true, if_false]
    exact ⟨_, _, _, _, _, _, _, _, _, _, _, _, rfl, rfl, hR, hI⟩
end MORE
