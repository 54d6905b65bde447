/-! ===== what will be: ahead, tax, out, caught ===== -/
-- the next rows (fa_first ..): out of kit/laws/NUMBERS.to-paste
def fa_first (p : Nat → Bool) : Nat → Nat
  | 0 => 0
  | n + 1 => if fa_first p n < n then fa_first p n else if p n then n else n + 1
theorem fa_first_le (p : Nat → Bool) : ∀ n, fa_first p n ≤ n
  | 0 => Nat.le_refl 0
  | n + 1 => by
    have ih := fa_first_le p n
    unfold fa_first
    split
    · omega
    · split
      · omega
      · omega
theorem fa_first_no (p : Nat → Bool) : ∀ n k, k < fa_first p n → p k = false
  | 0, k, h => absurd h (Nat.not_lt_zero k)
  | n + 1, k, h => by
    have ih := fa_first_no p n
    have hl := fa_first_le p n
    unfold fa_first at h
    split at h
    · exact ih k h
    · rename_i h1
      split at h
      · exact ih k (by omega)
      · rename_i h2
        by_cases e : k = n
        · subst e
          exact Bool.eq_false_iff.mpr h2
        · exact ih k (by omega)
theorem fa_first_yes (p : Nat → Bool) : ∀ n, fa_first p n < n → p (fa_first p n) = true
  | 0, h => absurd h (Nat.not_lt_zero _)
  | n + 1, h => by
    have ih := fa_first_yes p n
    have hl := fa_first_le p n
    unfold fa_first at h ⊢
    split at h
    · rename_i h1
      rw [if_pos h1]
      exact ih h1
    · rename_i h1
      rw [if_neg h1]
      split at h
      · rename_i h2
        rw [if_pos h2]
        exact h2
      · omega
section AHEAD
variable {s ga st cu ki at_ wi wr ke sp : Nat → Int32} {mi ba si ev z : Int32}
theorem RW.k7 (hR : RW s ga st cu ki at_ wi wr ke sp mi ba si ev z) (hI : IV s) {b : Nat} (hb : b < 8) : ki b = nI (kO s b) ∧ at_ b = nI (aO s b) ∧ wi b = nI (wO s b) ∧ wr b = nI (rO s b) :=
  ⟨(hR.ki_ hb).symm.trans (hI.k hb).1, (hR.at__ hb).symm.trans (hI.a hb).1, (hR.wi_ hb).symm.trans (hI.w_ hb).1, (hR.wr_ hb).symm.trans (hI.r hb).1⟩
theorem RW.q7 (hR : RW s ga st cu ki at_ wi wr ke sp mi ba si ev z) (hI : IV s) : ∀ c, c < 48 → cu c = nI (qO s c) ∧ qO s c < 5 := fun c hc => ⟨(hR.cu_ hc).symm.trans (hI.q hc).1, (hI.q hc).2⟩
theorem take4 {b : Nat} (hb : b < 8) (k a w r : Int32) (fa fk fw fr : Nat → Int32) : uX4_take (nI b) k a w r fa fk fw fr = some (fk b, fa b, fw b, fr b) := by
  unfold uX4_take
  rw [ixn hb (by decide), ixn hb (by decide), ixn hb (by decide), ixn hb (by decide), cln (by omega)]
/-- the row is laid back -/
theorem RW.back (hR : RW s ga st cu ki at_ wi wr ke sp mi ba si ev z) (a t : Nat → Int32) : RW (cp155 (cp155 s a) t) ga st cu ki at_ wi wr ke sp mi ba si ev z := hR.ext (fun j hj => by rw [cp155_lt hj, cp155_lt hj])
theorem IW.back (hI : IW s) (a t : Nat → Int32) : IW (cp155 (cp155 s a) t) := hI.ext (fun j hj => by rw [cp155_lt hj, cp155_lt hj])
theorem op_ahead {nn : Nat} (hn : 155 < nn) (hR : RW s ga st cu ki at_ wi wr ke sp mi ba si ev z) (hI : IW s) (fo as : Nat → Int32) (p1 p2 k0 a0 w0 r0 : Int32) :
    ∃ r fo2 k1 a1 w1 r1 as2 s2, uX7_ahead nn p1 p2 fo k0 a0 w0 r0 si ba at_ cu ga ki st wi wr = some (r, fo2, k1, a1, w1, r1) ∧ uX8_ahead nn p1 p2 as fo s = some (r, as2, fo2, s2) ∧ RW s2 ga st cu ki at_ wi wr ke sp mi ba si ev z ∧ IW s2 := by
  have hV := hI.v
  obtain ⟨en, hle⟩ := hV.n
  have eb : ba = nI (nO s) := hR.ba_.symm.trans en
  unfold uX7_ahead uX8_ahead
  simp only [bather7, bather8, ahead8, hR.ba_, find78, fnd0, seenCells6 (show 48 < nn by omega), lends8 hn, bb_cut_s, bb_b0_s, bb_b1_s, bb_b2_s, bb_b3_s, bb_b4_s, bb_b5_s, bb_b6_s, bb_b7_s, bb_b8_s, bb_b9_s, bb_b10_s, bb_b11_s, bb_b12_s, bb_b13_s, bb_b14_s, bb_b15_s, bb_b16_s]
  rcases win p1 0 (ba - 1) with ⟨e1, h1, h2⟩ | ⟨e1, -⟩
  · rcases win p2 0 100 with ⟨e2, h3, h4⟩ | ⟨e2, -⟩
    · rw [eb] at h2
      obtain ⟨b, hb, rfl⟩ := bat hle h1 h2
      obtain ⟨m, hm, rfl⟩ := nat_of (n := 100) (by decide) h3 h4
      have hb8 : b < 8 := by omega
      obtain ⟨c1, c2, c3, c4⟩ := hR.k7 hV hb8
      simp only [e1, e2, bb_b0_s, bb_b1_s, bb_b2_s, bb_b3_s, bb_b4_s, bb_b5_s, bb_b6_s, bb_b7_s, bb_b8_s, bb_b9_s, bb_b10_s, bb_b11_s, bb_b12_s, bb_b13_s, bb_b14_s, bb_b15_s, bb_b16_s, e10, e00, e11, if_true, if_false, take4 hb8, c1, c2, c3, c4]
      have hs : ∀ c, c < 48 → lb (seenX si ga st) c = sc8 s c := fun c hc => lb78 hR hc
      have L7 : ∀ K : Int32 → Int32 → Option (Int32 × (Nat → Int32) × Int32 × Int32 × Int32 × Int32), bb_loop3 (uX7_ahead_s50 (nI m) (seenX si ga st) (nI (kO s b)) (nI (wO s b)) cu K) nn 0 (nI (aO s b)) (nI (rO s b)) = K (nI (pan (kO s b) (wO s b) (qO s) (sc8 s) (aO s b) m)) (nI (pwn (kO s b) (wO s b) (qO s) (sc8 s) (aO s b) (rO s b) m)) := by
        intro K
        refine for3 (F1 := fun i => nI i) (F2 := fun i => nI (pan (kO s b) (wO s b) (qO s) (sc8 s) (aO s b) i)) (F3 := fun i => nI (pwn (kO s b) (wO s b) (qO s) (sc8 s) (aO s b) (rO s b) i)) (N := m) (fun rec2 => ?_) (fun rec2 i hi => ?_) nn (by omega)
        · unfold uX7_ahead_s50
          rw [if_pos (nI_le (Nat.le_refl _) (by omega))]
        · unfold uX7_ahead_s50
          have hp := pass4 (hV.k hb8).2 (pan_ok (k := kO s b) (q := qO s) (sn := sc8 s) (hV.w_ hb8).2 (hV.a hb8).2 i) (hV.w_ hb8).2 (pwn_ok (k := kO s b) (w := wO s b) (q := qO s) (sn := sc8 s) (a := aO s b) (hV.r hb8).2 i) (hR.q7 hV) (seenX si ga st)
          rw [if_neg (nI_ge hi (by omega)), hp, bb_b2_s, p1_]
          have e5 : pa (kO s b) (pan (kO s b) (wO s b) (qO s) (sc8 s) (aO s b) i) (wO s b) (qO s (pan (kO s b) (wO s b) (qO s) (sc8 s) (aO s b) i)) (lb (seenX si ga st)) = pan (kO s b) (wO s b) (qO s) (sc8 s) (aO s b) (i + 1) := by
            show _ = pa _ _ _ _ _
            unfold pa
            split
            · rename_i ha
              rw [tg_cong ha (hV.w_ hb8).2 hs]
            · rfl
          rw [e5]
          rfl
      have L8 : ∀ K : (Nat → Int32) → Option (Int32 × (Nat → Int32) × (Nat → Int32) × (Nat → Int32)), bb_loop2 (uX8_ahead_s27 nn (nI m) K) nn 0 s = K (ami s m) := by
        intro K
        refine for2 (F1 := fun i => nI i) (F2 := fun i => ami s i) (N := m) (fun rec2 => ?_) (fun rec2 i hi => ?_) nn (by omega)
        · unfold uX8_ahead_s27
          rw [if_pos (nI_le (Nat.le_refl _) (by omega))]
        · unfold uX8_ahead_s27
          rw [if_neg (nI_ge hi (by omega)), aMinute8 (by omega) (hV.ami i), bb_b1_s, p1_]
          rfl
      have e8 : ami s m (106 + 5 * b) = nI (pan (kO s b) (wO s b) (qO s) (sc8 s) (aO s b) m) := by
        rw [((hV.ami m).a hb8).1, (ami_at hV hb m).1]
      rw [L7, L8]
      simp only [its_a hb8, e8, laysBack8 hn, bb_b0_s, bb_b1_s, bb_b2_s, bb_b3_s, bb_b4_s, bb_b5_s, bb_b6_s, bb_b7_s, bb_b8_s, bb_b9_s, bb_b10_s, bb_b11_s, bb_b12_s, bb_b13_s, bb_b14_s, bb_b15_s, bb_b16_s]
      exact ⟨_, _, _, _, _, _, _, _, rfl, rfl, hR.back _ _, hI.back _ _⟩
    · simp only [e1, e2, bb_b0_s, bb_b1_s, bb_b2_s, bb_b3_s, bb_b4_s, bb_b5_s, bb_b6_s, bb_b7_s, bb_b8_s, bb_b9_s, bb_b10_s, bb_b11_s, bb_b12_s, bb_b13_s, bb_b14_s, bb_b15_s, bb_b16_s, e10, e00, e11, if_true, if_false]
      exact ⟨_, _, _, _, _, _, _, _, rfl, rfl, hR, hI⟩
  · simp only [e1, bb_b0_s, bb_b1_s, bb_b2_s, bb_b3_s, bb_b4_s, bb_b5_s, bb_b6_s, bb_b7_s, bb_b8_s, bb_b9_s, bb_b10_s, bb_b11_s, bb_b12_s, bb_b13_s, bb_b14_s, bb_b15_s, bb_b16_s, e10, e00, e11, if_true, if_false]
    exact ⟨_, _, _, _, _, _, _, _, rfl, rfl, hR, hI⟩
end AHEAD
