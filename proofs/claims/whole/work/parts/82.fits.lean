/-! ===== fits ===== -/
section FITS
variable {s ga st cu ki at_ wi wr ke sp : Nat → Int32} {mi ba si ev z : Int32} {bo so nu B L : Nat → Int32} {N : Nat → Nat → Int32} {n fo : Nat → Int32}
def okW (s n : Nat → Int32) (b i : Nat) : Bool := decide (n i = -1) || decide (n i = nI (pwn (kO s b) (wO s b) (qO s) (sc8 s) (aO s b) (rO s b) i))
theorem okW_cong {n n2 : Nat → Int32} {b i : Nat} (h : n i = n2 i) : okW s n b i = okW s n2 b i := by unfold okW; rw [h]
theorem allB_cong {p q : Nat → Bool} : ∀ m, (∀ i, i < m → p i = q i) → allB p m = allB q m
  | 0, _ => rfl
  | m + 1, h => by
    unfold allB
    rw [allB_cong m (fun i hi => h i (by omega)), h m (by omega)]
theorem hasW {nn m b : Nat} (hn : 155 < nn) (hm : m ≤ 40) (hR : RW s ga st cu ki at_ wi wr ke sp mi ba si ev z) (hV : IV s) (hb : b < 8) : ∃ a1 r1, uX4_hasWrinkles nn (seenX si ga st) (nI m) (nI (kO s b)) (nI (aO s b)) (nI (wO s b)) (nI (rO s b)) n cu = some (b32 (allB (okW s n b) m), a1, r1) := by
  unfold uX4_hasWrinkles
  refine inv3 (fun i x1 x2 x3 => x1 = nI i ∧ x2 = nI (pan (kO s b) (wO s b) (qO s) (sc8 s) (aO s b) i) ∧ x3 = nI (pwn (kO s b) (wO s b) (qO s) (sc8 s) (aO s b) (rO s b) i) ∧ allB (okW s n b) i = true) m (fun o => ∃ a1 r1, o = some (b32 (allB (okW s n b) m), a1, r1)) ?_ ?_ nn (by omega) 0 _ _ ⟨rfl, rfl, rfl, rfl⟩
  · rintro rec2 x1 x2 x3 ⟨rfl, rfl, rfl, h⟩
    unfold uX4_hasWrinkles_s3
    rw [if_pos (nI_le (Nat.le_refl _) (by omega)), h]
    exact ⟨_, _, rfl⟩
  · rintro rec2 i x1 x2 x3 hi ⟨rfl, rfl, rfl, h⟩
    unfold uX4_hasWrinkles_s3
    have hp := passN (hV.k hb).2 (hV.a hb).2 (hV.w_ hb).2 (hV.r hb).2 (hR.q7 hV) (fun c hc => lb78 hR hc) i
    simp only [if_neg (nI_ge hi (show m < 2 ^ 31 by omega)), ixn (show i < 40 by omega) (show 40 < 2 ^ 31 by decide), cln (show i < 2 ^ 31 by omega), bb_cut_s, hp, p1_, bb_b2_s]
    by_cases g1 : n i = -1
    · refine Or.inl ⟨_, _, _, ⟨rfl, rfl, rfl, ?_⟩, if_pos g1⟩
      show (allB (okW s n b) i && okW s n b i) = true
      rw [h]
      unfold okW
      simp [g1]
    · by_cases g2 : n i = nI (pwn (kO s b) (wO s b) (qO s) (sc8 s) (aO s b) (rO s b) i)
      · refine Or.inl ⟨_, _, _, ⟨rfl, rfl, rfl, ?_⟩, ?_⟩
        · show (allB (okW s n b) i && okW s n b i) = true
          rw [h]
          unfold okW
          simp [g2]
        · rw [if_neg g1, if_pos g2]
      · refine Or.inr ?_
        rw [if_neg g1, if_neg g2]
        have e : allB (okW s n b) m = false := by
          cases q : allB (okW s n b) m
          · rfl
          · have := (allB_iff _ m).mp q i hi
            unfold okW at this
            simp [g1, g2] at this
        rw [e]
        exact ⟨_, _, rfl⟩
theorem fits7 {nn m : Nat} (hn : 155 < nn) (hm : m ≤ 40) (hR : RW s ga st cu ki at_ wi wr ke sp mi ba si ev z) (hV : IV s) (k0 a0 w0 r0 : Int32) : ∃ k1 a1 w1 r1, bb_loop6 (uX7_fits_s52 nn (seenX si ga st) fo ba (nI m) at_ cu ki wi wr n) nn 0 0 k0 a0 w0 r0 = some (orI (gb (fun b => allB (okW s n b) m)) (nO s), fo, k1, a1, w1, r1) := by
  obtain ⟨en, hle⟩ := hV.n
  have eb : ba = nI (nO s) := hR.ba_.symm.trans en
  refine inv6 (fun i x1 x2 _ _ _ _ => x1 = orI (gb (fun b => allB (okW s n b) m)) i ∧ x2 = nI i) (nO s) (fun o => ∃ k1 a1 w1 r1, o = some (orI (gb (fun b => allB (okW s n b) m)) (nO s), fo, k1, a1, w1, r1)) ?_ ?_ nn (by omega) 0 0 k0 a0 w0 r0 ⟨rfl, rfl⟩
  · rintro rec2 x1 x2 k1 a1 w1 r1 ⟨rfl, rfl⟩
    refine ⟨k1, a1, w1, r1, ?_⟩
    unfold uX7_fits_s52
    rw [eb, if_pos (nI_le (Nat.le_refl _) (by omega))]
  · rintro rec2 i x1 x2 k1 a1 w1 r1 hi ⟨rfl, rfl⟩
    refine Or.inl ?_
    have hb8 : i < 8 := by omega
    obtain ⟨c1, c2, c3, c4⟩ := hR.k7 hV hb8
    obtain ⟨a2, r2, e2⟩ := hasW (n := n) hn hm hR hV hb8
    unfold uX7_fits_s52
    rw [eb, if_neg (nI_ge hi (by omega)), take4 hb8, bb_b4_s, c1, c2, c3, c4, e2, bb_b3_s, bb_cut_s, p1_]
    cases g : allB (okW s n i) m
    · refine ⟨_, _, _, _, _, _, ⟨?_, rfl⟩, if_pos rfl⟩
      rw [orI, gb, g, if_neg (by decide), or0]
    · refine ⟨_, _, _, _, _, _, ⟨?_, rfl⟩, if_neg (by decide)⟩
      rw [orI, gb, g, if_pos rfl]
theorem fits8 {nn m k : Nat} (hn : 155 < nn) (hm : m ≤ 40) (hk : k < 4) (hso : so k = nI m) (hV : IV s) (K : Int32 → (Nat → Int32) → Option (Int32 × (Nat → Int32) × (Nat → Int32) × (Nat → Int32))) : bb_loop3 (uX8_fits_s34 nn (nI k) nu so K) nn (((1 : Int32) <<< (nI (nO s) &&& 31)) - 1) 0 s = K (orI (gb (fun b => allB (okW s (fun i => nu (40 * k + i)) b) m)) (nO s)) (ami s m) := by
  obtain ⟨en, hle⟩ := hV.n
  refine inv3 (fun i x1 x2 (f : Nat → Int32) => x2 = nI i ∧ f = ami s i ∧ ∀ j, j < 32 → ib x1 j = (decide (j < nO s) && allB (okW s (fun i => nu (40 * k + i)) j) i)) m (fun o => o = K (orI (gb (fun b => allB (okW s (fun i => nu (40 * k + i)) b) m)) (nO s)) (ami s m)) ?_ ?_ nn (by omega) _ 0 s ⟨rfl, rfl, fun j hj => by rw [ib_full _ (by omega) j hj]; exact (Bool.and_true _).symm⟩
  · rintro rec2 x1 x2 f ⟨rfl, rfl, h⟩
    unfold uX8_fits_s34
    rw [ixn hk (by decide), cln (by omega), hso, if_pos (nI_le (Nat.le_refl _) (by omega))]
    congr 1
    exact ib_ext (fun j hj => by rw [h j hj, ib_orI _ hj _ (by omega)])
  · rintro rec2 i x1 x2 f hi ⟨rfl, rfl, h⟩
    refine Or.inl ?_
    unfold uX8_fits_s34
    rw [ixn hk (by decide), cln (by omega), hso, if_neg (nI_ge hi (by omega)), m40_, nAdd, ixn (show 40 * k + i < 160 by omega) (by decide), bb_cut_s, cln (by omega), p1_]
    have inner : ∀ c : Int32 → Option (Int32 × (Nat → Int32) × (Nat → Int32) × (Nat → Int32)), ∃ y, (∀ j, j < 32 → ib y j = (decide (j < nO s) && allB (okW s (fun i => nu (40 * k + i)) j) (i + 1))) ∧ bb_loop2 (uX8_fits_s62 (nu (40 * k + i)) (ami s i) c) nn x1 0 = c y := by
      intro c
      have en2 : ami s i 1 = nI (nO s) := by
        have := ((hV.ami i).n).1
        rw [nO_ami] at this
        exact this
      refine inv2 (fun b y1 y2 => y2 = nI b ∧ ∀ j, j < 32 → ib y1 j = (decide (j < nO s) && (allB (okW s (fun i => nu (40 * k + i)) j) i && (!decide (j < b) || okW s (fun i => nu (40 * k + i)) j i)))) (nO s) (fun o => ∃ y, (∀ j, j < 32 → ib y j = (decide (j < nO s) && allB (okW s (fun i => nu (40 * k + i)) j) (i + 1))) ∧ o = c y) ?_ ?_ nn (by omega) x1 0 ⟨rfl, fun j hj => by rw [h j hj]; simp⟩
      · rintro r2 y1 y2 ⟨rfl, hy⟩
        refine ⟨y1, fun j hj => ?_, ?_⟩
        · rw [hy j hj, allB]
          cases decide (j < nO s) <;> simp
        · unfold uX8_fits_s62
          rw [cl1, en2, if_pos (nI_le (Nat.le_refl _) (by omega))]
      · rintro r2 b y1 y2 hb ⟨rfl, hy⟩
        refine Or.inl ?_
        have hb8 : b < 8 := by omega
        have ew : ami s i (108 + 5 * b) = nI (pwn (kO s b) (wO s b) (qO s) (sc8 s) (aO s b) (rO s b) i) := by
          rw [((hV.ami i).r hb8).1, (ami_at hV hb i).2]
        unfold uX8_fits_s62
        simp only [cl1, en2, if_neg (nI_ge hb (show nO s < 2 ^ 31 by omega)), bb_cut_s, its_r hb8, ew, bb_b1_s, p1_]
        have next1 : okW s (fun i => nu (40 * k + i)) b i = true → ∀ j, j < 32 → ib (y1 &&& (-1)) j = (decide (j < nO s) && (allB (okW s (fun i => nu (40 * k + i)) j) i && (!decide (j < b + 1) || okW s (fun i => nu (40 * k + i)) j i))) := fun hok j hj => by
          rw [ib_and, ib_m1 j hj, Bool.and_true, hy j hj]
          by_cases e : j = b
          · subst e
            rw [hok]
            simp
          · have e2 : decide (j < b + 1) = decide (j < b) := by
              rw [decide_eq_decide]
              omega
            rw [e2]
        by_cases g1 : nu (40 * k + i) = -1
        · refine ⟨_, _, ⟨rfl, next1 ?_⟩, if_pos g1⟩
          unfold okW
          simp [g1]
        · by_cases g2 : nu (40 * k + i) = nI (pwn (kO s b) (wO s b) (qO s) (sc8 s) (aO s b) (rO s b) i)
          · refine ⟨_, _, ⟨rfl, next1 ?_⟩, ?_⟩
            · unfold okW
              simp [g2]
            · rw [if_neg g1, if_pos g2]
          · have hno : okW s (fun i => nu (40 * k + i)) b i = false := by
              unfold okW
              simp [g1, g2]
            refine ⟨y1 &&& (((1 : Int32) <<< (nI b &&& 31)) ^^^ (-1)), _, ⟨rfl, fun j hj => ?_⟩, ?_⟩
            · rw [ib_and, ib_xor, ib_m1 j hj, ib_one b (by omega) j hj, hy j hj]
              by_cases e : j = b
              · subst e
                rw [hno]
                simp
              · have e2 : decide (j < b + 1) = decide (j < b) := by
                  rw [decide_eq_decide]
                  omega
                rw [e2]
                simp [e]
            · rw [if_neg g1, if_neg g2]
    obtain ⟨y, hy, ey⟩ := inner (fun x3_28 => bb_b1 (uX8_aMinute nn (ami s i)) (fun w30 => rec2 x3_28 (nI (i + 1)) w30))
    rw [ey, aMinute8 (by omega) (hV.ami i), bb_b1_s]
    exact ⟨_, _, _, ⟨rfl, rfl, hy⟩, rfl⟩
theorem op_fits {nn : Nat} (hn : 155 < nn) (hR : RW s ga st cu ki at_ wi wr ke sp mi ba si ev z) (hI : IW s) (hS : SHF bo so nu B L N) (fo as : Nat → Int32) (p1 k0 a0 w0 r0 : Int32) :
    ∃ r fo2 k1 a1 w1 r1 as2 s2, uX7_fits nn p1 fo k0 a0 w0 r0 si ba (B 0) (L 0) (B 1) (L 1) (B 2) (L 2) (B 3) (L 3) at_ cu ga ki st wi wr (N 0) (N 1) (N 2) (N 3) = some (r, fo2, k1, a1, w1, r1) ∧ uX8_fits nn p1 as bo fo nu s so = some (r, as2, fo2, s2) ∧ RW s2 ga st cu ki at_ wi wr ke sp mi ba si ev z ∧ IW s2 := by
  have hV := hI.v
  obtain ⟨en, hle⟩ := hV.n
  unfold uX7_fits uX8_fits
  simp only [sheet7, find78, fnd0, fnd5, miss1, seenCells6 (show 48 < nn by omega), bb_cut_s, lends8 hn, laysBack8 hn, cl1, en, bb_b0_s, bb_b1_s, bb_b2_s, bb_b3_s, bb_b4_s, bb_b5_s, bb_b6_s, bb_b7_s, bb_b8_s, bb_b9_s, bb_b10_s, bb_b11_s, bb_b12_s, bb_b13_s, bb_b14_s, bb_b15_s, bb_b16_s]
  rcases win p1 0 3 with ⟨e1, a1, b1⟩ | ⟨e1, -⟩
  · obtain ⟨k, hk, rfl⟩ := nat_of (n := 3) (by decide) a1 b1
    have hk4 : k < 4 := by omega
    obtain ⟨q1, q2, m, q3, q4, q5⟩ := hS k hk4
    simp only [e1, lacks8 hk4, bb_b0_s, bb_b1_s, bb_b2_s, bb_b3_s, bb_b4_s, bb_b5_s, bb_b6_s, bb_b7_s, bb_b8_s, bb_b9_s, bb_b10_s, bb_b11_s, bb_b12_s, bb_b13_s, bb_b14_s, bb_b15_s, bb_b16_s, e10, e00, e11, if_true, if_false]
    by_cases hz : bo k = 0
    · rw [hz] at q1
      simp only [hz, e10, e00, e11, if_true, if_false, fnd5, if_neg (show ¬ (5 : Int32) < 0 by decide), bb_b0_s, bb_b1_s, bb_b2_s, bb_b3_s, bb_b4_s, bb_b5_s, bb_b6_s, bb_b7_s, bb_b8_s, bb_b9_s, bb_b10_s, bb_b11_s, bb_b12_s, bb_b13_s, bb_b14_s, bb_b15_s, bb_b16_s]
      refine ⟨-1000006, nfd 5 fo, k0, a0, w0, r0, as, s, ?_, rfl, hR, hI⟩
      rcases k4 hk with rfl | rfl | rfl | rfl
      · simp only [n00, ← q1, e10, e00, e11, if_true, if_false, bb_b0_s, bb_b1_s, bb_b2_s, bb_b3_s, bb_b4_s, bb_b5_s, bb_b6_s, bb_b7_s, bb_b8_s, bb_b9_s, bb_b10_s, bb_b11_s, bb_b12_s, bb_b13_s, bb_b14_s, bb_b15_s, bb_b16_s]
      · simp only [n10, n11, ← q1, e10, e00, e11, if_true, if_false, bb_b0_s, bb_b1_s, bb_b2_s, bb_b3_s, bb_b4_s, bb_b5_s, bb_b6_s, bb_b7_s, bb_b8_s, bb_b9_s, bb_b10_s, bb_b11_s, bb_b12_s, bb_b13_s, bb_b14_s, bb_b15_s, bb_b16_s]
      · simp only [n20, n21, n22, ← q1, e10, e00, e11, if_true, if_false, bb_b0_s, bb_b1_s, bb_b2_s, bb_b3_s, bb_b4_s, bb_b5_s, bb_b6_s, bb_b7_s, bb_b8_s, bb_b9_s, bb_b10_s, bb_b11_s, bb_b12_s, bb_b13_s, bb_b14_s, bb_b15_s, bb_b16_s]
      · simp only [n30, n31, n32, n33, ← q1, e10, e00, e11, if_true, if_false, bb_b0_s, bb_b1_s, bb_b2_s, bb_b3_s, bb_b4_s, bb_b5_s, bb_b6_s, bb_b7_s, bb_b8_s, bb_b9_s, bb_b10_s, bb_b11_s, bb_b12_s, bb_b13_s, bb_b14_s, bb_b15_s, bb_b16_s]
    · have hz2 : ¬ B k = 0 := by rw [← q1]; exact hz
      simp only [if_neg hz, if_pos (show (-1 : Int32) < 0 by decide), bb_lt, fits8 hn q3 hk4 (q2.trans q4) hV]
      obtain ⟨k1, a2, w1, r1, x1⟩ := fits7 (n := N k) (fo := fo) hn q3 hR hV k0 a0 w0 r0
      have ec : orI (gb (fun b => allB (okW s (N k) b) m)) (nO s) = orI (gb (fun b => allB (okW s (fun i => nu (40 * k + i)) b) m)) (nO s) := orI_cong _ (fun b _ => gb_cong (allB_cong m (fun i hi => okW_cong (q5 i hi).symm)))
      rw [← q4, ec] at x1
      refine ⟨_, fo, k1, a2, w1, r1, _, _, ?_, rfl, hR.back _ _, hI.back _ _⟩
      rcases k4 hk with rfl | rfl | rfl | rfl
      · simp only [n00, hz2, e10, e00, e11, if_true, if_false, bb_b0_s, bb_b1_s, bb_b2_s, bb_b3_s, bb_b4_s, bb_b5_s, bb_b6_s, bb_b7_s, bb_b8_s, bb_b9_s, bb_b10_s, bb_b11_s, bb_b12_s, bb_b13_s, bb_b14_s, bb_b15_s, bb_b16_s]
        exact x1
      · simp only [n10, n11, hz2, e10, e00, e11, if_true, if_false, bb_b0_s, bb_b1_s, bb_b2_s, bb_b3_s, bb_b4_s, bb_b5_s, bb_b6_s, bb_b7_s, bb_b8_s, bb_b9_s, bb_b10_s, bb_b11_s, bb_b12_s, bb_b13_s, bb_b14_s, bb_b15_s, bb_b16_s]
        exact x1
      · simp only [n20, n21, n22, hz2, e10, e00, e11, if_true, if_false, bb_b0_s, bb_b1_s, bb_b2_s, bb_b3_s, bb_b4_s, bb_b5_s, bb_b6_s, bb_b7_s, bb_b8_s, bb_b9_s, bb_b10_s, bb_b11_s, bb_b12_s, bb_b13_s, bb_b14_s, bb_b15_s, bb_b16_s]
        exact x1
      · simp only [n30, n31, n32, n33, hz2, e10, e00, e11, if_true, if_false, bb_b0_s, bb_b1_s, bb_b2_s, bb_b3_s, bb_b4_s, bb_b5_s, bb_b6_s, bb_b7_s, bb_b8_s, bb_b9_s, bb_b10_s, bb_b11_s, bb_b12_s, bb_b13_s, bb_b14_s, bb_b15_s, bb_b16_s]
        exact x1
  · simp only [e1, lacks8f bo e1, fnd0, if_neg (show ¬ (0 : Int32) < 0 by decide), bb_b0_s, bb_b1_s, bb_b2_s, bb_b3_s, bb_b4_s, bb_b5_s, bb_b6_s, bb_b7_s, bb_b8_s, bb_b9_s, bb_b10_s, bb_b11_s, bb_b12_s, bb_b13_s, bb_b14_s, bb_b15_s, bb_b16_s, e10, e00, e11, if_true, if_false]
    exact ⟨_, _, _, _, _, _, _, _, rfl, rfl, hR, hI⟩
end FITS
