/-! ===== load, judge ===== -/
section LOAD
variable {s ga st cu ki at_ wi wr ke sp : Nat → Int32} {mi ba si ev z : Int32} {bo so nu B L : Nat → Int32} {N : Nat → Nat → Int32} {n fo : Nat → Int32}
theorem ld7 {m i : Nat} (hm : m ≤ 40) (hi : i < m) (rec2 : Int32 → (Nat → Int32) → Option (Int32 × (Nat → Int32) × (Nat → Int32))) : uX7_load_s35 fo (nI m) n rec2 (nI i) st = if (0 : Int32) ≤ n i ∧ n i ≤ 9 then rec2 (nI (i + 1)) (upd st i (n i)) else some (nI i, fo, st) := by
  unfold uX7_load_s35
  rw [if_neg (nI_ge hi (by omega)), ixn (show i < 40 by omega) (by decide), ixn (show i < 40 by omega) (by decide), ixn (show i < 48 by omega) (by decide), cln (by omega), p1_]
  rcases win (n i) 0 9 with ⟨e, a, b⟩ | ⟨e, h⟩
  · rw [e, bb_b1_s, if_neg (by decide), if_pos ⟨a, b⟩]
  · rw [e, bb_b1_s, if_pos rfl, if_neg h]
theorem ld8 {m i k : Nat} (hk : k < 4) (hso : so k = nI m) (hm : m ≤ 40) (hi : i < m) (rec2 : Int32 → (Nat → Int32) → Option (Int32 × (Nat → Int32) × (Nat → Int32))) : uX8_load_s18 (nI k) fo nu so rec2 (nI i) s = if (0 : Int32) ≤ nu (40 * k + i) ∧ nu (40 * k + i) ≤ 9 then rec2 (nI (i + 1)) (upd s (9 + i) (nu (40 * k + i))) else some (nI i, fo, s) := by
  unfold uX8_load_s18
  rw [ixn hk (by decide), cln (by omega), hso, if_neg (nI_ge hi (by omega)), m40_, nAdd, ixn (show 40 * k + i < 160 by omega) (by decide), ixn (show 40 * k + i < 160 by omega) (by decide), a9_, ixn (show 9 + i < 155 by omega) (by decide), cln (by omega), cln (by omega), p1_]
  have e0 : uX8_in (nu (40 * k + i)).toInt64 0 9 = uX7_isWithin (nu (40 * k + i)) 0 9 := in8 _ 0 9
  rw [e0]
  rcases win (nu (40 * k + i)) 0 9 with ⟨e, a, b⟩ | ⟨e, h⟩
  · rw [e, bb_b1_s, if_neg (by decide), if_pos ⟨a, b⟩]
  · rw [e, bb_b1_s, if_pos rfl, if_neg h]
theorem loop2_ {α1 α2 β : Type} (st : (α1 → α2 → Option β) → α1 → α2 → Option β) (m : Nat) (x : α1) (y : α2) : bb_loop2 st (m + 1) x y = st (bb_loop2 st m) x y := rfl
theorem loop1_ {α1 β : Type} (st : (α1 → Option β) → α1 → Option β) (m : Nat) (x : α1) : bb_loop1 st (m + 1) x = st (bb_loop1 st m) x := rfl
theorem ld78 {m k : Nat} (hk : k < 4) (hso : so k = nI m) (hm : m ≤ 40) (hnu : ∀ i, i < m → nu (40 * k + i) = n i) : ∀ d i n1 n2 (st s : Nat → Int32), i + d = m → d < n1 → d < n2 → RW s ga st cu ki at_ wi wr ke sp mi ba si ev z → IW s →
    ∃ r st2 s2, bb_loop2 (uX7_load_s35 fo (nI m) n) n1 (nI i) st = some (r, fo, st2) ∧ bb_loop2 (uX8_load_s18 (nI k) fo nu so) n2 (nI i) s = some (r, fo, s2) ∧ RW s2 ga st2 cu ki at_ wi wr ke sp mi ba si ev z ∧ IW s2 := by
  intro d
  induction d with
  | zero =>
    intro i n1 n2 st s h1 h2 h3 hR hI
    obtain ⟨m1, rfl⟩ : ∃ m1, n1 = m1 + 1 := ⟨n1 - 1, by omega⟩
    obtain ⟨m2, rfl⟩ : ∃ m2, n2 = m2 + 1 := ⟨n2 - 1, by omega⟩
    refine ⟨nI i, st, s, ?_, ?_, hR, hI⟩
    · rw [loop2_]
      generalize bb_loop2 (uX7_load_s35 fo (nI m) n) m1 = rec2
      unfold uX7_load_s35
      rw [if_pos (nI_le (by omega) (by omega))]
    · rw [loop2_]
      generalize bb_loop2 (uX8_load_s18 (nI k) fo nu so) m2 = rec2
      unfold uX8_load_s18
      rw [ixn hk (by decide), cln (by omega), hso, if_pos (nI_le (by omega) (by omega))]
  | succ d ih =>
    intro i n1 n2 st s h1 h2 h3 hR hI
    obtain ⟨m1, rfl⟩ : ∃ m1, n1 = m1 + 1 := ⟨n1 - 1, by omega⟩
    obtain ⟨m2, rfl⟩ : ∃ m2, n2 = m2 + 1 := ⟨n2 - 1, by omega⟩
    rw [loop2_, loop2_, ld7 hm (by omega), ld8 hk hso hm (by omega), hnu i (by omega)]
    by_cases g : (0 : Int32) ≤ n i ∧ n i ≤ 9
    · rw [if_pos g, if_pos g]
      obtain ⟨v, hv, ev⟩ := nat_of (n := 9) (by decide) g.1 g.2
      exact ih (i + 1) m1 m2 _ _ (by omega) (by omega) (by omega) (hR.u_st (by omega) _) (hI.u_st (by omega) ⟨v, hv, ev⟩)
    · rw [if_neg g, if_neg g]
      exact ⟨_, _, _, rfl, rfl, hR, hI⟩
theorem op_load {nn : Nat} (hn : 155 < nn) (hR : RW s ga st cu ki at_ wi wr ke sp mi ba si ev z) (hI : IW s) (hS : SHF bo so nu B L N) (fo : Nat → Int32) (p1 : Int32) :
    ∃ r fo2 st2 s2, uX7_load nn p1 fo (B 0) (L 0) (B 1) (L 1) (B 2) (L 2) (B 3) (L 3) st (N 0) (N 1) (N 2) (N 3) = some (r, fo2, st2) ∧ uX8_load nn p1 bo fo nu s so = some (r, fo2, s2) ∧ RW s2 ga st2 cu ki at_ wi wr ke sp mi ba si ev z ∧ IW s2 := by
  unfold uX7_load uX8_load
  simp only [sheet7, find78, fnd0, fnd5, miss1, bb_b0_s, bb_b1_s, bb_b2_s, bb_b3_s, bb_b4_s, bb_b5_s, bb_b6_s, bb_b7_s, bb_b8_s, bb_b9_s, bb_b10_s, bb_b11_s, bb_b12_s, bb_b13_s, bb_b14_s, bb_b15_s, bb_b16_s]
  rcases win p1 0 3 with ⟨e1, a1, b1⟩ | ⟨e1, -⟩
  · obtain ⟨k, hk, rfl⟩ := nat_of (n := 3) (by decide) a1 b1
    have hk4 : k < 4 := by omega
    obtain ⟨q1, q2, m, q3, q4, q5⟩ := hS k hk4
    simp only [e1, lacks8 hk4, bb_b0_s, bb_b1_s, bb_b2_s, bb_b3_s, bb_b4_s, bb_b5_s, bb_b6_s, bb_b7_s, bb_b8_s, bb_b9_s, bb_b10_s, bb_b11_s, bb_b12_s, bb_b13_s, bb_b14_s, bb_b15_s, bb_b16_s, e10, e00, e11, if_true, if_false]
    by_cases hz : bo k = 0
    · rw [hz] at q1
      simp only [hz, e10, e00, e11, if_true, if_false, fnd5, if_neg (show ¬ (5 : Int32) < 0 by decide), bb_b0_s, bb_b1_s, bb_b2_s, bb_b3_s, bb_b4_s, bb_b5_s, bb_b6_s, bb_b7_s, bb_b8_s, bb_b9_s, bb_b10_s, bb_b11_s, bb_b12_s, bb_b13_s, bb_b14_s, bb_b15_s, bb_b16_s]
      refine ⟨-1000006, nfd 5 fo, st, s, ?_, rfl, hR, hI⟩
      rcases k4 hk with rfl | rfl | rfl | rfl
      · simp only [n00, ← q1, e10, e00, e11, if_true, if_false, bb_b0_s, bb_b1_s, bb_b2_s, bb_b3_s, bb_b4_s, bb_b5_s, bb_b6_s, bb_b7_s, bb_b8_s, bb_b9_s, bb_b10_s, bb_b11_s, bb_b12_s, bb_b13_s, bb_b14_s, bb_b15_s, bb_b16_s]
      · simp only [n10, n11, ← q1, e10, e00, e11, if_true, if_false, bb_b0_s, bb_b1_s, bb_b2_s, bb_b3_s, bb_b4_s, bb_b5_s, bb_b6_s, bb_b7_s, bb_b8_s, bb_b9_s, bb_b10_s, bb_b11_s, bb_b12_s, bb_b13_s, bb_b14_s, bb_b15_s, bb_b16_s]
      · simp only [n20, n21, n22, ← q1, e10, e00, e11, if_true, if_false, bb_b0_s, bb_b1_s, bb_b2_s, bb_b3_s, bb_b4_s, bb_b5_s, bb_b6_s, bb_b7_s, bb_b8_s, bb_b9_s, bb_b10_s, bb_b11_s, bb_b12_s, bb_b13_s, bb_b14_s, bb_b15_s, bb_b16_s]
      · simp only [n30, n31, n32, n33, ← q1, e10, e00, e11, if_true, if_false, bb_b0_s, bb_b1_s, bb_b2_s, bb_b3_s, bb_b4_s, bb_b5_s, bb_b6_s, bb_b7_s, bb_b8_s, bb_b9_s, bb_b10_s, bb_b11_s, bb_b12_s, bb_b13_s, bb_b14_s, bb_b15_s, bb_b16_s]
    · have hz2 : ¬ B k = 0 := by rw [← q1]; exact hz
      simp only [if_neg hz, if_pos (show (-1 : Int32) < 0 by decide)]
      obtain ⟨r, st2, s2, x1, x2, x3, x4⟩ := ld78 (fo := fo) hk4 (q2.trans q4) q3 q5 m 0 nn nn st s (by omega) (by omega) (by omega) hR hI
      rw [← q4] at x1
      refine ⟨r, fo, st2, s2, ?_, x2, x3, x4⟩
      rcases k4 hk with rfl | rfl | rfl | rfl
      · simp only [n00, hz2, e10, e00, e11, if_true, if_false, bb_b0_s, bb_b1_s, bb_b2_s, bb_b3_s, bb_b4_s, bb_b5_s, bb_b6_s, bb_b7_s, bb_b8_s, bb_b9_s, bb_b10_s, bb_b11_s, bb_b12_s, bb_b13_s, bb_b14_s, bb_b15_s, bb_b16_s]
        exact x1
      · simp only [n10, n11, hz2, e10, e00, e11, if_true, if_false, bb_b0_s, bb_b1_s, bb_b2_s, bb_b3_s, bb_b4_s, bb_b5_s, bb_b6_s, bb_b7_s, bb_b8_s, bb_b9_s, bb_b10_s, bb_b11_s, bb_b12_s, bb_b13_s, bb_b14_s, bb_b15_s, bb_b16_s]
        exact x1
      · simp only [n20, n21, n22, hz2, e10, e00, e11, if_true, if_false, bb_b0_s, bb_b1_s, bb_b2_s, bb_b3_s, bb_b4_s, bb_b5_s, bb_b6_s, bb_b7_s, bb_b8_s, bb_b9_s, bb_b10_s, bb_b11_s, bb_b12_s, bb_b13_s, bb_b14_s, bb_b15_s, bb_b16_s]
        exact x1
      · simp only [n30, n31, n32, n33, hz2, e10, e00, e11, if_true, if_false, bb_b0_s, bb_b1_s, bb_b2_s, bb_b3_s, bb_b4_s, bb_b5_s, bb_b6_s, bb_b7_s, bb_b8_s, bb_b9_s, bb_b10_s, bb_b11_s, bb_b12_s, bb_b13_s, bb_b14_s, bb_b15_s, bb_b16_s]
        exact x1
  · simp only [e1, lacks8f bo e1, fnd0, if_neg (show ¬ (0 : Int32) < 0 by decide), bb_b0_s, bb_b1_s, bb_b2_s, bb_b3_s, bb_b4_s, bb_b5_s, bb_b6_s, bb_b7_s, bb_b8_s, bb_b9_s, bb_b10_s, bb_b11_s, bb_b12_s, bb_b13_s, bb_b14_s, bb_b15_s, bb_b16_s, e10, e00, e11, if_true, if_false]
    exact ⟨_, _, _, _, rfl, rfl, hR, hI⟩
theorem ap_sym : ∀ a, a < 48 → ∀ b, b < 48 → apv (nI a) (nI b) = apv (nI b) (nI a) := by decide +kernel
theorem jd78 {nn m k : Nat} {x : Int64} (hn : 155 < nn) (hs : ∀ c, c < 48 → lb x c = sc8 s c) (hk : k < 4) (hso : so k = nI m) (hm : m ≤ 40) (hnu : ∀ i, i < m → nu (40 * k + i) = n i) : ∀ d i n1 n2, i + d = m → d < n1 → d < n2 → (0 < i → ∃ a, a < 48 ∧ n (i - 1) = nI a) →
    ∃ r, bb_loop1 (uX7_judge_s51 x fo (nI m) n (fun y => some ((1 : Int32) + y, fo)) (fun y => some ((1 : Int32) + y, fo))) n1 (nI i) = some (r, fo) ∧ bb_loop1 (uX8_judge_s18 nn (nI k) nu s so (fun y => if y = so k then some ((0 : Int32), fo) else some (y + 1, fo))) n2 (nI i) = some (r, fo) := by
  intro d
  induction d with
  | zero =>
    intro i n1 n2 h1 h2 h3 hp
    obtain ⟨m1, rfl⟩ : ∃ m1, n1 = m1 + 1 := ⟨n1 - 1, by omega⟩
    obtain ⟨m2, rfl⟩ : ∃ m2, n2 = m2 + 1 := ⟨n2 - 1, by omega⟩
    obtain rfl : i = m := by omega
    refine ⟨0, ?_, ?_⟩
    · rw [loop1_]
      generalize bb_loop1 (uX7_judge_s51 x fo (nI i) n (fun y => some ((1 : Int32) + y, fo)) (fun y => some ((1 : Int32) + y, fo))) m1 = rec2
      unfold uX7_judge_s51
      rw [if_pos (nI_le (by omega) (by omega))]
    · rw [loop1_]
      generalize bb_loop1 (uX8_judge_s18 nn (nI k) nu s so (fun y => if y = so k then some ((0 : Int32), fo) else some (y + 1, fo))) m2 = rec2
      unfold uX8_judge_s18
      rw [ixn hk (by decide), cln (by omega), hso, if_pos (nI_le (by omega) (by omega))]
      exact if_pos rfl
  | succ d ih =>
    intro i n1 n2 h1 h2 h3 hp
    obtain ⟨m1, rfl⟩ : ∃ m1, n1 = m1 + 1 := ⟨n1 - 1, by omega⟩
    obtain ⟨m2, rfl⟩ : ∃ m2, n2 = m2 + 1 := ⟨n2 - 1, by omega⟩
    have him : i < m := by omega
    have hgo := ih (i + 1) m1 m2 (by omega) (by omega) (by omega)
    rw [loop1_, loop1_]
    generalize bb_loop1 (uX7_judge_s51 x fo (nI m) n (fun y => some ((1 : Int32) + y, fo)) (fun y => some ((1 : Int32) + y, fo))) m1 = rec1 at hgo ⊢
    generalize bb_loop1 (uX8_judge_s18 nn (nI k) nu s so (fun y => if y = so k then some ((0 : Int32), fo) else some (y + 1, fo))) m2 = rec2 at hgo ⊢
    have e1i : (1 : Int32) + nI i = nI (i + 1) := by rw [Nat.add_comm i 1]; exact nI_add 1 i
    have enm : ¬ nI i = nI m := by rw [nI_eq (by omega) (by omega)]; omega
    unfold uX7_judge_s51 uX8_judge_s18 uX8_goesOn
    simp only [ixn hk (show 4 < 2 ^ 31 by decide), cln (show k < 2 ^ 31 by omega), hso, if_neg (nI_ge him (show m < 2 ^ 31 by omega)), m40_, nAdd, ixn (show i < 40 by omega) (show 40 < 2 ^ 31 by decide), ixn (show 40 * k + i < 160 by omega) (show 160 < 2 ^ 31 by decide), cln (show i < 2 ^ 31 by omega), cln (show 40 * k + i < 2 ^ 31 by omega), hnu i him, cell0, cell8, p1_, e1i, enm, if_false]
    rcases win (n i) 0 47 with ⟨e, a, b⟩ | ⟨e, -⟩
    · obtain ⟨c, hc, ec⟩ := nat_of (n := 47) (by decide) a b
      have hc8 : c < 48 := by omega
      rw [ec] at e
      simp only [ec, e, has0 x (show c < 64 by omega), hs c hc8, isSeen8 (show 4 < nn by omega) hc8, bb_b0_s, bb_b1_s, bb_b2_s, bb_b3_s, bb_b4_s, bb_b5_s, bb_b6_s, bb_b7_s, bb_b8_s, bb_b9_s, bb_b10_s, bb_b11_s, bb_b12_s, bb_b13_s, bb_b14_s, bb_b15_s, bb_b16_s, e10, e00, e11, if_true, if_false]
      cases g : sc8 s c
      · simp only [Bool.false_eq_true, e10, e00, e11, if_true, if_false]
        rcases Nat.eq_zero_or_pos i with hi0 | hi0
        · subst hi0
          simp only [show (nI 0 ≤ 0) = True from eq_true (by decide), show (nI 0 = 0) = True from eq_true rfl, bb_b0_s, bb_b1_s, bb_b2_s, bb_b3_s, bb_b4_s, bb_b5_s, bb_b6_s, bb_b7_s, bb_b8_s, bb_b9_s, bb_b10_s, bb_b11_s, bb_b12_s, bb_b13_s, bb_b14_s, bb_b15_s, bb_b16_s, e10, e00, e11, if_true, if_false]
          exact hgo (fun _ => ⟨c, hc8, ec⟩)
        · obtain ⟨a0, ha0, ea0⟩ := hp hi0
          have em1 : nI i - 1 = nI (i - 1) := pk_sub (b := 1) hi0
          have em2 : nI (40 * k + i) - 1 = nI (40 * k + (i - 1)) := by rw [show 40 * k + (i - 1) = 40 * k + i - 1 by omega]; exact pk_sub (b := 1) (by omega)
          simp only [if_neg (nI_nle hi0 (show i < 2 ^ 31 by omega)), if_neg (nI_ne0 hi0 (show i < 2 ^ 31 by omega)), em1, em2, ixn (show i - 1 < 40 by omega) (show 40 < 2 ^ 31 by decide), ixn (show 40 * k + (i - 1) < 160 by omega) (show 160 < 2 ^ 31 by decide), cln (show i - 1 < 2 ^ 31 by omega), cln (show 40 * k + (i - 1) < 2 ^ 31 by omega), hnu (i - 1) (by omega), ea0, ap0, ap8, ap_sym a0 ha0 c hc8, bb_b0_s, bb_b1_s, bb_b2_s, bb_b3_s, bb_b4_s, bb_b5_s, bb_b6_s, bb_b7_s, bb_b8_s, bb_b9_s, bb_b10_s, bb_b11_s, bb_b12_s, bb_b13_s, bb_b14_s, bb_b15_s, bb_b16_s]
          by_cases g2 : apv (nI c) (nI a0) = 1
          · simp only [if_pos g2, bb_b0_s, bb_b1_s, bb_b2_s, bb_b3_s, bb_b4_s, bb_b5_s, bb_b6_s, bb_b7_s, bb_b8_s, bb_b9_s, bb_b10_s, bb_b11_s, bb_b12_s, bb_b13_s, bb_b14_s, bb_b15_s, bb_b16_s, e10, e00, e11, if_true, if_false]
            exact hgo (fun _ => ⟨c, hc8, ec⟩)
          · simp only [if_neg g2, bb_b0_s, bb_b1_s, bb_b2_s, bb_b3_s, bb_b4_s, bb_b5_s, bb_b6_s, bb_b7_s, bb_b8_s, bb_b9_s, bb_b10_s, bb_b11_s, bb_b12_s, bb_b13_s, bb_b14_s, bb_b15_s, bb_b16_s, e10, e00, e11, if_true, if_false]
            exact ⟨_, rfl, rfl⟩
      · simp only [bb_b0_s, bb_b1_s, bb_b2_s, bb_b3_s, bb_b4_s, bb_b5_s, bb_b6_s, bb_b7_s, bb_b8_s, bb_b9_s, bb_b10_s, bb_b11_s, bb_b12_s, bb_b13_s, bb_b14_s, bb_b15_s, bb_b16_s, e10, e00, e11, if_true, if_false]
        exact ⟨_, rfl, rfl⟩
    · simp only [e, bb_b0_s, bb_b1_s, bb_b2_s, bb_b3_s, bb_b4_s, bb_b5_s, bb_b6_s, bb_b7_s, bb_b8_s, bb_b9_s, bb_b10_s, bb_b11_s, bb_b12_s, bb_b13_s, bb_b14_s, bb_b15_s, bb_b16_s, e10, e00, e11, if_true, if_false]
      exact ⟨_, rfl, rfl⟩
theorem op_judge {nn : Nat} (hn : 155 < nn) (hR : RW s ga st cu ki at_ wi wr ke sp mi ba si ev z) (hS : SHF bo so nu B L N) (fo : Nat → Int32) (p1 : Int32) :
    ∃ r fo2, uX7_judge nn p1 fo si (B 0) (L 0) (B 1) (L 1) (B 2) (L 2) (B 3) (L 3) ga st (N 0) (N 1) (N 2) (N 3) = some (r, fo2) ∧ uX8_judge nn p1 bo fo nu s so = some (r, fo2) := by
  unfold uX7_judge uX8_judge
  simp only [sheet7, find78, fnd0, fnd5, miss1, seenCells6 (show 48 < nn by omega), bb_cut_s, bb_b0_s, bb_b1_s, bb_b2_s, bb_b3_s, bb_b4_s, bb_b5_s, bb_b6_s, bb_b7_s, bb_b8_s, bb_b9_s, bb_b10_s, bb_b11_s, bb_b12_s, bb_b13_s, bb_b14_s, bb_b15_s, bb_b16_s]
  rcases win p1 0 3 with ⟨e1, a1, b1⟩ | ⟨e1, -⟩
  · obtain ⟨k, hk, rfl⟩ := nat_of (n := 3) (by decide) a1 b1
    have hk4 : k < 4 := by omega
    obtain ⟨q1, q2, m, q3, q4, q5⟩ := hS k hk4
    simp only [e1, lacks8 hk4, ixn hk4 (show 4 < 2 ^ 31 by decide), cln (show k < 2 ^ 31 by omega), bb_b0_s, bb_b1_s, bb_b2_s, bb_b3_s, bb_b4_s, bb_b5_s, bb_b6_s, bb_b7_s, bb_b8_s, bb_b9_s, bb_b10_s, bb_b11_s, bb_b12_s, bb_b13_s, bb_b14_s, bb_b15_s, bb_b16_s, e10, e00, e11, if_true, if_false]
    by_cases hz : bo k = 0
    · rw [hz] at q1
      simp only [hz, e10, e00, e11, if_true, if_false, fnd5, if_neg (show ¬ (5 : Int32) < 0 by decide), bb_b0_s, bb_b1_s, bb_b2_s, bb_b3_s, bb_b4_s, bb_b5_s, bb_b6_s, bb_b7_s, bb_b8_s, bb_b9_s, bb_b10_s, bb_b11_s, bb_b12_s, bb_b13_s, bb_b14_s, bb_b15_s, bb_b16_s]
      refine ⟨-1000006, nfd 5 fo, ?_, rfl⟩
      rcases k4 hk with rfl | rfl | rfl | rfl
      · simp only [n00, ← q1, e10, e00, e11, if_true, if_false, bb_b0_s, bb_b1_s, bb_b2_s, bb_b3_s, bb_b4_s, bb_b5_s, bb_b6_s, bb_b7_s, bb_b8_s, bb_b9_s, bb_b10_s, bb_b11_s, bb_b12_s, bb_b13_s, bb_b14_s, bb_b15_s, bb_b16_s]
      · simp only [n10, n11, ← q1, e10, e00, e11, if_true, if_false, bb_b0_s, bb_b1_s, bb_b2_s, bb_b3_s, bb_b4_s, bb_b5_s, bb_b6_s, bb_b7_s, bb_b8_s, bb_b9_s, bb_b10_s, bb_b11_s, bb_b12_s, bb_b13_s, bb_b14_s, bb_b15_s, bb_b16_s]
      · simp only [n20, n21, n22, ← q1, e10, e00, e11, if_true, if_false, bb_b0_s, bb_b1_s, bb_b2_s, bb_b3_s, bb_b4_s, bb_b5_s, bb_b6_s, bb_b7_s, bb_b8_s, bb_b9_s, bb_b10_s, bb_b11_s, bb_b12_s, bb_b13_s, bb_b14_s, bb_b15_s, bb_b16_s]
      · simp only [n30, n31, n32, n33, ← q1, e10, e00, e11, if_true, if_false, bb_b0_s, bb_b1_s, bb_b2_s, bb_b3_s, bb_b4_s, bb_b5_s, bb_b6_s, bb_b7_s, bb_b8_s, bb_b9_s, bb_b10_s, bb_b11_s, bb_b12_s, bb_b13_s, bb_b14_s, bb_b15_s, bb_b16_s]
    · have hz2 : ¬ B k = 0 := by rw [← q1]; exact hz
      simp only [if_neg hz, if_pos (show (-1 : Int32) < 0 by decide)]
      obtain ⟨r, x1, x2⟩ := jd78 (fo := fo) hn (fun c hc => lb78 hR hc) hk4 (q2.trans q4) q3 q5 m 0 nn nn (by omega) (by omega) (by omega) (fun h => by omega)
      rw [← q4] at x1
      refine ⟨r, fo, ?_, x2⟩
      rcases k4 hk with rfl | rfl | rfl | rfl
      · simp only [n00, hz2, e10, e00, e11, if_true, if_false, bb_b0_s, bb_b1_s, bb_b2_s, bb_b3_s, bb_b4_s, bb_b5_s, bb_b6_s, bb_b7_s, bb_b8_s, bb_b9_s, bb_b10_s, bb_b11_s, bb_b12_s, bb_b13_s, bb_b14_s, bb_b15_s, bb_b16_s]
        exact x1
      · simp only [n10, n11, hz2, e10, e00, e11, if_true, if_false, bb_b0_s, bb_b1_s, bb_b2_s, bb_b3_s, bb_b4_s, bb_b5_s, bb_b6_s, bb_b7_s, bb_b8_s, bb_b9_s, bb_b10_s, bb_b11_s, bb_b12_s, bb_b13_s, bb_b14_s, bb_b15_s, bb_b16_s]
        exact x1
      · simp only [n20, n21, n22, hz2, e10, e00, e11, if_true, if_false, bb_b0_s, bb_b1_s, bb_b2_s, bb_b3_s, bb_b4_s, bb_b5_s, bb_b6_s, bb_b7_s, bb_b8_s, bb_b9_s, bb_b10_s, bb_b11_s, bb_b12_s, bb_b13_s, bb_b14_s, bb_b15_s, bb_b16_s]
        exact x1
      · simp only [n30, n31, n32, n33, hz2, e10, e00, e11, if_true, if_false, bb_b0_s, bb_b1_s, bb_b2_s, bb_b3_s, bb_b4_s, bb_b5_s, bb_b6_s, bb_b7_s, bb_b8_s, bb_b9_s, bb_b10_s, bb_b11_s, bb_b12_s, bb_b13_s, bb_b14_s, bb_b15_s, bb_b16_s]
        exact x1
  · simp only [e1, lacks8f bo e1, fnd0, if_neg (show ¬ (0 : Int32) < 0 by decide), bb_b0_s, bb_b1_s, bb_b2_s, bb_b3_s, bb_b4_s, bb_b5_s, bb_b6_s, bb_b7_s, bb_b8_s, bb_b9_s, bb_b10_s, bb_b11_s, bb_b12_s, bb_b13_s, bb_b14_s, bb_b15_s, bb_b16_s, e10, e00, e11, if_true, if_false]
    exact ⟨_, _, rfl, rfl⟩
end LOAD
