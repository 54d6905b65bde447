/-! ===== copy ===== -/
def HP (p q : Int32) (m : Nat) : Prop := ∃ a b : Nat, p = nI a ∧ q = nI b ∧ a + b ≤ m
theorem neg_not {p : Int32} (h : p < 0) (a : Nat) (ha : a < 2 ^ 31) : ¬ p = nI a := fun e => by
  rw [e] at h
  exact nI_nneg ha h
theorem ofnn {p : Int32} (h : ¬ p < 0) : ∃ a : Nat, a < 2 ^ 31 ∧ p = nI a := nI_of h
theorem hp1_t {p q : Int32} {m : Nat} (hm : m ≤ 40) (h : HP p q m) : uX1_hasPart p q (nI m) = some 1 := by
  obtain ⟨a, b, rfl, rfl, h1⟩ := h
  unfold uX1_hasPart
  rw [if_neg (nI_nneg (by omega)), if_neg (nI_nneg (by omega)), if_neg (nI_nlt (by omega) (by omega)), pk_sub (by omega), if_neg (nI_nlt (by omega) (by omega))]
theorem hp1_f {p q : Int32} {m : Nat} (hm : m ≤ 40) (h : ¬ HP p q m) : uX1_hasPart p q (nI m) = some 0 := by
  unfold uX1_hasPart
  by_cases h1 : p < 0
  · rw [if_pos h1]
  · by_cases h2 : q < 0
    · rw [if_neg h1, if_pos h2]
    · obtain ⟨a, ha, rfl⟩ := ofnn h1
      obtain ⟨b, hb, rfl⟩ := ofnn h2
      rw [if_neg h1, if_neg h2]
      by_cases h3 : m < a
      · rw [if_pos (nI_lt h3 ha)]
      · rw [if_neg (nI_nlt (by omega) (by omega)), pk_sub (by omega), if_pos (nI_lt (by
          rcases Nat.lt_or_ge (m - a) b with g | g
          · exact g
          · exact absurd ⟨a, b, rfl, rfl, by omega⟩ h) hb)]
theorem w_add {a b : Nat} (ha : a < 2 ^ 31) (hb : b < 2 ^ 31) : ((nI a).toInt64 + (nI b).toInt64).toInt = (a : Int) + b := by
  rw [Int64.toInt_add, i_wide, i_wide, nI_toInt ha, nI_toInt hb, Int.bmod_def]
  have e : ((2 ^ 64 : Nat) : Int) = 18446744073709551616 := by decide
  rw [e]
  split <;> omega
theorem w_cmp {a b m : Nat} (ha : a < 2 ^ 31) (hb : b < 2 ^ 31) (hm : m ≤ 40) : (0 < lg_cmp ((nI a).toInt64 + (nI b).toInt64) ((nI m).toInt64)) ↔ m < a + b := by
  rw [lg_cmp_gt, i_lt64, w_add ha hb, i_wide, nI_toInt (by omega)]
  omega
section COPY
variable {bo so nu B L : Nat → Int32} {N : Nat → Nat → Int32}
theorem mov8 {nn k a n : Nat} (hn : 155 < nn) (hk : k < 4) (h : a + n ≤ 40) (mv : Nat → Int32) (K : (Nat → Int32) → Option (Int32 × (Nat → Int32) × (Nat → Int32) × (Nat → Int32))) : ∃ mv2, (∀ j, j < n → mv2 j = nu (40 * k + a + j)) ∧ bb_loop2 (uX8_copy_s135 (nI k) (nI a) (nI n) nu K) nn 0 mv = K mv2 := by
  refine inv2 (fun i x (f : Nat → Int32) => x = nI i ∧ ∀ j, j < i → f j = nu (40 * k + a + j)) n (fun o => ∃ mv2, (∀ j, j < n → mv2 j = nu (40 * k + a + j)) ∧ o = K mv2) ?_ ?_ nn (by omega) 0 mv ⟨rfl, fun j h => by omega⟩
  · rintro rec2 x f ⟨rfl, h⟩
    refine ⟨f, h, ?_⟩
    unfold uX8_copy_s135
    rw [if_pos (nI_le (Nat.le_refl _) (by omega))]
  · rintro rec2 i x f hi ⟨rfl, h⟩
    refine Or.inl ?_
    unfold uX8_copy_s135
    rw [if_neg (nI_ge hi (by omega)), m40_, nAdd, nAdd, ixn (show 40 * k + a + i < 160 by omega) (by decide), ixn (show i < 40 by omega) (by decide), cln (by omega), cln (by omega), p1_]
    exact ⟨_, _, ⟨rfl, fun j hj => lt_succ_cases hj (fun q => by rw [pk_un (by omega)]; exact h j q) (fun q => by subst q; exact pk_us)⟩, rfl⟩
theorem lay8 {nn t c n : Nat} (hn : 155 < nn) (ht : t < 4) (h : c + n ≤ 40) (fo mv nu : Nat → Int32) : ∃ nu2, (∀ j, j < n → nu2 (40 * t + c + j) = mv j) ∧ (∀ j, j < 40 * t + c ∨ 40 * t + c + n ≤ j → nu2 j = nu j) ∧ bb_loop2 (uX8_copy_s172 (nI t) (nI c) (nI n) fo mv) nn 0 nu = some (nI n, fo, mv, nu2) := by
  refine inv2 (fun i x (f : Nat → Int32) => x = nI i ∧ (∀ j, j < i → f (40 * t + c + j) = mv j) ∧ (∀ j, j < 40 * t + c ∨ 40 * t + c + n ≤ j → f j = nu j)) n (fun o => ∃ (nu2 : Nat → Int32), (∀ j, j < n → nu2 (40 * t + c + j) = mv j) ∧ (∀ j, j < 40 * t + c ∨ 40 * t + c + n ≤ j → nu2 j = nu j) ∧ o = some (nI n, fo, mv, nu2)) ?_ ?_ nn (by omega) 0 nu ⟨rfl, fun j h => by omega, fun j _ => rfl⟩
  · rintro rec2 x f ⟨rfl, h1, h2⟩
    refine ⟨f, h1, h2, ?_⟩
    unfold uX8_copy_s172
    rw [if_pos (nI_le (Nat.le_refl _) (by omega))]
  · rintro rec2 i x f hi ⟨rfl, h1, h2⟩
    refine Or.inl ?_
    unfold uX8_copy_s172
    rw [if_neg (nI_ge hi (by omega)), m40_, nAdd, nAdd, ixn (show i < 40 by omega) (by decide), ixn (show 40 * t + c + i < 160 by omega) (by decide), cln (by omega), cln (by omega), p1_]
    exact ⟨_, _, ⟨rfl, fun j hj => lt_succ_cases hj (fun q => by rw [pk_un (by omega)]; exact h1 j q) (fun q => by subst q; exact pk_us), fun j hj => by rw [pk_un (by omega)]; exact h2 j hj⟩, rfl⟩
theorem op_copy {nn : Nat} (hn : 155 < nn) (hS : SHF bo so nu B L N) (fo mv : Nat → Int32) (p1 p2 p3 p4 p5 : Int32) :
    ∃ r fo2 N2 mv2 nu2, uX7_copy p1 p2 p3 p4 p5 fo (B 0) (L 0) (B 1) (L 1) (B 2) (L 2) (B 3) (L 3) (N 0) (N 1) (N 2) (N 3) = some (r, fo2, N2 0, N2 1, N2 2, N2 3) ∧ uX8_copy nn p1 p2 p3 p4 p5 bo fo mv nu so = some (r, fo2, mv2, nu2) ∧ SHF bo so nu2 B L N2 := by
  unfold uX7_copy uX8_copy
  simp only [sheet7, sheet8, find78, fnd0, fnd2, fnd5, miss1, bb_cut_s, bb_b0_s, bb_b1_s, bb_b2_s, bb_b3_s, bb_b4_s, bb_b5_s, bb_b6_s, bb_b7_s, bb_b8_s, bb_b9_s, bb_b10_s, bb_b11_s, bb_b12_s, bb_b13_s, bb_b14_s, bb_b15_s, bb_b16_s]
  rcases win p1 0 3 with ⟨e1, a1, b1⟩ | ⟨e1, -⟩
  · rcases win p3 0 3 with ⟨e3, a3, b3⟩ | ⟨e3, -⟩
    · obtain ⟨k, hk, rfl⟩ := nat_of (n := 3) (by decide) a1 b1
      obtain ⟨t, ht, rfl⟩ := nat_of (n := 3) (by decide) a3 b3
      have hk4 : k < 4 := by omega
      have ht4 : t < 4 := by omega
      obtain ⟨q1, q2, m, q3, q4, q5⟩ := hS k hk4
      obtain ⟨r1, r2, m2, r3, r4, r5⟩ := hS t ht4
      simp only [e1, e3, ixn hk4 (show 4 < 2 ^ 31 by decide), ixn ht4 (show 4 < 2 ^ 31 by decide), cln (show k < 2 ^ 31 by omega), cln (show t < 2 ^ 31 by omega), q1, q2, r1, r2, bb_b0_s, bb_b1_s, bb_b2_s, bb_b3_s, bb_b4_s, bb_b5_s, bb_b6_s, bb_b7_s, bb_b8_s, bb_b9_s, bb_b10_s, bb_b11_s, bb_b12_s, bb_b13_s, bb_b14_s, bb_b15_s, bb_b16_s, e10, e00, e11, if_true, if_false]
      by_cases hA : B k = 0
      · simp only [if_pos hA]
        refine ⟨-1000006, nfd 5 fo, N, mv, nu, ?_, rfl, hS⟩
        clear q1 q2 q4 q5 r1 r2 r4 r5
        rcases k4 hk with rfl | rfl | rfl | rfl
        · simp only [n00, hA, e10, e00, e11, if_true, if_false, bb_b0_s, bb_b1_s, bb_b2_s, bb_b3_s, bb_b4_s, bb_b5_s, bb_b6_s, bb_b7_s, bb_b8_s, bb_b9_s, bb_b10_s, bb_b11_s, bb_b12_s, bb_b13_s, bb_b14_s, bb_b15_s, bb_b16_s]
        · simp only [n10, n11, hA, e10, e00, e11, if_true, if_false, bb_b0_s, bb_b1_s, bb_b2_s, bb_b3_s, bb_b4_s, bb_b5_s, bb_b6_s, bb_b7_s, bb_b8_s, bb_b9_s, bb_b10_s, bb_b11_s, bb_b12_s, bb_b13_s, bb_b14_s, bb_b15_s, bb_b16_s]
        · simp only [n20, n21, n22, hA, e10, e00, e11, if_true, if_false, bb_b0_s, bb_b1_s, bb_b2_s, bb_b3_s, bb_b4_s, bb_b5_s, bb_b6_s, bb_b7_s, bb_b8_s, bb_b9_s, bb_b10_s, bb_b11_s, bb_b12_s, bb_b13_s, bb_b14_s, bb_b15_s, bb_b16_s]
        · simp only [n30, n31, n32, n33, hA, e10, e00, e11, if_true, if_false, bb_b0_s, bb_b1_s, bb_b2_s, bb_b3_s, bb_b4_s, bb_b5_s, bb_b6_s, bb_b7_s, bb_b8_s, bb_b9_s, bb_b10_s, bb_b11_s, bb_b12_s, bb_b13_s, bb_b14_s, bb_b15_s, bb_b16_s]
      · by_cases hB : B t = 0
        · simp only [if_neg hA, if_pos hB]
          refine ⟨-1000006, nfd 5 fo, N, mv, nu, ?_, rfl, hS⟩
          clear q1 q2 q4 q5 r1 r2 r4 r5
          rcases k4 hk with rfl | rfl | rfl | rfl <;> rcases k4 ht with rfl | rfl | rfl | rfl
          · simp only [n00, hA, hB, e10, e00, e11, if_true, if_false, bb_b0_s, bb_b1_s, bb_b2_s, bb_b3_s, bb_b4_s, bb_b5_s, bb_b6_s, bb_b7_s, bb_b8_s, bb_b9_s, bb_b10_s, bb_b11_s, bb_b12_s, bb_b13_s, bb_b14_s, bb_b15_s, bb_b16_s]
          · simp only [n00, n10, n11, hA, hB, e10, e00, e11, if_true, if_false, bb_b0_s, bb_b1_s, bb_b2_s, bb_b3_s, bb_b4_s, bb_b5_s, bb_b6_s, bb_b7_s, bb_b8_s, bb_b9_s, bb_b10_s, bb_b11_s, bb_b12_s, bb_b13_s, bb_b14_s, bb_b15_s, bb_b16_s]
          · simp only [n00, n20, n21, n22, hA, hB, e10, e00, e11, if_true, if_false, bb_b0_s, bb_b1_s, bb_b2_s, bb_b3_s, bb_b4_s, bb_b5_s, bb_b6_s, bb_b7_s, bb_b8_s, bb_b9_s, bb_b10_s, bb_b11_s, bb_b12_s, bb_b13_s, bb_b14_s, bb_b15_s, bb_b16_s]
          · simp only [n00, n30, n31, n32, n33, hA, hB, e10, e00, e11, if_true, if_false, bb_b0_s, bb_b1_s, bb_b2_s, bb_b3_s, bb_b4_s, bb_b5_s, bb_b6_s, bb_b7_s, bb_b8_s, bb_b9_s, bb_b10_s, bb_b11_s, bb_b12_s, bb_b13_s, bb_b14_s, bb_b15_s, bb_b16_s]
          · simp only [n10, n11, n00, hA, hB, e10, e00, e11, if_true, if_false, bb_b0_s, bb_b1_s, bb_b2_s, bb_b3_s, bb_b4_s, bb_b5_s, bb_b6_s, bb_b7_s, bb_b8_s, bb_b9_s, bb_b10_s, bb_b11_s, bb_b12_s, bb_b13_s, bb_b14_s, bb_b15_s, bb_b16_s]
          · simp only [n10, n11, hA, hB, e10, e00, e11, if_true, if_false, bb_b0_s, bb_b1_s, bb_b2_s, bb_b3_s, bb_b4_s, bb_b5_s, bb_b6_s, bb_b7_s, bb_b8_s, bb_b9_s, bb_b10_s, bb_b11_s, bb_b12_s, bb_b13_s, bb_b14_s, bb_b15_s, bb_b16_s]
          · simp only [n10, n11, n20, n21, n22, hA, hB, e10, e00, e11, if_true, if_false, bb_b0_s, bb_b1_s, bb_b2_s, bb_b3_s, bb_b4_s, bb_b5_s, bb_b6_s, bb_b7_s, bb_b8_s, bb_b9_s, bb_b10_s, bb_b11_s, bb_b12_s, bb_b13_s, bb_b14_s, bb_b15_s, bb_b16_s]
          · simp only [n10, n11, n30, n31, n32, n33, hA, hB, e10, e00, e11, if_true, if_false, bb_b0_s, bb_b1_s, bb_b2_s, bb_b3_s, bb_b4_s, bb_b5_s, bb_b6_s, bb_b7_s, bb_b8_s, bb_b9_s, bb_b10_s, bb_b11_s, bb_b12_s, bb_b13_s, bb_b14_s, bb_b15_s, bb_b16_s]
          · simp only [n20, n21, n22, n00, hA, hB, e10, e00, e11, if_true, if_false, bb_b0_s, bb_b1_s, bb_b2_s, bb_b3_s, bb_b4_s, bb_b5_s, bb_b6_s, bb_b7_s, bb_b8_s, bb_b9_s, bb_b10_s, bb_b11_s, bb_b12_s, bb_b13_s, bb_b14_s, bb_b15_s, bb_b16_s]
          · simp only [n20, n21, n22, n10, n11, hA, hB, e10, e00, e11, if_true, if_false, bb_b0_s, bb_b1_s, bb_b2_s, bb_b3_s, bb_b4_s, bb_b5_s, bb_b6_s, bb_b7_s, bb_b8_s, bb_b9_s, bb_b10_s, bb_b11_s, bb_b12_s, bb_b13_s, bb_b14_s, bb_b15_s, bb_b16_s]
          · simp only [n20, n21, n22, hA, hB, e10, e00, e11, if_true, if_false, bb_b0_s, bb_b1_s, bb_b2_s, bb_b3_s, bb_b4_s, bb_b5_s, bb_b6_s, bb_b7_s, bb_b8_s, bb_b9_s, bb_b10_s, bb_b11_s, bb_b12_s, bb_b13_s, bb_b14_s, bb_b15_s, bb_b16_s]
          · simp only [n20, n21, n22, n30, n31, n32, n33, hA, hB, e10, e00, e11, if_true, if_false, bb_b0_s, bb_b1_s, bb_b2_s, bb_b3_s, bb_b4_s, bb_b5_s, bb_b6_s, bb_b7_s, bb_b8_s, bb_b9_s, bb_b10_s, bb_b11_s, bb_b12_s, bb_b13_s, bb_b14_s, bb_b15_s, bb_b16_s]
          · simp only [n30, n31, n32, n33, n00, hA, hB, e10, e00, e11, if_true, if_false, bb_b0_s, bb_b1_s, bb_b2_s, bb_b3_s, bb_b4_s, bb_b5_s, bb_b6_s, bb_b7_s, bb_b8_s, bb_b9_s, bb_b10_s, bb_b11_s, bb_b12_s, bb_b13_s, bb_b14_s, bb_b15_s, bb_b16_s]
          · simp only [n30, n31, n32, n33, n10, n11, hA, hB, e10, e00, e11, if_true, if_false, bb_b0_s, bb_b1_s, bb_b2_s, bb_b3_s, bb_b4_s, bb_b5_s, bb_b6_s, bb_b7_s, bb_b8_s, bb_b9_s, bb_b10_s, bb_b11_s, bb_b12_s, bb_b13_s, bb_b14_s, bb_b15_s, bb_b16_s]
          · simp only [n30, n31, n32, n33, n20, n21, n22, hA, hB, e10, e00, e11, if_true, if_false, bb_b0_s, bb_b1_s, bb_b2_s, bb_b3_s, bb_b4_s, bb_b5_s, bb_b6_s, bb_b7_s, bb_b8_s, bb_b9_s, bb_b10_s, bb_b11_s, bb_b12_s, bb_b13_s, bb_b14_s, bb_b15_s, bb_b16_s]
          · simp only [n30, n31, n32, n33, hA, hB, e10, e00, e11, if_true, if_false, bb_b0_s, bb_b1_s, bb_b2_s, bb_b3_s, bb_b4_s, bb_b5_s, bb_b6_s, bb_b7_s, bb_b8_s, bb_b9_s, bb_b10_s, bb_b11_s, bb_b12_s, bb_b13_s, bb_b14_s, bb_b15_s, bb_b16_s]
        · by_cases hC : B k = B t
          · simp only [if_neg hA, if_neg hB, if_pos hC]
            by_cases hD : HP p2 p5 m ∧ HP p4 p5 m2
            · obtain ⟨hD1, hD2⟩ := hD
              have x1 := hp1_t q3 hD1
              have x2 := hp1_t r3 hD2
              rw [← q4] at x1
              rw [← r4] at x2
              obtain ⟨a, n, rfl, rfl, ha⟩ := hD1
              obtain ⟨c, n2, rfl, en, hc⟩ := hD2
              have en2 : n = n2 := by
                have := congrArg Int32.toNatClampNeg en
                rw [nI_clamp (by omega)] at this
                rcases Nat.lt_or_ge n2 (2 ^ 31) with g | g
                · rw [nI_clamp g] at this
                  exact this
                · omega
              subst en2
              obtain ⟨mv2, hm1, em⟩ := mov8 (nu := nu) hn hk4 (show a + n ≤ 40 by omega) mv (fun f => bb_loop2 (uX8_copy_s172 (nI t) (nI c) (nI n) fo f) nn (0 : Int32) nu)
              obtain ⟨nu2, hl1, hl2, el⟩ := lay8 hn ht4 (show c + n ≤ 40 by omega) fo mv2 nu
              have hS2 : SHF bo so nu2 B L (updN N t (va_cpy (N k) (N t) a c n)) := by
                intro j hj
                obtain ⟨u1, u2, m3, u3, u4, u5⟩ := hS j hj
                refine ⟨u1, u2, m3, u3, u4, fun x hx => ?_⟩
                by_cases e : j = t
                · subst e
                  rw [updN_s]
                  by_cases g : c ≤ x ∧ x < c + n
                  · rw [pk_cpy_in g.1 g.2, show 40 * j + x = 40 * j + c + (x - c) by omega, hl1 _ (by omega), hm1 _ (by omega), show 40 * k + a + (x - c) = 40 * k + (a + (x - c)) by omega]
                    exact q5 _ (by omega)
                  · rw [pk_cpy_out (by omega), hl2 _ (by omega)]
                    exact u5 x hx
                · rw [updN_n e, hl2 _ (by omega)]
                  exact u5 x hx
              have y1 : ¬ (0 < lg_cmp ((nI a).toInt64 + (nI n).toInt64) ((L k).toInt64)) := by
                rw [q4, w_cmp (by omega) (by omega) q3]
                omega
              have y2 : ¬ (0 < lg_cmp ((nI c).toInt64 + (nI n).toInt64) ((L t).toInt64)) := by
                rw [r4, w_cmp (by omega) (by omega) r3]
                omega
              have z1 : ∀ {β : Type} (o : Option β), bb_cp (nI a) (nI c) (nI n) 40 40 o = o := fun o => by
                unfold bb_cp
                rw [if_pos]
                refine ⟨nI_nneg (by omega), nI_nneg (by omega), nI_nneg (by omega), ?_, ?_⟩
                · rw [cln (by omega), cln (by omega)]; omega
                · rw [cln (by omega), cln (by omega)]; omega
              simp only [if_neg (nI_nneg (show a < 2 ^ 31 by omega)), if_neg (nI_nneg (show c < 2 ^ 31 by omega)), if_neg (nI_nneg (show n < 2 ^ 31 by omega)), if_neg y1, if_neg y2, e10, e00, e11, if_true, if_false, em, el, z1, cln (show a < 2 ^ 31 by omega), cln (show c < 2 ^ 31 by omega), cln (show n < 2 ^ 31 by omega)]
              refine ⟨nI n, fo, _, mv2, nu2, ?_, rfl, hS2⟩
              clear q1 q2 q4 q5 r1 r2 r4 r5 hS2 hl1 hl2 el em hm1 y1 y2 z1
              rcases k4 hk with rfl | rfl | rfl | rfl <;> rcases k4 ht with rfl | rfl | rfl | rfl
              · simp only [n00, hA, hB, if_pos hC, x1, x2, e10, e00, e11, if_true, if_false, bb_b0_s, bb_b1_s, bb_b2_s, bb_b3_s, bb_b4_s, bb_b5_s, bb_b6_s, bb_b7_s, bb_b8_s, bb_b9_s, bb_b10_s, bb_b11_s, bb_b12_s, bb_b13_s, bb_b14_s, bb_b15_s, bb_b16_s]
                rfl
              · simp only [n00, n10, n11, hA, hB, if_pos hC, x1, x2, e10, e00, e11, if_true, if_false, bb_b0_s, bb_b1_s, bb_b2_s, bb_b3_s, bb_b4_s, bb_b5_s, bb_b6_s, bb_b7_s, bb_b8_s, bb_b9_s, bb_b10_s, bb_b11_s, bb_b12_s, bb_b13_s, bb_b14_s, bb_b15_s, bb_b16_s]
                rfl
              · simp only [n00, n20, n21, n22, hA, hB, if_pos hC, x1, x2, e10, e00, e11, if_true, if_false, bb_b0_s, bb_b1_s, bb_b2_s, bb_b3_s, bb_b4_s, bb_b5_s, bb_b6_s, bb_b7_s, bb_b8_s, bb_b9_s, bb_b10_s, bb_b11_s, bb_b12_s, bb_b13_s, bb_b14_s, bb_b15_s, bb_b16_s]
                rfl
              · simp only [n00, n30, n31, n32, n33, hA, hB, if_pos hC, x1, x2, e10, e00, e11, if_true, if_false, bb_b0_s, bb_b1_s, bb_b2_s, bb_b3_s, bb_b4_s, bb_b5_s, bb_b6_s, bb_b7_s, bb_b8_s, bb_b9_s, bb_b10_s, bb_b11_s, bb_b12_s, bb_b13_s, bb_b14_s, bb_b15_s, bb_b16_s]
                rfl
              · simp only [n10, n11, n00, hA, hB, if_pos hC, x1, x2, e10, e00, e11, if_true, if_false, bb_b0_s, bb_b1_s, bb_b2_s, bb_b3_s, bb_b4_s, bb_b5_s, bb_b6_s, bb_b7_s, bb_b8_s, bb_b9_s, bb_b10_s, bb_b11_s, bb_b12_s, bb_b13_s, bb_b14_s, bb_b15_s, bb_b16_s]
                rfl
              · simp only [n10, n11, hA, hB, if_pos hC, x1, x2, e10, e00, e11, if_true, if_false, bb_b0_s, bb_b1_s, bb_b2_s, bb_b3_s, bb_b4_s, bb_b5_s, bb_b6_s, bb_b7_s, bb_b8_s, bb_b9_s, bb_b10_s, bb_b11_s, bb_b12_s, bb_b13_s, bb_b14_s, bb_b15_s, bb_b16_s]
                rfl
              · simp only [n10, n11, n20, n21, n22, hA, hB, if_pos hC, x1, x2, e10, e00, e11, if_true, if_false, bb_b0_s, bb_b1_s, bb_b2_s, bb_b3_s, bb_b4_s, bb_b5_s, bb_b6_s, bb_b7_s, bb_b8_s, bb_b9_s, bb_b10_s, bb_b11_s, bb_b12_s, bb_b13_s, bb_b14_s, bb_b15_s, bb_b16_s]
                rfl
              · simp only [n10, n11, n30, n31, n32, n33, hA, hB, if_pos hC, x1, x2, e10, e00, e11, if_true, if_false, bb_b0_s, bb_b1_s, bb_b2_s, bb_b3_s, bb_b4_s, bb_b5_s, bb_b6_s, bb_b7_s, bb_b8_s, bb_b9_s, bb_b10_s, bb_b11_s, bb_b12_s, bb_b13_s, bb_b14_s, bb_b15_s, bb_b16_s]
                rfl
              · simp only [n20, n21, n22, n00, hA, hB, if_pos hC, x1, x2, e10, e00, e11, if_true, if_false, bb_b0_s, bb_b1_s, bb_b2_s, bb_b3_s, bb_b4_s, bb_b5_s, bb_b6_s, bb_b7_s, bb_b8_s, bb_b9_s, bb_b10_s, bb_b11_s, bb_b12_s, bb_b13_s, bb_b14_s, bb_b15_s, bb_b16_s]
                rfl
              · simp only [n20, n21, n22, n10, n11, hA, hB, if_pos hC, x1, x2, e10, e00, e11, if_true, if_false, bb_b0_s, bb_b1_s, bb_b2_s, bb_b3_s, bb_b4_s, bb_b5_s, bb_b6_s, bb_b7_s, bb_b8_s, bb_b9_s, bb_b10_s, bb_b11_s, bb_b12_s, bb_b13_s, bb_b14_s, bb_b15_s, bb_b16_s]
                rfl
              · simp only [n20, n21, n22, hA, hB, if_pos hC, x1, x2, e10, e00, e11, if_true, if_false, bb_b0_s, bb_b1_s, bb_b2_s, bb_b3_s, bb_b4_s, bb_b5_s, bb_b6_s, bb_b7_s, bb_b8_s, bb_b9_s, bb_b10_s, bb_b11_s, bb_b12_s, bb_b13_s, bb_b14_s, bb_b15_s, bb_b16_s]
                rfl
              · simp only [n20, n21, n22, n30, n31, n32, n33, hA, hB, if_pos hC, x1, x2, e10, e00, e11, if_true, if_false, bb_b0_s, bb_b1_s, bb_b2_s, bb_b3_s, bb_b4_s, bb_b5_s, bb_b6_s, bb_b7_s, bb_b8_s, bb_b9_s, bb_b10_s, bb_b11_s, bb_b12_s, bb_b13_s, bb_b14_s, bb_b15_s, bb_b16_s]
                rfl
              · simp only [n30, n31, n32, n33, n00, hA, hB, if_pos hC, x1, x2, e10, e00, e11, if_true, if_false, bb_b0_s, bb_b1_s, bb_b2_s, bb_b3_s, bb_b4_s, bb_b5_s, bb_b6_s, bb_b7_s, bb_b8_s, bb_b9_s, bb_b10_s, bb_b11_s, bb_b12_s, bb_b13_s, bb_b14_s, bb_b15_s, bb_b16_s]
                rfl
              · simp only [n30, n31, n32, n33, n10, n11, hA, hB, if_pos hC, x1, x2, e10, e00, e11, if_true, if_false, bb_b0_s, bb_b1_s, bb_b2_s, bb_b3_s, bb_b4_s, bb_b5_s, bb_b6_s, bb_b7_s, bb_b8_s, bb_b9_s, bb_b10_s, bb_b11_s, bb_b12_s, bb_b13_s, bb_b14_s, bb_b15_s, bb_b16_s]
                rfl
              · simp only [n30, n31, n32, n33, n20, n21, n22, hA, hB, if_pos hC, x1, x2, e10, e00, e11, if_true, if_false, bb_b0_s, bb_b1_s, bb_b2_s, bb_b3_s, bb_b4_s, bb_b5_s, bb_b6_s, bb_b7_s, bb_b8_s, bb_b9_s, bb_b10_s, bb_b11_s, bb_b12_s, bb_b13_s, bb_b14_s, bb_b15_s, bb_b16_s]
                rfl
              · simp only [n30, n31, n32, n33, hA, hB, if_pos hC, x1, x2, e10, e00, e11, if_true, if_false, bb_b0_s, bb_b1_s, bb_b2_s, bb_b3_s, bb_b4_s, bb_b5_s, bb_b6_s, bb_b7_s, bb_b8_s, bb_b9_s, bb_b10_s, bb_b11_s, bb_b12_s, bb_b13_s, bb_b14_s, bb_b15_s, bb_b16_s]
                rfl
            · have y0 : ∀ {β : Type} (A Z : β), (if p5 < 0 then Z else if p2 < 0 then Z else if p4 < 0 then Z else if 0 < lg_cmp (p2.toInt64 + p5.toInt64) ((L k).toInt64) then Z else if 0 < lg_cmp (p4.toInt64 + p5.toInt64) ((L t).toInt64) then Z else A) = Z := by
                intro β A Z
                by_cases g5 : p5 < 0
                · rw [if_pos g5]
                · rw [if_neg g5]
                  by_cases g2 : p2 < 0
                  · rw [if_pos g2]
                  · rw [if_neg g2]
                    by_cases g4 : p4 < 0
                    · rw [if_pos g4]
                    · rw [if_neg g4]
                      obtain ⟨n, hn2, rfl⟩ := ofnn g5
                      obtain ⟨a, ha, rfl⟩ := ofnn g2
                      obtain ⟨c, hc, rfl⟩ := ofnn g4
                      rw [q4, r4]
                      by_cases w1 : m < a + n
                      · rw [if_pos ((w_cmp ha hn2 q3).mpr w1)]
                      · rw [if_neg (fun h => w1 ((w_cmp ha hn2 q3).mp h)), if_pos ((w_cmp hc hn2 r3).mpr (by
                          rcases Nat.lt_or_ge m2 (c + n) with g | g
                          · exact g
                          · exact absurd ⟨⟨a, n, rfl, rfl, by omega⟩, ⟨c, n, rfl, rfl, by omega⟩⟩ hD))]
              simp only [y0, e10, e00, e11, if_true, if_false]
              refine ⟨-1000001, nfd 0 fo, N, mv, nu, ?_, rfl, hS⟩
              by_cases hD1 : HP p2 p5 m
              · have x1 := hp1_t q3 hD1
                have x2 := hp1_f r3 (fun h => hD ⟨hD1, h⟩)
                rw [← q4] at x1
                rw [← r4] at x2
                clear q1 q2 q4 q5 r1 r2 r4 r5 y0
                rcases k4 hk with rfl | rfl | rfl | rfl <;> rcases k4 ht with rfl | rfl | rfl | rfl
                · simp only [n00, hA, hB, if_pos hC, x1, x2, e10, e00, e11, if_true, if_false, bb_b0_s, bb_b1_s, bb_b2_s, bb_b3_s, bb_b4_s, bb_b5_s, bb_b6_s, bb_b7_s, bb_b8_s, bb_b9_s, bb_b10_s, bb_b11_s, bb_b12_s, bb_b13_s, bb_b14_s, bb_b15_s, bb_b16_s]
                · simp only [n00, n10, n11, hA, hB, if_pos hC, x1, x2, e10, e00, e11, if_true, if_false, bb_b0_s, bb_b1_s, bb_b2_s, bb_b3_s, bb_b4_s, bb_b5_s, bb_b6_s, bb_b7_s, bb_b8_s, bb_b9_s, bb_b10_s, bb_b11_s, bb_b12_s, bb_b13_s, bb_b14_s, bb_b15_s, bb_b16_s]
                · simp only [n00, n20, n21, n22, hA, hB, if_pos hC, x1, x2, e10, e00, e11, if_true, if_false, bb_b0_s, bb_b1_s, bb_b2_s, bb_b3_s, bb_b4_s, bb_b5_s, bb_b6_s, bb_b7_s, bb_b8_s, bb_b9_s, bb_b10_s, bb_b11_s, bb_b12_s, bb_b13_s, bb_b14_s, bb_b15_s, bb_b16_s]
                · simp only [n00, n30, n31, n32, n33, hA, hB, if_pos hC, x1, x2, e10, e00, e11, if_true, if_false, bb_b0_s, bb_b1_s, bb_b2_s, bb_b3_s, bb_b4_s, bb_b5_s, bb_b6_s, bb_b7_s, bb_b8_s, bb_b9_s, bb_b10_s, bb_b11_s, bb_b12_s, bb_b13_s, bb_b14_s, bb_b15_s, bb_b16_s]
                · simp only [n10, n11, n00, hA, hB, if_pos hC, x1, x2, e10, e00, e11, if_true, if_false, bb_b0_s, bb_b1_s, bb_b2_s, bb_b3_s, bb_b4_s, bb_b5_s, bb_b6_s, bb_b7_s, bb_b8_s, bb_b9_s, bb_b10_s, bb_b11_s, bb_b12_s, bb_b13_s, bb_b14_s, bb_b15_s, bb_b16_s]
                · simp only [n10, n11, hA, hB, if_pos hC, x1, x2, e10, e00, e11, if_true, if_false, bb_b0_s, bb_b1_s, bb_b2_s, bb_b3_s, bb_b4_s, bb_b5_s, bb_b6_s, bb_b7_s, bb_b8_s, bb_b9_s, bb_b10_s, bb_b11_s, bb_b12_s, bb_b13_s, bb_b14_s, bb_b15_s, bb_b16_s]
                · simp only [n10, n11, n20, n21, n22, hA, hB, if_pos hC, x1, x2, e10, e00, e11, if_true, if_false, bb_b0_s, bb_b1_s, bb_b2_s, bb_b3_s, bb_b4_s, bb_b5_s, bb_b6_s, bb_b7_s, bb_b8_s, bb_b9_s, bb_b10_s, bb_b11_s, bb_b12_s, bb_b13_s, bb_b14_s, bb_b15_s, bb_b16_s]
                · simp only [n10, n11, n30, n31, n32, n33, hA, hB, if_pos hC, x1, x2, e10, e00, e11, if_true, if_false, bb_b0_s, bb_b1_s, bb_b2_s, bb_b3_s, bb_b4_s, bb_b5_s, bb_b6_s, bb_b7_s, bb_b8_s, bb_b9_s, bb_b10_s, bb_b11_s, bb_b12_s, bb_b13_s, bb_b14_s, bb_b15_s, bb_b16_s]
                · simp only [n20, n21, n22, n00, hA, hB, if_pos hC, x1, x2, e10, e00, e11, if_true, if_false, bb_b0_s, bb_b1_s, bb_b2_s, bb_b3_s, bb_b4_s, bb_b5_s, bb_b6_s, bb_b7_s, bb_b8_s, bb_b9_s, bb_b10_s, bb_b11_s, bb_b12_s, bb_b13_s, bb_b14_s, bb_b15_s, bb_b16_s]
                · simp only [n20, n21, n22, n10, n11, hA, hB, if_pos hC, x1, x2, e10, e00, e11, if_true, if_false, bb_b0_s, bb_b1_s, bb_b2_s, bb_b3_s, bb_b4_s, bb_b5_s, bb_b6_s, bb_b7_s, bb_b8_s, bb_b9_s, bb_b10_s, bb_b11_s, bb_b12_s, bb_b13_s, bb_b14_s, bb_b15_s, bb_b16_s]
                · simp only [n20, n21, n22, hA, hB, if_pos hC, x1, x2, e10, e00, e11, if_true, if_false, bb_b0_s, bb_b1_s, bb_b2_s, bb_b3_s, bb_b4_s, bb_b5_s, bb_b6_s, bb_b7_s, bb_b8_s, bb_b9_s, bb_b10_s, bb_b11_s, bb_b12_s, bb_b13_s, bb_b14_s, bb_b15_s, bb_b16_s]
                · simp only [n20, n21, n22, n30, n31, n32, n33, hA, hB, if_pos hC, x1, x2, e10, e00, e11, if_true, if_false, bb_b0_s, bb_b1_s, bb_b2_s, bb_b3_s, bb_b4_s, bb_b5_s, bb_b6_s, bb_b7_s, bb_b8_s, bb_b9_s, bb_b10_s, bb_b11_s, bb_b12_s, bb_b13_s, bb_b14_s, bb_b15_s, bb_b16_s]
                · simp only [n30, n31, n32, n33, n00, hA, hB, if_pos hC, x1, x2, e10, e00, e11, if_true, if_false, bb_b0_s, bb_b1_s, bb_b2_s, bb_b3_s, bb_b4_s, bb_b5_s, bb_b6_s, bb_b7_s, bb_b8_s, bb_b9_s, bb_b10_s, bb_b11_s, bb_b12_s, bb_b13_s, bb_b14_s, bb_b15_s, bb_b16_s]
                · simp only [n30, n31, n32, n33, n10, n11, hA, hB, if_pos hC, x1, x2, e10, e00, e11, if_true, if_false, bb_b0_s, bb_b1_s, bb_b2_s, bb_b3_s, bb_b4_s, bb_b5_s, bb_b6_s, bb_b7_s, bb_b8_s, bb_b9_s, bb_b10_s, bb_b11_s, bb_b12_s, bb_b13_s, bb_b14_s, bb_b15_s, bb_b16_s]
                · simp only [n30, n31, n32, n33, n20, n21, n22, hA, hB, if_pos hC, x1, x2, e10, e00, e11, if_true, if_false, bb_b0_s, bb_b1_s, bb_b2_s, bb_b3_s, bb_b4_s, bb_b5_s, bb_b6_s, bb_b7_s, bb_b8_s, bb_b9_s, bb_b10_s, bb_b11_s, bb_b12_s, bb_b13_s, bb_b14_s, bb_b15_s, bb_b16_s]
                · simp only [n30, n31, n32, n33, hA, hB, if_pos hC, x1, x2, e10, e00, e11, if_true, if_false, bb_b0_s, bb_b1_s, bb_b2_s, bb_b3_s, bb_b4_s, bb_b5_s, bb_b6_s, bb_b7_s, bb_b8_s, bb_b9_s, bb_b10_s, bb_b11_s, bb_b12_s, bb_b13_s, bb_b14_s, bb_b15_s, bb_b16_s]
              · have x1 := hp1_f q3 hD1
                rw [← q4] at x1
                clear q1 q2 q4 q5 r1 r2 r4 r5 y0
                rcases k4 hk with rfl | rfl | rfl | rfl <;> rcases k4 ht with rfl | rfl | rfl | rfl
                · simp only [n00, hA, hB, if_pos hC, x1, e10, e00, e11, if_true, if_false, bb_b0_s, bb_b1_s, bb_b2_s, bb_b3_s, bb_b4_s, bb_b5_s, bb_b6_s, bb_b7_s, bb_b8_s, bb_b9_s, bb_b10_s, bb_b11_s, bb_b12_s, bb_b13_s, bb_b14_s, bb_b15_s, bb_b16_s]
                · simp only [n00, n10, n11, hA, hB, if_pos hC, x1, e10, e00, e11, if_true, if_false, bb_b0_s, bb_b1_s, bb_b2_s, bb_b3_s, bb_b4_s, bb_b5_s, bb_b6_s, bb_b7_s, bb_b8_s, bb_b9_s, bb_b10_s, bb_b11_s, bb_b12_s, bb_b13_s, bb_b14_s, bb_b15_s, bb_b16_s]
                · simp only [n00, n20, n21, n22, hA, hB, if_pos hC, x1, e10, e00, e11, if_true, if_false, bb_b0_s, bb_b1_s, bb_b2_s, bb_b3_s, bb_b4_s, bb_b5_s, bb_b6_s, bb_b7_s, bb_b8_s, bb_b9_s, bb_b10_s, bb_b11_s, bb_b12_s, bb_b13_s, bb_b14_s, bb_b15_s, bb_b16_s]
                · simp only [n00, n30, n31, n32, n33, hA, hB, if_pos hC, x1, e10, e00, e11, if_true, if_false, bb_b0_s, bb_b1_s, bb_b2_s, bb_b3_s, bb_b4_s, bb_b5_s, bb_b6_s, bb_b7_s, bb_b8_s, bb_b9_s, bb_b10_s, bb_b11_s, bb_b12_s, bb_b13_s, bb_b14_s, bb_b15_s, bb_b16_s]
                · simp only [n10, n11, n00, hA, hB, if_pos hC, x1, e10, e00, e11, if_true, if_false, bb_b0_s, bb_b1_s, bb_b2_s, bb_b3_s, bb_b4_s, bb_b5_s, bb_b6_s, bb_b7_s, bb_b8_s, bb_b9_s, bb_b10_s, bb_b11_s, bb_b12_s, bb_b13_s, bb_b14_s, bb_b15_s, bb_b16_s]
                · simp only [n10, n11, hA, hB, if_pos hC, x1, e10, e00, e11, if_true, if_false, bb_b0_s, bb_b1_s, bb_b2_s, bb_b3_s, bb_b4_s, bb_b5_s, bb_b6_s, bb_b7_s, bb_b8_s, bb_b9_s, bb_b10_s, bb_b11_s, bb_b12_s, bb_b13_s, bb_b14_s, bb_b15_s, bb_b16_s]
                · simp only [n10, n11, n20, n21, n22, hA, hB, if_pos hC, x1, e10, e00, e11, if_true, if_false, bb_b0_s, bb_b1_s, bb_b2_s, bb_b3_s, bb_b4_s, bb_b5_s, bb_b6_s, bb_b7_s, bb_b8_s, bb_b9_s, bb_b10_s, bb_b11_s, bb_b12_s, bb_b13_s, bb_b14_s, bb_b15_s, bb_b16_s]
                · simp only [n10, n11, n30, n31, n32, n33, hA, hB, if_pos hC, x1, e10, e00, e11, if_true, if_false, bb_b0_s, bb_b1_s, bb_b2_s, bb_b3_s, bb_b4_s, bb_b5_s, bb_b6_s, bb_b7_s, bb_b8_s, bb_b9_s, bb_b10_s, bb_b11_s, bb_b12_s, bb_b13_s, bb_b14_s, bb_b15_s, bb_b16_s]
                · simp only [n20, n21, n22, n00, hA, hB, if_pos hC, x1, e10, e00, e11, if_true, if_false, bb_b0_s, bb_b1_s, bb_b2_s, bb_b3_s, bb_b4_s, bb_b5_s, bb_b6_s, bb_b7_s, bb_b8_s, bb_b9_s, bb_b10_s, bb_b11_s, bb_b12_s, bb_b13_s, bb_b14_s, bb_b15_s, bb_b16_s]
                · simp only [n20, n21, n22, n10, n11, hA, hB, if_pos hC, x1, e10, e00, e11, if_true, if_false, bb_b0_s, bb_b1_s, bb_b2_s, bb_b3_s, bb_b4_s, bb_b5_s, bb_b6_s, bb_b7_s, bb_b8_s, bb_b9_s, bb_b10_s, bb_b11_s, bb_b12_s, bb_b13_s, bb_b14_s, bb_b15_s, bb_b16_s]
                · simp only [n20, n21, n22, hA, hB, if_pos hC, x1, e10, e00, e11, if_true, if_false, bb_b0_s, bb_b1_s, bb_b2_s, bb_b3_s, bb_b4_s, bb_b5_s, bb_b6_s, bb_b7_s, bb_b8_s, bb_b9_s, bb_b10_s, bb_b11_s, bb_b12_s, bb_b13_s, bb_b14_s, bb_b15_s, bb_b16_s]
                · simp only [n20, n21, n22, n30, n31, n32, n33, hA, hB, if_pos hC, x1, e10, e00, e11, if_true, if_false, bb_b0_s, bb_b1_s, bb_b2_s, bb_b3_s, bb_b4_s, bb_b5_s, bb_b6_s, bb_b7_s, bb_b8_s, bb_b9_s, bb_b10_s, bb_b11_s, bb_b12_s, bb_b13_s, bb_b14_s, bb_b15_s, bb_b16_s]
                · simp only [n30, n31, n32, n33, n00, hA, hB, if_pos hC, x1, e10, e00, e11, if_true, if_false, bb_b0_s, bb_b1_s, bb_b2_s, bb_b3_s, bb_b4_s, bb_b5_s, bb_b6_s, bb_b7_s, bb_b8_s, bb_b9_s, bb_b10_s, bb_b11_s, bb_b12_s, bb_b13_s, bb_b14_s, bb_b15_s, bb_b16_s]
                · simp only [n30, n31, n32, n33, n10, n11, hA, hB, if_pos hC, x1, e10, e00, e11, if_true, if_false, bb_b0_s, bb_b1_s, bb_b2_s, bb_b3_s, bb_b4_s, bb_b5_s, bb_b6_s, bb_b7_s, bb_b8_s, bb_b9_s, bb_b10_s, bb_b11_s, bb_b12_s, bb_b13_s, bb_b14_s, bb_b15_s, bb_b16_s]
                · simp only [n30, n31, n32, n33, n20, n21, n22, hA, hB, if_pos hC, x1, e10, e00, e11, if_true, if_false, bb_b0_s, bb_b1_s, bb_b2_s, bb_b3_s, bb_b4_s, bb_b5_s, bb_b6_s, bb_b7_s, bb_b8_s, bb_b9_s, bb_b10_s, bb_b11_s, bb_b12_s, bb_b13_s, bb_b14_s, bb_b15_s, bb_b16_s]
                · simp only [n30, n31, n32, n33, hA, hB, if_pos hC, x1, e10, e00, e11, if_true, if_false, bb_b0_s, bb_b1_s, bb_b2_s, bb_b3_s, bb_b4_s, bb_b5_s, bb_b6_s, bb_b7_s, bb_b8_s, bb_b9_s, bb_b10_s, bb_b11_s, bb_b12_s, bb_b13_s, bb_b14_s, bb_b15_s, bb_b16_s]
          · simp only [if_neg hA, if_neg hB, if_neg hC]
            refine ⟨-1000003, nfd 2 fo, N, mv, nu, ?_, rfl, hS⟩
            clear q1 q2 q4 q5 r1 r2 r4 r5
            rcases k4 hk with rfl | rfl | rfl | rfl <;> rcases k4 ht with rfl | rfl | rfl | rfl
            · exact absurd rfl hC
            · simp only [n00, n10, n11, hA, hB, if_neg hC, e10, e00, e11, if_true, if_false, bb_b0_s, bb_b1_s, bb_b2_s, bb_b3_s, bb_b4_s, bb_b5_s, bb_b6_s, bb_b7_s, bb_b8_s, bb_b9_s, bb_b10_s, bb_b11_s, bb_b12_s, bb_b13_s, bb_b14_s, bb_b15_s, bb_b16_s]
            · simp only [n00, n20, n21, n22, hA, hB, if_neg hC, e10, e00, e11, if_true, if_false, bb_b0_s, bb_b1_s, bb_b2_s, bb_b3_s, bb_b4_s, bb_b5_s, bb_b6_s, bb_b7_s, bb_b8_s, bb_b9_s, bb_b10_s, bb_b11_s, bb_b12_s, bb_b13_s, bb_b14_s, bb_b15_s, bb_b16_s]
            · simp only [n00, n30, n31, n32, n33, hA, hB, if_neg hC, e10, e00, e11, if_true, if_false, bb_b0_s, bb_b1_s, bb_b2_s, bb_b3_s, bb_b4_s, bb_b5_s, bb_b6_s, bb_b7_s, bb_b8_s, bb_b9_s, bb_b10_s, bb_b11_s, bb_b12_s, bb_b13_s, bb_b14_s, bb_b15_s, bb_b16_s]
            · simp only [n10, n11, n00, hA, hB, if_neg hC, e10, e00, e11, if_true, if_false, bb_b0_s, bb_b1_s, bb_b2_s, bb_b3_s, bb_b4_s, bb_b5_s, bb_b6_s, bb_b7_s, bb_b8_s, bb_b9_s, bb_b10_s, bb_b11_s, bb_b12_s, bb_b13_s, bb_b14_s, bb_b15_s, bb_b16_s]
            · exact absurd rfl hC
            · simp only [n10, n11, n20, n21, n22, hA, hB, if_neg hC, e10, e00, e11, if_true, if_false, bb_b0_s, bb_b1_s, bb_b2_s, bb_b3_s, bb_b4_s, bb_b5_s, bb_b6_s, bb_b7_s, bb_b8_s, bb_b9_s, bb_b10_s, bb_b11_s, bb_b12_s, bb_b13_s, bb_b14_s, bb_b15_s, bb_b16_s]
            · simp only [n10, n11, n30, n31, n32, n33, hA, hB, if_neg hC, e10, e00, e11, if_true, if_false, bb_b0_s, bb_b1_s, bb_b2_s, bb_b3_s, bb_b4_s, bb_b5_s, bb_b6_s, bb_b7_s, bb_b8_s, bb_b9_s, bb_b10_s, bb_b11_s, bb_b12_s, bb_b13_s, bb_b14_s, bb_b15_s, bb_b16_s]
            · simp only [n20, n21, n22, n00, hA, hB, if_neg hC, e10, e00, e11, if_true, if_false, bb_b0_s, bb_b1_s, bb_b2_s, bb_b3_s, bb_b4_s, bb_b5_s, bb_b6_s, bb_b7_s, bb_b8_s, bb_b9_s, bb_b10_s, bb_b11_s, bb_b12_s, bb_b13_s, bb_b14_s, bb_b15_s, bb_b16_s]
            · simp only [n20, n21, n22, n10, n11, hA, hB, if_neg hC, e10, e00, e11, if_true, if_false, bb_b0_s, bb_b1_s, bb_b2_s, bb_b3_s, bb_b4_s, bb_b5_s, bb_b6_s, bb_b7_s, bb_b8_s, bb_b9_s, bb_b10_s, bb_b11_s, bb_b12_s, bb_b13_s, bb_b14_s, bb_b15_s, bb_b16_s]
            · exact absurd rfl hC
            · simp only [n20, n21, n22, n30, n31, n32, n33, hA, hB, if_neg hC, e10, e00, e11, if_true, if_false, bb_b0_s, bb_b1_s, bb_b2_s, bb_b3_s, bb_b4_s, bb_b5_s, bb_b6_s, bb_b7_s, bb_b8_s, bb_b9_s, bb_b10_s, bb_b11_s, bb_b12_s, bb_b13_s, bb_b14_s, bb_b15_s, bb_b16_s]
            · simp only [n30, n31, n32, n33, n00, hA, hB, if_neg hC, e10, e00, e11, if_true, if_false, bb_b0_s, bb_b1_s, bb_b2_s, bb_b3_s, bb_b4_s, bb_b5_s, bb_b6_s, bb_b7_s, bb_b8_s, bb_b9_s, bb_b10_s, bb_b11_s, bb_b12_s, bb_b13_s, bb_b14_s, bb_b15_s, bb_b16_s]
            · simp only [n30, n31, n32, n33, n10, n11, hA, hB, if_neg hC, e10, e00, e11, if_true, if_false, bb_b0_s, bb_b1_s, bb_b2_s, bb_b3_s, bb_b4_s, bb_b5_s, bb_b6_s, bb_b7_s, bb_b8_s, bb_b9_s, bb_b10_s, bb_b11_s, bb_b12_s, bb_b13_s, bb_b14_s, bb_b15_s, bb_b16_s]
            · simp only [n30, n31, n32, n33, n20, n21, n22, hA, hB, if_neg hC, e10, e00, e11, if_true, if_false, bb_b0_s, bb_b1_s, bb_b2_s, bb_b3_s, bb_b4_s, bb_b5_s, bb_b6_s, bb_b7_s, bb_b8_s, bb_b9_s, bb_b10_s, bb_b11_s, bb_b12_s, bb_b13_s, bb_b14_s, bb_b15_s, bb_b16_s]
            · exact absurd rfl hC
    · simp only [e1, e3, bb_b0_s, bb_b1_s, bb_b2_s, bb_b3_s, bb_b4_s, bb_b5_s, bb_b6_s, bb_b7_s, bb_b8_s, bb_b9_s, bb_b10_s, bb_b11_s, bb_b12_s, bb_b13_s, bb_b14_s, bb_b15_s, bb_b16_s, e10, e00, e11, if_true, if_false]
      exact ⟨_, _, _, _, _, rfl, rfl, hS⟩
  · simp only [e1, bb_b0_s, bb_b1_s, bb_b2_s, bb_b3_s, bb_b4_s, bb_b5_s, bb_b6_s, bb_b7_s, bb_b8_s, bb_b9_s, bb_b10_s, bb_b11_s, bb_b12_s, bb_b13_s, bb_b14_s, bb_b15_s, bb_b16_s, e10, e00, e11, if_true, if_false]
    exact ⟨_, _, _, _, _, rfl, rfl, hS⟩
end COPY
