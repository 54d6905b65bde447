/-! ===== post, posted, enough, row ===== -/
def mv (T : Nat → Nat) : Nat → Int32
  | 0 => -1
  | n + 1 => if mv T n < nI (T n) then nI (T n) else mv T n
def mb (T : Nat → Nat) (b : Int32) : Nat → Int32
  | 0 => b
  | n + 1 => if mv T n < nI (T n) then nI n else mb T b n
theorem mv_mb {T : Nat → Nat} (hT : ∀ n, T n < 1000) (b : Int32) : ∀ n, ∃ j, j < n + 1 ∧ mb T b (n + 1) = nI j ∧ mv T (n + 1) = nI (T j)
  | 0 => by
    have h : mv T 0 < nI (T 0) := by
      show (-1 : Int32) < nI (T 0)
      rw [i_lt, nI_toInt (by have := hT 0; omega), show ((-1 : Int32).toInt) = -1 by decide]
      omega
    refine ⟨0, by omega, ?_, ?_⟩
    · show (if mv T 0 < nI (T 0) then nI 0 else _) = _
      rw [if_pos h]
    · show (if mv T 0 < nI (T 0) then nI (T 0) else _) = _
      rw [if_pos h]
  | n + 1 => by
    obtain ⟨j, hj, e1, e2⟩ := mv_mb hT b n
    by_cases h : mv T (n + 1) < nI (T (n + 1))
    · refine ⟨n + 1, by omega, ?_, ?_⟩
      · show (if mv T (n + 1) < nI (T (n + 1)) then nI (n + 1) else _) = _
        rw [if_pos h]
      · show (if mv T (n + 1) < nI (T (n + 1)) then nI (T (n + 1)) else _) = _
        rw [if_pos h]
    · refine ⟨j, by omega, ?_, ?_⟩
      · show (if mv T (n + 1) < nI (T (n + 1)) then nI (n + 1) else mb T b (n + 1)) = _
        rw [if_neg h, e1]
      · show (if mv T (n + 1) < nI (T (n + 1)) then nI (T (n + 1)) else mv T (n + 1)) = _
        rw [if_neg h, e2]
theorem mb_any {T : Nat → Nat} (hT : ∀ n, T n < 1000) (b b2 : Int32) : ∀ n, mb T b (n + 1) = mb T b2 (n + 1)
  | 0 => by
    have h : mv T 0 < nI (T 0) := by
      show (-1 : Int32) < nI (T 0)
      rw [i_lt, nI_toInt (by have := hT 0; omega), show ((-1 : Int32).toInt) = -1 by decide]
      omega
    show (if mv T 0 < nI (T 0) then nI 0 else _) = (if mv T 0 < nI (T 0) then nI 0 else _)
    rw [if_pos h, if_pos h]
  | n + 1 => by
    have ih := mb_any hT b b2 n
    show (if mv T (n + 1) < nI (T (n + 1)) then nI (n + 1) else mb T b (n + 1)) = (if mv T (n + 1) < nI (T (n + 1)) then nI (n + 1) else mb T b2 (n + 1))
    rw [ih]
section POSTS
variable {s ga st cu ki at_ wi wr ke sp : Nat → Int32} {mi ba si ev z : Int32}
def sfN (s : Nat → Int32) (c : Nat) : Nat := cntN (fun x => sv (s 2) (s (9 + x)) (nI c) (nI x)) 48
theorem sfN_lt (s : Nat → Int32) (c : Nat) : sfN s c < 1000 := by
  have := cntN_le (fun x => sv (s 2) (s (9 + x)) (nI c) (nI x)) 48
  unfold sfN
  omega
theorem sf_bits {nn : Nat} (hR : RW s ga st cu ki at_ wi wr ke sp mi ba si ev z) (c : Nat) : uJ13_bitCount_95d88 (orL (cb (fun x => sv si (st x) (nI c) (nI x))) 48) = some (nI (sfN s c)) := by
  rw [bitCount13, cnt64 (p := fun x => sv si (st x) (nI c) (nI x)) _ (fun k hk => lb_cells _ hk)]
  unfold sfN
  rw [cntN_cong 48 (fun x hx => by rw [← hR.si_, ← hR.st_ hx])]
theorem bestPost6 {nn : Nat} (hn : 155 < nn) (hR : RW s ga st cu ki at_ wi wr ke sp mi ba si ev z) : uX6_bestPost nn si st = some (mb (sfN s) 0 48) := by
  unfold uX6_bestPost
  refine for3 (F1 := fun i => mb (sfN s) 0 i) (F2 := fun i => mv (sfN s) i) (F3 := fun i => nI i) (N := 48) (fun rec2 => ?_) (fun rec2 i hi => ?_) nn (by omega)
  · unfold uX6_bestPost_s6
    rw [if_pos (by decide)]
  · unfold uX6_bestPost_s6
    rw [if_neg (show ¬ (48 : Int32) ≤ nI i from nI_ge (b := 48) hi (by decide)), seenFrom6 (by omega), bb_b1_s, sf_bits (nn := nn) hR, bb_b1_s, bb_cut_s, p1_]
    show _ = rec2 (if mv (sfN s) i < nI (sfN s i) then nI i else mb (sfN s) 0 i) (if mv (sfN s) i < nI (sfN s i) then nI (sfN s i) else mv (sfN s) i) _
    have e : (nI (sfN s i) ≤ mv (sfN s) i) = ¬ (mv (sfN s) i < nI (sfN s i)) := propext (by rw [i_lt, i_le]; omega)
    by_cases h : mv (sfN s) i < nI (sfN s i)
    · rw [if_neg (by rw [e]; exact fun q => q h), if_pos h, if_pos h]
    · rw [if_pos (by rw [e]; exact h), if_neg h, if_neg h]
theorem findPost8 {nn : Nat} (hn : 155 < nn) (b0 m0 : Int32) : uX8_findPost nn b0 m0 s = some (mb (sfN s) b0 48, mv (sfN s) 48) := by
  unfold uX8_findPost
  refine for3 (F1 := fun i => nI i) (F2 := fun i => mb (sfN s) b0 i) (F3 := fun i => mv (sfN s) i) (N := 48) (fun rec2 => ?_) (fun rec2 i hi => ?_) nn (by omega)
  · unfold uX8_findPost_s7
    rw [if_pos (by decide)]
  · unfold uX8_findPost_s7
    have L : ∀ K : Int32 → Option (Int32 × Int32), bb_loop2 (uX8_findPost_s17 (nI i) s K) nn 0 0 = K (nI (sfN s i)) := by
      intro K
      refine for2 (F1 := fun j => nI (cntN (fun x => sv (s 2) (s (9 + x)) (nI i) (nI x)) j)) (F2 := fun j => nI j) (N := 48) (fun rec2 => ?_) (fun rec2 j hj => ?_) nn (by omega)
      · unfold uX8_findPost_s17
        rw [if_pos (by decide)]
        rfl
      · unfold uX8_findPost_s17
        rw [if_neg (show ¬ (48 : Int32) ≤ nI j from nI_ge (b := 48) hj (by decide)), sees8 hj, bb_b1_s, bb_cut_s, p1_]
        show _ = rec2 (nI (cntN _ j + (if sv (s 2) (s (9 + j)) (nI i) (nI j) = true then 1 else 0))) _
        by_cases h : sv (s 2) (s (9 + j)) (nI i) (nI j) = true
        · simp only [if_pos h, e10, e00, e11, if_true, if_false, p1_]
        · simp only [if_neg h, e10, e00, e11, if_true, if_false, p0_]
    rw [if_neg (show ¬ (48 : Int32) ≤ nI i from nI_ge (b := 48) hi (by decide)), bb_cut_s, L, bb_cut_s, p1_]
    show _ = rec2 _ (if mv (sfN s) i < nI (sfN s i) then nI i else mb (sfN s) b0 i) (if mv (sfN s) i < nI (sfN s i) then nI (sfN s i) else mv (sfN s) i)
    have e : (nI (sfN s i) ≤ mv (sfN s) i) = ¬ (mv (sfN s) i < nI (sfN s i)) := propext (by rw [i_lt, i_le]; omega)
    by_cases h : mv (sfN s) i < nI (sfN s i)
    · rw [if_neg (by rw [e]; exact fun q => q h), if_pos h, if_pos h]
    · rw [if_pos (by rw [e]; exact h), if_neg h, if_neg h]
theorem op_post {nn : Nat} (hn : 155 < nn) (hR : RW s ga st cu ki at_ wi wr ke sp mi ba si ev z) (fo : Nat → Int32) (p1 b0 m0 : Int32) :
    ∃ r fo2 b1 m1, uX7_post nn p1 fo si st = some (r, fo2) ∧ uX8_post nn p1 b0 m0 fo s = some (r, b1, m1, fo2) := by
  unfold uX7_post uX8_post
  simp only [guard7, guard8, find78, fnd0, bestPost6 hn hR, findPost8 hn, bb_b0_s, bb_b1_s, bb_b2_s, bb_b3_s, bb_b4_s, bb_b5_s, bb_b6_s, bb_b7_s, bb_b8_s, bb_b9_s, bb_b10_s, bb_b11_s, bb_b12_s, bb_b13_s, bb_b14_s, bb_b15_s, bb_b16_s]
  rcases win p1 0 3 with ⟨e1, h1, h2⟩ | ⟨e1, -⟩
  · simp only [e1, bb_b0_s, bb_b1_s, bb_b2_s, bb_b3_s, bb_b4_s, bb_b5_s, bb_b6_s, bb_b7_s, bb_b8_s, bb_b9_s, bb_b10_s, bb_b11_s, bb_b12_s, bb_b13_s, bb_b14_s, bb_b15_s, bb_b16_s, e10, e00, e11, if_true, if_false]
    rw [mb_any (sfN_lt s) 0 b0 47]
    exact ⟨_, _, _, _, rfl, rfl⟩
  · simp only [e1, bb_b0_s, bb_b1_s, bb_b2_s, bb_b3_s, bb_b4_s, bb_b5_s, bb_b6_s, bb_b7_s, bb_b8_s, bb_b9_s, bb_b10_s, bb_b11_s, bb_b12_s, bb_b13_s, bb_b14_s, bb_b15_s, bb_b16_s, e10, e00, e11, if_true, if_false]
    exact ⟨_, _, _, _, rfl, rfl⟩
theorem op_posted {nn : Nat} (hn : 155 < nn) (hR : RW s ga st cu ki at_ wi wr ke sp mi ba si ev z) (fo : Nat → Int32) (p1 b0 m0 : Int32) :
    ∃ r fo2 b1 m1, uX7_posted nn p1 fo si st = some (r, fo2) ∧ uX8_posted nn p1 b0 m0 fo s = some (r, b1, m1, fo2) := by
  unfold uX7_posted uX8_posted
  simp only [guard7, guard8, find78, fnd0, bestPost6 hn hR, findPost8 hn, bb_b0_s, bb_b1_s, bb_b2_s, bb_b3_s, bb_b4_s, bb_b5_s, bb_b6_s, bb_b7_s, bb_b8_s, bb_b9_s, bb_b10_s, bb_b11_s, bb_b12_s, bb_b13_s, bb_b14_s, bb_b15_s, bb_b16_s]
  rcases win p1 0 3 with ⟨e1, h1, h2⟩ | ⟨e1, -⟩
  · obtain ⟨j, hj, q1, q2⟩ := mv_mb (sfN_lt s) 0 47
    simp only [e1, bb_b0_s, bb_b1_s, bb_b2_s, bb_b3_s, bb_b4_s, bb_b5_s, bb_b6_s, bb_b7_s, bb_b8_s, bb_b9_s, bb_b10_s, bb_b11_s, bb_b12_s, bb_b13_s, bb_b14_s, bb_b15_s, bb_b16_s, e10, e00, e11, if_true, if_false]
    rw [q1, q2]
    simp only [seenFrom6 (show 48 < nn by omega), sf_bits (nn := nn) hR, bb_b0_s, bb_b1_s, bb_b2_s, bb_b3_s, bb_b4_s, bb_b5_s, bb_b6_s, bb_b7_s, bb_b8_s, bb_b9_s, bb_b10_s, bb_b11_s, bb_b12_s, bb_b13_s, bb_b14_s, bb_b15_s, bb_b16_s]
    exact ⟨_, _, _, _, rfl, rfl⟩
  · simp only [e1, bb_b0_s, bb_b1_s, bb_b2_s, bb_b3_s, bb_b4_s, bb_b5_s, bb_b6_s, bb_b7_s, bb_b8_s, bb_b9_s, bb_b10_s, bb_b11_s, bb_b12_s, bb_b13_s, bb_b14_s, bb_b15_s, bb_b16_s, e10, e00, e11, if_true, if_false]
    exact ⟨_, _, _, _, rfl, rfl⟩
end POSTS
