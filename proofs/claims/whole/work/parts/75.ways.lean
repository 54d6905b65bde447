/-! ===== the class's search by steps; way, next ===== -/
theorem lb_and (x y : Int64) (k : Nat) : lb (x &&& y) k = (lb x k && lb y k) := by unfold lb; rw [Int64.toBitVec_and, BitVec.getLsbD_and]
theorem lb_xor (x y : Int64) (k : Nat) : lb (x ^^^ y) k = (lb x k ^^ lb y k) := by unfold lb; rw [Int64.toBitVec_xor, BitVec.getLsbD_xor]
theorem lb_m1 {k : Nat} (hk : k < 64) : lb (-1) k = true := by
  have h : ∀ k, k < 64 → lb (-1) k = true := by decide +kernel
  exact h k hk
theorem lb_not (x : Int64) {k : Nat} (hk : k < 64) : lb (x ^^^ (-1)) k = !lb x k := by
  rw [lb_xor, lb_m1 hk]
  cases lb x k <;> rfl
theorem lb_shl {x s : Int64} {n : Nat} (hs : (s.toBitVec.smod 64).toNat = n) {k : Nat} (hk : k < 64) : lb (x <<< s) k = (!decide (k < n) && lb x (k - n)) := by
  unfold lb
  rw [Int64.toBitVec_shiftLeft, BitVec.shiftLeft_eq', hs, BitVec.getLsbD_shiftLeft]
  simp [hk]
theorem lb_shr {x : Int64} {s : UInt64} {n : Nat} (hn : n < 64) (hs : s.toNat = n) (k : Nat) : lb ((x.toUInt64 >>> s).toInt64) k = lb x (n + k) := by
  have e : (x.toUInt64 >>> s).toInt64.toBitVec = x.toBitVec >>> n := by
    apply BitVec.eq_of_toNat_eq
    show (x.toUInt64 >>> s).toNat = _
    rw [UInt64.toNat_shiftRight, hs, Nat.mod_eq_of_lt hn, BitVec.toNat_ushiftRight]
    rfl
  unfold lb
  rw [e, BitVec.getLsbD_ushiftRight]
theorem mk_e : ∀ k, k < 48 → lb (-141289400074369) k = !decide (k % 8 = 7) := by decide +kernel
theorem mk_w : ∀ k, k < 48 → lb (-1103823438082) k = !decide (k % 8 = 0) := by decide +kernel
theorem mk_a : ∀ k, k < 64 → lb 281474976710655 k = decide (k < 48) := by decide +kernel
theorem mk_sw : ∀ k, k < 64 → lb 1103823438081 k = (decide (k < 48) && sdB 0 k) := by decide +kernel
theorem mk_se : ∀ k, k < 64 → lb 141289400074368 k = (decide (k < 48) && sdB 1 k) := by decide +kernel
def swX (w : Nat) : Int64 := if w = 0 then 1103823438081 else 141289400074368
theorem side5 {w : Nat} (hw : w < 2) : uX0_cellsOfSide (nI w) = some (swX w) := by
  rcases Nat.lt_or_ge w 1 with q | q
  · obtain rfl : w = 0 := by omega
    rfl
  · obtain rfl : w = 1 := by omega
    rfl
theorem lb_sw {w k : Nat} (hw : w < 2) (hk : k < 64) : lb (swX w) k = (decide (k < 48) && sdB w k) := by
  rcases Nat.lt_or_ge w 1 with q | q
  · obtain rfl : w = 0 := by omega
    exact mk_sw k hk
  · obtain rfl : w = 1 := by omega
    exact mk_se k hk
def abX (x : Int64) : Int64 := ((((x &&& (-141289400074369 : Int64)) <<< ((1 : Int32).toInt64 &&& 63)) ||| (((x &&& (-1103823438082 : Int64)).toUInt64 >>> ((1 : Int32).toInt64.toUInt64 &&& Int64.toUInt64 63)).toInt64)) ||| (x <<< ((8 : Int32).toInt64 &&& 63)) ||| ((x.toUInt64 >>> ((8 : Int32).toInt64.toUInt64 &&& Int64.toUInt64 63)).toInt64)) &&& (281474976710655 : Int64)
theorem ab0 (x : Int64) : uX0_allBeside x = some (abX x) := rfl
theorem lb_ab {x : Int64} {d : Nat} (hd : d < 64) : lb (abX x) d = (((((!decide (d < 1) && (lb x (d - 1) && lb (-141289400074369) (d - 1))) || (lb x (1 + d) && lb (-1103823438082) (1 + d))) || (!decide (d < 8) && lb x (d - 8))) || lb x (8 + d)) && decide (d < 48)) := by
  unfold abX
  rw [lb_and, lb_or, lb_or, lb_or, lb_shl (n := 1) (by decide) hd, lb_shr (n := 1) (by decide) (by decide), lb_shl (n := 8) (by decide) hd, lb_shr (n := 8) (by decide) (by decide), lb_and, lb_and, mk_a d hd]
theorem adj_cases : ∀ d, d < 48 → ∀ b, b < 48 → adjB b d = (decide (b + 1 = d ∧ ¬ b % 8 = 7) || decide (b = 1 + d ∧ ¬ b % 8 = 0) || decide (b + 8 = d) || decide (b = 8 + d)) := by decide +kernel
theorem ab_iff {x : Int64} (hx : ∀ k, 48 ≤ k → lb x k = false) {d : Nat} (hd : d < 48) : lb (abX x) d = true ↔ ∃ b, b < 48 ∧ lb x b = true ∧ adjB b d = true := by
  rw [lb_ab (by omega)]
  have lt48 : ∀ k, lb x k = true → k < 48 := fun k h => by
    rcases Nat.lt_or_ge k 48 with g | g
    · exact g
    · rw [hx k g] at h; cases h
  constructor
  · intro h
    simp only [Bool.and_eq_true, Bool.or_eq_true, Bool.not_eq_true', decide_eq_true_eq, decide_eq_false_iff_not] at h
    rcases h.1 with ((⟨h1, h2, h3⟩ | ⟨h2, h3⟩) | ⟨h1, h2⟩) | h2
    · have hb := lt48 _ h2
      refine ⟨d - 1, hb, h2, ?_⟩
      rw [mk_e _ hb] at h3
      rw [adj_cases d hd _ hb]
      simp at h3
      simp
      omega
    · have hb := lt48 _ h2
      refine ⟨1 + d, hb, h2, ?_⟩
      rw [mk_w _ hb] at h3
      rw [adj_cases d hd _ hb]
      simp at h3
      simp
      omega
    · have hb := lt48 _ h2
      refine ⟨d - 8, hb, h2, ?_⟩
      rw [adj_cases d hd _ hb]
      simp
      omega
    · have hb := lt48 _ h2
      refine ⟨8 + d, hb, h2, ?_⟩
      rw [adj_cases d hd _ hb]
      simp
  · rintro ⟨b, hb, h1, h2⟩
    rw [adj_cases d hd b hb] at h2
    simp only [Bool.or_eq_true, decide_eq_true_eq] at h2
    simp only [Bool.and_eq_true, Bool.or_eq_true, Bool.not_eq_true', decide_eq_true_eq, decide_eq_false_iff_not]
    refine ⟨?_, hd⟩
    rcases h2 with ((⟨q1, q2⟩ | ⟨q1, q2⟩) | q1) | q1
    · refine Or.inl (Or.inl (Or.inl ⟨by omega, ?_, ?_⟩))
      · rw [show d - 1 = b by omega]; exact h1
      · rw [show d - 1 = b by omega, mk_e b hb]; simp [q2]
    · refine Or.inl (Or.inl (Or.inr ⟨?_, ?_⟩))
      · rw [← q1]; exact h1
      · rw [← q1, mk_w b hb]; simp [q2]
    · refine Or.inl (Or.inr ⟨by omega, ?_⟩)
      rw [show d - 8 = b by omega]; exact h1
    · refine Or.inr ?_
      rw [← q1]; exact h1
/-- so many steps -/
def RK (p : Nat → Nat) (S : Nat → Bool) (k d : Nat) : Prop := ∃ n, rch p S k d n
section WAYS
variable {p : Nat → Nat} {S : Nat → Bool} {F : Nat → Nat}
theorem rch_one (hp : ∀ d, d < 48 → p d < 1000000 → p d = 1) : ∀ {k c n : Nat}, rch p S k c n → n = k + 1
  | 0, c, n, h => by
    obtain ⟨h1, h2, h3, h4⟩ := h
    have := hp c h1 h3
    omega
  | k + 1, c, n, h => by
    obtain ⟨h1, h2, b, m, h3, h4, h5⟩ := h
    have := hp c h1 h2
    have := rch_one hp h3
    omega
theorem RK_lt {k d : Nat} (h : RK p S k d) : d < 48 := by
  obtain ⟨n, h⟩ := h
  exact rch_lt h
theorem RK_p {k d : Nat} (h : RK p S k d) : p d < 1000000 := by
  obtain ⟨n, h⟩ := h
  exact rch_p h
theorem RK_succ {k b d : Nat} (h : RK p S k b) (hd : d < 48) (hp : p d < 1000000) (ha : adjB b d = true) : RK p S (k + 1) d := by
  obtain ⟨n, h⟩ := h
  exact ⟨n + p d, hd, hp, b, n, h, ha, rfl⟩
theorem RK_pred {k d : Nat} (h : RK p S (k + 1) d) : ∃ b, RK p S k b ∧ adjB b d = true := by
  obtain ⟨n, h1, h2, b, m, h3, h4, h5⟩ := h
  exact ⟨b, ⟨m, h3⟩, h4⟩
theorem RES_RK (hp : ∀ d, d < 48 → p d < 1000000 → p d = 1) (hR : RES p S 1 F) {c : Nat} (hc : c < 48) : (F c = 1000000 ∧ ∀ k, ¬ RK p S k c) ∨ (1 ≤ F c ∧ F c ≤ 48 ∧ RK p S (F c - 1) c ∧ ∀ k, RK p S k c → F c - 1 ≤ k) := by
  rcases hR c hc with ⟨h1, h2⟩ | ⟨h1, h2, ⟨k, h3⟩, h4⟩
  · exact Or.inl ⟨h1, fun k ⟨n, h⟩ => h2 k n h⟩
  · have e := rch_one hp h3
    refine Or.inr ⟨by omega, by omega, ?_, ?_⟩
    · rw [show F c - 1 = k by omega]
      exact ⟨_, h3⟩
    · rintro j ⟨n, h⟩
      have e2 := rch_one hp h
      have := h4 j n h
      omega
theorem fewest5 {nn w c : Nat} {x : Int64} (hn : 155 < nn) (hw : w < 2) (hc : c < 48) (hp : ∀ d, d < 48 → p d < 1000000 → p d = 1) (hx : ∀ d, d < 48 → (lb x d = true ↔ p d < 1000000)) (hR : RES p (sdB w) 1 F) : uX5_fewestSteps nn (nI c) (nI w) x = some (if F c < 1000000 then nI (F c - 1) else -1) := by
  unfold uX5_fewestSteps
  rw [side5 hw, bb_b1_s]
  have e0 : ∀ d, d < 64 → (lb (swX w &&& x) d = true ↔ RK p (sdB w) 0 d) := fun d hd => by
    rw [lb_and, lb_sw hw hd]
    simp only [Bool.and_eq_true, decide_eq_true_eq]
    constructor
    · rintro ⟨⟨h1, h2⟩, h3⟩
      exact ⟨p d, h1, h2, (hx d h1).mp h3, rfl⟩
    · rintro ⟨n, h1, h2, h3, h4⟩
      exact ⟨⟨h1, h2⟩, (hx d h1).mpr h3⟩
  refine inv3 (fun i x1 x2 x3 => x3 = nI i ∧ (∀ d, d < 64 → (lb x1 d = true ↔ RK p (sdB w) i d ∧ ∀ k, k < i → ¬ RK p (sdB w) k d)) ∧ (∀ d, d < 64 → (lb x2 d = true ↔ ∃ k, k ≤ i ∧ RK p (sdB w) k d)) ∧ ∀ k, k < i → ¬ RK p (sdB w) k c) 48 (fun o => o = some (if F c < 1000000 then nI (F c - 1) else -1)) ?_ ?_ nn (by omega) (swX w &&& x) (swX w &&& x) 0 ⟨rfl, fun d hd => (e0 d hd).trans ⟨fun h => ⟨h, fun k hk => by omega⟩, fun h => h.1⟩, fun d hd => (e0 d hd).trans ⟨fun h => ⟨0, Nat.le_refl _, h⟩, fun ⟨k, hk, h⟩ => (Nat.le_zero.mp hk) ▸ h⟩, fun k hk => by omega⟩
  · rintro rec2 x1 x2 x3 ⟨rfl, h1, h2, h3⟩
    unfold uX5_fewestSteps_s15
    rw [if_pos (by decide)]
    rcases RES_RK hp hR hc with ⟨q1, q2⟩ | ⟨q1, q2, q3, q4⟩
    · rw [if_neg (by omega)]
    · exact absurd q3 (h3 _ (by omega))
  · rintro rec2 i x1 x2 x3 hi ⟨rfl, h1, h2, h3⟩
    unfold uX5_fewestSteps_s15
    rw [if_neg (show ¬ (48 : Int32) ≤ nI i from nI_ge (b := 48) hi (by decide)), has0 x1 (by omega), bb_b1_s, p1_]
    by_cases g : lb x1 c = true
    · refine Or.inr ?_
      rw [if_pos g, if_neg (by decide)]
      have g1 := ((h1 c (by omega)).mp g).1
      rcases RES_RK hp hR hc with ⟨q1, q2⟩ | ⟨q1, q2, q3, q4⟩
      · exact absurd g1 (q2 _)
      · rw [if_pos (by omega)]
        have := q4 i g1
        rcases Nat.lt_or_ge (F c - 1) i with r | r
        · exact absurd q3 (h3 _ r)
        · rw [show F c - 1 = i by omega]
    · refine Or.inl ?_
      rw [if_neg g, if_pos rfl, ab0, bb_b1_s]
      have hx1 : ∀ k, 48 ≤ k → lb x1 k = false := fun k hk => by
        rcases Nat.lt_or_ge k 64 with r | r
        · cases e : lb x1 k
          · rfl
          · have := RK_lt ((h1 k r).mp e).1
            omega
        · unfold lb
          exact BitVec.getLsbD_of_ge _ _ r
      have e1 : ∀ d, d < 64 → (lb (abX x1 &&& x &&& (x2 ^^^ (-1))) d = true ↔ RK p (sdB w) (i + 1) d ∧ ∀ k, k < i + 1 → ¬ RK p (sdB w) k d) := fun d hd => by
        rw [lb_and, lb_and, lb_not x2 hd]
        simp only [Bool.and_eq_true, Bool.not_eq_true']
        constructor
        · rintro ⟨⟨r1, r2⟩, r3⟩
          have hd4 : d < 48 := by
            rw [lb_ab hd] at r1
            simp only [Bool.and_eq_true, decide_eq_true_eq] at r1
            exact r1.2
          obtain ⟨b, hb, r4, r5⟩ := (ab_iff hx1 hd4).mp r1
          refine ⟨RK_succ ((h1 b (by omega)).mp r4).1 hd4 ((hx d hd4).mp r2) r5, fun k hk hh => ?_⟩
          have := (h2 d hd).mpr ⟨k, by omega, hh⟩
          rw [r3] at this
          cases this
        · rintro ⟨r1, r2⟩
          have hd4 := RK_lt r1
          obtain ⟨b, r4, r5⟩ := RK_pred r1
          have hb := RK_lt r4
          refine ⟨⟨(ab_iff hx1 hd4).mpr ⟨b, hb, (h1 b (by omega)).mpr ⟨r4, fun k hk hh => ?_⟩, r5⟩, (hx d hd4).mpr (RK_p r1)⟩, ?_⟩
          · exact r2 (k + 1) (by omega) (RK_succ hh hd4 (RK_p r1) r5)
          · cases e : lb x2 d
            · rfl
            · obtain ⟨k, k1, k2⟩ := (h2 d hd).mp e
              exact absurd k2 (r2 k (by omega))
      refine ⟨_, _, _, ⟨rfl, e1, fun d hd => ?_, fun k hk hh => ?_⟩, rfl⟩
      · rw [lb_or, Bool.or_eq_true, h2 d hd, e1 d hd]
        constructor
        · rintro (⟨k, k1, k2⟩ | ⟨r1, r2⟩)
          · exact ⟨k, by omega, k2⟩
          · exact ⟨i + 1, Nat.le_refl _, r1⟩
        · rintro ⟨k, k1, k2⟩
          by_cases r : ∃ j, j ≤ i ∧ RK p (sdB w) j d
          · exact Or.inl r
          · have hn2 : ∀ j, j < i + 1 → ¬ RK p (sdB w) j d := fun j hj hh => r ⟨j, by omega, hh⟩
            rcases Nat.lt_or_ge k (i + 1) with u | u
            · exact absurd k2 (hn2 k u)
            · obtain rfl : k = i + 1 := by omega
              exact Or.inr ⟨k2, hn2⟩
      · rcases Nat.lt_or_ge k i with u | u
        · exact h3 k u hh
        · obtain rfl : k = i := by omega
          exact g ((h1 c (by omega)).mpr ⟨hh, h3⟩)
end WAYS
theorem prW_1 (s : Nat → Int32) : ∀ d, d < 48 → prW s d < 1000000 → prW s d = 1 := by
  intro d _ h
  unfold prW at h ⊢
  split
  · rename_i g
    rw [if_pos g] at h
    omega
  · rfl
theorem prW_2 (s : Nat → Int32) : ∀ d, d < 48 → prW s d ≤ 1000000 := by
  intro d _
  unfold prW
  split <;> omega
theorem adj_ap : ∀ c, c < 48 → ∀ d, d < 48 → (apv (nI c) (nI d) = 1 ↔ adjB c d = true) := by decide +kernel
section WAYOPS
variable {s ga st cu ki at_ wi wr ke sp : Nat → Int32} {mi ba si ev z : Int32}
theorem free78 (hR : RW s ga st cu ki at_ wi wr ke sp mi ba si ev z) : ∀ d, d < 48 → (lb (seenX si ga st ^^^ (-1)) d = true ↔ prW s d < 1000000) := by
  intro d hd
  rw [lb_not _ (by omega), lb78 hR hd]
  unfold prW
  cases sc8 s d <;> simp
theorem op_way {nn : Nat} (hn : 155 < nn) (hR : RW s ga st cu ki at_ wi wr ke sp mi ba si ev z) (fo fa is pr : Nat → Int32) (p1 p2 : Int32) :
    ∃ r fo2 fa2 is2 pr2, uX7_way nn p1 p2 fo si ga st = some (r, fo2) ∧ uX8_way nn p1 p2 fa fo is pr s = some (r, fa2, fo2, is2, pr2) := by
  unfold uX7_way uX8_way
  simp only [cell0, cell8, side7, side8, find78, fnd0, fnd3, bb_b0_s, bb_b1_s, bb_b2_s, bb_b3_s, bb_b4_s, bb_b5_s, bb_b6_s, bb_b7_s, bb_b8_s, bb_b9_s, bb_b10_s, bb_b11_s, bb_b12_s, bb_b13_s, bb_b14_s, bb_b15_s, bb_b16_s]
  rcases win p1 0 47 with ⟨e1, a1, b1⟩ | ⟨e1, -⟩
  · rcases win p2 0 1 with ⟨e2, a2, b2⟩ | ⟨e2, -⟩
    · obtain ⟨c, hc, rfl⟩ := nat_of (n := 47) (by decide) a1 b1
      obtain ⟨w, hw, rfl⟩ := nat_of (n := 1) (by decide) a2 b2
      obtain ⟨f, hf, ef⟩ := pricesW8 (s := s) hn pr
      obtain ⟨far2, dn2, F, eF, hF, hRES⟩ := findFar8 (p := prW s) (m := 1) hn (show w < 2 by omega) (by omega) hf (fun d hd h => by rw [prW_1 s d hd h]; exact Nat.le_refl _) (prW_2 s) fa is
      have e5 := fewest5 hn (show w < 2 by omega) (show c < 48 by omega) (prW_1 s) (free78 hR) hRES
      simp only [e1, e2, ef, eF, e5, seenCells6 (show 48 < nn by omega), ixn (show c < 48 by omega) (show 48 < 2 ^ 31 by decide), cln (show c < 2 ^ 31 by omega), hF c (by omega), bb_b0_s, bb_b1_s, bb_b2_s, bb_b3_s, bb_b4_s, bb_b5_s, bb_b6_s, bb_b7_s, bb_b8_s, bb_b9_s, bb_b10_s, bb_b11_s, bb_b12_s, bb_b13_s, bb_b14_s, bb_b15_s, bb_b16_s, e10, e00, e11, if_true, if_false]
      rcases RES_RK (prW_1 s) hRES (show c < 48 by omega) with ⟨q1, q2⟩ | ⟨q1, q2, q3, q4⟩
      · simp only [q1, if_neg (show ¬ (1000000 : Nat) < 1000000 by omega), if_neg (show ¬ (0 : Int32) ≤ -1 by decide), if_pos (show (1000000 : Int32) ≤ nI 1000000 by decide)]
        exact ⟨_, _, _, _, _, rfl, rfl⟩
      · simp only [if_pos (show F c < 1000000 by omega), if_pos (nI_pos' (show F c - 1 < 2 ^ 31 by omega)), if_neg (show ¬ (1000000 : Int32) ≤ nI (F c) from nI_ge (b := 1000000) (by omega) (by omega)), show nI (F c) - 1 = nI (F c - 1) from pk_sub (b := 1) q1]
        exact ⟨_, _, _, _, _, rfl, rfl⟩
    · simp only [e1, e2, bb_b0_s, bb_b1_s, bb_b2_s, bb_b3_s, bb_b4_s, bb_b5_s, bb_b6_s, bb_b7_s, bb_b8_s, bb_b9_s, bb_b10_s, bb_b11_s, bb_b12_s, bb_b13_s, bb_b14_s, bb_b15_s, bb_b16_s, e10, e00, e11, if_true, if_false]
      exact ⟨_, _, _, _, _, rfl, rfl⟩
  · simp only [e1, bb_b0_s, bb_b1_s, bb_b2_s, bb_b3_s, bb_b4_s, bb_b5_s, bb_b6_s, bb_b7_s, bb_b8_s, bb_b9_s, bb_b10_s, bb_b11_s, bb_b12_s, bb_b13_s, bb_b14_s, bb_b15_s, bb_b16_s, e10, e00, e11, if_true, if_false]
    exact ⟨_, _, _, _, _, rfl, rfl⟩
end WAYOPS
