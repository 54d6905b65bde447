/-! ===== feed ===== -/
def clsV (x : Int32) : Int32 := (uX2_classOf x).getD 0
theorem cls2 (x : Int32) : uX2_classOf x = some (clsV x) := by
  unfold clsV uX2_classOf
  simp only [bb_cut_s]
  by_cases h1 : x < 97
  · simp only [if_pos h1]
    by_cases h2 : x < 48
    · simp only [if_pos h2]
      by_cases h3 : x = 59
      · simp only [if_pos h3]; rfl
      · simp only [if_neg h3]; rfl
    · simp only [if_neg h2]
      by_cases h4 : 57 < x
      · simp only [if_pos h4]
        by_cases h3 : x = 59
        · simp only [if_pos h3]; rfl
        · simp only [if_neg h3]; rfl
      · simp only [if_neg h4]; rfl
  · simp only [if_neg h1]
    by_cases h5 : 122 < x
    · simp only [if_pos h5]
      by_cases h2 : x < 48
      · simp only [if_pos h2]
        by_cases h3 : x = 59
        · simp only [if_pos h3]; rfl
        · simp only [if_neg h3]; rfl
      · simp only [if_neg h2]
        by_cases h4 : 57 < x
        · simp only [if_pos h4]
          by_cases h3 : x = 59
          · simp only [if_pos h3]; rfl
          · simp only [if_neg h3]; rfl
        · simp only [if_neg h4]; rfl
    · simp only [if_neg h5]; rfl
def TPn (n : Nat) (tb tc tp : Nat → Int32) : Prop := ∀ i, i < n → tp i = tb i ∧ tc i = clsV (tb i) ∧ ∃ v, v ≤ 255 ∧ tb i = nI v
theorem ib_255 : ∀ k, k < 32 → ib 255 k = decide (k < 8) := by decide +kernel
theorem sh8 : ∀ i, i < 4 → (((8 : Int32) * nI i &&& 31).toBitVec.smod 32).toNat = 8 * i := by decide +kernel
theorem us8 : ∀ i, i < 4 → (((8 : Int32) * nI i).toUInt32 &&& Int32.toUInt32 31).toNat = 8 * i := by decide +kernel
theorem by_eq (x : Int32) {i : Nat} (hi : i < 4) : ((x.toUInt32 >>> (((8 : Int32) * nI i).toUInt32 &&& Int32.toUInt32 31)).toInt32 &&& 255) = ((x >>> (((8 : Int32) * nI i) &&& 31)) &&& 255) := by
  have e : (x.toUInt32 >>> (((8 : Int32) * nI i).toUInt32 &&& Int32.toUInt32 31)).toInt32.toBitVec = x.toBitVec >>> (8 * i) := by
    apply BitVec.eq_of_toNat_eq
    show (x.toUInt32 >>> (((8 : Int32) * nI i).toUInt32 &&& Int32.toUInt32 31)).toNat = _
    rw [UInt32.toNat_shiftRight, us8 i hi, Nat.mod_eq_of_lt (by omega), BitVec.toNat_ushiftRight]
    rfl
  refine ib_ext (fun k hk => ?_)
  rw [ib_and, ib_and, ib_255 k hk]
  by_cases g : k < 8
  · have e1 : ib (x >>> (((8 : Int32) * nI i) &&& 31)) k = ib x (8 * i + k) := by
      unfold ib
      rw [Int32.toBitVec_shiftRight, BitVec.sshiftRight_eq', sh8 i hi, BitVec.getLsbD_sshiftRight]
      simp [hk, show 8 * i + k < 32 by omega]
    have e2 : ib ((x.toUInt32 >>> (((8 : Int32) * nI i).toUInt32 &&& Int32.toUInt32 31)).toInt32) k = ib x (8 * i + k) := by
      unfold ib
      rw [e, BitVec.getLsbD_ushiftRight]
    rw [e1, e2]
  · simp [g]
theorem loop4_ {α1 α2 α3 α4 β : Type} (st : (α1 → α2 → α3 → α4 → Option β) → α1 → α2 → α3 → α4 → Option β) (m : Nat) (x : α1) (y : α2) (z : α3) (u : α4) : bb_loop4 st (m + 1) x y z u = st (bb_loop4 st m) x y z u := rfl
theorem loop3_ {α1 α2 α3 β : Type} (st : (α1 → α2 → α3 → Option β) → α1 → α2 → α3 → Option β) (m : Nat) (x : α1) (y : α2) (z : α3) : bb_loop3 st (m + 1) x y z = st (bb_loop3 st m) x y z := rfl
theorem fd78 (p1 : Int32) (fo : Nat → Int32) (K : Int32 → (Nat → Int32) → (Nat → Int32) → Option (Int32 × (Nat → Int32) × Int32 × (Nat → Int32) × (Nat → Int32))) : ∀ i n1 n2 m (tb tc tp : Nat → Int32), i ≤ 4 → m + i ≤ 120 → i < n1 → i < n2 → TPn m tb tc tp →
    ∃ tb2 tc2 tp2, bb_loop4 (uX7_feed_s39 p1 K) n1 (nI i + (-1)) (nI m) tb tc = K (nI (m + i)) tb2 tc2 ∧ bb_loop3 (uX8_feed_s39 p1 fo) n2 (nI i + (-1)) (nI m) tp = some (nI (m + i), nI (m + i), fo, tp2) ∧ TPn (m + i) tb2 tc2 tp2 := by
  intro i
  induction i with
  | zero =>
    intro n1 n2 m tb tc tp h1 h2 h3 h4 hT
    obtain ⟨m1, rfl⟩ : ∃ m1, n1 = m1 + 1 := ⟨n1 - 1, by omega⟩
    obtain ⟨m2, rfl⟩ : ∃ m2, n2 = m2 + 1 := ⟨n2 - 1, by omega⟩
    refine ⟨tb, tc, tp, ?_, ?_, hT⟩
    · rw [loop4_]
      generalize bb_loop4 (uX7_feed_s39 p1 K) m1 = rec2
      unfold uX7_feed_s39
      rw [if_pos (by decide)]
      rfl
    · rw [loop3_]
      generalize bb_loop3 (uX8_feed_s39 p1 fo) m2 = rec2
      unfold uX8_feed_s39
      rw [if_pos (by decide)]
      rfl
  | succ i ih =>
    intro n1 n2 m tb tc tp h1 h2 h3 h4 hT
    obtain ⟨m1, rfl⟩ : ∃ m1, n1 = m1 + 1 := ⟨n1 - 1, by omega⟩
    obtain ⟨m2, rfl⟩ : ∃ m2, n2 = m2 + 1 := ⟨n2 - 1, by omega⟩
    rw [loop4_, loop3_, pk_m1]
    obtain ⟨v, hv, ev⟩ : ∃ v, v ≤ 255 ∧ ((p1 >>> (((8 : Int32) * nI i) &&& 31)) &&& 255) = nI v := by
      obtain ⟨j, hj, ej⟩ := pk_andE (p1 >>> (((8 : Int32) * nI i) &&& 31)) (m := 255) 8 (by decide)
      exact ⟨j, by omega, ej⟩
    have hgo := ih m1 m2 (m + 1) (upd tb m (nI v)) (upd tc m (clsV (nI v))) (upd tp m (nI v)) (by omega) (by omega) (by omega) (by omega) (fun j hj => lt_succ_cases hj (fun q => by rw [pk_un (by omega), pk_un (by omega), pk_un (by omega)]; exact hT j q) (fun q => by subst q; rw [pk_us, pk_us, pk_us]; exact ⟨rfl, rfl, v, hv, rfl⟩))
    rw [show m + 1 + i = m + (i + 1) by omega] at hgo
    generalize bb_loop4 (uX7_feed_s39 p1 K) m1 = rec1 at hgo ⊢
    generalize bb_loop3 (uX8_feed_s39 p1 fo) m2 = rec2 at hgo ⊢
    unfold uX7_feed_s39 uX8_feed_s39 uX2_append
    rw [if_neg (nI_nneg (by omega)), if_neg (nI_nneg (by omega)), by_eq p1 (show i < 4 by omega), ev]
    simp only [ixn (show m < 120 by omega) (show 120 < 2 ^ 31 by decide), cls2, cln (show m < 2 ^ 31 by omega), p1_, bb_b0_s, bb_b1_s, bb_b2_s, bb_b3_s, bb_b4_s, bb_b5_s, bb_b6_s, bb_b7_s, bb_b8_s, bb_b9_s, bb_b10_s, bb_b11_s, bb_b12_s, bb_b13_s, bb_b14_s, bb_b15_s, bb_b16_s]
    exact hgo
theorem op_feed {nn m : Nat} (hn : 155 < nn) (hm : m ≤ 120) {tb tc tp : Nat → Int32} (hT : TPn m tb tc tp) (fo : Nat → Int32) (p1 p2 : Int32) :
    ∃ r fo2 m2 tb2 tc2 tp2, m2 ≤ 120 ∧ uX7_feed nn p1 p2 fo (nI m) tb tc = some (r, fo2, nI m2, tb2, tc2) ∧ uX8_feed nn p1 p2 (nI m) fo tp = some (r, nI m2, fo2, tp2) ∧ TPn m2 tb2 tc2 tp2 := by
  unfold uX7_feed uX8_feed
  have e0 : uX8_in p2.toInt64 1 4 = uX7_isWithin p2 1 4 := in8 p2 1 4
  simp only [e0, find78, fnd0, fnd1, bb_cut_s, bb_b0_s, bb_b1_s, bb_b2_s, bb_b3_s, bb_b4_s, bb_b5_s, bb_b6_s, bb_b7_s, bb_b8_s, bb_b9_s, bb_b10_s, bb_b11_s, bb_b12_s, bb_b13_s, bb_b14_s, bb_b15_s, bb_b16_s]
  rcases win p2 1 4 with ⟨e1, a1, b1⟩ | ⟨e1, -⟩
  · have a0 : (0 : Int32) ≤ p2 := by
      rw [i_le] at a1 ⊢
      have h1 : (1 : Int32).toInt = 1 := by decide
      have h0 : (0 : Int32).toInt = 0 := by decide
      omega
    obtain ⟨n, hn4, rfl⟩ := nat_of (n := 4) (by decide) a0 b1
    simp only [e1, bb_b0_s, bb_b1_s, bb_b2_s, bb_b3_s, bb_b4_s, bb_b5_s, bb_b6_s, bb_b7_s, bb_b8_s, bb_b9_s, bb_b10_s, bb_b11_s, bb_b12_s, bb_b13_s, bb_b14_s, bb_b15_s, bb_b16_s, e10, e00, e11, if_true, if_false, nAdd, show (nI n - 1 : Int32) = nI n + (-1) from Int32.sub_eq_add_neg _ _]
    by_cases g : m + n ≤ 120
    · obtain ⟨tb2, tc2, tp2, x1, x2, x3⟩ := fd78 p1 fo (fun a b c => some (a, fo, a, b, c)) n nn nn m tb tc tp hn4 g (by omega) (by omega) hT
      rw [if_pos (show nI (m + n) ≤ (120 : Int32) from nI_le (b := 120) g (by decide)), if_pos (show nI (m + n) ≤ (120 : Int32) from nI_le (b := 120) g (by decide))]
      exact ⟨_, _, m + n, _, _, _, g, x1, x2, x3⟩
    · rw [if_neg (show ¬ nI (m + n) ≤ (120 : Int32) from nI_ge (a := 120) (by omega) (by omega)), if_neg (show ¬ nI (m + n) ≤ (120 : Int32) from nI_ge (a := 120) (by omega) (by omega))]
      exact ⟨_, _, m, _, _, _, hm, rfl, rfl, hT⟩
  · simp only [e1, bb_b0_s, bb_b1_s, bb_b2_s, bb_b3_s, bb_b4_s, bb_b5_s, bb_b6_s, bb_b7_s, bb_b8_s, bb_b9_s, bb_b10_s, bb_b11_s, bb_b12_s, bb_b13_s, bb_b14_s, bb_b15_s, bb_b16_s, e10, e00, e11, if_true, if_false]
    exact ⟨_, _, m, _, _, _, hm, rfl, rfl, hT⟩
