/-! ===== tokens ===== -/
def clN (v : Nat) : Nat := if 97 ≤ v ∧ v ≤ 122 then 1 else if 48 ≤ v ∧ v ≤ 57 then 2 else if v = 59 then 3 else 4
theorem clN_ok : ∀ v, v < 256 → clsV (nI v) = nI (clN v) := by decide +kernel
theorem clN_1 (v : Nat) : clN v = 1 ↔ 97 ≤ v ∧ v ≤ 122 := by
  unfold clN
  split
  · simp_all
  · split
    · simp_all
    · split <;> simp_all
theorem clN_2 (v : Nat) : clN v = 2 ↔ 48 ≤ v ∧ v ≤ 57 := by
  unfold clN
  split
  · rename_i h
    constructor
    · intro q; omega
    · intro q; omega
  · split
    · simp_all
    · split <;> simp_all
theorem clN_3 (v : Nat) : clN v = 3 ↔ v = 59 := by
  unfold clN
  split
  · rename_i h
    constructor
    · intro q; omega
    · intro q; omega
  · split
    · rename_i h
      constructor
      · intro q; omega
      · intro q; omega
    · split <;> simp_all
theorem clN_cases (v : Nat) : clN v = 1 ∨ clN v = 2 ∨ clN v = 3 ∨ clN v = 4 := by
  unfold clN
  split
  · exact Or.inl rfl
  · split
    · exact Or.inr (Or.inl rfl)
    · split
      · exact Or.inr (Or.inr (Or.inl rfl))
      · exact Or.inr (Or.inr (Or.inr rfl))
def TB (n : Nat) (V : Nat → Nat) (tb tc tp : Nat → Int32) : Prop := n ≤ 120 ∧ ∀ i, i < n → tb i = nI (V i) ∧ V i < 256 ∧ tp i = nI (V i) ∧ tc i = nI (clN (V i))
theorem TPn.tb {n : Nat} {tb tc tp : Nat → Int32} (h : TPn n tb tc tp) (hn : n ≤ 120) : TB n (fun i => (tb i).toNatClampNeg) tb tc tp := by
  refine ⟨hn, fun i hi => ?_⟩
  obtain ⟨h1, h2, v, hv, h3⟩ := h i hi
  have e : (tb i).toNatClampNeg = v := by rw [h3, cln (by omega)]
  show tb i = nI (tb i).toNatClampNeg ∧ (tb i).toNatClampNeg < 256 ∧ tp i = nI (tb i).toNatClampNeg ∧ tc i = nI (clN (tb i).toNatClampNeg)
  rw [e]
  exact ⟨h3, by omega, h1.trans h3, by rw [h2, h3, clN_ok v (by omega)]⟩
theorem n41 : ((nI 4 : Int32) = 1) = False := eq_false (by decide)
theorem n42 : ((nI 4 : Int32) = 2) = False := eq_false (by decide)
theorem n12 : ((nI 1 : Int32) = 2) = False := eq_false (by decide)
def TK (n : Nat) (V : Nat → Nat) (q e : Nat) : Prop := q ≤ e ∧ e ≤ n ∧ (q < n → q < e ∧ ((clN (V q) = 1 ∨ clN (V q) = 2) → ∀ j, q ≤ j → j < e → clN (V j) = clN (V q)) ∧ ((clN (V q) = 3 ∨ clN (V q) = 4) → e = q + 1))
def tkV (n : Nat) (V : Nat → Nat) (q : Nat) : Nat := if q < n then clN (V q) else 0
section TOKENS
variable {n nn : Nat} {V : Nat → Nat} {tb tc tp : Nat → Int32}
theorem byte8 (hB : TB n V tb tc tp) {p lo hi : Nat} (hp : p ≤ 120) (hlo : lo < 256) (hhi : hi < 256) : uX8_isByte (nI p) (nI lo) (nI hi) (nI n) tp = some (b32 (decide (p < n) && (decide (lo ≤ V p) && decide (V p ≤ hi)))) := by
  obtain ⟨hn, hb⟩ := hB
  unfold uX8_isByte
  by_cases h : p < n
  · obtain ⟨-, h2, h3, -⟩ := hb p h
    rw [if_neg (nI_ge h (by omega)), ixn (show p < 120 by omega) (by decide), cln (by omega), h3, in8]
    by_cases g : lo ≤ V p ∧ V p ≤ hi
    · rw [win_t (nI_le g.1 (by omega)) (nI_le g.2 (by omega)), bb_b1_s, if_neg (by decide)]
      simp [h, g.1, g.2, b32]
    · rw [win_f (fun q => g ⟨(nI_leI (by omega) (by omega)).mp q.1, (nI_leI (by omega) (by omega)).mp q.2⟩), bb_b1_s, if_pos rfl]
      have e : (decide (lo ≤ V p) && decide (V p ≤ hi)) = false := by
        rw [Bool.and_eq_false_iff]
        by_cases u : lo ≤ V p
        · right
          exact decide_eq_false (fun w => g ⟨u, w⟩)
        · left
          exact decide_eq_false u
      rw [e]
      simp [b32]
  · rw [if_pos (nI_le (by omega) (by omega))]
    simp [h, b32]
theorem byteL (hB : TB n V tb tc tp) {p : Nat} (hp : p ≤ 120) : uX8_isByte (nI p) 97 122 (nI n) tp = some (b32 (decide (p < n) && decide (clN (V p) = 1))) := by
  have h := byte8 (lo := 97) (hi := 122) hB hp (by omega) (by omega)
  have e : (decide (97 ≤ V p) && decide (V p ≤ 122)) = decide (clN (V p) = 1) := by
    rw [← Bool.decide_and]
    exact decide_eq_decide.mpr (clN_1 (V p)).symm
  rw [e] at h
  exact h
theorem byteD (hB : TB n V tb tc tp) {p : Nat} (hp : p ≤ 120) : uX8_isByte (nI p) 48 57 (nI n) tp = some (b32 (decide (p < n) && decide (clN (V p) = 2))) := by
  have h := byte8 (lo := 48) (hi := 57) hB hp (by omega) (by omega)
  have e : (decide (48 ≤ V p) && decide (V p ≤ 57)) = decide (clN (V p) = 2) := by
    rw [← Bool.decide_and]
    exact decide_eq_decide.mpr (clN_2 (V p)).symm
  rw [e] at h
  exact h
theorem byteS (hB : TB n V tb tc tp) {p : Nat} (hp : p ≤ 120) : uX8_isByte (nI p) 32 32 (nI n) tp = some (b32 (decide (p < n) && decide (V p = 32))) := by
  have h := byte8 (lo := 32) (hi := 32) hB hp (by omega) (by omega)
  have e : (decide (32 ≤ V p) && decide (V p ≤ 32)) = decide (V p = 32) := by
    rw [← Bool.decide_and]
    exact decide_eq_decide.mpr (by omega)
  rw [e] at h
  exact h
theorem skip78 (hB : TB n V tb tc tp) : ∀ d p n1 n2, p + d = n → d < n1 → d < n2 → ∃ q, p ≤ q ∧ q ≤ n ∧ (∀ K, bb_loop1 (uX2_readToken_s8 (nI n) tb K) n1 (nI p) = K (nI q)) ∧ (∀ K, bb_loop1 (uX8_next__s8 (nI n) tp K) n2 (nI p) = K (nI q)) := by
  have hn := hB.1
  intro d
  induction d with
  | zero =>
    intro p n1 n2 h1 h2 h3
    obtain ⟨m1, rfl⟩ : ∃ m1, n1 = m1 + 1 := ⟨n1 - 1, by omega⟩
    obtain ⟨m2, rfl⟩ : ∃ m2, n2 = m2 + 1 := ⟨n2 - 1, by omega⟩
    refine ⟨p, Nat.le_refl _, by omega, fun K => ?_, fun K => ?_⟩
    · rw [loop1_]
      generalize bb_loop1 (uX2_readToken_s8 (nI n) tb K) m1 = rec2
      unfold uX2_readToken_s8
      rw [if_pos (nI_le (by omega) (by omega))]
    · rw [loop1_]
      generalize bb_loop1 (uX8_next__s8 (nI n) tp K) m2 = rec2
      unfold uX8_next__s8
      rw [byteS hB (by omega), bb_b1_s, decide_eq_false (show ¬ p < n by omega)]
      exact if_pos rfl
  | succ d ih =>
    intro p n1 n2 h1 h2 h3
    obtain ⟨m1, rfl⟩ : ∃ m1, n1 = m1 + 1 := ⟨n1 - 1, by omega⟩
    obtain ⟨m2, rfl⟩ : ∃ m2, n2 = m2 + 1 := ⟨n2 - 1, by omega⟩
    have hp : p < n := by omega
    obtain ⟨b1, b2, -, -⟩ := hB.2 p hp
    by_cases g : V p = 32
    · obtain ⟨q, q1, q2, q4, q5⟩ := ih (p + 1) m1 m2 (by omega) (by omega) (by omega)
      refine ⟨q, by omega, q2, fun K => ?_, fun K => ?_⟩
      · rw [loop1_]
        have h := q4 K
        generalize bb_loop1 (uX2_readToken_s8 (nI n) tb K) m1 = rec2 at h ⊢
        unfold uX2_readToken_s8
        rw [if_neg (nI_ge hp (by omega)), ixn (show p < 120 by omega) (by decide), cln (by omega), b1, g, if_pos (show nI 32 = (32 : Int32) from rfl), p1_]
        exact h
      · rw [loop1_]
        have h := q5 K
        generalize bb_loop1 (uX8_next__s8 (nI n) tp K) m2 = rec2 at h ⊢
        unfold uX8_next__s8
        rw [byteS hB (by omega), bb_b1_s, decide_eq_true hp, decide_eq_true g, p1_]
        exact (if_neg (by decide)).trans h
    · refine ⟨p, Nat.le_refl _, by omega, fun K => ?_, fun K => ?_⟩
      · rw [loop1_]
        generalize bb_loop1 (uX2_readToken_s8 (nI n) tb K) m1 = rec2
        unfold uX2_readToken_s8
        rw [if_neg (nI_ge hp (by omega)), ixn (show p < 120 by omega) (by decide), cln (by omega), b1, if_neg (by rw [show (32 : Int32) = nI 32 from rfl, nI_eq (by omega) (by omega)]; exact g)]
      · rw [loop1_]
        generalize bb_loop1 (uX8_next__s8 (nI n) tp K) m2 = rec2
        unfold uX8_next__s8
        rw [byteS hB (by omega), bb_b1_s, decide_eq_true hp, decide_eq_false g]
        exact if_pos rfl
theorem s70 (hB : TB n V tb tc tp) {c p : Nat} (hc : c = 1 ∨ c = 2) (hp : p ≤ 120) (K rec2 : Int32 → Option (Int32 × Int32)) : uX8_next__s70 (b32 (decide (c = 1))) (b32 (decide (c = 2))) (nI n) tp K rec2 (nI p) = if p < n ∧ clN (V p) = c then rec2 (nI (p + 1)) else K (nI p) := by
  unfold uX8_next__s70
  simp only [bb_cut_s, byteL hB hp, byteD hB hp, bb_b1_s, p1_]
  by_cases h : p < n
  · rcases hc with rfl | rfl
    · by_cases g : clN (V p) = 1
      · simp [h, g, b32]
      · simp [h, g, b32]
    · by_cases g : clN (V p) = 2
      · simp [h, g, b32]
      · simp [h, g, b32]
  · rcases hc with rfl | rfl
    · simp [h, b32]
    · simp [h, b32]
theorem ext78 (hB : TB n V tb tc tp) {c : Nat} (hc : c = 1 ∨ c = 2) : ∀ d p n1 n2, p + d = n → d < n1 → d < n2 → ∃ e, p ≤ e ∧ e ≤ n ∧ (∀ j, p ≤ j → j < e → clN (V j) = c) ∧ (∀ q, bb_loop1 (uX2_readToken_s118 (nI n) (nI c) q tc) n1 (nI p) = some (nI c, q, nI e)) ∧ (∀ K, bb_loop1 (uX8_next__s70 (b32 (decide (c = 1))) (b32 (decide (c = 2))) (nI n) tp K) n2 (nI p) = K (nI e)) := by
  have hn := hB.1
  intro d
  induction d with
  | zero =>
    intro p n1 n2 h1 h2 h3
    obtain ⟨m1, rfl⟩ : ∃ m1, n1 = m1 + 1 := ⟨n1 - 1, by omega⟩
    obtain ⟨m2, rfl⟩ : ∃ m2, n2 = m2 + 1 := ⟨n2 - 1, by omega⟩
    refine ⟨p, Nat.le_refl _, by omega, fun j _ _ => by omega, fun q => ?_, fun K => ?_⟩
    · rw [loop1_]
      generalize bb_loop1 (uX2_readToken_s118 (nI n) (nI c) q tc) m1 = rec2
      unfold uX2_readToken_s118
      rw [if_pos (nI_le (by omega) (by omega))]
    · rw [loop1_, s70 hB hc (by omega), if_neg (by omega)]
  | succ d ih =>
    intro p n1 n2 h1 h2 h3
    obtain ⟨m1, rfl⟩ : ∃ m1, n1 = m1 + 1 := ⟨n1 - 1, by omega⟩
    obtain ⟨m2, rfl⟩ : ∃ m2, n2 = m2 + 1 := ⟨n2 - 1, by omega⟩
    have hp : p < n := by omega
    obtain ⟨-, -, -, b4⟩ := hB.2 p hp
    have h4 := clN_cases (V p)
    by_cases g : clN (V p) = c
    · obtain ⟨e, q1, q2, q3, q4, q5⟩ := ih (p + 1) m1 m2 (by omega) (by omega) (by omega)
      refine ⟨e, by omega, q2, fun j j1 j2 => ?_, fun q => ?_, fun K => ?_⟩
      · by_cases ej : j = p
        · subst ej; exact g
        · exact q3 j (by omega) j2
      · rw [loop1_]
        have h := q4 q
        generalize bb_loop1 (uX2_readToken_s118 (nI n) (nI c) q tc) m1 = rec2 at h ⊢
        unfold uX2_readToken_s118
        rw [if_neg (nI_ge hp (by omega)), ixn (show p < 120 by omega) (by decide), cln (by omega), b4, g, if_pos rfl, p1_]
        exact h
      · rw [loop1_, s70 hB hc (by omega), if_pos ⟨hp, g⟩]
        exact q5 K
    · refine ⟨p, Nat.le_refl _, by omega, fun j _ _ => by omega, fun q => ?_, fun K => ?_⟩
      · rw [loop1_]
        generalize bb_loop1 (uX2_readToken_s118 (nI n) (nI c) q tc) m1 = rec2
        unfold uX2_readToken_s118
        rw [if_neg (nI_ge hp (by omega)), ixn (show p < 120 by omega) (by decide), cln (by omega), b4, if_neg (by rw [nI_eq (by omega) (by omega)]; exact g)]
      · rw [loop1_, s70 hB hc (by omega), if_neg (fun h => g h.2)]
theorem rt_b27 : @uX2_readToken_s118_b27 = @uX2_readToken_s118 := rfl
theorem next78 (hB : TB n V tb tc tp) (hn : 155 < nn) {e0 : Nat} (he : e0 ≤ n) : ∃ q e, TK n V q e ∧ e0 ≤ q ∧ (∀ t u, uX2_readToken nn (nI n) t u (nI e0) tb tc = some (nI (tkV n V q), nI q, nI e)) ∧ (∀ u, uX8_next_ nn (nI n) u (nI e0) tp = some (nI q, nI e)) := by
  have h120 := hB.1
  obtain ⟨q, q1, q2, q3, q4⟩ := skip78 hB (n - e0) e0 nn nn (by omega) (by omega) (by omega)
  by_cases h : q < n
  · obtain ⟨-, b2, -, b4⟩ := hB.2 q h
    have etk : tkV n V q = clN (V q) := if_pos h
    have long : ∀ c, (c = 1 ∨ c = 2) → clN (V q) = c → ∃ q e, TK n V q e ∧ e0 ≤ q ∧ (∀ t u, uX2_readToken nn (nI n) t u (nI e0) tb tc = some (nI (tkV n V q), nI q, nI e)) ∧ (∀ u, uX8_next_ nn (nI n) u (nI e0) tp = some (nI q, nI e)) := by
      intro c hc hcq
      obtain ⟨e, x1, x2, x3, x4, x5⟩ := ext78 hB hc (n - (q + 1)) (q + 1) nn (nn - 1) (by omega) (by omega) (by omega)
      refine ⟨q, e, ⟨by omega, x2, fun _ => ⟨by omega, fun _ j j1 j2 => ?_, fun hh => by omega⟩⟩, q1, fun t u => ?_, fun u => ?_⟩
      · by_cases ej : j = q
        · rw [ej]
        · rw [x3 j (by omega) j2, hcq]
      · unfold uX2_readToken
        rw [bb_cut_s, q3, etk, hcq]
        have hx := x4 (nI q)
        simp only [bb_cut_s, if_neg (nI_ge h (show n < 2 ^ 31 by omega)), ixn (show q < 120 by omega) (show 120 < 2 ^ 31 by decide), cln (show q < 2 ^ 31 by omega), b4, hcq, p1_]
        rcases hc with rfl | rfl
        · rw [if_pos (show nI 1 = (1 : Int32) from rfl)]
          exact hx
        · rw [if_neg (show ¬ nI 2 = (1 : Int32) by decide), if_pos (show nI 2 = (2 : Int32) from rfl), rt_b27]
          exact hx
      · unfold uX8_next_
        rw [bb_cut_s, q4]
        have e1 : (decide (q < n) && decide (clN (V q) = 1)) = decide (c = 1) := by rw [decide_eq_true h, hcq]; rfl
        have e2 : (decide (q < n) && decide (clN (V q) = 2)) = decide (c = 2) := by rw [decide_eq_true h, hcq]; rfl
        simp only [byteL hB (show q ≤ 120 by omega), byteD hB (show q ≤ 120 by omega), e1, e2, bb_b1_s, bb_cut_s]
        obtain ⟨m, hm⟩ : ∃ m, nn = m + 1 := ⟨nn - 1, by omega⟩
        have hx := x5 (fun v_t_to_11 => (if b32 (decide (c = 1)) = 0 then (if b32 (decide (c = 2)) = 0 then (if nI n ≤ nI q then some (nI q, v_t_to_11 + (0 : Int32)) else some (nI q, v_t_to_11 + (1 : Int32))) else some (nI q, v_t_to_11 + (0 : Int32))) else some (nI q, v_t_to_11 + (0 : Int32))))
        rw [hm] at hx ⊢
        rw [loop1_, s70 hB hc (by omega), if_pos ⟨h, hcq⟩]
        rw [show m + 1 - 1 = m by omega] at hx
        rw [hx]
        rcases hc with rfl | rfl
        · rw [if_neg (by decide), p0_]
          rfl
        · rw [if_pos (by decide), if_neg (by decide), p0_]
          rfl
    rcases clN_cases (V q) with c1 | c1 | c1
    · exact long 1 (Or.inl rfl) c1
    · exact long 2 (Or.inr rfl) c1
    · have hcn : ¬ clN (V q) = 1 ∧ ¬ clN (V q) = 2 := by omega
      refine ⟨q, q + 1, ⟨by omega, by omega, fun _ => ⟨by omega, fun hh => by omega, fun _ => rfl⟩⟩, q1, fun t u => ?_, fun u => ?_⟩
      · unfold uX2_readToken
        rw [bb_cut_s, q3, etk]
        simp only [bb_cut_s, if_neg (nI_ge h (show n < 2 ^ 31 by omega)), ixn (show q < 120 by omega) (show 120 < 2 ^ 31 by decide), cln (show q < 2 ^ 31 by omega), b4, p1_]
        rw [if_neg (show ¬ nI (clN (V q)) = (1 : Int32) by rw [show (1 : Int32) = nI 1 from rfl, nI_eq (by omega) (by omega)]; exact hcn.1), if_neg (show ¬ nI (clN (V q)) = (2 : Int32) by rw [show (2 : Int32) = nI 2 from rfl, nI_eq (by omega) (by omega)]; exact hcn.2)]
      · unfold uX8_next_
        rw [bb_cut_s, q4]
        have e1 : (decide (q < n) && decide (clN (V q) = 1)) = false := by rw [decide_eq_false hcn.1, Bool.and_false]
        have e2 : (decide (q < n) && decide (clN (V q) = 2)) = false := by rw [decide_eq_false hcn.2, Bool.and_false]
        simp only [byteL hB (show q ≤ 120 by omega), byteD hB (show q ≤ 120 by omega), e1, e2, bb_b1_s, bb_cut_s]
        obtain ⟨m, hm⟩ : ∃ m, nn = m + 1 := ⟨nn - 1, by omega⟩
        rw [hm, loop1_]
        generalize bb_loop1 _ m = rec2
        unfold uX8_next__s70
        simp only [bb_cut_s, if_pos (show b32 false = 0 from rfl), if_neg (nI_ge h (show n < 2 ^ 31 by omega)), p1_]
  · have hq : q = n := by omega
    subst hq
    have etk : tkV q V q = 0 := if_neg (by omega)
    refine ⟨q, q, ⟨Nat.le_refl _, Nat.le_refl _, fun hh => by omega⟩, q1, fun t u => ?_, fun u => ?_⟩
    · unfold uX2_readToken
      rw [bb_cut_s, q3, etk]
      simp only [bb_cut_s, if_pos (nI_le (Nat.le_refl q) (show q < 2 ^ 31 by omega))]
      rw [if_neg (by decide), if_neg (by decide)]
      rfl
    · unfold uX8_next_
      rw [bb_cut_s, q4]
      have e1 : (decide (q < q) && decide (clN (V q) = 1)) = false := by rw [decide_eq_false h, Bool.false_and]
      have e2 : (decide (q < q) && decide (clN (V q) = 2)) = false := by rw [decide_eq_false h, Bool.false_and]
      simp only [byteL hB (show q ≤ 120 by omega), byteD hB (show q ≤ 120 by omega), e1, e2, bb_b1_s, bb_cut_s]
      obtain ⟨m, hm⟩ : ∃ m, nn = m + 1 := ⟨nn - 1, by omega⟩
      rw [hm, loop1_]
      generalize bb_loop1 _ m = rec2
      unfold uX8_next__s70
      simp only [bb_cut_s, if_pos (show b32 false = 0 from rfl), if_pos (nI_le (Nat.le_refl q) (show q < 2 ^ 31 by omega)), p0_]
      rfl
end TOKENS
