/-! ===== words and numbers ===== -/
theorem wlen : ∀ w, w < 15 → uJ0_length_8abf5 w = some (nI (bb_len w)) := by decide +kernel
theorem wlen8 : ∀ w, w < 15 → 0 < bb_len w ∧ bb_len w ≤ 8 := by decide +kernel
theorem wchr : ∀ w, w < 15 → ∀ j, j < 8 → j < bb_len w → uJ0_charAt_5068e w (nI j) = some (bb_byt w j) := by decide +kernel
theorem wlet : ∀ w, w < 14 → clN (bb_byt w 0).toNatClampNeg = 1 ∧ bb_byt w 0 = nI (bb_byt w 0).toNatClampNeg ∧ (bb_byt w 0).toNatClampNeg < 256 := by decide +kernel
theorem stn {α : Type} {w : Nat} (hw : w < 15) (k : Option α) : bb_st w k = k := if_pos hw
def mwc (V : Nat → Nat) (w q j : Nat) : Bool := decide (nI (V (q + j)) = bb_byt w j)
def mw (V : Nat → Nat) (w q e : Nat) : Bool := decide (e - q = bb_len w) && allB (mwc V w q) (bb_len w)
theorem allB_down {p : Nat → Bool} {i : Nat} (h : allB p i = false) : ∀ d, allB p (i + d) = false
  | 0 => h
  | d + 1 => by
    show (allB p (i + d) && p (i + d)) = false
    rw [allB_down h d]
    rfl
theorem b32_0 {b : Bool} (h : b = false) : b32 b = 0 := by rw [h]; rfl
theorem b32_1 {b : Bool} (h : b = true) : b32 b = 1 := by rw [h]; rfl
section WORDS
variable {n nn : Nat} {V : Nat → Nat} {tb tc tp : Nat → Int32} {q e : Nat}
theorem cmp7 (hB : TB n V tb tc tp) (hn : 155 < nn) {w : Nat} (hw : w < 15) (he : e ≤ n) (hl : e - q = bb_len w) : bb_loop1 (uX2_isWord_s28 w (nI q) tb) nn 0 = some (b32 (allB (mwc V w q) (bb_len w))) := by
  have h120 := hB.1
  obtain ⟨l0, l8⟩ := wlen8 w hw
  refine inv1 (fun i x => x = nI i ∧ allB (mwc V w q) i = true) (bb_len w) (fun o => o = some (b32 (allB (mwc V w q) (bb_len w)))) ?_ ?_ nn (by omega) 0 ⟨rfl, rfl⟩
  · rintro rec2 x ⟨rfl, h⟩
    unfold uX2_isWord_s28
    rw [stn hw, wlen w hw, bb_b1_s, if_pos (nI_le (Nat.le_refl _) (by omega)), b32_1 h]
  · rintro rec2 i x hi ⟨rfl, h⟩
    unfold uX2_isWord_s28
    obtain ⟨b1, b2, -, -⟩ := hB.2 (q + i) (by omega)
    rw [stn hw, wlen w hw, bb_b1_s, if_neg (nI_ge hi (by omega)), nAdd, ixn (show q + i < 120 by omega) (by decide), stn hw, wchr w hw i (by omega) hi, bb_b1_s, cln (by omega), b1, p1_]
    by_cases g : nI (V (q + i)) = bb_byt w i
    · refine Or.inl ⟨_, ⟨rfl, ?_⟩, if_pos g⟩
      show (allB (mwc V w q) i && mwc V w q i) = true
      rw [h]
      unfold mwc
      rw [decide_eq_true g]
      rfl
    · refine Or.inr ?_
      have e1 : allB (mwc V w q) (i + 1) = false := by
        show (allB (mwc V w q) i && mwc V w q i) = false
        unfold mwc
        rw [decide_eq_false g, Bool.and_false]
      have e2 := allB_down e1 (bb_len w - (i + 1))
      rw [show i + 1 + (bb_len w - (i + 1)) = bb_len w by omega] at e2
      rw [if_neg g, e2]
      rfl
theorem cmp8 (hB : TB n V tb tc tp) (hn : 155 < nn) {w : Nat} (hw : w < 15) (he : e ≤ n) (hl : e - q = bb_len w) : bb_loop2 (uX8_isWord_s31 w (nI q) tp) nn 1 0 = some (b32 (allB (mwc V w q) (bb_len w))) := by
  have h120 := hB.1
  obtain ⟨l0, l8⟩ := wlen8 w hw
  have bz : ∀ {α : Type} (b : Bool) (k : Option α), bb_z (b32 b) k = k := fun b k => by cases b <;> rfl
  refine inv2 (fun i x y => y = nI i ∧ x = b32 (allB (mwc V w q) i)) (bb_len w) (fun o => o = some (b32 (allB (mwc V w q) (bb_len w)))) ?_ ?_ nn (by omega) 1 0 ⟨rfl, rfl⟩
  · rintro rec2 x y ⟨rfl, rfl⟩
    unfold uX8_isWord_s31
    rw [stn hw, wlen w hw, bb_b1_s, if_pos (nI_le (Nat.le_refl _) (by omega)), bz]
    split <;> rfl
  · rintro rec2 i x y hi ⟨rfl, rfl⟩
    unfold uX8_isWord_s31
    cases h : allB (mwc V w q) i
    · refine Or.inr ?_
      have e2 := allB_down h (bb_len w - i)
      rw [show i + (bb_len w - i) = bb_len w by omega] at e2
      rw [if_pos (show b32 false = 0 from rfl), bz, e2]
    · refine Or.inl ?_
      obtain ⟨-, b2, b3, -⟩ := hB.2 (q + i) (by omega)
      rw [if_neg (show ¬ b32 true = 0 by decide), stn hw, wlen w hw, bb_b1_s, if_neg (nI_ge hi (by omega)), nAdd, ixn (show q + i < 120 by omega) (by decide), stn hw, wchr w hw i (by omega) hi, bb_b1_s, bb_cut_s, cln (by omega), b3, p1_]
      by_cases g : nI (V (q + i)) = bb_byt w i
      · refine ⟨_, _, ⟨rfl, ?_⟩, if_pos g⟩
        show 1 = b32 (allB (mwc V w q) i && mwc V w q i)
        rw [h]
        unfold mwc
        rw [decide_eq_true g]
        rfl
      · refine ⟨_, _, ⟨rfl, ?_⟩, if_neg g⟩
        show 0 = b32 (allB (mwc V w q) i && mwc V w q i)
        rw [h]
        unfold mwc
        rw [decide_eq_false g]
        rfl
theorem mw_1 (hB : TB n V tb tc tp) (hT : TK n V q e) {w : Nat} (hw : w < 14) (h : mw V w q e = true) : q < n ∧ q < e ∧ clN (V q) = 1 := by
  obtain ⟨l0, l8⟩ := wlen8 w (by omega)
  unfold mw at h
  rw [Bool.and_eq_true, decide_eq_true_eq] at h
  obtain ⟨t1, t2, t3⟩ := hT
  have hq : q < n := by omega
  obtain ⟨-, b2, -, -⟩ := hB.2 q hq
  have h0 := (allB_iff _ _).mp h.2 0 l0
  unfold mwc at h0
  rw [decide_eq_true_eq] at h0
  obtain ⟨w1, w2, w3⟩ := wlet w hw
  rw [w2] at h0
  have h1 := (nI_eq (by show V (q + 0) < 2 ^ 31; simp only [Nat.add_zero]; omega) (by omega)).mp h0
  refine ⟨hq, by omega, ?_⟩
  have h2 : V q = (bb_byt w 0).toNatClampNeg := h1
  rw [h2]
  exact w1
theorem isW7 (hB : TB n V tb tc tp) (hn : 155 < nn) (hT : TK n V q e) {w : Nat} (hw : w < 14) : uX2_isWord nn w (nI (tkV n V q)) (nI q) (nI e) tb = some (b32 (mw V w q e)) := by
  have h120 := hB.1
  obtain ⟨l0, l8⟩ := wlen8 w (by omega)
  unfold uX2_isWord
  rw [stn (show w < 15 by omega), wlen w (by omega), bb_b1_s, pk_sub hT.1]
  have htk : tkV n V q ≤ 4 := by
    unfold tkV
    split
    · have := clN_cases (V q); omega
    · omega
  by_cases g1 : tkV n V q = 1
  · rw [g1, if_pos (show nI 1 = (1 : Int32) from rfl)]
    by_cases g2 : e - q = bb_len w
    · rw [g2, if_pos rfl, cmp7 hB hn (by omega) hT.2.1 g2]
      unfold mw
      rw [decide_eq_true g2]
      rfl
    · rw [if_neg (by rw [nI_eq (by have := hT.2.1; omega) (by omega)]; exact g2)]
      unfold mw
      rw [decide_eq_false g2]
      rfl
  · rw [if_neg (by rw [show (1 : Int32) = nI 1 from rfl, nI_eq (by omega) (by omega)]; exact g1)]
    cases g : mw V w q e
    · rfl
    · obtain ⟨m1, m2, m3⟩ := mw_1 hB hT hw g
      exact absurd ((if_pos m1).trans m3) g1
theorem isW8 (hB : TB n V tb tc tp) (hn : 155 < nn) (hT : TK n V q e) {w : Nat} (hw : w < 15) : uX8_isWord nn w (nI q) (nI e) 0 tp = some (b32 (mw V w q e)) := by
  have h120 := hB.1
  obtain ⟨l0, l8⟩ := wlen8 w hw
  unfold uX8_isWord
  simp only [bb_cut_s, stn hw, wlen w hw, bb_b1_s, pk_sub hT.1, if_true]
  by_cases g2 : e - q = bb_len w
  · rw [g2, if_pos rfl, cmp8 hB hn hw hT.2.1 g2]
    unfold mw
    rw [decide_eq_true g2]
    rfl
  · rw [if_neg (by rw [nI_eq (by have := hT.2.1; omega) (by omega)]; exact g2)]
    unfold mw
    rw [decide_eq_false g2]
    obtain ⟨m, hm⟩ : ∃ m, nn = m + 1 := ⟨nn - 1, by omega⟩
    rw [hm]
    rfl
theorem isW8w (hn : 155 < nn) {w : Nat} (a b : Int32) : uX8_isWord nn w a b 1 tp = some 0 := by
  unfold uX8_isWord
  simp only [bb_cut_s, e10, if_false]
  obtain ⟨m, hm⟩ : ∃ m, nn = m + 1 := ⟨nn - 1, by omega⟩
  rw [hm]
  rfl
/-- a word is taken, or nothing is -/
theorem word78 (hB : TB n V tb tc tp) (hn : 155 < nn) (hT : TK n V q e) {w : Nat} (hw : w < 14) :
    (∃ q2 e2, TK n V q2 e2 ∧ q < n ∧ q < q2 ∧ uX3_takeWord nn w (nI n) (nI (tkV n V q)) (nI q) (nI e) tb tc = some (1, nI (tkV n V q2), nI q2, nI e2) ∧ uX8_takes nn w (nI n) (nI q) (nI e) 0 tp = some (1, nI q2, nI e2)) ∨
    (uX3_takeWord nn w (nI n) (nI (tkV n V q)) (nI q) (nI e) tb tc = some (0, nI (tkV n V q), nI q, nI e) ∧ uX8_takes nn w (nI n) (nI q) (nI e) 0 tp = some (0, nI q, nI e)) := by
  unfold uX3_takeWord uX8_takes
  rw [isW7 hB hn hT hw, isW8 hB hn hT (by omega), bb_b1_s, bb_b1_s]
  cases g : mw V w q e
  · exact Or.inr ⟨if_pos rfl, if_pos rfl⟩
  · obtain ⟨m1, m2, m3⟩ := mw_1 hB hT hw g
    obtain ⟨q2, e2, x1, x2, x3, x4⟩ := next78 hB hn hT.2.1
    refine Or.inl ⟨q2, e2, x1, m1, by omega, ?_, ?_⟩
    · rw [if_neg (show ¬ b32 true = 0 by decide), x3]
      rfl
    · rw [if_neg (show ¬ b32 true = 0 by decide), x4]
      rfl
theorem wordW (hn : 155 < nn) {w : Nat} (a b c : Int32) : uX8_takes nn w a b c 1 tp = some (0, b, c) := by
  unfold uX8_takes
  rw [isW8w hn, bb_b1_s]
  exact if_pos rfl
theorem must1 (hB : TB n V tb tc tp) (hn : 155 < nn) (he : e ≤ n) (hqe : q ≤ e) : ∃ q2 e2, TK n V q2 e2 ∧ e ≤ q2 ∧ (∀ t u, uX2_readToken nn (nI n) t u (nI e) tb tc = some (nI (tkV n V q2), nI q2, nI e2)) ∧ uX8_must nn 1 (nI n) (nI q) (nI e) 0 tp = some (nI q2, nI e2, 0) := by
  obtain ⟨q2, e2, x1, x2, x3, x4⟩ := next78 hB hn he
  refine ⟨q2, e2, x1, x2, x3, ?_⟩
  unfold uX8_must
  simp only [bb_cut_s, e10, e00, e11, if_true, if_false, x4, bb_b0_s, bb_b1_s, bb_b2_s, bb_b3_s, bb_b4_s, bb_b5_s, bb_b6_s, bb_b7_s, bb_b8_s, bb_b9_s, bb_b10_s, bb_b11_s, bb_b12_s, bb_b13_s, bb_b14_s, bb_b15_s, bb_b16_s]
  rfl
theorem must0 (a b c : Int32) : uX8_must nn 0 a b c 0 tp = some (b, c, 1) := rfl
theorem mustW (p a b c : Int32) : uX8_must nn p a b c 1 tp = some (b, c, 1) := by
  unfold uX8_must
  simp only [bb_cut_s, e10, e00, e11, if_true, if_false]
  rfl
def nv (V : Nat → Nat) (q : Nat) : Nat → Nat
  | 0 => 0
  | i + 1 => if 999 < nv V q i then nv V q i else 10 * nv V q i + (V (q + i) - 48)
theorem nv_stay {i : Nat} (h : 999 < nv V q i) : ∀ d, nv V q (i + d) = nv V q i
  | 0 => rfl
  | d + 1 => by
    show (if 999 < nv V q (i + d) then nv V q (i + d) else _) = _
    rw [nv_stay h d, if_pos h]
theorem nv_le (hD : ∀ j, q ≤ j → j < e → clN (V j) = 2) : ∀ i, q + i ≤ e → nv V q i ≤ 9999
  | 0, _ => by show 0 ≤ 9999; omega
  | i + 1, h => by
    have ih := nv_le hD i (by omega)
    have h2 := (clN_2 _).mp (hD (q + i) (by omega) (by omega))
    show (if 999 < nv V q i then nv V q i else 10 * nv V q i + (V (q + i) - 48)) ≤ 9999
    split <;> omega
theorem num7 (hB : TB n V tb tc tp) (hn : 155 < nn) (hT : TK n V q e) (hD : ∀ j, q ≤ j → j < e → clN (V j) = 2) : uX2_number nn (nI q) (nI e) tb = some (nI (nv V q (e - q))) := by
  have h120 := hB.1
  have t1 := hT.1
  have t2 := hT.2.1
  unfold uX2_number
  refine inv2 (fun i x y => x = nI (nv V q i) ∧ y = nI (q + i)) (e - q) (fun o => o = some (nI (nv V q (e - q)))) ?_ ?_ nn (by omega) 0 (nI q) ⟨rfl, rfl⟩
  · rintro rec2 x y ⟨rfl, rfl⟩
    unfold uX2_number_s7
    rw [if_pos (nI_le (by omega) (by omega))]
  · rintro rec2 i x y hi ⟨rfl, rfl⟩
    unfold uX2_number_s7
    obtain ⟨b1, b2, -, -⟩ := hB.2 (q + i) (by omega)
    have hl := nv_le hD i (by omega)
    have h2 := (clN_2 _).mp (hD (q + i) (by omega) (by omega))
    rw [if_neg (nI_ge (by omega) (by omega))]
    by_cases g : 999 < nv V q i
    · refine Or.inr ?_
      have := nv_stay g (e - q - i)
      rw [show i + (e - q - i) = e - q by omega] at this
      rw [if_pos (show (999 : Int32) < nI (nv V q i) from nI_lt (a := 999) g (by omega)), this]
    · refine Or.inl ⟨_, _, ⟨rfl, rfl⟩, ?_⟩
      rw [if_neg (show ¬ (999 : Int32) < nI (nv V q i) from nI_nlt (b := nv V q i) (a := 999) (by omega) (by omega)), ixn (show q + i < 120 by omega) (by decide), cln (by omega), b1, bb_lt, p1_]
      have e1 : nI (nv V q i) * 10 + (nI (V (q + i)) - 48) = nI (nv V q (i + 1)) := by
        rw [show nI (nv V q i) * 10 = nI (nv V q i * 10) from pk_mul _ 10, show nI (V (q + i)) - 48 = nI (V (q + i) - 48) from pk_sub (b := 48) h2.1, nAdd]
        congr 1
        show _ = (if 999 < nv V q i then nv V q i else 10 * nv V q i + (V (q + i) - 48))
        rw [if_neg g, Nat.mul_comm]
      rw [e1, Nat.add_assoc]
theorem num8 (hB : TB n V tb tc tp) (hn : 155 < nn) (hT : TK n V q e) (hD : ∀ j, q ≤ j → j < e → clN (V j) = 2) (K : Int32 → Option (Int32 × Int32 × Int32 × Int32)) : bb_loop2 (uX8_numberRead_s27 (nI e) tp K) nn 0 (nI q) = K (nI (nv V q (e - q))) := by
  have h120 := hB.1
  have t1 := hT.1
  have t2 := hT.2.1
  refine inv2 (fun i x y => x = nI (nv V q i) ∧ y = nI (q + i)) (e - q) (fun o => o = K (nI (nv V q (e - q)))) ?_ ?_ nn (by omega) 0 (nI q) ⟨rfl, rfl⟩
  · rintro rec2 x y ⟨rfl, rfl⟩
    unfold uX8_numberRead_s27
    rw [if_pos (nI_le (by omega) (by omega))]
  · rintro rec2 i x y hi ⟨rfl, rfl⟩
    refine Or.inl ?_
    unfold uX8_numberRead_s27
    obtain ⟨-, b2, b3, -⟩ := hB.2 (q + i) (by omega)
    have hl := nv_le hD i (by omega)
    have h2 := (clN_2 _).mp (hD (q + i) (by omega) (by omega))
    rw [if_neg (nI_ge (by omega) (by omega)), if_neg (nI_nneg (by omega)), bb_cut_s, p1_]
    by_cases g : 999 < nv V q i
    · refine ⟨_, _, ⟨?_, rfl⟩, if_neg (show ¬ nI (nv V q i) ≤ (999 : Int32) from nI_ge (a := 999) g (by omega))⟩
      show nI (nv V q i) = nI (if 999 < nv V q i then nv V q i else 10 * nv V q i + (V (q + i) - 48))
      rw [if_pos g]
    · rw [if_pos (show nI (nv V q i) ≤ (999 : Int32) from nI_le (b := 999) (by omega) (by omega)), ixn (show q + i < 120 by omega) (by decide), cln (by omega), b3]
      refine ⟨_, _, ⟨?_, rfl⟩, rfl⟩
      rw [show (10 : Int32) * nI (nv V q i) = nI (10 * nv V q i) from pk_mul 10 _, nAdd, show nI (10 * nv V q i + V (q + i)) - 48 = nI (10 * nv V q i + V (q + i) - 48) from pk_sub (b := 48) (by omega)]
      show _ = nI (if 999 < nv V q i then nv V q i else 10 * nv V q i + (V (q + i) - 48))
      rw [if_neg g]
      congr 1
      omega
theorem TK.dig (hT : TK n V q e) (h : q < n) (hc : clN (V q) = 2) : ∀ j, q ≤ j → j < e → clN (V j) = 2 := fun j j1 j2 => by
  rw [(hT.2.2 h).2.1 (Or.inr hc) j j1 j2, hc]
/-- the reference reads a number: what it is, and whether it may be -/
theorem nread (hB : TB n V tb tc tp) (hn : 155 < nn) (hT : TK n V q e) (hi wr : Int32) : ∃ v, (uX8_numberRead nn 0 hi (nI n) (nI q) (nI e) wr tp = bb_b1 (uX7_isWithin v 0 hi) (fun r9 => bb_b3 (uX8_must nn r9 (nI n) (nI q) (nI e) wr tp) (fun w13 w14 w15 => some (v, w13, w14, w15)))) ∧ ((tkV n V q = 2 ∧ v = nI (nv V q (e - q)) ∧ nv V q (e - q) ≤ 9999) ∨ (tkV n V q ≠ 2 ∧ v = -1)) := by
  have h120 := hB.1
  have t1 := hT.1
  have t2 := hT.2.1
  unfold uX8_numberRead
  rw [byteD hB (by omega), bb_b1_s]
  simp only [bb_cut_s]
  have ein : ∀ x : Int32, uX8_in x.toInt64 (0 : Int32).toInt64 hi.toInt64 = uX7_isWithin x 0 hi := fun x => in8 x 0 hi
  by_cases g : tkV n V q = 2
  · have hq : q < n := by
      unfold tkV at g
      split at g
      · assumption
      · omega
    have hc : clN (V q) = 2 := (if_pos hq).symm.trans g
    have hD := hT.dig hq hc
    rw [decide_eq_true hq, decide_eq_true hc, if_neg (show ¬ b32 (true && true) = 0 by decide), num8 hB hn hT hD]
    refine ⟨nI (nv V q (e - q)), ?_, Or.inl ⟨g, rfl, nv_le hD _ (by omega)⟩⟩
    show bb_b1 (uX8_in (nI (nv V q (e - q))).toInt64 (0 : Int32).toInt64 hi.toInt64) _ = _
    rw [ein]
  · have e0 : (decide (q < n) && decide (clN (V q) = 2)) = false := by
      by_cases hq : q < n
      · rw [decide_eq_false (fun hc => g ((if_pos hq).trans hc)), Bool.and_false]
      · rw [decide_eq_false hq, Bool.false_and]
    rw [e0, if_pos (show b32 false = 0 from rfl)]
    refine ⟨-1, ?_, Or.inr ⟨g, rfl⟩⟩
    obtain ⟨m, hm⟩ : ∃ m, nn = m + 1 := ⟨nn - 1, by omega⟩
    have e9 : ∀ K : Int32 → Option (Int32 × Int32 × Int32 × Int32), bb_loop2 (uX8_numberRead_s27 (nI e) tp K) nn (-1) (nI q) = K (-1) := fun K => by
      rw [hm, loop2_]
      generalize bb_loop2 (uX8_numberRead_s27 (nI e) tp K) m = rec2
      unfold uX8_numberRead_s27
      rw [if_pos (show (-1 : Int32) < 0 by decide)]
      split <;> rfl
    rw [e9]
    show bb_b1 (uX8_in (-1 : Int32).toInt64 (0 : Int32).toInt64 hi.toInt64) _ = _
    rw [ein]
theorem num78 (hB : TB n V tb tc tp) (hn : 155 < nn) (hT : TK n V q e) {hi : Nat} (hh : hi < 1000) (nu : Int32) :
    (∃ v q2 e2, v ≤ hi ∧ TK n V q2 e2 ∧ q < q2 ∧ uX3_takeNumber nn (nI hi) nu (nI n) (nI (tkV n V q)) (nI q) (nI e) tb tc = some (1, nI v, nI (tkV n V q2), nI q2, nI e2) ∧ uX8_numberRead nn 0 (nI hi) (nI n) (nI q) (nI e) 0 tp = some (nI v, nI q2, nI e2, 0)) ∨
    (uX3_takeNumber nn (nI hi) nu (nI n) (nI (tkV n V q)) (nI q) (nI e) tb tc = some (0, nu, nI (tkV n V q), nI q, nI e) ∧ ∃ v, uX8_numberRead nn 0 (nI hi) (nI n) (nI q) (nI e) 0 tp = some (v, nI q, nI e, 1)) := by
  obtain ⟨v, ev, hv⟩ := nread hB hn hT (nI hi) 0
  rw [ev]
  have htk : tkV n V q ≤ 4 := by
    unfold tkV
    split
    · have := clN_cases (V q); omega
    · omega
  unfold uX3_takeNumber
  rcases hv with ⟨g, rfl, hl⟩ | ⟨g, rfl⟩
  · have hq : q < n := by
      unfold tkV at g
      split at g
      · assumption
      · omega
    have hc : clN (V q) = 2 := (if_pos hq).symm.trans g
    have hD := hT.dig hq hc
    rw [g, if_pos (show nI 2 = (2 : Int32) from rfl), num7 hB hn hT hD, bb_b1_s]
    by_cases g2 : nv V q (e - q) ≤ hi
    · obtain ⟨q2, e2, x1, x2, x3, x4⟩ := must1 hB hn hT.2.1 hT.1
      refine Or.inl ⟨_, q2, e2, g2, x1, by have := (hT.2.2 hq).1; omega, ?_, ?_⟩
      · rw [if_pos (nI_le g2 (by omega)), bb_b1_s, x3, bb_b3_s]
      · rw [win_t (nI_pos' (by omega)) (nI_le g2 (by omega)), bb_b1_s, x4, bb_b3_s]
    · refine Or.inr ⟨if_neg (nI_ge (by omega) (by omega)), nI (nv V q (e - q)), ?_⟩
      rw [win_f (fun h => g2 ((nI_leI (by omega) (by omega)).mp h.2)), bb_b1_s, must0, bb_b3_s]
  · refine Or.inr ⟨if_neg (by rw [show (2 : Int32) = nI 2 from rfl, nI_eq (by omega) (by omega)]; exact g), -1, ?_⟩
    rw [win_f (fun h => absurd h.1 (by decide)), bb_b1_s, must0, bb_b3_s]
theorem numW (hB : TB n V tb tc tp) (hn : 155 < nn) (hT : TK n V q e) (hi : Int32) : ∃ v, uX8_numberRead nn 0 hi (nI n) (nI q) (nI e) 1 tp = some (v, nI q, nI e, 1) := by
  obtain ⟨v, ev, -⟩ := nread hB hn hT hi 1
  rw [ev]
  refine ⟨v, ?_⟩
  rcases win v 0 hi with ⟨h, -⟩ | ⟨h, -⟩
  · rw [h, bb_b1_s, mustW, bb_b3_s]
  · rw [h, bb_b1_s, mustW, bb_b3_s]
end WORDS
