/-! ===== keys in rings: swaps ===== -/
def ib (x : Int32) (k : Nat) : Bool := x.toBitVec.getLsbD k
theorem ib_or (x y : Int32) (k : Nat) : ib (x ||| y) k = (ib x k || ib y k) := by unfold ib; rw [Int32.toBitVec_or, BitVec.getLsbD_or]
theorem ib_and (x y : Int32) (k : Nat) : ib (x &&& y) k = (ib x k && ib y k) := by unfold ib; rw [Int32.toBitVec_and, BitVec.getLsbD_and]
theorem ib_xor (x y : Int32) (k : Nat) : ib (x ^^^ y) k = (ib x k ^^ ib y k) := by unfold ib; rw [Int32.toBitVec_xor, BitVec.getLsbD_xor]
theorem ib_0 (k : Nat) : ib 0 k = false := BitVec.getLsbD_zero
theorem ib_ext {x y : Int32} (h : ∀ k, k < 32 → ib x k = ib y k) : x = y := Int32.toBitVec_inj.mp (BitVec.eq_of_getLsbD_eq h)
theorem ib_m1 : ∀ k, k < 32 → ib (-1) k = true := by decide +kernel
theorem ib_one : ∀ j, j < 32 → ∀ k, k < 32 → ib ((1 : Int32) <<< (nI j &&& 31)) k = decide (k = j) := by decide +kernel
theorem ib_full : ∀ n, n < 9 → ∀ k, k < 32 → ib (((1 : Int32) <<< (nI n &&& 31)) - 1) k = decide (k < n) := by decide +kernel
theorem ib_c1 : ∀ k, k < 32 → ib 1 k = decide (k = 0) := by decide +kernel
theorem ib_sh : ∀ b, b < 32 → ((nI b &&& 31).toBitVec.smod 32).toNat = b := by decide +kernel
theorem ib_bit {x : Int32} {b : Nat} (hb : b < 32) : ((x >>> (nI b &&& 31)) &&& 1) = 0 ↔ ib x b = false := by
  have e : ib (x >>> (nI b &&& 31)) 0 = ib x b := by
    unfold ib
    rw [Int32.toBitVec_shiftRight, BitVec.sshiftRight_eq', ib_sh b hb, BitVec.getLsbD_sshiftRight]
    simp [hb]
  constructor
  · intro h
    have t : ib ((x >>> (nI b &&& 31)) &&& 1) 0 = ib 0 0 := by rw [h]
    rw [ib_and, e, ib_c1 0 (by omega), ib_0] at t
    simpa using t
  · intro h
    refine ib_ext (fun k hk => ?_)
    rw [ib_and, ib_0, ib_c1 k hk]
    by_cases q : k = 0
    · subst q
      rw [e, h]
      rfl
    · simp [q]
theorem ib_orI (q : Nat → Bool) {k : Nat} (hk : k < 32) : ∀ n, n ≤ 32 → ib (orI (gb q) n) k = (decide (k < n) && q k)
  | 0, _ => by rw [orI, ib_0]; simp
  | n + 1, h => by
    rw [orI, ib_or, ib_orI q hk n (by omega)]
    unfold gb
    by_cases e : k = n
    · subst e
      cases hq : q k
      · rw [if_neg (by decide), ib_0]
        simp
      · rw [if_pos rfl, ib_one k hk k hk]
        simp
    · have e2 : decide (k < n + 1) = decide (k < n) := by
        rw [decide_eq_decide]
        omega
      rw [e2]
      cases hq : q n
      · rw [if_neg (by decide), ib_0, Bool.or_false]
      · rw [if_pos rfl, ib_one n (by omega) k hk]
        simp [e]
theorem pigeon : ∀ (n : Nat) (f : Nat → Nat), (∀ i, i ≤ n → f i < n) → ∃ i j, i < j ∧ j ≤ n ∧ f i = f j
  | 0, f, h => absurd (h 0 (Nat.le_refl 0)) (Nat.not_lt_zero _)
  | n + 1, f, h => by
    by_cases q : ∃ i, i ≤ n ∧ f i = f (n + 1)
    · obtain ⟨i, h1, h2⟩ := q
      exact ⟨i, n + 1, by omega, Nat.le_refl _, h2⟩
    · have hv : ∀ i, i ≤ n → f i ≠ f (n + 1) := fun i hi e => q ⟨i, hi, e⟩
      have hl := h (n + 1) (Nat.le_refl _)
      obtain ⟨i, j, h1, h2, h3⟩ := pigeon n (fun i => if f i = n then f (n + 1) else f i) (fun i hi => by
        have a1 := hv i hi
        have a2 := h i (by omega)
        show (if f i = n then f (n + 1) else f i) < n
        split <;> omega)
      refine ⟨i, j, h1, by omega, ?_⟩
      have b1 := hv i (by omega)
      have b2 := hv j (by omega)
      have h4 : (if f i = n then f (n + 1) else f i) = (if f j = n then f (n + 1) else f j) := h3
      split at h4
      · split at h4
        · omega
        · omega
      · split at h4
        · omega
        · exact h4
def itN (K : Nat → Nat) (b : Nat) : Nat → Nat
  | 0 => b
  | i + 1 => K (itN K b i)
theorem itN_add (K : Nat → Nat) (b i : Nat) : ∀ j, itN K b (i + j) = itN K (itN K b i) j
  | 0 => rfl
  | j + 1 => by
    show K (itN K b (i + j)) = K (itN K (itN K b i) j)
    rw [itN_add K b i j]
theorem itN_lt {K : Nat → Nat} {n : Nat} (hK : ∀ b, b < n → K b < n) {b : Nat} (hb : b < n) : ∀ i, itN K b i < n
  | 0 => hb
  | i + 1 => hK _ (itN_lt hK hb i)
theorem itN_inv {K g : Nat → Nat} {n : Nat} (hg : ∀ j, j < n → g j < n ∧ K (g j) = j) {b : Nat} (hb : b < n) : ∀ i, itN K (itN g b i) i = b
  | 0 => rfl
  | i + 1 => by
    have h1 := itN_lt (fun j hj => (hg j hj).1) hb i
    have e : itN K (itN g b (i + 1)) (1 + i) = itN K (itN K (itN g b (i + 1)) 1) i := itN_add K _ 1 i
    rw [Nat.add_comm 1 i] at e
    rw [e]
    have e2 : itN K (itN g b (i + 1)) 1 = itN g b i := (hg _ h1).2
    rw [e2]
    exact itN_inv hg hb i
theorem cyc {K : Nat → Nat} {n : Nat} (hs : ∀ j, j < n → ∃ b, b < n ∧ K b = j) {b : Nat} (hb : b < n) : ∃ L, 1 ≤ L ∧ L ≤ n ∧ itN K b L = b ∧ ∀ i, 1 ≤ i → i < L → itN K b i ≠ b := by
  have hs2 : ∀ j, ∃ b, j < n → b < n ∧ K b = j := fun j => by
    by_cases q : j < n
    · obtain ⟨b, h1, h2⟩ := hs j q
      exact ⟨b, fun _ => ⟨h1, h2⟩⟩
    · exact ⟨0, fun h => absurd h q⟩
  obtain ⟨g, hg⟩ := Classical.axiomOfChoice hs2
  obtain ⟨i, j, h1, h2, h3⟩ := pigeon n (fun i => itN g b i) (fun i _ => itN_lt (fun j hj => (hg j hj).1) hb i)
  have h4 : itN g b i = itN g b j := h3
  have e1 : itN g b (j - i) = b := by
    have a1 := itN_inv hg hb i
    rw [h4, show j = j - i + i by omega, itN_add, itN_inv hg (itN_lt (fun j hj => (hg j hj).1) hb _)] at a1
    exact a1
  have e2 : itN K b (j - i) = b := by
    have a1 := itN_inv hg hb (j - i)
    rw [e1] at a1
    exact a1
  obtain ⟨L, ⟨l1, l2⟩, l3⟩ := pk_least (fun L => 1 ≤ L ∧ itN K b L = b) ⟨j - i, by omega, e2⟩
  refine ⟨L, l1, ?_, l2, fun i hi1 hi2 he => l3 i hi2 ⟨hi1, he⟩⟩
  rcases Nat.lt_or_ge (j - i) L with q | q
  · exact absurd ⟨by omega, e2⟩ (l3 _ q)
  · omega
def rgB (K : Nat → Nat) (b : Nat) : Nat → Nat → Bool
  | 0, _ => false
  | i + 1, x => rgB K b i x || decide (x = itN K b i)
theorem rgB_iff (K : Nat → Nat) (b x : Nat) : ∀ m, rgB K b m x = true ↔ ∃ i, i < m ∧ itN K b i = x
  | 0 => ⟨fun h => (by cases h), fun ⟨i, h, _⟩ => (by omega)⟩
  | m + 1 => by
    rw [rgB, Bool.or_eq_true, rgB_iff K b x m, decide_eq_true_eq]
    constructor
    · rintro (⟨i, h1, h2⟩ | h)
      · exact ⟨i, by omega, h2⟩
      · exact ⟨m, by omega, h.symm⟩
    · rintro ⟨i, h1, h2⟩
      exact lt_succ_cases h1 (fun q => Or.inl ⟨i, q, h2⟩) (fun q => by subst q; exact Or.inr h2.symm)
section RINGS
variable {K : Nat → Nat} {n : Nat}
theorem itN_back {b L : Nat} (h1 : 1 ≤ L) (h2 : itN K b L = b) : ∀ m i, i < m → ∃ j, j < L ∧ itN K b j = itN K b i
  | 0, i, h => by omega
  | m + 1, i, h => by
    rcases Nat.lt_or_ge i L with q | q
    · exact ⟨i, q, rfl⟩
    · obtain ⟨j, a1, a2⟩ := itN_back h1 h2 m (i - L) (by omega)
      refine ⟨j, a1, a2.trans ?_⟩
      have e := itN_add K b L (i - L)
      rw [h2, show L + (i - L) = i by omega] at e
      exact e.symm
theorem rgB_same {b L m : Nat} (h1 : 1 ≤ L) (h2 : itN K b L = b) (h3 : L ≤ m) (x : Nat) : rgB K b m x = rgB K b L x := by
  apply Bool.eq_iff_iff.mpr
  rw [rgB_iff, rgB_iff]
  constructor
  · rintro ⟨i, a1, a2⟩
    obtain ⟨j, b1, b2⟩ := itN_back h1 h2 (i + 1) i (by omega)
    exact ⟨j, b1, b2.trans a2⟩
  · rintro ⟨i, a1, a2⟩
    exact ⟨i, by omega, a2⟩
theorem rgB_new {b L t : Nat} (h2 : itN K b L = b) (h3 : ∀ i, 1 ≤ i → i < L → itN K b i ≠ b) (ht : t < L) : rgB K b t (itN K b t) = false := by
  cases e : rgB K b t (itN K b t)
  · rfl
  · obtain ⟨i, a1, a2⟩ := (rgB_iff K b _ t).mp e
    have e1 := itN_add K b i (L - t)
    have e2 := itN_add K b t (L - t)
    rw [show t + (L - t) = L by omega, h2, ← a2, ← e1] at e2
    exact absurd e2.symm (h3 _ (by omega) (by omega))
def cl (K : Nat → Nat) (n : Nat) (q : Nat → Bool) : Prop := ∀ x, q x = true → x < n ∧ q (K x) = true
theorem cl_it {q : Nat → Bool} (h : cl K n q) {b : Nat} (hb : q b = true) : ∀ i, q (itN K b i) = true
  | 0 => hb
  | i + 1 => (h _ (cl_it h hb i)).2
theorem cnt_ring {q : Nat → Bool} {b L : Nat} (hK : ∀ b, b < n → K b < n) (hq : cl K n q) (hb : b < n) (hqb : q b = false) (h1 : 1 ≤ L) (h2 : itN K b L = b) (h3 : ∀ i, 1 ≤ i → i < L → itN K b i ≠ b) : ∀ t, t ≤ L → cntN (fun x => q x || rgB K b t x) n = cntN q n + t
  | 0, _ => cntN_cong n (fun i _ => by show (q i || false) = q i; rw [Bool.or_false])
  | t + 1, ht => by
    have ih := cnt_ring hK hq hb hqb h1 h2 h3 t (by omega)
    have e : (fun x => q x || rgB K b (t + 1) x) = ins (fun x => q x || rgB K b t x) (itN K b t) := funext (fun x => by
      unfold ins
      rw [rgB, Bool.or_assoc])
    have hf : (fun x => q x || rgB K b t x) (itN K b t) = false := by
      show (q (itN K b t) || rgB K b t (itN K b t)) = false
      rw [rgB_new h2 h3 (by omega), Bool.or_false]
      cases e2 : q (itN K b t)
      · rfl
      · have a1 := cl_it hq e2 (L - t)
        rw [← itN_add, show t + (L - t) = L by omega, h2, hqb] at a1
        cases a1
    rw [e, cntN_ins hf, ih, if_pos (itN_lt hK hb t)]
    omega
def qS (K : Nat → Nat) (n : Nat) : Nat → Nat → Bool
  | 0 => fun _ => false
  | i + 1 => fun x => qS K n i x || (!qS K n i i && rgB K i n x)
def rS (K : Nat → Nat) (n : Nat) : Nat → Nat
  | 0 => 0
  | i + 1 => rS K n i + (if qS K n i i = true then 0 else 1)
theorem qS_cl (hK : ∀ b, b < n → K b < n) (hs : ∀ j, j < n → ∃ b, b < n ∧ K b = j) : ∀ i, i ≤ n → cl K n (qS K n i)
  | 0, _ => fun x h => by cases h
  | i + 1, hi => by
    have ih := qS_cl hK hs i (by omega)
    obtain ⟨L, h1, h2, h3, h4⟩ := cyc hs (show i < n by omega)
    intro x h
    have h : (qS K n i x || (!qS K n i i && rgB K i n x)) = true := h
    show x < n ∧ (qS K n i (K x) || (!qS K n i i && rgB K i n (K x))) = true
    rw [Bool.or_eq_true, Bool.and_eq_true] at h ⊢
    rcases h with h | ⟨u1, u2⟩
    · obtain ⟨a1, a2⟩ := ih x h
      exact ⟨a1, Or.inl a2⟩
    · obtain ⟨j, v1, v2⟩ := (rgB_iff K i x n).mp u2
      have hx : x < n := by rw [← v2]; exact itN_lt hK (by omega) j
      refine ⟨hx, Or.inr ⟨u1, ?_⟩⟩
      obtain ⟨j2, w1, w2⟩ := itN_back h1 h3 (j + 2) (j + 1) (by omega)
      refine (rgB_iff K i _ n).mpr ⟨j2, by omega, w2.trans ?_⟩
      show K (itN K i j) = K x
      rw [v2]
theorem qS_lt (hn : 0 < n) : ∀ i x, x < i → qS K n i x = true
  | 0, x, h => by omega
  | i + 1, x, h => by
    show (qS K n i x || (!qS K n i i && rgB K i n x)) = true
    refine lt_succ_cases h (fun q => by rw [qS_lt hn i x q]; rfl) (fun q => ?_)
    subst q
    cases e : qS K n x x
    · have : rgB K x n x = true := (rgB_iff K x x n).mpr ⟨0, hn, rfl⟩
      rw [this]
      rfl
    · rfl
theorem cntN_all {q : Nat → Bool} : ∀ n, (∀ x, x < n → q x = true) → cntN q n = n
  | 0, _ => rfl
  | n + 1, h => by
    unfold cntN
    rw [cntN_all n (fun x hx => h x (by omega)), h n (by omega)]
    rfl
def kyB (K : Nat → Nat) : Nat → Nat → Bool
  | 0, _ => false
  | i + 1, x => kyB K i x || decide (x = K i)
theorem kyB_iff (K : Nat → Nat) (x : Nat) : ∀ m, kyB K m x = true ↔ ∃ i, i < m ∧ K i = x
  | 0 => ⟨fun h => (by cases h), fun ⟨i, h, _⟩ => (by omega)⟩
  | m + 1 => by
    rw [kyB, Bool.or_eq_true, kyB_iff K x m, decide_eq_true_eq]
    constructor
    · rintro (⟨i, h1, h2⟩ | h)
      · exact ⟨i, by omega, h2⟩
      · exact ⟨m, by omega, h.symm⟩
    · rintro ⟨i, h1, h2⟩
      exact lt_succ_cases h1 (fun q => Or.inl ⟨i, q, h2⟩) (fun q => by subst q; exact Or.inr h2.symm)
theorem kys6 {nn : Nat} {ke : Nat → Int32} (hn : 155 < nn) (h8 : n ≤ 8) (hk : ∀ b, b < 8 → ke b = nI (K b) ∧ K b ≤ 7) (c : Int32 → Option Int32) : ∃ X, (∀ k, k < 32 → ib X k = kyB K n k) ∧ bb_loop2 (uX6_swapsToOrder_s4 (nI n) ke c) nn 0 0 = c X := by
  refine inv2 (fun i x1 x2 => x2 = nI i ∧ ∀ k, k < 32 → ib x1 k = kyB K i k) n (fun o => ∃ X, (∀ k, k < 32 → ib X k = kyB K n k) ∧ o = c X) ?_ ?_ nn (by omega) 0 0 ⟨rfl, fun k _ => ib_0 k⟩
  · rintro rec2 x1 x2 ⟨rfl, h⟩
    refine ⟨x1, h, ?_⟩
    unfold uX6_swapsToOrder_s4
    rw [if_pos (nI_le (Nat.le_refl _) (by omega))]
  · rintro rec2 i x1 x2 hi ⟨rfl, h⟩
    refine Or.inl ?_
    unfold uX6_swapsToOrder_s4
    obtain ⟨e1, e2⟩ := hk i (by omega)
    rw [if_neg (nI_ge hi (by omega)), ixn (show i < 8 by omega) (by decide), cln (by omega), e1, p1_]
    exact ⟨_, _, ⟨rfl, fun k hk => by rw [ib_or, h k hk, ib_one _ (by omega) k hk]; rfl⟩, rfl⟩
theorem kys8 {nn : Nat} {s : Nat → Int32} (hn : 155 < nn) (h8 : n ≤ 8) (hs : s 1 = nI n) (hk : ∀ b, b < 8 → s (109 + 5 * b) = nI (K b) ∧ K b ≤ 7) (c : Int32 → Option (Int32 × (Nat → Int32))) : ∃ X, (∀ k, k < 32 → ib X k = kyB K n k) ∧ bb_loop2 (uX8_swaps_s4 s c) nn 0 0 = c X := by
  refine inv2 (fun i x1 x2 => x2 = nI i ∧ ∀ k, k < 32 → ib x1 k = kyB K i k) n (fun o => ∃ X, (∀ k, k < 32 → ib X k = kyB K n k) ∧ o = c X) ?_ ?_ nn (by omega) 0 0 ⟨rfl, fun k _ => ib_0 k⟩
  · rintro rec2 x1 x2 ⟨rfl, h⟩
    refine ⟨x1, h, ?_⟩
    unfold uX8_swaps_s4
    rw [cl1, hs, if_pos (nI_le (Nat.le_refl _) (by omega))]
  · rintro rec2 i x1 x2 hi ⟨rfl, h⟩
    refine Or.inl ?_
    unfold uX8_swaps_s4
    obtain ⟨e1, e2⟩ := hk i (by omega)
    rw [cl1, hs, if_neg (nI_ge hi (by omega)), its_e (show i < 8 by omega), bb_b1_s, e1, p1_]
    exact ⟨_, _, ⟨rfl, fun k hk => by rw [ib_or, h k hk, ib_one _ (by omega) k hk]; rfl⟩, rfl⟩
theorem ring6 {nn b : Nat} {ke : Nat → Int32} (hn : 155 < nn) (h8 : n ≤ 8) (hb : b < n) (hK : ∀ b, b < n → K b < n) (hk : ∀ b, b < 8 → ke b = nI (K b) ∧ K b ≤ 7) : ∃ X, (∀ k, k < 32 → ib X k = rgB K b n k) ∧ uX6_ringOf nn (nI b) (nI n) ke = some X := by
  unfold uX6_ringOf
  refine inv3 (fun i x1 x2 x3 => x3 = nI i ∧ x2 = nI (itN K b i) ∧ ∀ k, k < 32 → ib x1 k = rgB K b i k) n (fun o => ∃ X, (∀ k, k < 32 → ib X k = rgB K b n k) ∧ o = some X) ?_ ?_ nn (by omega) 0 (nI b) 0 ⟨rfl, rfl, fun k _ => ib_0 k⟩
  · rintro rec2 x1 x2 x3 ⟨rfl, rfl, h⟩
    refine ⟨x1, h, ?_⟩
    unfold uX6_ringOf_s7
    rw [if_pos (nI_le (Nat.le_refl _) (by omega))]
  · rintro rec2 i x1 x2 x3 hi ⟨rfl, rfl, h⟩
    refine Or.inl ?_
    unfold uX6_ringOf_s7
    have hl := itN_lt hK hb i
    obtain ⟨e1, e2⟩ := hk (itN K b i) (by omega)
    rw [if_neg (nI_ge hi (by omega)), ixn (show itN K b i < 8 by omega) (by decide), cln (by omega), e1, p1_]
    exact ⟨_, _, _, ⟨rfl, rfl, fun k hk => by rw [ib_or, h k hk, ib_one _ (by omega) k hk]; rfl⟩, rfl⟩
theorem rings6 {nn : Nat} {ke : Nat → Int32} (hn : 155 < nn) (h8 : n ≤ 8) (hK : ∀ b, b < n → K b < n) (hk : ∀ b, b < 8 → ke b = nI (K b) ∧ K b ≤ 7) (c : Int32 → Option Int32) : bb_loop3 (uX6_swapsToOrder_s50 nn (nI n) ke c) nn 0 0 0 = c (nI (rS K n n)) := by
  refine inv3 (fun i x1 x2 x3 => x3 = nI i ∧ x2 = nI (rS K n i) ∧ ∀ k, k < 32 → ib x1 k = qS K n i k) n (fun o => o = c (nI (rS K n n))) ?_ ?_ nn (by omega) 0 0 0 ⟨rfl, rfl, fun k _ => ib_0 k⟩
  · rintro rec2 x1 x2 x3 ⟨rfl, rfl, h⟩
    unfold uX6_swapsToOrder_s50
    rw [if_pos (nI_le (Nat.le_refl _) (by omega))]
  · rintro rec2 i x1 x2 x3 hi ⟨rfl, rfl, h⟩
    refine Or.inl ?_
    unfold uX6_swapsToOrder_s50
    obtain ⟨X, hX, eX⟩ := ring6 (K := K) hn h8 hi hK hk
    rw [if_neg (nI_ge hi (by omega)), bb_cut_s, p1_, eX, bb_b1_s]
    cases e : qS K n i i
    · rw [if_pos ((ib_bit (by omega)).mpr (by rw [h i (by omega), e])), p1_]
      refine ⟨_, _, _, ⟨rfl, ?_, fun k hk => ?_⟩, rfl⟩
      · show _ = nI (rS K n i + (if qS K n i i = true then 0 else 1))
        rw [e]
        rfl
      · rw [ib_or, h k hk, hX k hk]
        show _ = (qS K n i k || (!qS K n i i && rgB K i n k))
        rw [e]
        rfl
    · rw [if_neg (fun q => by rw [ib_bit (by omega), h i (by omega), e] at q; cases q)]
      refine ⟨_, _, _, ⟨rfl, ?_, fun k hk => ?_⟩, rfl⟩
      · show _ = nI (rS K n i + (if qS K n i i = true then 0 else 1))
        rw [e]
        rfl
      · rw [h k hk]
        show _ = (qS K n i k || (!qS K n i i && rgB K i n k))
        rw [e]
        simp
theorem rings8 {nn : Nat} {s fo : Nat → Int32} (hn : 155 < nn) (h8 : n ≤ 8) (hs1 : s 1 = nI n) (hK : ∀ b, b < n → K b < n) (hs : ∀ j, j < n → ∃ b, b < n ∧ K b = j) (hk : ∀ b, b < 8 → s (109 + 5 * b) = nI (K b) ∧ K b ≤ 7) : ∃ C, C + rS K n n = n ∧ bb_loop3 (uX8_swaps_s58 nn fo s) nn 0 0 0 = some (nI C, fo) := by
  refine inv3 (fun i x1 x2 x3 => x3 = nI i ∧ (∃ C, x1 = nI C ∧ C + rS K n i = cntN (qS K n i) n) ∧ ∀ k, k < 32 → ib x2 k = qS K n i k) n (fun o => ∃ C, C + rS K n n = n ∧ o = some (nI C, fo)) ?_ ?_ nn (by omega) 0 0 0 ⟨rfl, ⟨0, rfl, ?_⟩, fun k _ => ib_0 k⟩
  · rintro rec2 x1 x2 x3 ⟨rfl, ⟨C, rfl, hC⟩, h⟩
    refine ⟨C, ?_, ?_⟩
    · rcases Nat.eq_zero_or_pos n with e | e
      · have := cntN_le (qS K n n) n
        omega
      · rw [cntN_all n (fun x hx => qS_lt e n x hx)] at hC
        exact hC
    · unfold uX8_swaps_s58
      rw [cl1, hs1, if_pos (nI_le (Nat.le_refl _) (by omega))]
  · rintro rec2 i x1 x2 x3 hi ⟨rfl, ⟨C, rfl, hC⟩, h⟩
    refine Or.inl ?_
    unfold uX8_swaps_s58
    obtain ⟨y1, y2⟩ := hk i (by omega)
    rw [cl1, hs1, if_neg (nI_ge hi (by omega)), bb_cut_s, p1_, its_e (show i < 8 by omega), bb_b1_s, y1]
    cases e : qS K n i i
    · rw [if_pos ((ib_bit (by omega)).mpr (by rw [h i (by omega), e]))]
      obtain ⟨L, h1, h2, h3, h4⟩ := cyc hs hi
      have hcl := qS_cl hK hs i (by omega)
      have hcnt := cnt_ring hK hcl hi e h1 h3 h4 L (Nat.le_refl _)
      have hq2 : ∀ k, qS K n (i + 1) k = (qS K n i k || rgB K i L k) := fun k => by
        show (qS K n i k || (!qS K n i i && rgB K i n k)) = _
        rw [e, rgB_same h1 h3 h2]
        rfl
      have inner : ∀ c : Int32 → Int32 → Option (Int32 × (Nat → Int32)), ∃ m, (∀ k, k < 32 → ib m k = (qS K n i k || rgB K i L k)) ∧ bb_loop3 (uX8_swaps_s94 (nI i) s c) nn (nI C) (x2 ||| ((1 : Int32) <<< (nI i &&& 31))) (nI (K i)) = c (nI (C + (L - 1))) m := by
        intro c
        refine inv3 (fun t z1 z2 z3 => z1 = nI (C + t) ∧ z3 = nI (itN K i (t + 1)) ∧ ∀ k, k < 32 → ib z2 k = (qS K n i k || rgB K i (t + 1) k)) (L - 1) (fun o => ∃ m, (∀ k, k < 32 → ib m k = (qS K n i k || rgB K i L k)) ∧ o = c (nI (C + (L - 1))) m) ?_ ?_ nn (by omega) (nI C) _ (nI (K i)) ⟨rfl, rfl, fun k hk => by rw [ib_or, h k hk, ib_one _ (by omega) k hk]; rfl⟩
        · rintro r2 z1 z2 z3 ⟨rfl, rfl, hz⟩
          rw [show L - 1 + 1 = L by omega] at hz ⊢
          refine ⟨z2, hz, ?_⟩
          unfold uX8_swaps_s94
          rw [h3, if_pos rfl]
        · rintro r2 t z1 z2 z3 ht ⟨rfl, rfl, hz⟩
          refine Or.inl ?_
          unfold uX8_swaps_s94
          have hl := itN_lt hK hi (t + 1)
          obtain ⟨w1, w2⟩ := hk (itN K i (t + 1)) (by omega)
          rw [if_neg (by rw [nI_eq (by omega) (by omega)]; exact h4 (t + 1) (by omega) (by omega)), its_e (by omega), bb_b1_s, w1, p1_]
          exact ⟨_, _, _, ⟨rfl, rfl, fun k hk => by
            show _ = (qS K n i k || (rgB K i (t + 1) k || decide (k = itN K i (t + 1))))
            rw [ib_or, hz k hk, ib_one _ (by omega) k hk, Bool.or_assoc]⟩, rfl⟩
      obtain ⟨m, hm, em⟩ := inner (fun x2_13 x3_14 => rec2 x2_13 x3_14 (nI (i + 1)))
      rw [em]
      refine ⟨_, _, _, ⟨rfl, ⟨C + (L - 1), rfl, ?_⟩, fun k hk => ?_⟩, rfl⟩
      · rw [cntN_cong n (fun k _ => hq2 k), hcnt]
        show C + (L - 1) + (rS K n i + (if qS K n i i = true then 0 else 1)) = _
        rw [e, if_neg (by decide)]
        omega
      · rw [hm k hk, hq2]
    · rw [if_neg (fun q => by rw [ib_bit (by omega), h i (by omega), e] at q; cases q)]
      have hq2 : ∀ k, qS K n (i + 1) k = qS K n i k := fun k => by
        show (qS K n i k || (!qS K n i i && rgB K i n k)) = _
        rw [e]
        simp
      refine ⟨_, _, _, ⟨rfl, ⟨C, rfl, ?_⟩, fun k hk => ?_⟩, rfl⟩
      · rw [cntN_cong n (fun k _ => hq2 k)]
        show C + (rS K n i + (if qS K n i i = true then 0 else 1)) = _
        rw [e, if_pos rfl]
        omega
      · rw [h k hk, hq2]
  · show 0 + 0 = cntN (fun _ => false) n
    have : ∀ n, cntN (fun _ => false) n = 0 := by
      intro n
      induction n with
      | zero => rfl
      | succ n ih =>
        unfold cntN
        rw [ih]
        rfl
    rw [this]
end RINGS
def yO (s : Nat → Int32) (b : Nat) : Nat := (s (109 + 5 * b)).toNatClampNeg
theorem IV.y {s : Nat → Int32} (h : IV s) {b : Nat} (hb : b < 8) : s (109 + 5 * b) = nI (yO s b) ∧ yO s b ≤ 7 := dec (by decide) (h.ke_ hb)
section SWAPS
variable {s ga st cu ki at_ wi wr ke sp : Nat → Int32} {mi ba si ev z : Int32}
theorem op_swaps {nn : Nat} (hn : 155 < nn) (hR : RW s ga st cu ki at_ wi wr ke sp mi ba si ev z) (hI : IW s) (fo : Nat → Int32) : ∃ r fo2, uX7_swaps nn fo ba ke = some (r, fo2) ∧ uX8_swaps nn fo s = some (r, fo2) := by
  have hV := hI.v
  obtain ⟨e1, h8⟩ := hV.n
  have eb : ba = nI (nO s) := hR.ba_.symm.trans e1
  have hk8 : ∀ b, b < 8 → s (109 + 5 * b) = nI (yO s b) ∧ yO s b ≤ 7 := fun b hb => hV.y hb
  have hk7 : ∀ b, b < 8 → ke b = nI (yO s b) ∧ yO s b ≤ 7 := fun b hb => ⟨(hR.ke_ hb).symm.trans (hV.y hb).1, (hV.y hb).2⟩
  unfold uX7_swaps uX6_swapsToOrder uX8_swaps
  rw [eb]
  simp only [bb_cut_s, cl1, e1]
  obtain ⟨X, hX, eX⟩ := kys6 (K := yO s) hn h8 hk7 (fun x1_1 => (if x1_1 = (((1 : Int32) <<< (nI (nO s) &&& 31)) - (1 : Int32)) then bb_loop3 (uX6_swapsToOrder_s50 nn (nI (nO s)) ke (fun (x3_4 : Int32) => some (nI (nO s) - x3_4))) nn (0 : Int32) (0 : Int32) (0 : Int32) else some (-1 : Int32)))
  obtain ⟨Y, hY, eY⟩ := kys8 (K := yO s) hn h8 e1 hk8 (fun x1_1 => (if x1_1 = (((1 : Int32) <<< (nI (nO s) &&& 31)) - (1 : Int32)) then bb_loop3 (uX8_swaps_s58 nn fo s) nn (0 : Int32) (0 : Int32) (0 : Int32) else bb_b2 (uX8_finds (4 : Int32) fo) (fun (r33 : Int32) (w34 : Nat → Int32) => some (r33, w34))))
  rw [eX, eY]
  have exy : Y = X := ib_ext (fun k hk => by rw [hX k hk, hY k hk])
  subst exy
  by_cases g : Y = (((1 : Int32) <<< (nI (nO s) &&& 31)) - (1 : Int32))
  · rw [if_pos g, if_pos g]
    have hb : ∀ k, k < 32 → kyB (yO s) (nO s) k = decide (k < nO s) := fun k hk => by
      rw [← hX k hk, g, ib_full _ (by omega) k hk]
    have hK : ∀ b, b < nO s → yO s b < nO s := fun b hb2 => by
      have a1 := (hk8 b (by omega)).2
      have a2 := hb (yO s b) (by omega)
      rw [(kyB_iff _ _ _).mpr ⟨b, hb2, rfl⟩] at a2
      exact of_decide_eq_true a2.symm
    have hs : ∀ j, j < nO s → ∃ b, b < nO s ∧ yO s b = j := fun j hj => by
      have a2 := hb j (by omega)
      rw [decide_eq_true hj] at a2
      exact (kyB_iff _ _ _).mp a2
    obtain ⟨C, hC, e8⟩ := rings8 (fo := fo) hn h8 e1 hK hs hk8
    rw [rings6 hn h8 hK hk7, e8, bb_b1_s, pk_sub (by omega), show nO s - rS (yO s) (nO s) (nO s) = C by omega, if_pos (nI_pos' (by omega))]
    exact ⟨_, _, rfl, rfl⟩
  · rw [if_neg g, if_neg g, bb_b1_s, if_neg (by decide)]
    simp only [find78, fnd4, bb_b0_s, bb_b1_s, bb_b2_s, bb_b3_s, bb_b4_s, bb_b5_s, bb_b6_s, bb_b7_s, bb_b8_s, bb_b9_s, bb_b10_s, bb_b11_s, bb_b12_s, bb_b13_s, bb_b14_s, bb_b15_s, bb_b16_s]
    exact ⟨_, _, rfl, rfl⟩
end SWAPS
