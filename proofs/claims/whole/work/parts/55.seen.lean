/-! ===== who sees what ===== -/
-- the next two rows: out of kit/laws/BITS.to-paste
theorem ts_bit {w : Int64} {s : UInt64} {j : Nat} (hj : j < 64) (hs : s.toNat = j) : ((w.toUInt64 >>> s).toInt64 &&& 1) = 0 ↔ w.toBitVec.getLsbD j = false := by
  have e : (w.toUInt64 >>> s).toInt64.toBitVec = w.toBitVec >>> j := by
    apply BitVec.eq_of_toNat_eq
    show (w.toUInt64 >>> s).toNat = _
    rw [UInt64.toNat_shiftRight, hs, Nat.mod_eq_of_lt hj, BitVec.toNat_ushiftRight]
    rfl
  rw [← Int64.toBitVec_inj, Int64.toBitVec_and, e]
  show w.toBitVec >>> j &&& 1#64 = 0#64 ↔ _
  constructor
  · intro h
    have t := congrArg (fun x => x.getLsbD 0) h
    simpa using t
  · intro h
    apply BitVec.eq_of_getLsbD_eq
    intro i hi
    cases i with
    | zero => simp [h]
    | succ i => simp
theorem wb_cu : ∀ k, k < 64 → ((nI k).toInt64.toUInt64 &&& Int64.toUInt64 63) = UInt64.ofNat k := by decide +kernel
theorem for1 {α1 β : Type} {st : (α1 → Option β) → α1 → Option β} {F1 : Nat → α1} {N : Nat} {r : Option β} (hend : ∀ rec2, st rec2 (F1 N) = r) (hstep : ∀ rec2 (i : Nat), i < N → st rec2 (F1 i) = rec2 (F1 (i + 1))) : ∀ n, N < n → bb_loop1 st n (F1 0) = r := by
  have key : ∀ (k i n : Nat), i + k = N → k < n → bb_loop1 st n (F1 i) = r := by
    intro k
    induction k with
    | zero =>
      intro i n h1 h2
      obtain ⟨m, rfl⟩ : ∃ m, n = m + 1 := ⟨n - 1, by omega⟩
      have e : i = N := by omega
      subst e
      exact hend _
    | succ k ih =>
      intro i n h1 h2
      obtain ⟨m, rfl⟩ : ∃ m, n = m + 1 := ⟨n - 1, by omega⟩
      exact (hstep _ i (by omega)).trans (ih (i + 1) m (by omega) (by omega))
  intro n hn
  exact key N 0 n (by omega) hn
theorem for2 {α1 α2 β : Type} {st : (α1 → α2 → Option β) → α1 → α2 → Option β} {F1 : Nat → α1} {F2 : Nat → α2} {N : Nat} {r : Option β} (hend : ∀ rec2, st rec2 (F1 N) (F2 N) = r) (hstep : ∀ rec2 (i : Nat), i < N → st rec2 (F1 i) (F2 i) = rec2 (F1 (i + 1)) (F2 (i + 1))) : ∀ n, N < n → bb_loop2 st n (F1 0) (F2 0) = r := by
  have key : ∀ (k i n : Nat), i + k = N → k < n → bb_loop2 st n (F1 i) (F2 i) = r := by
    intro k
    induction k with
    | zero =>
      intro i n h1 h2
      obtain ⟨m, rfl⟩ : ∃ m, n = m + 1 := ⟨n - 1, by omega⟩
      have e : i = N := by omega
      subst e
      exact hend _
    | succ k ih =>
      intro i n h1 h2
      obtain ⟨m, rfl⟩ : ∃ m, n = m + 1 := ⟨n - 1, by omega⟩
      exact (hstep _ i (by omega)).trans (ih (i + 1) m (by omega) (by omega))
  intro n hn
  exact key N 0 n (by omega) hn
theorem for3 {α1 α2 α3 β : Type} {st : (α1 → α2 → α3 → Option β) → α1 → α2 → α3 → Option β} {F1 : Nat → α1} {F2 : Nat → α2} {F3 : Nat → α3} {N : Nat} {r : Option β} (hend : ∀ rec2, st rec2 (F1 N) (F2 N) (F3 N) = r) (hstep : ∀ rec2 (i : Nat), i < N → st rec2 (F1 i) (F2 i) (F3 i) = rec2 (F1 (i + 1)) (F2 (i + 1)) (F3 (i + 1))) : ∀ n, N < n → bb_loop3 st n (F1 0) (F2 0) (F3 0) = r := by
  have key : ∀ (k i n : Nat), i + k = N → k < n → bb_loop3 st n (F1 i) (F2 i) (F3 i) = r := by
    intro k
    induction k with
    | zero =>
      intro i n h1 h2
      obtain ⟨m, rfl⟩ : ∃ m, n = m + 1 := ⟨n - 1, by omega⟩
      have e : i = N := by omega
      subst e
      exact hend _
    | succ k ih =>
      intro i n h1 h2
      obtain ⟨m, rfl⟩ : ∃ m, n = m + 1 := ⟨n - 1, by omega⟩
      exact (hstep _ i (by omega)).trans (ih (i + 1) m (by omega) (by omega))
  intro n hn
  exact key N 0 n (by omega) hn
theorem for4 {α1 α2 α3 α4 β : Type} {st : (α1 → α2 → α3 → α4 → Option β) → α1 → α2 → α3 → α4 → Option β} {F1 : Nat → α1} {F2 : Nat → α2} {F3 : Nat → α3} {F4 : Nat → α4} {N : Nat} {r : Option β} (hend : ∀ rec2, st rec2 (F1 N) (F2 N) (F3 N) (F4 N) = r) (hstep : ∀ rec2 (i : Nat), i < N → st rec2 (F1 i) (F2 i) (F3 i) (F4 i) = rec2 (F1 (i + 1)) (F2 (i + 1)) (F3 (i + 1)) (F4 (i + 1))) : ∀ n, N < n → bb_loop4 st n (F1 0) (F2 0) (F3 0) (F4 0) = r := by
  have key : ∀ (k i n : Nat), i + k = N → k < n → bb_loop4 st n (F1 i) (F2 i) (F3 i) (F4 i) = r := by
    intro k
    induction k with
    | zero =>
      intro i n h1 h2
      obtain ⟨m, rfl⟩ : ∃ m, n = m + 1 := ⟨n - 1, by omega⟩
      have e : i = N := by omega
      subst e
      exact hend _
    | succ k ih =>
      intro i n h1 h2
      obtain ⟨m, rfl⟩ : ∃ m, n = m + 1 := ⟨n - 1, by omega⟩
      exact (hstep _ i (by omega)).trans (ih (i + 1) m (by omega) (by omega))
  intro n hn
  exact key N 0 n (by omega) hn
theorem for5 {α1 α2 α3 α4 α5 β : Type} {st : (α1 → α2 → α3 → α4 → α5 → Option β) → α1 → α2 → α3 → α4 → α5 → Option β} {F1 : Nat → α1} {F2 : Nat → α2} {F3 : Nat → α3} {F4 : Nat → α4} {F5 : Nat → α5} {N : Nat} {r : Option β} (hend : ∀ rec2, st rec2 (F1 N) (F2 N) (F3 N) (F4 N) (F5 N) = r) (hstep : ∀ rec2 (i : Nat), i < N → st rec2 (F1 i) (F2 i) (F3 i) (F4 i) (F5 i) = rec2 (F1 (i + 1)) (F2 (i + 1)) (F3 (i + 1)) (F4 (i + 1)) (F5 (i + 1))) : ∀ n, N < n → bb_loop5 st n (F1 0) (F2 0) (F3 0) (F4 0) (F5 0) = r := by
  have key : ∀ (k i n : Nat), i + k = N → k < n → bb_loop5 st n (F1 i) (F2 i) (F3 i) (F4 i) (F5 i) = r := by
    intro k
    induction k with
    | zero =>
      intro i n h1 h2
      obtain ⟨m, rfl⟩ : ∃ m, n = m + 1 := ⟨n - 1, by omega⟩
      have e : i = N := by omega
      subst e
      exact hend _
    | succ k ih =>
      intro i n h1 h2
      obtain ⟨m, rfl⟩ : ∃ m, n = m + 1 := ⟨n - 1, by omega⟩
      exact (hstep _ i (by omega)).trans (ih (i + 1) m (by omega) (by omega))
  intro n hn
  exact key N 0 n (by omega) hn
theorem for6 {α1 α2 α3 α4 α5 α6 β : Type} {st : (α1 → α2 → α3 → α4 → α5 → α6 → Option β) → α1 → α2 → α3 → α4 → α5 → α6 → Option β} {F1 : Nat → α1} {F2 : Nat → α2} {F3 : Nat → α3} {F4 : Nat → α4} {F5 : Nat → α5} {F6 : Nat → α6} {N : Nat} {r : Option β} (hend : ∀ rec2, st rec2 (F1 N) (F2 N) (F3 N) (F4 N) (F5 N) (F6 N) = r) (hstep : ∀ rec2 (i : Nat), i < N → st rec2 (F1 i) (F2 i) (F3 i) (F4 i) (F5 i) (F6 i) = rec2 (F1 (i + 1)) (F2 (i + 1)) (F3 (i + 1)) (F4 (i + 1)) (F5 (i + 1)) (F6 (i + 1))) : ∀ n, N < n → bb_loop6 st n (F1 0) (F2 0) (F3 0) (F4 0) (F5 0) (F6 0) = r := by
  have key : ∀ (k i n : Nat), i + k = N → k < n → bb_loop6 st n (F1 i) (F2 i) (F3 i) (F4 i) (F5 i) (F6 i) = r := by
    intro k
    induction k with
    | zero =>
      intro i n h1 h2
      obtain ⟨m, rfl⟩ : ∃ m, n = m + 1 := ⟨n - 1, by omega⟩
      have e : i = N := by omega
      subst e
      exact hend _
    | succ k ih =>
      intro i n h1 h2
      obtain ⟨m, rfl⟩ : ∃ m, n = m + 1 := ⟨n - 1, by omega⟩
      exact (hstep _ i (by omega)).trans (ih (i + 1) m (by omega) (by omega))
  intro n hn
  exact key N 0 n (by omega) hn
theorem for7 {α1 α2 α3 α4 α5 α6 α7 β : Type} {st : (α1 → α2 → α3 → α4 → α5 → α6 → α7 → Option β) → α1 → α2 → α3 → α4 → α5 → α6 → α7 → Option β} {F1 : Nat → α1} {F2 : Nat → α2} {F3 : Nat → α3} {F4 : Nat → α4} {F5 : Nat → α5} {F6 : Nat → α6} {F7 : Nat → α7} {N : Nat} {r : Option β} (hend : ∀ rec2, st rec2 (F1 N) (F2 N) (F3 N) (F4 N) (F5 N) (F6 N) (F7 N) = r) (hstep : ∀ rec2 (i : Nat), i < N → st rec2 (F1 i) (F2 i) (F3 i) (F4 i) (F5 i) (F6 i) (F7 i) = rec2 (F1 (i + 1)) (F2 (i + 1)) (F3 (i + 1)) (F4 (i + 1)) (F5 (i + 1)) (F6 (i + 1)) (F7 (i + 1))) : ∀ n, N < n → bb_loop7 st n (F1 0) (F2 0) (F3 0) (F4 0) (F5 0) (F6 0) (F7 0) = r := by
  have key : ∀ (k i n : Nat), i + k = N → k < n → bb_loop7 st n (F1 i) (F2 i) (F3 i) (F4 i) (F5 i) (F6 i) (F7 i) = r := by
    intro k
    induction k with
    | zero =>
      intro i n h1 h2
      obtain ⟨m, rfl⟩ : ∃ m, n = m + 1 := ⟨n - 1, by omega⟩
      have e : i = N := by omega
      subst e
      exact hend _
    | succ k ih =>
      intro i n h1 h2
      obtain ⟨m, rfl⟩ : ∃ m, n = m + 1 := ⟨n - 1, by omega⟩
      exact (hstep _ i (by omega)).trans (ih (i + 1) m (by omega) (by omega))
  intro n hn
  exact key N 0 n (by omega) hn
theorem for8 {α1 α2 α3 α4 α5 α6 α7 α8 β : Type} {st : (α1 → α2 → α3 → α4 → α5 → α6 → α7 → α8 → Option β) → α1 → α2 → α3 → α4 → α5 → α6 → α7 → α8 → Option β} {F1 : Nat → α1} {F2 : Nat → α2} {F3 : Nat → α3} {F4 : Nat → α4} {F5 : Nat → α5} {F6 : Nat → α6} {F7 : Nat → α7} {F8 : Nat → α8} {N : Nat} {r : Option β} (hend : ∀ rec2, st rec2 (F1 N) (F2 N) (F3 N) (F4 N) (F5 N) (F6 N) (F7 N) (F8 N) = r) (hstep : ∀ rec2 (i : Nat), i < N → st rec2 (F1 i) (F2 i) (F3 i) (F4 i) (F5 i) (F6 i) (F7 i) (F8 i) = rec2 (F1 (i + 1)) (F2 (i + 1)) (F3 (i + 1)) (F4 (i + 1)) (F5 (i + 1)) (F6 (i + 1)) (F7 (i + 1)) (F8 (i + 1))) : ∀ n, N < n → bb_loop8 st n (F1 0) (F2 0) (F3 0) (F4 0) (F5 0) (F6 0) (F7 0) (F8 0) = r := by
  have key : ∀ (k i n : Nat), i + k = N → k < n → bb_loop8 st n (F1 i) (F2 i) (F3 i) (F4 i) (F5 i) (F6 i) (F7 i) (F8 i) = r := by
    intro k
    induction k with
    | zero =>
      intro i n h1 h2
      obtain ⟨m, rfl⟩ : ∃ m, n = m + 1 := ⟨n - 1, by omega⟩
      have e : i = N := by omega
      subst e
      exact hend _
    | succ k ih =>
      intro i n h1 h2
      obtain ⟨m, rfl⟩ : ∃ m, n = m + 1 := ⟨n - 1, by omega⟩
      exact (hstep _ i (by omega)).trans (ih (i + 1) m (by omega) (by omega))
  intro n hn
  exact key N 0 n (by omega) hn
theorem for9 {α1 α2 α3 α4 α5 α6 α7 α8 α9 β : Type} {st : (α1 → α2 → α3 → α4 → α5 → α6 → α7 → α8 → α9 → Option β) → α1 → α2 → α3 → α4 → α5 → α6 → α7 → α8 → α9 → Option β} {F1 : Nat → α1} {F2 : Nat → α2} {F3 : Nat → α3} {F4 : Nat → α4} {F5 : Nat → α5} {F6 : Nat → α6} {F7 : Nat → α7} {F8 : Nat → α8} {F9 : Nat → α9} {N : Nat} {r : Option β} (hend : ∀ rec2, st rec2 (F1 N) (F2 N) (F3 N) (F4 N) (F5 N) (F6 N) (F7 N) (F8 N) (F9 N) = r) (hstep : ∀ rec2 (i : Nat), i < N → st rec2 (F1 i) (F2 i) (F3 i) (F4 i) (F5 i) (F6 i) (F7 i) (F8 i) (F9 i) = rec2 (F1 (i + 1)) (F2 (i + 1)) (F3 (i + 1)) (F4 (i + 1)) (F5 (i + 1)) (F6 (i + 1)) (F7 (i + 1)) (F8 (i + 1)) (F9 (i + 1))) : ∀ n, N < n → bb_loop9 st n (F1 0) (F2 0) (F3 0) (F4 0) (F5 0) (F6 0) (F7 0) (F8 0) (F9 0) = r := by
  have key : ∀ (k i n : Nat), i + k = N → k < n → bb_loop9 st n (F1 i) (F2 i) (F3 i) (F4 i) (F5 i) (F6 i) (F7 i) (F8 i) (F9 i) = r := by
    intro k
    induction k with
    | zero =>
      intro i n h1 h2
      obtain ⟨m, rfl⟩ : ∃ m, n = m + 1 := ⟨n - 1, by omega⟩
      have e : i = N := by omega
      subst e
      exact hend _
    | succ k ih =>
      intro i n h1 h2
      obtain ⟨m, rfl⟩ : ∃ m, n = m + 1 := ⟨n - 1, by omega⟩
      exact (hstep _ i (by omega)).trans (ih (i + 1) m (by omega) (by omega))
  intro n hn
  exact key N 0 n (by omega) hn
def apv (a b : Int32) : Int32 := (uX8_apart a b).getD 0
theorem ap8 (a b : Int32) : uX8_apart a b = some (apv a b) := rfl
theorem ap0 (a b : Int32) : uX0_apart a b = some (apv a b) := rfl
def sv (si stc fr cl : Int32) : Bool := decide (¬ fr < 0) && decide (¬ si - stc < apv fr cl)
theorem sees8 {c : Nat} (hc : c < 48) (fr : Int32) (s : Nat → Int32) : uX8_sees fr (nI c) s = some (if sv (s 2) (s (9 + c)) fr (nI c) then 1 else 0) := by
  unfold uX8_sees sv
  have e2 : (2 : Int32).toNatClampNeg = 2 := rfl
  simp only [ap8, a9_, ixn (show 9 + c < 155 by omega) (show 155 < 2 ^ 31 by decide), cln (show 9 + c < 2 ^ 31 by omega), e2, bb_b0_s, bb_b1_s, bb_b2_s, bb_b3_s, bb_b4_s, bb_b5_s, bb_b6_s, bb_b7_s, bb_b8_s, bb_b9_s, bb_b10_s, bb_b11_s, bb_b12_s, bb_b13_s, bb_b14_s, bb_b15_s, bb_b16_s]
  by_cases h : fr < 0
  · simp [h]
  · by_cases h2 : s 2 - s (9 + c) < apv fr (nI c)
    · simp [h, h2]
    · simp [h, h2]
def orI (f : Nat → Int32) : Nat → Int32
  | 0 => 0
  | n + 1 => orI f n ||| f n
def gb (b : Nat → Bool) (g : Nat) : Int32 := if b g then (1 : Int32) <<< (nI g &&& 31) else 0
theorem or0 (x : Int32) : x ||| 0 = x := by rw [← Int32.toBitVec_inj, Int32.toBitVec_or]; exact BitVec.or_zero
def anyG (b : Nat → Bool) : Bool := b 0 || b 1 || b 2 || b 3
theorem orI_zero (b : Nat → Bool) : orI (gb b) 4 = 0 ↔ anyG b = false := by
  simp only [orI, gb, anyG]
  generalize b 0 = b0
  generalize b 1 = b1
  generalize b 2 = b2
  generalize b 3 = b3
  cases b0 <;> cases b1 <;> cases b2 <;> cases b3 <;> decide
/-- who sees a cell: by the reference's row -/
def sb8 (s : Nat → Int32) (c g : Nat) : Bool := sv (s 2) (s (9 + c)) (s (5 + g)) (nI c)
def sc8 (s : Nat → Int32) (c : Nat) : Bool := anyG (sb8 s c)
theorem seenBy8 {nn c : Nat} (hn : 4 < nn) (hc : c < 48) (s : Nat → Int32) : uX8_seenBy nn (nI c) s = some (orI (gb (sb8 s c)) 4) := by
  unfold uX8_seenBy
  refine for2 (F1 := fun i => orI (gb (sb8 s c)) i) (F2 := fun i => nI i) (N := 4) (fun rec2 => ?_) (fun rec2 i hi => ?_) nn hn
  · unfold uX8_seenBy_s4
    rw [if_pos (show (4 : Int32) ≤ nI 4 by decide)]
  · unfold uX8_seenBy_s4
    simp only [if_neg (show ¬ (4 : Int32) ≤ nI i from nI_ge (b := 4) hi (by decide)), a5_, ixn (show 5 + i < 155 by omega) (show 155 < 2 ^ 31 by decide), cln (show 5 + i < 2 ^ 31 by omega), sees8 hc, bb_cut_s, p1_, bb_b0_s, bb_b1_s, bb_b2_s, bb_b3_s, bb_b4_s, bb_b5_s, bb_b6_s, bb_b7_s, bb_b8_s, bb_b9_s, bb_b10_s, bb_b11_s, bb_b12_s, bb_b13_s, bb_b14_s, bb_b15_s, bb_b16_s]
    show (if (if sb8 s c i = true then (1 : Int32) else 0) = 0 then rec2 (orI (gb (sb8 s c)) i ||| 0) (nI (i + 1)) else rec2 (orI (gb (sb8 s c)) i ||| (1 : Int32) <<< (nI i &&& 31)) (nI (i + 1))) = rec2 (orI (gb (sb8 s c)) i ||| gb (sb8 s c) i) (nI (i + 1))
    unfold gb
    by_cases h : sb8 s c i = true
    · simp only [if_pos h, e10, e00, e11, if_true, if_false]
    · simp only [if_neg h, e10, e00, e11, if_true, if_false]
theorem isSeen8 {nn c : Nat} (hn : 4 < nn) (hc : c < 48) (s : Nat → Int32) : uX8_isSeen nn (nI c) s = some (if sc8 s c then 1 else 0) := by
  unfold uX8_isSeen
  simp only [seenBy8 hn hc, bb_b0_s, bb_b1_s, bb_b2_s, bb_b3_s, bb_b4_s, bb_b5_s, bb_b6_s, bb_b7_s, bb_b8_s, bb_b9_s, bb_b10_s, bb_b11_s, bb_b12_s, bb_b13_s, bb_b14_s, bb_b15_s, bb_b16_s]
  by_cases h : orI (gb (sb8 s c)) 4 = 0
  · have h2 := (orI_zero _).mp h
    rw [if_pos h]
    unfold sc8
    rw [h2]
    rfl
  · have h2 : ¬ anyG (sb8 s c) = false := fun e => h ((orI_zero _).mpr e)
    rw [if_neg h]
    unfold sc8
    cases e : anyG (sb8 s c)
    · exact absurd e h2
    · rfl
/-- the class's side -/
def sb7 (si : Int32) (ga st : Nat → Int32) (c g : Nat) : Bool := sv si (st c) (ga g) (nI c)
def orL (f : Nat → Int64) : Nat → Int64
  | 0 => 0
  | n + 1 => orL f n ||| f n
def cb (b : Nat → Bool) (c : Nat) : Int64 := if b c then (1 : Int64) <<< ((nI c).toInt64 &&& 63) else 0
def lb (x : Int64) (k : Nat) : Bool := x.toBitVec.getLsbD k
theorem lb_or (x y : Int64) (k : Nat) : lb (x ||| y) k = (lb x k || lb y k) := by unfold lb; rw [Int64.toBitVec_or, BitVec.getLsbD_or]
theorem lb_0 (k : Nat) : lb 0 k = false := BitVec.getLsbD_zero
theorem lb_ext {x y : Int64} (h : ∀ k, k < 64 → lb x k = lb y k) : x = y := Int64.toBitVec_inj.mp (BitVec.eq_of_getLsbD_eq h)
theorem lb_one : ∀ j, j < 48 → ∀ k, k < 64 → lb ((1 : Int64) <<< ((nI j).toInt64 &&& 63)) k = decide (k = j) := by decide +kernel
theorem orL0 (x : Int64) : x ||| 0 = x := by rw [← Int64.toBitVec_inj, Int64.toBitVec_or]; exact BitVec.or_zero
theorem lb_orL (f : Nat → Int64) (k : Nat) : ∀ n, lb (orL f n) k = true ↔ ∃ i, i < n ∧ lb (f i) k = true
  | 0 => ⟨(fun h => absurd h (by rw [orL, lb_0]; decide)), (fun ⟨i, h, _⟩ => absurd h (Nat.not_lt_zero i))⟩
  | n + 1 => by
    rw [orL, lb_or, Bool.or_eq_true, lb_orL f k n]
    constructor
    · rintro (⟨i, h1, h2⟩ | h)
      · exact ⟨i, by omega, h2⟩
      · exact ⟨n, by omega, h⟩
    · rintro ⟨i, h1, h2⟩
      rcases Nat.lt_or_ge i n with q | q
      · exact Or.inl ⟨i, q, h2⟩
      · have e : i = n := by omega
        subst e
        exact Or.inr h2
theorem lb_cb (b : Nat → Bool) {c k : Nat} (hc : c < 48) (hk : k < 64) : lb (cb b c) k = (b c && decide (k = c)) := by
  unfold cb
  cases e : b c
  · rw [if_neg (by decide), lb_0]; rfl
  · rw [if_pos rfl, lb_one c hc k hk]; rfl
theorem lb_cells (b : Nat → Bool) {k : Nat} (hk : k < 64) : lb (orL (cb b) 48) k = (decide (k < 48) && b k) := by
  apply Bool.eq_iff_iff.mpr
  rw [lb_orL]
  constructor
  · rintro ⟨i, h1, h2⟩
    rw [lb_cb b h1 hk] at h2
    simp only [Bool.and_eq_true, decide_eq_true_eq] at h2 ⊢
    rw [h2.2]
    exact ⟨h1, h2.1⟩
  · intro h
    simp only [Bool.and_eq_true, decide_eq_true_eq] at h
    refine ⟨k, h.1, ?_⟩
    rw [lb_cb b h.1 hk, h.2]
    simp
theorem orL_none {b : Nat → Bool} (h : ∀ c, b c = false) : ∀ n, orL (cb b) n = 0
  | 0 => rfl
  | n + 1 => by rw [orL, orL_none h n, cb, h n, if_neg (by decide), orL0]
theorem seenFrom6 {nn : Nat} (hn : 48 < nn) (po fa : Int32) (st : Nat → Int32) : uX6_seenFrom nn po fa st = some (orL (cb (fun c => sv fa (st c) po (nI c))) 48) := by
  unfold uX6_seenFrom
  by_cases h : (0 : Int32) ≤ po
  · rw [if_pos h]
    have h0 : ¬ po < 0 := by rw [i_le] at h; rw [i_lt]; omega
    refine for2 (F1 := fun i => orL (cb (fun c => sv fa (st c) po (nI c))) i) (F2 := fun i => nI i) (N := 48) (fun rec2 => ?_) (fun rec2 i hi => ?_) nn hn
    · unfold uX6_seenFrom_s11
      rw [if_pos (show (48 : Int32) ≤ nI 48 by decide)]
    · unfold uX6_seenFrom_s11
      simp only [if_neg (show ¬ (48 : Int32) ≤ nI i from nI_ge (b := 48) hi (by decide)), ap0, ixn hi (show 48 < 2 ^ 31 by decide), cln (show i < 2 ^ 31 by omega), bb_cut_s, p1_, bb_b0_s, bb_b1_s, bb_b2_s, bb_b3_s, bb_b4_s, bb_b5_s, bb_b6_s, bb_b7_s, bb_b8_s, bb_b9_s, bb_b10_s, bb_b11_s, bb_b12_s, bb_b13_s, bb_b14_s, bb_b15_s, bb_b16_s, orL, cb, sv]
      by_cases h2 : fa - st i < apv po (nI i)
      · simp [h0, h2, orL0]
      · simp [h0, h2]
  · rw [if_neg h]
    have h0 : po < 0 := by rw [i_le] at h; rw [i_lt]; omega
    rw [orL_none (fun c => by simp [sv, h0])]
def seenX (si : Int32) (ga st : Nat → Int32) : Int64 := orL (fun g => orL (cb (fun c => sb7 si ga st c g)) 48) 4
theorem seenCells6 {nn : Nat} (hn : 48 < nn) (si : Int32) (ga st : Nat → Int32) : uX6_seenCells nn si ga st = some (seenX si ga st) := by
  unfold uX6_seenCells
  refine for2 (F1 := fun i => orL (fun g => orL (cb (fun c => sb7 si ga st c g)) 48) i) (F2 := fun i => nI i) (N := 4) (fun rec2 => ?_) (fun rec2 i hi => ?_) nn (by omega)
  · unfold uX6_seenCells_s5
    rw [if_pos (show (4 : Int32) ≤ nI 4 by decide)]
    rfl
  · unfold uX6_seenCells_s5
    simp only [if_neg (show ¬ (4 : Int32) ≤ nI i from nI_ge (b := 4) hi (by decide)), ixn hi (show 4 < 2 ^ 31 by decide), cln (show i < 2 ^ 31 by omega), seenFrom6 hn, p1_, bb_b0_s, bb_b1_s, bb_b2_s, bb_b3_s, bb_b4_s, bb_b5_s, bb_b6_s, bb_b7_s, bb_b8_s, bb_b9_s, bb_b10_s, bb_b11_s, bb_b12_s, bb_b13_s, bb_b14_s, bb_b15_s, bb_b16_s]
    rfl
theorem lb_seenX (si : Int32) (ga st : Nat → Int32) {k : Nat} (hk : k < 64) : lb (seenX si ga st) k = (decide (k < 48) && anyG (sb7 si ga st k)) := by
  have e : seenX si ga st = ((((0 : Int64) ||| orL (cb (fun c => sb7 si ga st c 0)) 48) ||| orL (cb (fun c => sb7 si ga st c 1)) 48) ||| orL (cb (fun c => sb7 si ga st c 2)) 48) ||| orL (cb (fun c => sb7 si ga st c 3)) 48 := rfl
  unfold anyG
  rw [e, lb_or, lb_or, lb_or, lb_or, lb_0, lb_cells _ hk, lb_cells _ hk, lb_cells _ hk, lb_cells _ hk]
  cases decide (k < 48) <;> simp
theorem has0 (x : Int64) {c : Nat} (hc : c < 64) : uX0_has x (nI c) = some (if lb x c then 1 else 0) := by
  unfold uX0_has lb
  simp only [lg_cmp_eq]
  have e := ts_bit (w := x) (s := (nI c).toInt64.toUInt64 &&& Int64.toUInt64 63) hc (by rw [wb_cu c hc]; exact UInt64.toNat_ofNat_of_lt (show c < UInt64.size by have h9 : UInt64.size = 18446744073709551616 := rfl; omega))
  by_cases h : x.toBitVec.getLsbD c = true
  · rw [if_neg (fun q => by rw [e.mp q] at h; cases h), if_pos h]
  · have h2 : x.toBitVec.getLsbD c = false := Bool.eq_false_iff.mpr h
    rw [if_pos (e.mpr h2), if_neg h]
section SEEN
variable {s ga st cu ki at_ wi wr ke sp : Nat → Int32} {mi ba si ev z : Int32}
theorem sb78 (hR : RW s ga st cu ki at_ wi wr ke sp mi ba si ev z) {c g : Nat} (hc : c < 48) (hg : g < 4) : sb8 s c g = sb7 si ga st c g := by
  unfold sb8 sb7
  rw [hR.si_, hR.st_ hc, hR.ga_ hg]
theorem sc78 (hR : RW s ga st cu ki at_ wi wr ke sp mi ba si ev z) {c : Nat} (hc : c < 48) : sc8 s c = anyG (sb7 si ga st c) := by
  unfold sc8 anyG
  rw [sb78 hR hc (by omega), sb78 hR hc (by omega), sb78 hR hc (by omega), sb78 hR hc (by omega)]
theorem lb78 (hR : RW s ga st cu ki at_ wi wr ke sp mi ba si ev z) {c : Nat} (hc : c < 48) : lb (seenX si ga st) c = sc8 s c := by
  rw [lb_seenX _ _ _ (by omega), sc78 hR hc]
  simp [hc]
theorem seen8 {nn : Nat} (hn : 48 < nn) (s : Nat → Int32) : uX8_seen nn s = some (orL (cb (sc8 s)) 48) := by
  unfold uX8_seen
  refine for2 (F1 := fun i => orL (cb (sc8 s)) i) (F2 := fun i => nI i) (N := 48) (fun rec2 => ?_) (fun rec2 i hi => ?_) nn hn
  · unfold uX8_seen_s4
    rw [if_pos (show (48 : Int32) ≤ nI 48 by decide)]
  · unfold uX8_seen_s4
    simp only [if_neg (show ¬ (48 : Int32) ≤ nI i from nI_ge (b := 48) hi (by decide)), isSeen8 (show 4 < nn by omega) hi, bb_cut_s, p1_, bb_b0_s, bb_b1_s, bb_b2_s, bb_b3_s, bb_b4_s, bb_b5_s, bb_b6_s, bb_b7_s, bb_b8_s, bb_b9_s, bb_b10_s, bb_b11_s, bb_b12_s, bb_b13_s, bb_b14_s, bb_b15_s, bb_b16_s, orL, cb]
    by_cases h : sc8 s i = true
    · simp only [if_pos h, e10, e00, e11, if_true, if_false]
    · simp only [if_neg h, e10, e00, e11, if_true, if_false]
theorem op_seen {nn : Nat} (hn : 48 < nn) (hR : RW s ga st cu ki at_ wi wr ke sp mi ba si ev z) : ∃ r, uX7_seen nn si ga st = some r ∧ uX8_seen nn s = some r := by
  refine ⟨seenX si ga st, by unfold uX7_seen; rw [seenCells6 hn]; rfl, ?_⟩
  rw [seen8 hn]
  refine congrArg some (lb_ext fun k hk => ?_)
  rw [lb_cells _ hk]
  rcases Nat.lt_or_ge k 48 with h | h
  · rw [lb78 hR h]; simp [h]
  · rw [lb_seenX _ _ _ hk]
    simp [Nat.not_lt.mpr h]
end SEEN
