/-! ===== the pure functions: what they answer ===== -/
theorem bb_b0_s {β : Type} {k : Option β} : bb_b0 (some ()) k = k := rfl
theorem bb_b1_s {α1 β : Type} {k : α1 → Option β} {x1 : α1} : bb_b1 (some x1) k = k x1 := rfl
theorem bb_b2_s {α1 α2 β : Type} {k : α1 → α2 → Option β} {x1 : α1} {x2 : α2} : bb_b2 (some (x1, x2)) k = k x1 x2 := rfl
theorem bb_b3_s {α1 α2 α3 β : Type} {k : α1 → α2 → α3 → Option β} {x1 : α1} {x2 : α2} {x3 : α3} : bb_b3 (some (x1, x2, x3)) k = k x1 x2 x3 := rfl
theorem bb_b4_s {α1 α2 α3 α4 β : Type} {k : α1 → α2 → α3 → α4 → Option β} {x1 : α1} {x2 : α2} {x3 : α3} {x4 : α4} : bb_b4 (some (x1, x2, x3, x4)) k = k x1 x2 x3 x4 := rfl
theorem bb_b5_s {α1 α2 α3 α4 α5 β : Type} {k : α1 → α2 → α3 → α4 → α5 → Option β} {x1 : α1} {x2 : α2} {x3 : α3} {x4 : α4} {x5 : α5} : bb_b5 (some (x1, x2, x3, x4, x5)) k = k x1 x2 x3 x4 x5 := rfl
theorem bb_b6_s {α1 α2 α3 α4 α5 α6 β : Type} {k : α1 → α2 → α3 → α4 → α5 → α6 → Option β} {x1 : α1} {x2 : α2} {x3 : α3} {x4 : α4} {x5 : α5} {x6 : α6} : bb_b6 (some (x1, x2, x3, x4, x5, x6)) k = k x1 x2 x3 x4 x5 x6 := rfl
theorem bb_b7_s {α1 α2 α3 α4 α5 α6 α7 β : Type} {k : α1 → α2 → α3 → α4 → α5 → α6 → α7 → Option β} {x1 : α1} {x2 : α2} {x3 : α3} {x4 : α4} {x5 : α5} {x6 : α6} {x7 : α7} : bb_b7 (some (x1, x2, x3, x4, x5, x6, x7)) k = k x1 x2 x3 x4 x5 x6 x7 := rfl
theorem bb_b8_s {α1 α2 α3 α4 α5 α6 α7 α8 β : Type} {k : α1 → α2 → α3 → α4 → α5 → α6 → α7 → α8 → Option β} {x1 : α1} {x2 : α2} {x3 : α3} {x4 : α4} {x5 : α5} {x6 : α6} {x7 : α7} {x8 : α8} : bb_b8 (some (x1, x2, x3, x4, x5, x6, x7, x8)) k = k x1 x2 x3 x4 x5 x6 x7 x8 := rfl
theorem bb_b9_s {α1 α2 α3 α4 α5 α6 α7 α8 α9 β : Type} {k : α1 → α2 → α3 → α4 → α5 → α6 → α7 → α8 → α9 → Option β} {x1 : α1} {x2 : α2} {x3 : α3} {x4 : α4} {x5 : α5} {x6 : α6} {x7 : α7} {x8 : α8} {x9 : α9} : bb_b9 (some (x1, x2, x3, x4, x5, x6, x7, x8, x9)) k = k x1 x2 x3 x4 x5 x6 x7 x8 x9 := rfl
theorem bb_b10_s {α1 α2 α3 α4 α5 α6 α7 α8 α9 α10 β : Type} {k : α1 → α2 → α3 → α4 → α5 → α6 → α7 → α8 → α9 → α10 → Option β} {x1 : α1} {x2 : α2} {x3 : α3} {x4 : α4} {x5 : α5} {x6 : α6} {x7 : α7} {x8 : α8} {x9 : α9} {x10 : α10} : bb_b10 (some (x1, x2, x3, x4, x5, x6, x7, x8, x9, x10)) k = k x1 x2 x3 x4 x5 x6 x7 x8 x9 x10 := rfl
theorem bb_b11_s {α1 α2 α3 α4 α5 α6 α7 α8 α9 α10 α11 β : Type} {k : α1 → α2 → α3 → α4 → α5 → α6 → α7 → α8 → α9 → α10 → α11 → Option β} {x1 : α1} {x2 : α2} {x3 : α3} {x4 : α4} {x5 : α5} {x6 : α6} {x7 : α7} {x8 : α8} {x9 : α9} {x10 : α10} {x11 : α11} : bb_b11 (some (x1, x2, x3, x4, x5, x6, x7, x8, x9, x10, x11)) k = k x1 x2 x3 x4 x5 x6 x7 x8 x9 x10 x11 := rfl
theorem bb_b12_s {α1 α2 α3 α4 α5 α6 α7 α8 α9 α10 α11 α12 β : Type} {k : α1 → α2 → α3 → α4 → α5 → α6 → α7 → α8 → α9 → α10 → α11 → α12 → Option β} {x1 : α1} {x2 : α2} {x3 : α3} {x4 : α4} {x5 : α5} {x6 : α6} {x7 : α7} {x8 : α8} {x9 : α9} {x10 : α10} {x11 : α11} {x12 : α12} : bb_b12 (some (x1, x2, x3, x4, x5, x6, x7, x8, x9, x10, x11, x12)) k = k x1 x2 x3 x4 x5 x6 x7 x8 x9 x10 x11 x12 := rfl
theorem bb_b13_s {α1 α2 α3 α4 α5 α6 α7 α8 α9 α10 α11 α12 α13 β : Type} {k : α1 → α2 → α3 → α4 → α5 → α6 → α7 → α8 → α9 → α10 → α11 → α12 → α13 → Option β} {x1 : α1} {x2 : α2} {x3 : α3} {x4 : α4} {x5 : α5} {x6 : α6} {x7 : α7} {x8 : α8} {x9 : α9} {x10 : α10} {x11 : α11} {x12 : α12} {x13 : α13} : bb_b13 (some (x1, x2, x3, x4, x5, x6, x7, x8, x9, x10, x11, x12, x13)) k = k x1 x2 x3 x4 x5 x6 x7 x8 x9 x10 x11 x12 x13 := rfl
theorem bb_b14_s {α1 α2 α3 α4 α5 α6 α7 α8 α9 α10 α11 α12 α13 α14 β : Type} {k : α1 → α2 → α3 → α4 → α5 → α6 → α7 → α8 → α9 → α10 → α11 → α12 → α13 → α14 → Option β} {x1 : α1} {x2 : α2} {x3 : α3} {x4 : α4} {x5 : α5} {x6 : α6} {x7 : α7} {x8 : α8} {x9 : α9} {x10 : α10} {x11 : α11} {x12 : α12} {x13 : α13} {x14 : α14} : bb_b14 (some (x1, x2, x3, x4, x5, x6, x7, x8, x9, x10, x11, x12, x13, x14)) k = k x1 x2 x3 x4 x5 x6 x7 x8 x9 x10 x11 x12 x13 x14 := rfl
theorem bb_b15_s {α1 α2 α3 α4 α5 α6 α7 α8 α9 α10 α11 α12 α13 α14 α15 β : Type} {k : α1 → α2 → α3 → α4 → α5 → α6 → α7 → α8 → α9 → α10 → α11 → α12 → α13 → α14 → α15 → Option β} {x1 : α1} {x2 : α2} {x3 : α3} {x4 : α4} {x5 : α5} {x6 : α6} {x7 : α7} {x8 : α8} {x9 : α9} {x10 : α10} {x11 : α11} {x12 : α12} {x13 : α13} {x14 : α14} {x15 : α15} : bb_b15 (some (x1, x2, x3, x4, x5, x6, x7, x8, x9, x10, x11, x12, x13, x14, x15)) k = k x1 x2 x3 x4 x5 x6 x7 x8 x9 x10 x11 x12 x13 x14 x15 := rfl
theorem bb_b16_s {α1 α2 α3 α4 α5 α6 α7 α8 α9 α10 α11 α12 α13 α14 α15 α16 β : Type} {k : α1 → α2 → α3 → α4 → α5 → α6 → α7 → α8 → α9 → α10 → α11 → α12 → α13 → α14 → α15 → α16 → Option β} {x1 : α1} {x2 : α2} {x3 : α3} {x4 : α4} {x5 : α5} {x6 : α6} {x7 : α7} {x8 : α8} {x9 : α9} {x10 : α10} {x11 : α11} {x12 : α12} {x13 : α13} {x14 : α14} {x15 : α15} {x16 : α16} : bb_b16 (some (x1, x2, x3, x4, x5, x6, x7, x8, x9, x10, x11, x12, x13, x14, x15, x16)) k = k x1 x2 x3 x4 x5 x6 x7 x8 x9 x10 x11 x12 x13 x14 x15 x16 := rfl
theorem e10 : ((1 : Int32) = 0) = False := eq_false (by decide)
theorem e00 : ((0 : Int32) = 0) = True := eq_true rfl
theorem e11 : ((1 : Int32) = 1) = True := eq_true rfl
theorem bb_cut_s {K β : Type} {k : K} {f : K → β} : bb_cut k f = f k := rfl
theorem i_lt (a b : Int32) : a < b ↔ a.toInt < b.toInt := Int32.lt_iff_toInt_lt
theorem i_le (a b : Int32) : a ≤ b ↔ a.toInt ≤ b.toInt := Int32.le_iff_toInt_le
theorem i_eq (a b : Int32) : a = b ↔ a.toInt = b.toInt := Int32.toInt_inj.symm
theorem i_rng (x : Int32) : -2147483648 ≤ x.toInt ∧ x.toInt < 2147483648 := ⟨Int32.le_toInt x, Int32.toInt_lt x⟩
theorem i_lt64 (a b : Int64) : a < b ↔ a.toInt < b.toInt := Int64.lt_iff_toInt_lt
theorem i_wide (a : Int32) : a.toInt64.toInt = a.toInt := Int32.toInt_toInt64 a
theorem w_lt (a b : Int32) : a.toInt64 < b.toInt64 ↔ a < b := by rw [i_lt64, i_lt, i_wide, i_wide]
/-- in: as isWithin -/
theorem in8 (a lo hi : Int32) : uX8_in a.toInt64 lo.toInt64 hi.toInt64 = uX7_isWithin a lo hi := by
  unfold uX8_in uX7_isWithin
  simp only [lg_cmp_lt, lg_cmp_gt, w_lt]
theorem win_t {a lo hi : Int32} (h1 : lo ≤ a) (h2 : a ≤ hi) : uX7_isWithin a lo hi = some 1 := by
  unfold uX7_isWithin
  rw [if_neg (by rw [i_lt]; rw [i_le] at h1; omega), if_neg (by rw [i_lt]; rw [i_le] at h2; omega)]
theorem win_f {a lo hi : Int32} (h : ¬ (lo ≤ a ∧ a ≤ hi)) : uX7_isWithin a lo hi = some 0 := by
  unfold uX7_isWithin
  by_cases h1 : a < lo
  · rw [if_pos h1]
  · rw [if_neg h1, if_pos]
    rw [i_le, i_le] at h
    rw [i_lt] at h1 ⊢
    omega
theorem win (a lo hi : Int32) : (uX7_isWithin a lo hi = some 1 ∧ lo ≤ a ∧ a ≤ hi) ∨ (uX7_isWithin a lo hi = some 0 ∧ ¬ (lo ≤ a ∧ a ≤ hi)) := by
  by_cases h : lo ≤ a ∧ a ≤ hi
  · exact Or.inl ⟨win_t h.1 h.2, h⟩
  · exact Or.inr ⟨win_f h, h⟩
theorem cell0 (a : Int32) : uX0_isCell a = uX7_isWithin a 0 47 := by
  unfold uX0_isCell uX7_isWithin
  have e : ((48 : Int32) ≤ a) = (47 < a) := by
    rw [i_le, i_lt]
    have h1 : (48 : Int32).toInt = 48 := by decide
    have h2 : (47 : Int32).toInt = 47 := by decide
    rw [h1, h2]
    exact propext ⟨fun h => by omega, fun h => by omega⟩
  simp only [e]
theorem b1_id {α : Type} (o : Option α) : bb_b1 o (fun r => some r) = o := by cases o <;> rfl
theorem cell8 (a : Int32) : uX8_isCell a = uX7_isWithin a 0 47 := by
  unfold uX8_isCell
  rw [b1_id]
  exact in8 a 0 47
theorem guard8 (a : Int32) : uX8_isGuard a = uX7_isWithin a 0 3 := by
  unfold uX8_isGuard
  rw [b1_id]
  exact in8 a 0 3
theorem side8 (a : Int32) : uX8_isSide a = uX7_isWithin a 0 1 := by
  unfold uX8_isSide
  rw [b1_id]
  exact in8 a 0 1
theorem kind8 (a : Int32) : uX8_isKind a = uX7_isWithin a 0 6 := by
  unfold uX8_isKind
  rw [b1_id]
  exact in8 a 0 6
theorem spot8 (a : Int32) : uX8_isSpot a = uX7_isWithin a 0 9 := by
  unfold uX8_isSpot
  rw [b1_id]
  exact in8 a 0 9
theorem sheet8 (a : Int32) : uX8_isSheet a = uX7_isWithin a 0 3 := by
  unfold uX8_isSheet
  rw [b1_id]
  exact in8 a 0 3
theorem ahead8 (a : Int32) : uX8_isAhead a = uX7_isWithin a 0 100 := by
  unfold uX8_isAhead
  rw [b1_id]
  exact in8 a 0 100
theorem bather8 (a : Int32) (s : Nat → Int32) : uX8_isBather a s = uX7_isWithin a 0 (s 1 - 1) := by
  unfold uX8_isBather
  rw [b1_id]
  exact in8 a 0 (s 1 - 1)
theorem guard7 (a : Int32) : uX7_isGuard a = uX7_isWithin a 0 3 := by unfold uX7_isGuard; rw [b1_id]
theorem side7 (a : Int32) : uX7_isSide a = uX7_isWithin a 0 1 := by unfold uX7_isSide; rw [b1_id]
theorem kind7 (a : Int32) : uX7_isKind a = uX7_isWithin a 0 6 := by unfold uX7_isKind; rw [b1_id]
theorem spot7 (a : Int32) : uX7_isSpot a = uX7_isWithin a 0 9 := by unfold uX7_isSpot; rw [b1_id]
theorem sheet7 (a : Int32) : uX7_isSheet a = uX7_isWithin a 0 3 := by unfold uX7_isSheet; rw [b1_id]
theorem bather7 (a b : Int32) : uX7_isBather a b = uX7_isWithin a 0 (b - 1) := by unfold uX7_isBather; rw [b1_id]
theorem find78 (k : Int32) (f : Nat → Int32) : uX8_finds k f = uX7_finding k f := rfl
/-- a finding -/
def nfd (k : Nat) (f : Nat → Int32) : Nat → Int32 := upd f k (f k + 1)
theorem fnd0 (f : Nat → Int32) : uX7_finding 0 f = some (-1000001, nfd 0 f) := rfl
theorem fnd1 (f : Nat → Int32) : uX7_finding 1 f = some (-1000002, nfd 1 f) := rfl
theorem fnd2 (f : Nat → Int32) : uX7_finding 2 f = some (-1000003, nfd 2 f) := rfl
theorem fnd3 (f : Nat → Int32) : uX7_finding 3 f = some (-1000004, nfd 3 f) := rfl
theorem fnd4 (f : Nat → Int32) : uX7_finding 4 f = some (-1000005, nfd 4 f) := rfl
theorem fnd5 (f : Nat → Int32) : uX7_finding 5 f = some (-1000006, nfd 5 f) := rfl
theorem fnd6 (f : Nat → Int32) : uX7_finding 6 f = some (-1000007, nfd 6 f) := rfl
/-- a number within bounds is a small natural number -/
theorem nat_of {a : Int32} {n : Nat} {hi : Int32} (hh : hi.toInt = n) (h1 : (0 : Int32) ≤ a) (h2 : a ≤ hi) : ∃ j : Nat, j ≤ n ∧ a = nI j := by
  rw [i_le] at h1 h2
  have h0 : (0 : Int32).toInt = 0 := by decide
  rw [h0] at h1
  rw [hh] at h2
  refine ⟨a.toInt.toNat, by omega, ?_⟩
  rw [i_eq, nI_toInt (by have := i_rng a; omega)]
  omega
theorem ixn {α : Type} {j n : Nat} {k : Option α} (h : j < n) (hn : n < 2 ^ 31) : bb_ix (nI j) n k = k := bb_ix_in (vp_in_nI h hn)
theorem cln {j : Nat} (h : j < 2 ^ 31) : (nI j).toNatClampNeg = j := nI_clamp h
theorem nAdd (a b : Nat) : nI a + nI b = nI (a + b) := nI_add a b
theorem lit_n (n : Nat) : (OfNat.ofNat n : Int32) = nI n := rfl
