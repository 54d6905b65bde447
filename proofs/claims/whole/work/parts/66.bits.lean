/-! ===== how many bits a long has ===== -/
theorem and256 {a m q M : Nat} (ha : a < 256) (hm : m < 256) : (256 * q + a) &&& (256 * M + m) = 256 * (q &&& M) + (a &&& m) := by
  apply Nat.eq_of_testBit_eq
  intro i
  have hl : a &&& m < 2 ^ 8 := Nat.lt_of_le_of_lt Nat.and_le_left ha
  rw [Nat.testBit_and, show 256 = 2 ^ 8 from rfl, Nat.testBit_two_pow_mul_add _ ha, Nat.testBit_two_pow_mul_add _ hm, Nat.testBit_two_pow_mul_add _ hl]
  split
  · rw [Nat.testBit_and]
  · rw [Nat.testBit_and]
def msk (m : Nat) : Nat → Nat
  | 0 => 0
  | k + 1 => 256 * msk m k + m
def dgt (f : Nat → Nat) : Nat → Nat → Nat
  | 0, _ => 0
  | k + 1, N => 256 * dgt f k (N / 256) + f (N % 256)
theorem dgt_comp {f g : Nat → Nat} (hf : ∀ a, a < 256 → f a < 256) : ∀ k N, dgt g k (dgt f k N) = dgt (fun a => g (f a)) k N
  | 0, N => rfl
  | k + 1, N => by
    have h := hf (N % 256) (Nat.mod_lt _ (by decide))
    have ih := dgt_comp (f := f) (g := g) hf k (N / 256)
    show 256 * dgt g k ((256 * dgt f k (N / 256) + f (N % 256)) / 256) + g ((256 * dgt f k (N / 256) + f (N % 256)) % 256) = 256 * dgt (fun a => g (f a)) k (N / 256) + g (f (N % 256))
    rw [show (256 * dgt f k (N / 256) + f (N % 256)) / 256 = dgt f k (N / 256) by omega, show (256 * dgt f k (N / 256) + f (N % 256)) % 256 = f (N % 256) by omega, ih]
theorem dgt_cong {f g : Nat → Nat} (h : ∀ a, a < 256 → f a = g a) : ∀ k N, dgt f k N = dgt g k N
  | 0, N => rfl
  | k + 1, N => by
    unfold dgt
    rw [dgt_cong h k, h _ (Nat.mod_lt _ (by decide))]
theorem dgt_add (f g : Nat → Nat) : ∀ k N, dgt f k N + dgt g k N = dgt (fun a => f a + g a) k N
  | 0, N => rfl
  | k + 1, N => by
    have ih := dgt_add f g k (N / 256)
    unfold dgt
    rw [← ih]
    omega
theorem dgt_sub {g : Nat → Nat} (hg : ∀ a, a < 256 → g a ≤ a) : ∀ k N, N < 256 ^ k → dgt g k N ≤ N ∧ N - dgt g k N = dgt (fun a => a - g a) k N
  | 0, N, h => ⟨Nat.zero_le _, by show N - 0 = 0; rw [Nat.pow_zero] at h; omega⟩
  | k + 1, N, h => by
    obtain ⟨i1, i2⟩ := dgt_sub hg k (N / 256) (by rw [Nat.pow_succ] at h; omega)
    have h2 := hg (N % 256) (Nat.mod_lt _ (by decide))
    unfold dgt
    rw [← i2]
    constructor <;> omega
theorem ms1 : ∀ r, r < 2 → ∀ a, a < 256 → ((128 * r + a / 2) &&& 85) = ((a / 2) &&& 85) := by decide +kernel
theorem ms2 : ∀ r, r < 4 → ∀ a, a < 256 → ((64 * r + a / 4) &&& 51) = ((a / 4) &&& 51) := by decide +kernel
theorem st1 : ∀ k N, (N / 2) &&& msk 85 k = dgt (fun a => (a / 2) &&& 85) k N
  | 0, N => by show _ &&& 0 = 0; exact Nat.and_zero _
  | k + 1, N => by
    have ih := st1 k (N / 256)
    have e : N / 2 = 256 * ((N / 256) / 2) + (128 * ((N / 256) % 2) + (N % 256) / 2) := by omega
    show (N / 2) &&& (256 * msk 85 k + 85) = 256 * dgt (fun a => (a / 2) &&& 85) k (N / 256) + (((N % 256) / 2) &&& 85)
    rw [e, and256 (by omega) (by omega), ih, ms1 _ (Nat.mod_lt _ (by decide)) _ (Nat.mod_lt _ (by decide))]
theorem st2 : ∀ k N, (N / 4) &&& msk 51 k = dgt (fun a => (a / 4) &&& 51) k N
  | 0, N => by show _ &&& 0 = 0; exact Nat.and_zero _
  | k + 1, N => by
    have ih := st2 k (N / 256)
    have e : N / 4 = 256 * ((N / 256) / 4) + (64 * ((N / 256) % 4) + (N % 256) / 4) := by omega
    show (N / 4) &&& (256 * msk 51 k + 51) = 256 * dgt (fun a => (a / 4) &&& 51) k (N / 256) + (((N % 256) / 4) &&& 51)
    rw [e, and256 (by omega) (by omega), ih, ms2 _ (Nat.mod_lt _ (by decide)) _ (Nat.mod_lt _ (by decide))]
theorem st2b : ∀ k N, N &&& msk 51 k = dgt (fun a => a &&& 51) k N
  | 0, N => by show _ &&& 0 = 0; exact Nat.and_zero _
  | k + 1, N => by
    have ih := st2b k (N / 256)
    have e : N = 256 * (N / 256) + N % 256 := by omega
    show N &&& (256 * msk 51 k + 51) = 256 * dgt (fun a => a &&& 51) k (N / 256) + ((N % 256) &&& 51)
    rw [← ih, ← and256 (by omega) (by omega), ← e]
theorem dgt_low {f : Nat → Nat} (hf : ∀ a, a < 256 → f a ≤ 68 ∧ f a % 16 ≤ 4) : ∀ k N, dgt f k N % 16 ≤ 4
  | 0, N => by show 0 % 16 ≤ 4; omega
  | k + 1, N => by
    have h := hf (N % 256) (Nat.mod_lt _ (by decide))
    show (256 * dgt f k (N / 256) + f (N % 256)) % 16 ≤ 4
    omega
theorem st3 {f : Nat → Nat} (hf : ∀ a, a < 256 → f a ≤ 68 ∧ f a % 16 ≤ 4) : ∀ k N, (dgt f k N + dgt f k N / 16) &&& msk 15 k = dgt (fun a => (f a + f a / 16) % 16) k N
  | 0, N => by show _ &&& 0 = 0; exact Nat.and_zero _
  | k + 1, N => by
    have ih := st3 hf k (N / 256)
    have h := hf (N % 256) (Nat.mod_lt _ (by decide))
    have hl := dgt_low hf k (N / 256)
    show ((256 * dgt f k (N / 256) + f (N % 256)) + (256 * dgt f k (N / 256) + f (N % 256)) / 16) &&& (256 * msk 15 k + 15) = 256 * dgt (fun a => (f a + f a / 16) % 16) k (N / 256) + (f (N % 256) + f (N % 256) / 16) % 16
    generalize dgt f k (N / 256) = y at ih hl
    generalize f (N % 256) = d at h
    have e : (256 * y + d) + (256 * y + d) / 16 = 256 * (y + y / 16) + (d + d / 16 + 16 * (y % 16)) := by omega
    rw [e, and256 (by omega) (by omega), ih, show (d + d / 16 + 16 * (y % 16)) &&& 15 = (d + d / 16 + 16 * (y % 16)) % 16 from Nat.and_two_pow_sub_one_eq_mod _ 4]
    omega
def cntN (p : Nat → Bool) : Nat → Nat
  | 0 => 0
  | n + 1 => cntN p n + (if p n then 1 else 0)
theorem cntN_cong {p q : Nat → Bool} : ∀ n, (∀ i, i < n → p i = q i) → cntN p n = cntN q n
  | 0, _ => rfl
  | n + 1, h => by
    unfold cntN
    rw [cntN_cong n (fun i hi => h i (by omega)), h n (by omega)]
theorem cntN_split (p : Nat → Bool) (m : Nat) : ∀ n, cntN p (m + n) = cntN p m + cntN (fun k => p (m + k)) n
  | 0 => rfl
  | n + 1 => by
    show cntN p (m + n) + (if p (m + n) then 1 else 0) = cntN p m + (cntN (fun k => p (m + k)) n + (if p (m + n) then 1 else 0))
    rw [cntN_split p m n]
    omega
theorem cntN_le (p : Nat → Bool) : ∀ n, cntN p n ≤ n
  | 0 => Nat.le_refl _
  | n + 1 => by
    have := cntN_le p n
    unfold cntN
    split <;> omega
def pc1 (a : Nat) : Nat := a - ((a / 2) &&& 85)
def pc2 (a : Nat) : Nat := (pc1 a &&& 51) + ((pc1 a / 4) &&& 51)
def pc3 (a : Nat) : Nat := (pc2 a + pc2 a / 16) % 16
theorem pc_a : ∀ a, a < 256 → (a / 2) &&& 85 ≤ a := by decide +kernel
theorem pc_b : ∀ a, a < 256 → pc1 a < 256 := by decide +kernel
theorem pc_c : ∀ a, a < 256 → pc2 a ≤ 68 ∧ pc2 a % 16 ≤ 4 := by decide +kernel
theorem pc_d : ∀ a, a < 256 → pc3 a = cntN (fun k => a.testBit k) 8 := by decide +kernel
theorem pc_e : ∀ a, a < 256 → pc3 a ≤ 8 := by decide +kernel
/-- the first three steps: every byte holds how many bits it had -/
theorem st123 {N : Nat} (h : N < 256 ^ 8) : ∃ y1 y2, y1 = N - ((N / 2) &&& msk 85 8) ∧ (N / 2) &&& msk 85 8 ≤ N ∧ y2 = (y1 &&& msk 51 8) + ((y1 / 4) &&& msk 51 8) ∧ (y2 + y2 / 16) &&& msk 15 8 = dgt pc3 8 N ∧ y2 < 256 ^ 8 ∧ y2 + y2 / 16 < 256 ^ 8 := by
  obtain ⟨i1, i2⟩ := dgt_sub pc_a 8 N h
  have e1 : dgt (fun a => a - ((a / 2) &&& 85)) 8 N = dgt pc1 8 N := rfl
  have e2 : ∀ y, (y &&& msk 51 8) + ((y / 4) &&& msk 51 8) = dgt (fun a => (a &&& 51) + ((a / 4) &&& 51)) 8 y := fun y => by rw [st2, st2b, dgt_add]
  have e3 : dgt (fun a => (a &&& 51) + ((a / 4) &&& 51)) 8 (dgt pc1 8 N) = dgt pc2 8 N := dgt_comp pc_b 8 N
  have lim : ∀ k N, dgt pc2 k N ≤ 68 * msk 1 k := fun k => by
    induction k with
    | zero => intro N; exact Nat.le_refl _
    | succ k ih =>
      intro N
      have h1 := ih (N / 256)
      have h2 := pc_c (N % 256) (Nat.mod_lt _ (by decide))
      show 256 * dgt pc2 k (N / 256) + pc2 (N % 256) ≤ 68 * (256 * msk 1 k + 1)
      omega
  have l8 := lim 8 N
  have l9 : 68 * msk 1 8 = 4919131752989213764 := by decide
  refine ⟨N - ((N / 2) &&& msk 85 8), dgt pc2 8 N, rfl, ?_, ?_, ?_, ?_, ?_⟩
  · rw [st1]; exact i1
  · rw [st1, i2, e1, e2, e3]
  · exact st3 pc_c 8 N
  · rw [l9] at l8; omega
  · rw [l9] at l8; omega
/-- the last steps: the sum of the bytes -/
theorem dgt8 (f : Nat → Nat) (N : Nat) : ∃ c0 c1 c2 c3 c4 c5 c6 c7, dgt f 8 N = 256 * (256 * (256 * (256 * (256 * (256 * (256 * (256 * 0 + c7) + c6) + c5) + c4) + c3) + c2) + c1) + c0 ∧ c0 = f (N % 256) ∧ c1 = f (N / 256 % 256) ∧ c2 = f (N / 256 / 256 % 256) ∧ c3 = f (N / 256 / 256 / 256 % 256) ∧ c4 = f (N / 256 / 256 / 256 / 256 % 256) ∧ c5 = f (N / 256 / 256 / 256 / 256 / 256 % 256) ∧ c6 = f (N / 256 / 256 / 256 / 256 / 256 / 256 % 256) ∧ c7 = f (N / 256 / 256 / 256 / 256 / 256 / 256 / 256 % 256) := ⟨_, _, _, _, _, _, _, _, rfl, rfl, rfl, rfl, rfl, rfl, rfl, rfl, rfl⟩
theorem cnt_byte (N m : Nat) : cntN (fun k => N.testBit k) (8 + m) = pc3 (N % 256) + cntN (fun k => (N / 256).testBit k) m := by
  rw [cntN_split, pc_d _ (Nat.mod_lt _ (by decide))]
  congr 1
  · refine cntN_cong 8 (fun i hi => ?_)
    rw [show 256 = 2 ^ 8 from rfl, Nat.testBit_mod_two_pow]
    simp [hi]
  · refine cntN_cong m (fun i hi => ?_)
    rw [show 256 = 2 ^ 8 from rfl, Nat.testBit_div_two_pow, Nat.add_comm]
theorem dvx {m a R : Nat} (h : a < m) : (a + m * R) / m = R := by rw [Nat.add_mul_div_left a R (by omega), Nat.div_eq_of_lt h, Nat.zero_add]
theorem dv8 {a0 a1 a2 a3 a4 a5 a6 a7 m : Nat} (hm : m ≤ 64) (h0 : a0 ≤ m) (h1 : a1 ≤ m) (h2 : a2 ≤ m) (h3 : a3 ≤ m) : (a0 + 256 * a1 + 65536 * a2 + 16777216 * a3 + 4294967296 * a4 + 1099511627776 * a5 + 281474976710656 * a6 + 72057594037927936 * a7) / 256 = a1 + 256 * a2 + 65536 * a3 + 16777216 * a4 + 4294967296 * a5 + 1099511627776 * a6 + 281474976710656 * a7 ∧ (a0 + 256 * a1 + 65536 * a2 + 16777216 * a3 + 4294967296 * a4 + 1099511627776 * a5 + 281474976710656 * a6 + 72057594037927936 * a7) / 65536 = a2 + 256 * a3 + 65536 * a4 + 16777216 * a5 + 4294967296 * a6 + 1099511627776 * a7 ∧ (a0 + 256 * a1 + 65536 * a2 + 16777216 * a3 + 4294967296 * a4 + 1099511627776 * a5 + 281474976710656 * a6 + 72057594037927936 * a7) / 4294967296 = a4 + 256 * a5 + 65536 * a6 + 16777216 * a7 := by
  refine ⟨?_, ?_, ?_⟩
  · rw [show a0 + 256 * a1 + 65536 * a2 + 16777216 * a3 + 4294967296 * a4 + 1099511627776 * a5 + 281474976710656 * a6 + 72057594037927936 * a7 = (a0) + 256 * (a1 + 256 * a2 + 65536 * a3 + 16777216 * a4 + 4294967296 * a5 + 1099511627776 * a6 + 281474976710656 * a7) by omega]
    exact dvx (by omega)
  · rw [show a0 + 256 * a1 + 65536 * a2 + 16777216 * a3 + 4294967296 * a4 + 1099511627776 * a5 + 281474976710656 * a6 + 72057594037927936 * a7 = (a0 + 256 * a1) + 65536 * (a2 + 256 * a3 + 65536 * a4 + 16777216 * a5 + 4294967296 * a6 + 1099511627776 * a7) by omega]
    exact dvx (by omega)
  · rw [show a0 + 256 * a1 + 65536 * a2 + 16777216 * a3 + 4294967296 * a4 + 1099511627776 * a5 + 281474976710656 * a6 + 72057594037927936 * a7 = (a0 + 256 * a1 + 65536 * a2 + 16777216 * a3) + 4294967296 * (a4 + 256 * a5 + 65536 * a6 + 16777216 * a7) by omega]
    exact dvx (by omega)
theorem st456 {N : Nat} : ∃ y4 y5 y6, y4 = dgt pc3 8 N + dgt pc3 8 N / 256 ∧ y5 = y4 + y4 / 65536 ∧ y6 = y5 + y5 / 4294967296 ∧ y6 < 256 ^ 8 ∧ y4 < 256 ^ 8 ∧ y5 < 256 ^ 8 ∧ y6 % 128 = cntN (fun k => N.testBit k) 64 := by
  have ec : cntN (fun k => N.testBit k) 64 = pc3 (N % 256) + (pc3 (N / 256 % 256) + (pc3 (N / 256 / 256 % 256) + (pc3 (N / 256 / 256 / 256 % 256) + (pc3 (N / 256 / 256 / 256 / 256 % 256) + (pc3 (N / 256 / 256 / 256 / 256 / 256 % 256) + (pc3 (N / 256 / 256 / 256 / 256 / 256 / 256 % 256) + (pc3 (N / 256 / 256 / 256 / 256 / 256 / 256 / 256 % 256) + 0))))))) := by
    rw [show 64 = 8 + (8 + (8 + (8 + (8 + (8 + (8 + (8 + 0))))))) from rfl]
    rw [cnt_byte, cnt_byte, cnt_byte, cnt_byte, cnt_byte, cnt_byte, cnt_byte, cnt_byte]
    rfl
  have hb : ∀ M, pc3 (M % 256) ≤ 8 := fun M => pc_e _ (Nat.mod_lt _ (by decide))
  obtain ⟨c0, c1, c2, c3, c4, c5, c6, c7, ed, q0, q1, q2, q3, q4, q5, q6, q7⟩ := dgt8 pc3 N
  rw [← q0, ← q1, ← q2, ← q3, ← q4, ← q5, ← q6, ← q7] at ec
  have l0 := hb N
  have l1 := hb (N / 256)
  have l2 := hb (N / 256 / 256)
  have l3 := hb (N / 256 / 256 / 256)
  have l4 := hb (N / 256 / 256 / 256 / 256)
  have l5 := hb (N / 256 / 256 / 256 / 256 / 256)
  have l6 := hb (N / 256 / 256 / 256 / 256 / 256 / 256)
  have l7 := hb (N / 256 / 256 / 256 / 256 / 256 / 256 / 256)
  rw [← q0] at l0
  rw [← q1] at l1
  rw [← q2] at l2
  rw [← q3] at l3
  rw [← q4] at l4
  rw [← q5] at l5
  rw [← q6] at l6
  rw [← q7] at l7
  clear q0 q1 q2 q3 q4 q5 q6 q7 hb
  rw [ed, ec]
  clear ed ec
  have e3 : 256 * (256 * (256 * (256 * (256 * (256 * (256 * (256 * 0 + c7) + c6) + c5) + c4) + c3) + c2) + c1) + c0 = c0 + 256 * c1 + 65536 * c2 + 16777216 * c3 + 4294967296 * c4 + 1099511627776 * c5 + 281474976710656 * c6 + 72057594037927936 * c7 := by omega
  rw [e3]
  have f3 := (dv8 (m := 8) (a4 := c4) (a5 := c5) (a6 := c6) (a7 := c7) (by omega) l0 l1 l2 l3).1
  have e4 : (c0 + 256 * c1 + 65536 * c2 + 16777216 * c3 + 4294967296 * c4 + 1099511627776 * c5 + 281474976710656 * c6 + 72057594037927936 * c7) + (c0 + 256 * c1 + 65536 * c2 + 16777216 * c3 + 4294967296 * c4 + 1099511627776 * c5 + 281474976710656 * c6 + 72057594037927936 * c7) / 256 = (c0 + c1) + 256 * (c1 + c2) + 65536 * (c2 + c3) + 16777216 * (c3 + c4) + 4294967296 * (c4 + c5) + 1099511627776 * (c5 + c6) + 281474976710656 * (c6 + c7) + 72057594037927936 * c7 := by rw [f3]; omega
  have f4 := (dv8 (m := 16) (a0 := c0 + c1) (a1 := c1 + c2) (a2 := c2 + c3) (a3 := c3 + c4) (a4 := c4 + c5) (a5 := c5 + c6) (a6 := c6 + c7) (a7 := c7) (by omega) (by omega) (by omega) (by omega) (by omega)).2.1
  have e5 : ((c0 + c1) + 256 * (c1 + c2) + 65536 * (c2 + c3) + 16777216 * (c3 + c4) + 4294967296 * (c4 + c5) + 1099511627776 * (c5 + c6) + 281474976710656 * (c6 + c7) + 72057594037927936 * c7) + ((c0 + c1) + 256 * (c1 + c2) + 65536 * (c2 + c3) + 16777216 * (c3 + c4) + 4294967296 * (c4 + c5) + 1099511627776 * (c5 + c6) + 281474976710656 * (c6 + c7) + 72057594037927936 * c7) / 65536 = (c0 + c1 + c2 + c3) + 256 * (c1 + c2 + c3 + c4) + 65536 * (c2 + c3 + c4 + c5) + 16777216 * (c3 + c4 + c5 + c6) + 4294967296 * (c4 + c5 + c6 + c7) + 1099511627776 * (c5 + c6 + c7) + 281474976710656 * (c6 + c7) + 72057594037927936 * (c7) := by rw [f4]; omega
  have f5 := (dv8 (m := 32) (a0 := (c0 + c1 + c2 + c3)) (a1 := (c1 + c2 + c3 + c4)) (a2 := (c2 + c3 + c4 + c5)) (a3 := (c3 + c4 + c5 + c6)) (a4 := (c4 + c5 + c6 + c7)) (a5 := (c5 + c6 + c7)) (a6 := (c6 + c7)) (a7 := (c7)) (by omega) (by omega) (by omega) (by omega) (by omega)).2.2
  have e6 : ((c0 + c1 + c2 + c3) + 256 * (c1 + c2 + c3 + c4) + 65536 * (c2 + c3 + c4 + c5) + 16777216 * (c3 + c4 + c5 + c6) + 4294967296 * (c4 + c5 + c6 + c7) + 1099511627776 * (c5 + c6 + c7) + 281474976710656 * (c6 + c7) + 72057594037927936 * (c7)) + ((c0 + c1 + c2 + c3) + 256 * (c1 + c2 + c3 + c4) + 65536 * (c2 + c3 + c4 + c5) + 16777216 * (c3 + c4 + c5 + c6) + 4294967296 * (c4 + c5 + c6 + c7) + 1099511627776 * (c5 + c6 + c7) + 281474976710656 * (c6 + c7) + 72057594037927936 * (c7)) / 4294967296 = (c0 + c1 + c2 + c3 + c4 + c5 + c6 + c7) + 256 * (c1 + c2 + c3 + c4 + c5 + c6 + c7) + 65536 * (c2 + c3 + c4 + c5 + c6 + c7) + 16777216 * (c3 + c4 + c5 + c6 + c7) + 4294967296 * (c4 + c5 + c6 + c7) + 1099511627776 * (c5 + c6 + c7) + 281474976710656 * (c6 + c7) + 72057594037927936 * (c7) := by rw [f5]; omega
  refine ⟨_, _, _, e4.symm, e5.symm, e6.symm, ?_, ?_, ?_, ?_⟩
  · clear f3 e4 f4 e5 f5 e6 e3; omega
  · clear f3 e4 f4 e5 f5 e6 e3; omega
  · clear f3 e4 f4 e5 f5 e6 e3; omega
  · clear f3 e4 f4 e5 f5 e6 e3
    rw [show (c0 + c1 + c2 + c3 + c4 + c5 + c6 + c7) + 256 * (c1 + c2 + c3 + c4 + c5 + c6 + c7) + 65536 * (c2 + c3 + c4 + c5 + c6 + c7) + 16777216 * (c3 + c4 + c5 + c6 + c7) + 4294967296 * (c4 + c5 + c6 + c7) + 1099511627776 * (c5 + c6 + c7) + 281474976710656 * (c6 + c7) + 72057594037927936 * (c7) = (c0 + c1 + c2 + c3 + c4 + c5 + c6 + c7) + 128 * (2 * (c1 + c2 + c3 + c4 + c5 + c6 + c7) + 512 * (c2 + c3 + c4 + c5 + c6 + c7) + 131072 * (c3 + c4 + c5 + c6 + c7) + 33554432 * (c4 + c5 + c6 + c7) + 8589934592 * (c5 + c6 + c7) + 2199023255552 * (c6 + c7) + 562949953421312 * (c7)) by omega, Nat.add_mul_mod_self_left, Nat.mod_eq_of_lt (by omega)]
    omega
/-! the machine's numbers -/
theorem n_sub {x y : Int64} (h : y.toBitVec.toNat ≤ x.toBitVec.toNat) : (x - y).toBitVec.toNat = x.toBitVec.toNat - y.toBitVec.toNat := by
  rw [Int64.toBitVec_sub]
  exact BitVec.toNat_sub_of_le h
theorem n_and (x y : Int64) : (x &&& y).toBitVec.toNat = x.toBitVec.toNat &&& y.toBitVec.toNat := by rw [Int64.toBitVec_and, BitVec.toNat_and]
theorem n_add {x y : Int64} (h : x.toBitVec.toNat + y.toBitVec.toNat < 256 ^ 8) : (x + y).toBitVec.toNat = x.toBitVec.toNat + y.toBitVec.toNat := by
  rw [Int64.toBitVec_add, BitVec.toNat_add]
  exact Nat.mod_eq_of_lt h
theorem n_shr (x : Int64) {s : UInt64} {k : Nat} (hk : k < 64) (hs : s.toNat = k) : ((x.toUInt64 >>> s).toInt64).toBitVec.toNat = x.toBitVec.toNat / 2 ^ k := by
  show (x.toUInt64 >>> s).toNat = _
  rw [UInt64.toNat_shiftRight, hs, Nat.mod_eq_of_lt hk, Nat.shiftRight_eq_div_pow]
  rfl
theorem bitCount13 (x : Int64) : uJ13_bitCount_95d88 x = some (nI (cntN (lb x) 64)) := by
  have hN : x.toBitVec.toNat < 256 ^ 8 := x.toBitVec.isLt
  obtain ⟨y1, y2, e1, l1, e2, e3, l2, l3⟩ := st123 hN
  obtain ⟨y4, y5, y6, e4, e5, e6, l6, l4, l5, er⟩ := st456 (N := x.toBitVec.toNat)
  unfold uJ13_bitCount_95d88
  have c1 : (6148914691236517205 : Int64).toBitVec.toNat = msk 85 8 := by decide
  have c2 : (3689348814741910323 : Int64).toBitVec.toNat = msk 51 8 := by decide
  have c3 : (1085102592571150095 : Int64).toBitVec.toNat = msk 15 8 := by decide
  have s1 : ∀ y : Int64, ((y.toUInt64 >>> ((1 : Int32).toInt64.toUInt64 &&& Int64.toUInt64 63)).toInt64).toBitVec.toNat = y.toBitVec.toNat / 2 := fun y => n_shr y (k := 1) (by omega) (by decide)
  have s2 : ∀ y : Int64, ((y.toUInt64 >>> ((2 : Int32).toInt64.toUInt64 &&& Int64.toUInt64 63)).toInt64).toBitVec.toNat = y.toBitVec.toNat / 4 := fun y => n_shr y (k := 2) (by omega) (by decide)
  have s4 : ∀ y : Int64, ((y.toUInt64 >>> ((4 : Int32).toInt64.toUInt64 &&& Int64.toUInt64 63)).toInt64).toBitVec.toNat = y.toBitVec.toNat / 16 := fun y => n_shr y (k := 4) (by omega) (by decide)
  have s8 : ∀ y : Int64, ((y.toUInt64 >>> ((8 : Int32).toInt64.toUInt64 &&& Int64.toUInt64 63)).toInt64).toBitVec.toNat = y.toBitVec.toNat / 256 := fun y => n_shr y (k := 8) (by omega) (by decide)
  have s16 : ∀ y : Int64, ((y.toUInt64 >>> ((16 : Int32).toInt64.toUInt64 &&& Int64.toUInt64 63)).toInt64).toBitVec.toNat = y.toBitVec.toNat / 65536 := fun y => n_shr y (k := 16) (by omega) (by decide)
  have s32 : ∀ y : Int64, ((y.toUInt64 >>> ((32 : Int32).toInt64.toUInt64 &&& Int64.toUInt64 63)).toInt64).toBitVec.toNat = y.toBitVec.toNat / 4294967296 := fun y => n_shr y (k := 32) (by omega) (by decide)
  generalize h1 : x - ((x.toUInt64 >>> ((1 : Int32).toInt64.toUInt64 &&& Int64.toUInt64 63)).toInt64 &&& (6148914691236517205 : Int64)) = Y1
  have k1 : Y1.toBitVec.toNat = y1 := by
    rw [← h1, n_sub (by rw [n_and, s1, c1]; exact l1), n_and, s1, c1, e1]
  rw [bb_lt]
  generalize h2 : (Y1 &&& (3689348814741910323 : Int64)) + ((Y1.toUInt64 >>> ((2 : Int32).toInt64.toUInt64 &&& Int64.toUInt64 63)).toInt64 &&& (3689348814741910323 : Int64)) = Y2
  have k2 : Y2.toBitVec.toNat = y2 := by
    rw [← h2, n_add (by rw [n_and, n_and, s2, c2, k1, ← e2]; exact l2), n_and, n_and, s2, c2, k1, e2]
  rw [bb_lt]
  generalize h3 : (Y2 + (Y2.toUInt64 >>> ((4 : Int32).toInt64.toUInt64 &&& Int64.toUInt64 63)).toInt64) &&& (1085102592571150095 : Int64) = Y3
  have k3 : Y3.toBitVec.toNat = dgt pc3 8 x.toBitVec.toNat := by
    rw [← h3, n_and, n_add (by rw [s4, k2]; exact l3), s4, k2, c3, e3]
  rw [bb_lt]
  generalize h4 : Y3 + (Y3.toUInt64 >>> ((8 : Int32).toInt64.toUInt64 &&& Int64.toUInt64 63)).toInt64 = Y4
  have k4 : Y4.toBitVec.toNat = y4 := by
    rw [← h4, n_add (by rw [s8, k3, ← e4]; exact l4), s8, k3, e4]
  rw [bb_lt]
  generalize h5 : Y4 + (Y4.toUInt64 >>> ((16 : Int32).toInt64.toUInt64 &&& Int64.toUInt64 63)).toInt64 = Y5
  have k5 : Y5.toBitVec.toNat = y5 := by
    rw [← h5, n_add (by rw [s16, k4, ← e5]; exact l5), s16, k4, e5]
  rw [bb_lt]
  generalize h6 : Y5 + (Y5.toUInt64 >>> ((32 : Int32).toInt64.toUInt64 &&& Int64.toUInt64 63)).toInt64 = Y6
  have k6 : Y6.toBitVec.toNat = y6 := by
    rw [← h6, n_add (by rw [s32, k5, ← e6]; exact l6), s32, k5, e6]
  rw [bb_lt]
  have er2 : cntN (lb x) 64 = y6 % 128 := er.symm
  rw [er2, ← k6]
  congr 1
  rw [← Int32.toBitVec_inj, Int32.toBitVec_and]
  apply BitVec.eq_of_toNat_eq
  rw [BitVec.toNat_and]
  have a1 : Y6.toInt32.toBitVec.toNat = Y6.toBitVec.toNat % 2 ^ 32 := by rw [Int64.toBitVec_toInt32, BitVec.signExtend_eq_setWidth_of_le _ (by decide), BitVec.toNat_setWidth]
  have a2 : (127 : Int32).toBitVec.toNat = 2 ^ 7 - 1 := by decide
  have a3 : (nI (Y6.toBitVec.toNat % 128)).toBitVec.toNat = (Y6.toBitVec.toNat % 128) % 2 ^ 32 := rfl
  rw [a1, a2, a3, Nat.and_two_pow_sub_one_eq_mod]
  omega
