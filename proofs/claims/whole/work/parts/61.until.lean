/-! ===== out, caught, tax, meet ===== -/
theorem ff_eq {p : Nat → Bool} {n j : Nat} (hj : j < n) (h : p j = true) (hb : ∀ i, i < j → p i = false) : fa_first p n = j := by
  rcases Nat.lt_trichotomy (fa_first p n) j with q | q | q
  · have := fa_first_yes p n (by omega)
    rw [hb _ q] at this
    cases this
  · exact q
  · have := fa_first_no p n j q
    rw [h] at this
    cases this
theorem ff_none {p : Nat → Bool} {n : Nat} (hb : ∀ i, i < n → p i = false) : fa_first p n = n := by
  have h := fa_first_le p n
  rcases Nat.lt_or_ge (fa_first p n) n with q | q
  · have := fa_first_yes p n q
    rw [hb _ q] at this
    cases this
  · omega
theorem ff_cong {p q : Nat → Bool} {n : Nat} (h : ∀ i, i < n → p i = q i) : fa_first p n = fa_first q n := by
  rcases Nat.lt_or_ge (fa_first q n) n with e | e
  · exact ff_eq e ((h _ e).trans (fa_first_yes q n e)) (fun i hi => (h i (by omega)).trans (fa_first_no q n i hi))
  · have e2 : fa_first q n = n := by have := fa_first_le q n; omega
    rw [e2]
    exact ff_none (fun i hi => (h i hi).trans (fa_first_no q n i (by omega)))
section UNTIL
variable {k a w r : Nat} {qf : Nat → Nat} {cur : Nat → Int32} {x : Int64} {sn : Nat → Bool}
theorem passN (hk : k < 7) (ha : a < 48 ∨ a = 100 ∨ a = 101) (hw : w < 2) (hr : r ≤ 99) (hq : ∀ c, c < 48 → cur c = nI (qf c) ∧ qf c < 5) (hs : ∀ c, c < 48 → lb x c = sn c) (i : Nat) :
    uX4_pass x (nI k) (nI (pan k w qf sn a i)) (nI w) (nI (pwn k w qf sn a r i)) cur = some (nI (pan k w qf sn a (i + 1)), nI (pwn k w qf sn a r (i + 1))) := by
  rw [pass4 hk (pan_ok hw ha i) hw (pwn_ok hr i) hq x]
  have e5 : pa k (pan k w qf sn a i) w (qf (pan k w qf sn a i)) (lb x) = pan k w qf sn a (i + 1) := by
    show _ = pa _ _ _ _ _
    unfold pa
    split
    · rename_i h
      rw [tg_cong h hw hs]
    · rfl
  rw [e5]
  rfl
theorem isInP {a : Nat} (ha : a < 48 ∨ a = 100 ∨ a = 101) : uX4_isIn (nI a) = some (if a < 48 then 1 else 0) := by
  by_cases h : a < 48
  · rw [in4 h, if_pos h]
  · rw [out4 (by omega), if_neg h]
theorem isSeenP {a : Nat} (ha : a < 48 ∨ a = 100 ∨ a = 101) (hs : ∀ c, c < 48 → lb x c = sn c) : uX4_isSeen x (nI a) = some (if (decide (a < 48) && sn a) then 1 else 0) := by
  unfold uX4_isSeen
  rw [isInP ha]
  by_cases h : a < 48
  · simp only [if_pos h, has0 x (show a < 64 by omega), hs a h, bb_b0_s, bb_b1_s, bb_b2_s, bb_b3_s, bb_b4_s, bb_b5_s, bb_b6_s, bb_b7_s, bb_b8_s, bb_b9_s, bb_b10_s, bb_b11_s, bb_b12_s, bb_b13_s, bb_b14_s, bb_b15_s, bb_b16_s, e10, e00, e11, if_true, if_false]
    cases e : sn a <;> simp [h]
  · simp [if_neg h, bb_b1_s, h]
theorem tillOut {m nn : Nat} (hn : m + 1 < nn) (hm : m ≤ 1000) (hk : k < 7) (ha : a < 48 ∨ a = 100 ∨ a = 101) (hw : w < 2) (hr : r ≤ 99) (hq : ∀ c, c < 48 → cur c = nI (qf c) ∧ qf c < 5) (hs : ∀ c, c < 48 → lb x c = sn c) :
    ∃ u v, uX4_minutesTillOut nn x (nI m) (nI k) (nI a) (nI w) (nI r) cur = some (if fa_first (fun n => !decide (pan k w qf sn a n < 48)) (m + 1) ≤ m then nI (fa_first (fun n => !decide (pan k w qf sn a n < 48)) (m + 1)) else -1, u, v) := by
  generalize hT : fa_first (fun n => !decide (pan k w qf sn a n < 48)) (m + 1) = T
  have hle : T ≤ m + 1 := by rw [← hT]; exact fa_first_le _ _
  unfold uX4_minutesTillOut
  refine ⟨nI (pan k w qf sn a T), nI (pwn k w qf sn a r T), ?_⟩
  refine for3 (F1 := fun i => nI i) (F2 := fun i => nI (pan k w qf sn a i)) (F3 := fun i => nI (pwn k w qf sn a r i)) (N := T) (fun rec2 => ?_) (fun rec2 i hi => ?_) nn (by omega)
  · unfold uX4_minutesTillOut_s3
    by_cases h : T ≤ m
    · have hy := fa_first_yes (fun n => !decide (pan k w qf sn a n < 48)) (m + 1) (by omega)
      rw [hT] at hy
      have hy2 : ¬ pan k w qf sn a T < 48 := by simpa using hy
      rw [if_neg (nI_nlt h (by omega)), isInP (pan_ok hw ha T), if_neg hy2, if_pos h]
      simp only [bb_b0_s, bb_b1_s, bb_b2_s, bb_b3_s, bb_b4_s, bb_b5_s, bb_b6_s, bb_b7_s, bb_b8_s, bb_b9_s, bb_b10_s, bb_b11_s, bb_b12_s, bb_b13_s, bb_b14_s, bb_b15_s, bb_b16_s, e10, e00, e11, if_true, if_false]
    · rw [if_pos (nI_lt (by omega) (by omega)), if_neg h]
  · unfold uX4_minutesTillOut_s3
    have hno := fa_first_no (fun n => !decide (pan k w qf sn a n < 48)) (m + 1) i (by omega)
    have hno2 : pan k w qf sn a i < 48 := by simpa using hno
    rw [if_neg (nI_nlt (by omega) (by omega)), isInP (pan_ok hw ha i), if_pos hno2]
    simp only [bb_b0_s, bb_b1_s, bb_b2_s, bb_b3_s, bb_b4_s, bb_b5_s, bb_b6_s, bb_b7_s, bb_b8_s, bb_b9_s, bb_b10_s, bb_b11_s, bb_b12_s, bb_b13_s, bb_b14_s, bb_b15_s, bb_b16_s, e10, e00, e11, if_true, if_false, passN hk ha hw hr hq hs i, p1_]
theorem pan_stay {i : Nat} (h : ¬ pan k w qf sn a i < 48) : pan k w qf sn a (i + 1) = pan k w qf sn a i := by
  show pa _ _ _ _ _ = _
  unfold pa
  rw [if_neg h]
theorem pan_gone {i j : Nat} (hij : i ≤ j) (h : ¬ pan k w qf sn a i < 48) : ¬ pan k w qf sn a j < 48 := by
  obtain ⟨d, rfl⟩ : ∃ d, j = i + d := ⟨j - i, by omega⟩
  induction d with
  | zero => exact h
  | succ d ih =>
    have := ih (by omega)
    rw [show i + (d + 1) = i + d + 1 by omega, pan_stay this]
    exact this
theorem tillSeen {m nn : Nat} (hn : m + 1 < nn) (hm : m ≤ 1000) (hk : k < 7) (ha : a < 48 ∨ a = 100 ∨ a = 101) (hw : w < 2) (hr : r ≤ 99) (hq : ∀ c, c < 48 → cur c = nI (qf c) ∧ qf c < 5) (hs : ∀ c, c < 48 → lb x c = sn c) :
    ∃ u v, uX4_minutesTillSeen nn x (nI m) (nI k) (nI a) (nI w) (nI r) cur = some (if fa_first (fun n => decide (pan k w qf sn a n < 48) && sn (pan k w qf sn a n)) (m + 1) ≤ m then nI (fa_first (fun n => decide (pan k w qf sn a n < 48) && sn (pan k w qf sn a n)) (m + 1)) else -1, u, v) := by
  generalize hT : fa_first (fun n => !decide (pan k w qf sn a n < 48) || sn (pan k w qf sn a n)) (m + 1) = T
  have hle : T ≤ m + 1 := by rw [← hT]; exact fa_first_le _ _
  have before : ∀ i, i < T → pan k w qf sn a i < 48 ∧ sn (pan k w qf sn a i) = false := fun i hi => by
    have h := fa_first_no (fun n => !decide (pan k w qf sn a n < 48) || sn (pan k w qf sn a n)) (m + 1) i (by omega)
    simpa using h
  unfold uX4_minutesTillSeen
  refine ⟨nI (pan k w qf sn a T), nI (pwn k w qf sn a r T), ?_⟩
  refine for3 (F1 := fun i => nI i) (F2 := fun i => nI (pan k w qf sn a i)) (F3 := fun i => nI (pwn k w qf sn a r i)) (N := T) (fun rec2 => ?_) (fun rec2 i hi => ?_) nn (by omega)
  · unfold uX4_minutesTillSeen_s3
    by_cases h : T ≤ m
    · rw [if_neg (nI_nlt h (by omega)), isInP (pan_ok hw ha T)]
      by_cases hin : pan k w qf sn a T < 48
      · have hy := fa_first_yes (fun n => !decide (pan k w qf sn a n < 48) || sn (pan k w qf sn a n)) (m + 1) (by omega)
        rw [hT] at hy
        have hsn : sn (pan k w qf sn a T) = true := by simpa [hin] using hy
        have e : fa_first (fun n => decide (pan k w qf sn a n < 48) && sn (pan k w qf sn a n)) (m + 1) = T := ff_eq (by omega) (by simp [hin, hsn]) (fun i hi => by simp [(before i hi).2])
        rw [e, if_pos hin, if_pos h]
        simp only [isSeenP (pan_ok hw ha T) hs, bb_b0_s, bb_b1_s, bb_b2_s, bb_b3_s, bb_b4_s, bb_b5_s, bb_b6_s, bb_b7_s, bb_b8_s, bb_b9_s, bb_b10_s, bb_b11_s, bb_b12_s, bb_b13_s, bb_b14_s, bb_b15_s, bb_b16_s, e10, e00, e11, if_true, if_false, hsn, hin, decide_true, Bool.and_self, if_true]
      · have e : fa_first (fun n => decide (pan k w qf sn a n < 48) && sn (pan k w qf sn a n)) (m + 1) = m + 1 := ff_none (fun i hi => by
          rcases Nat.lt_or_ge i T with q | q
          · simp [(before i q).2]
          · simp [pan_gone q hin])
        rw [e, if_neg hin, if_neg (by omega)]
        simp only [bb_b0_s, bb_b1_s, bb_b2_s, bb_b3_s, bb_b4_s, bb_b5_s, bb_b6_s, bb_b7_s, bb_b8_s, bb_b9_s, bb_b10_s, bb_b11_s, bb_b12_s, bb_b13_s, bb_b14_s, bb_b15_s, bb_b16_s, e10, e00, e11, if_true, if_false]
    · have e : fa_first (fun n => decide (pan k w qf sn a n < 48) && sn (pan k w qf sn a n)) (m + 1) = m + 1 := ff_none (fun i hi => by simp [(before i (by omega)).2])
      rw [if_pos (nI_lt (by omega) (by omega)), e, if_neg (by omega)]
  · unfold uX4_minutesTillSeen_s3
    obtain ⟨b1, b2⟩ := before i hi
    rw [if_neg (nI_nlt (by omega) (by omega)), isInP (pan_ok hw ha i), if_pos b1]
    simp only [bb_b0_s, bb_b1_s, bb_b2_s, bb_b3_s, bb_b4_s, bb_b5_s, bb_b6_s, bb_b7_s, bb_b8_s, bb_b9_s, bb_b10_s, bb_b11_s, bb_b12_s, bb_b13_s, bb_b14_s, bb_b15_s, bb_b16_s, e10, e00, e11, if_true, if_false, isSeenP (pan_ok hw ha i) hs, b2, Bool.and_false, passN hk ha hw hr hq hs i, p1_]
    rfl
end UNTIL
section UNTIL8
variable {s ga st cu ki at_ wi wr ke sp : Nat → Int32} {mi ba si ev z : Int32}
theorem until8 {nn : Nat} (hn : 155 < nn) (hV : IV s) {P : Nat → Bool} {bb wh oth : Int32} (hP : ∀ n, n ≤ 100 → uX8_isSo nn bb wh oth (ami s n) = some (if P n then 1 else 0)) (as : Nat → Int32) :
    uX8_until nn bb wh oth as s = some (nI (fa_first P 101), cp155 s as, cp155 (cp155 s as) (ami s (fa_first P 101))) := by
  have hle := fa_first_le P 101
  unfold uX8_until
  rw [lends8 hn, bb_b1_s, bb_cut_s]
  refine for2 (F1 := fun i => nI i) (F2 := fun i => ami s i) (N := fa_first P 101) (fun rec2 => ?_) (fun rec2 i hi => ?_) nn (by omega)
  · unfold uX8_until_s7
    by_cases h : fa_first P 101 ≤ 100
    · have hy := fa_first_yes P 101 (by omega)
      rw [if_neg (show ¬ (100 : Int32) < nI (fa_first P 101) from by rw [i_lt, show ((100 : Int32).toInt) = 100 from by decide, nI_toInt (by omega)]; omega), hP _ h, hy]
      simp only [bb_b0_s, bb_b1_s, bb_b2_s, bb_b3_s, bb_b4_s, bb_b5_s, bb_b6_s, bb_b7_s, bb_b8_s, bb_b9_s, bb_b10_s, bb_b11_s, bb_b12_s, bb_b13_s, bb_b14_s, bb_b15_s, bb_b16_s, e10, e00, e11, if_true, if_false, laysBack8 hn, if_true]
    · rw [if_pos (show (100 : Int32) < nI (fa_first P 101) from nI_lt (a := 100) (by omega) (by omega))]
      simp only [bb_b0_s, bb_b1_s, bb_b2_s, bb_b3_s, bb_b4_s, bb_b5_s, bb_b6_s, bb_b7_s, bb_b8_s, bb_b9_s, bb_b10_s, bb_b11_s, bb_b12_s, bb_b13_s, bb_b14_s, bb_b15_s, bb_b16_s, laysBack8 hn]
  · unfold uX8_until_s7
    have hno := fa_first_no P 101 i hi
    rw [if_neg (show ¬ (100 : Int32) < nI i from by rw [i_lt, show ((100 : Int32).toInt) = 100 from by decide, nI_toInt (by omega)]; omega), hP i (by omega), hno]
    simp only [bb_b0_s, bb_b1_s, bb_b2_s, bb_b3_s, bb_b4_s, bb_b5_s, bb_b6_s, bb_b7_s, bb_b8_s, bb_b9_s, bb_b10_s, bb_b11_s, bb_b12_s, bb_b13_s, bb_b14_s, bb_b15_s, bb_b16_s, e10, e00, e11, if_true, if_false, aMinute8 (show 8 < nn by omega) (hV.ami i), p1_]
    rfl
theorem orNone8 {T : Nat} (hT : T ≤ 101) (fo : Nat → Int32) : uX8_orNone (nI T) fo = if T ≤ 100 then some (nI T, fo) else some (-1000004, nfd 3 fo) := by
  unfold uX8_orNone
  have e : ((100 : Int32) < nI T) = (100 < T) := by rw [i_lt, show ((100 : Int32).toInt) = 100 from by decide, nI_toInt (by omega)]; exact propext (by omega)
  simp only [e, find78, fnd3, bb_b0_s, bb_b1_s, bb_b2_s, bb_b3_s, bb_b4_s, bb_b5_s, bb_b6_s, bb_b7_s, bb_b8_s, bb_b9_s, bb_b10_s, bb_b11_s, bb_b12_s, bb_b13_s, bb_b14_s, bb_b15_s, bb_b16_s]
  by_cases h : T ≤ 100
  · rw [if_neg (by omega), if_pos h]
  · rw [if_pos (by omega), if_neg h]
theorem isInN (hV : IV s) {b : Nat} (hb : b < nO s) (n : Nat) : uX8_isIn (nI b) (ami s n) = some (if pan (kO s b) (wO s b) (qO s) (sc8 s) (aO s b) n < 48 then 1 else 0) := by
  have := hV.n.2
  rw [isIn8 (by omega) (hV.ami n), (ami_at hV hb n).1]
theorem so_out {nn : Nat} (hV : IV s) {b : Nat} (hb : b < nO s) (o : Int32) (n : Nat) : uX8_isSo nn (nI b) 0 o (ami s n) = some (if (!decide (pan (kO s b) (wO s b) (qO s) (sc8 s) (aO s b) n < 48)) then 1 else 0) := by
  unfold uX8_isSo
  simp only [e00, if_true, isInN hV hb n, bb_b0_s, bb_b1_s, bb_b2_s, bb_b3_s, bb_b4_s, bb_b5_s, bb_b6_s, bb_b7_s, bb_b8_s, bb_b9_s, bb_b10_s, bb_b11_s, bb_b12_s, bb_b13_s, bb_b14_s, bb_b15_s, bb_b16_s]
  by_cases h : pan (kO s b) (wO s b) (qO s) (sc8 s) (aO s b) n < 48
  · simp [h]
  · simp [h]
theorem so_caught {nn : Nat} (hn : 4 < nn) (hV : IV s) {b : Nat} (hb : b < nO s) (o : Int32) (n : Nat) : uX8_isSo nn (nI b) 1 o (ami s n) = some (if (decide (pan (kO s b) (wO s b) (qO s) (sc8 s) (aO s b) n < 48) && sc8 s (pan (kO s b) (wO s b) (qO s) (sc8 s) (aO s b) n)) then 1 else 0) := by
  have hle := hV.n.2
  have ea := ((hV.ami n).a (show b < 8 by omega)).1
  rw [(ami_at hV hb n).1] at ea
  unfold uX8_isSo uX8_isCaught
  simp only [e10, e11, if_true, if_false, isInN hV hb n, its_a (show b < 8 by omega), ea, bb_b0_s, bb_b1_s, bb_b2_s, bb_b3_s, bb_b4_s, bb_b5_s, bb_b6_s, bb_b7_s, bb_b8_s, bb_b9_s, bb_b10_s, bb_b11_s, bb_b12_s, bb_b13_s, bb_b14_s, bb_b15_s, bb_b16_s]
  by_cases h : pan (kO s b) (wO s b) (qO s) (sc8 s) (aO s b) n < 48
  · simp only [if_pos h, e10, e00, e11, if_true, if_false, isSeen8 hn h, sc8_ami s h n, bb_b0_s, bb_b1_s, bb_b2_s, bb_b3_s, bb_b4_s, bb_b5_s, bb_b6_s, bb_b7_s, bb_b8_s, bb_b9_s, bb_b10_s, bb_b11_s, bb_b12_s, bb_b13_s, bb_b14_s, bb_b15_s, bb_b16_s]
    cases e : sc8 s (pan (kO s b) (wO s b) (qO s) (sc8 s) (aO s b) n) <;> simp [h, bb_b1_s]
  · simp [h, bb_b1_s]
theorem op_out {nn : Nat} (hn : 155 < nn) (hR : RW s ga st cu ki at_ wi wr ke sp mi ba si ev z) (hI : IW s) (fo as : Nat → Int32) (p1 k0 a0 w0 r0 : Int32) :
    ∃ r fo2 k1 a1 w1 r1 as2 s2, uX7_out nn p1 fo k0 a0 w0 r0 si ba at_ cu ga ki st wi wr = some (r, fo2, k1, a1, w1, r1) ∧ uX8_out nn p1 as fo s = some (r, as2, fo2, s2) ∧ RW s2 ga st cu ki at_ wi wr ke sp mi ba si ev z ∧ IW s2 := by
  have hV := hI.v
  obtain ⟨en, hle⟩ := hV.n
  have eb : ba = nI (nO s) := hR.ba_.symm.trans en
  unfold uX7_out uX8_out
  simp only [bather7, bather8, hR.ba_, find78, fnd0, fnd3, seenCells6 (show 48 < nn by omega), bb_b0_s, bb_b1_s, bb_b2_s, bb_b3_s, bb_b4_s, bb_b5_s, bb_b6_s, bb_b7_s, bb_b8_s, bb_b9_s, bb_b10_s, bb_b11_s, bb_b12_s, bb_b13_s, bb_b14_s, bb_b15_s, bb_b16_s]
  rcases win p1 0 (ba - 1) with ⟨e1, h1, h2⟩ | ⟨e1, -⟩
  · rw [eb] at h2
    obtain ⟨b, hb, rfl⟩ := bat hle h1 h2
    have hb8 : b < 8 := by omega
    obtain ⟨c1, c2, c3, c4⟩ := hR.k7 hV hb8
    obtain ⟨u, v, e2⟩ := tillOut (m := 100) (nn := nn) (x := seenX si ga st) (sn := sc8 s) (cur := cu) (by omega) (by omega) (hV.k hb8).2 (hV.a hb8).2 (hV.w_ hb8).2 (hV.r hb8).2 (hR.q7 hV) (fun c hc => lb78 hR hc)
    have e3 := until8 hn hV (fun n _ => so_out hV hb 0 n) as
    have e2 : uX4_minutesTillOut nn (seenX si ga st) 100 (nI (kO s b)) (nI (aO s b)) (nI (wO s b)) (nI (rO s b)) cu = some (if fa_first (fun n => !decide (pan (kO s b) (wO s b) (qO s) (sc8 s) (aO s b) n < 48)) 101 ≤ 100 then nI (fa_first (fun n => !decide (pan (kO s b) (wO s b) (qO s) (sc8 s) (aO s b) n < 48)) 101) else -1, u, v) := e2
    have hT := fa_first_le (fun n => !decide (pan (kO s b) (wO s b) (qO s) (sc8 s) (aO s b) n < 48)) 101
    generalize fa_first (fun n => !decide (pan (kO s b) (wO s b) (qO s) (sc8 s) (aO s b) n < 48)) 101 = T at e2 e3 hT
    simp only [e1, bb_b0_s, bb_b1_s, bb_b2_s, bb_b3_s, bb_b4_s, bb_b5_s, bb_b6_s, bb_b7_s, bb_b8_s, bb_b9_s, bb_b10_s, bb_b11_s, bb_b12_s, bb_b13_s, bb_b14_s, bb_b15_s, bb_b16_s, e10, e00, e11, if_true, if_false, take4 hb8, c1, c2, c3, c4, e2, e3, orNone8 hT]
    by_cases h : T ≤ 100
    · simp only [if_pos h, if_pos (show (0 : Int32) ≤ nI T from nI_pos' (by omega)), bb_b0_s, bb_b1_s, bb_b2_s, bb_b3_s, bb_b4_s, bb_b5_s, bb_b6_s, bb_b7_s, bb_b8_s, bb_b9_s, bb_b10_s, bb_b11_s, bb_b12_s, bb_b13_s, bb_b14_s, bb_b15_s, bb_b16_s]
      exact ⟨_, _, _, _, _, _, _, _, rfl, rfl, hR.back _ _, hI.back _ _⟩
    · simp only [if_neg h, if_neg (show ¬ (0 : Int32) ≤ -1 by decide), bb_b0_s, bb_b1_s, bb_b2_s, bb_b3_s, bb_b4_s, bb_b5_s, bb_b6_s, bb_b7_s, bb_b8_s, bb_b9_s, bb_b10_s, bb_b11_s, bb_b12_s, bb_b13_s, bb_b14_s, bb_b15_s, bb_b16_s]
      exact ⟨_, _, _, _, _, _, _, _, rfl, rfl, hR.back _ _, hI.back _ _⟩
  · simp only [e1, bb_b0_s, bb_b1_s, bb_b2_s, bb_b3_s, bb_b4_s, bb_b5_s, bb_b6_s, bb_b7_s, bb_b8_s, bb_b9_s, bb_b10_s, bb_b11_s, bb_b12_s, bb_b13_s, bb_b14_s, bb_b15_s, bb_b16_s, e10, e00, e11, if_true, if_false]
    exact ⟨_, _, _, _, _, _, _, _, rfl, rfl, hR, hI⟩
theorem op_caught {nn : Nat} (hn : 155 < nn) (hR : RW s ga st cu ki at_ wi wr ke sp mi ba si ev z) (hI : IW s) (fo as : Nat → Int32) (p1 k0 a0 w0 r0 : Int32) :
    ∃ r fo2 k1 a1 w1 r1 as2 s2, uX7_caught nn p1 fo k0 a0 w0 r0 si ba at_ cu ga ki st wi wr = some (r, fo2, k1, a1, w1, r1) ∧ uX8_caught nn p1 as fo s = some (r, as2, fo2, s2) ∧ RW s2 ga st cu ki at_ wi wr ke sp mi ba si ev z ∧ IW s2 := by
  have hV := hI.v
  obtain ⟨en, hle⟩ := hV.n
  have eb : ba = nI (nO s) := hR.ba_.symm.trans en
  unfold uX7_caught uX8_caught
  simp only [bather7, bather8, hR.ba_, find78, fnd0, fnd3, seenCells6 (show 48 < nn by omega), bb_b0_s, bb_b1_s, bb_b2_s, bb_b3_s, bb_b4_s, bb_b5_s, bb_b6_s, bb_b7_s, bb_b8_s, bb_b9_s, bb_b10_s, bb_b11_s, bb_b12_s, bb_b13_s, bb_b14_s, bb_b15_s, bb_b16_s]
  rcases win p1 0 (ba - 1) with ⟨e1, h1, h2⟩ | ⟨e1, -⟩
  · rw [eb] at h2
    obtain ⟨b, hb, rfl⟩ := bat hle h1 h2
    have hb8 : b < 8 := by omega
    obtain ⟨c1, c2, c3, c4⟩ := hR.k7 hV hb8
    obtain ⟨u, v, e2⟩ := tillSeen (m := 100) (nn := nn) (x := seenX si ga st) (sn := sc8 s) (cur := cu) (by omega) (by omega) (hV.k hb8).2 (hV.a hb8).2 (hV.w_ hb8).2 (hV.r hb8).2 (hR.q7 hV) (fun c hc => lb78 hR hc)
    have e3 := until8 hn hV (fun n _ => so_caught (show 4 < nn by omega) hV hb 0 n) as
    have e2 : uX4_minutesTillSeen nn (seenX si ga st) 100 (nI (kO s b)) (nI (aO s b)) (nI (wO s b)) (nI (rO s b)) cu = some (if fa_first (fun n => decide (pan (kO s b) (wO s b) (qO s) (sc8 s) (aO s b) n < 48) && sc8 s (pan (kO s b) (wO s b) (qO s) (sc8 s) (aO s b) n)) 101 ≤ 100 then nI (fa_first (fun n => decide (pan (kO s b) (wO s b) (qO s) (sc8 s) (aO s b) n < 48) && sc8 s (pan (kO s b) (wO s b) (qO s) (sc8 s) (aO s b) n)) 101) else -1, u, v) := e2
    have hT := fa_first_le (fun n => decide (pan (kO s b) (wO s b) (qO s) (sc8 s) (aO s b) n < 48) && sc8 s (pan (kO s b) (wO s b) (qO s) (sc8 s) (aO s b) n)) 101
    generalize fa_first (fun n => decide (pan (kO s b) (wO s b) (qO s) (sc8 s) (aO s b) n < 48) && sc8 s (pan (kO s b) (wO s b) (qO s) (sc8 s) (aO s b) n)) 101 = T at e2 e3 hT
    simp only [e1, bb_b0_s, bb_b1_s, bb_b2_s, bb_b3_s, bb_b4_s, bb_b5_s, bb_b6_s, bb_b7_s, bb_b8_s, bb_b9_s, bb_b10_s, bb_b11_s, bb_b12_s, bb_b13_s, bb_b14_s, bb_b15_s, bb_b16_s, e10, e00, e11, if_true, if_false, take4 hb8, c1, c2, c3, c4, e2, e3, orNone8 hT]
    by_cases h : T ≤ 100
    · simp only [if_pos h, if_pos (show (0 : Int32) ≤ nI T from nI_pos' (by omega)), bb_b0_s, bb_b1_s, bb_b2_s, bb_b3_s, bb_b4_s, bb_b5_s, bb_b6_s, bb_b7_s, bb_b8_s, bb_b9_s, bb_b10_s, bb_b11_s, bb_b12_s, bb_b13_s, bb_b14_s, bb_b15_s, bb_b16_s]
      exact ⟨_, _, _, _, _, _, _, _, rfl, rfl, hR.back _ _, hI.back _ _⟩
    · simp only [if_neg h, if_neg (show ¬ (0 : Int32) ≤ -1 by decide), bb_b0_s, bb_b1_s, bb_b2_s, bb_b3_s, bb_b4_s, bb_b5_s, bb_b6_s, bb_b7_s, bb_b8_s, bb_b9_s, bb_b10_s, bb_b11_s, bb_b12_s, bb_b13_s, bb_b14_s, bb_b15_s, bb_b16_s]
      exact ⟨_, _, _, _, _, _, _, _, rfl, rfl, hR.back _ _, hI.back _ _⟩
  · simp only [e1, bb_b0_s, bb_b1_s, bb_b2_s, bb_b3_s, bb_b4_s, bb_b5_s, bb_b6_s, bb_b7_s, bb_b8_s, bb_b9_s, bb_b10_s, bb_b11_s, bb_b12_s, bb_b13_s, bb_b14_s, bb_b15_s, bb_b16_s, e10, e00, e11, if_true, if_false]
    exact ⟨_, _, _, _, _, _, _, _, rfl, rfl, hR, hI⟩
end UNTIL8
