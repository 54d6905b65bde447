/-! ===== kindFor, sightFor, trap ===== -/
def bst (T : Nat → Nat) : Nat → Nat
  | 0 => 101
  | n + 1 => if T n < bst T n then T n else bst T n
def bsi (T : Nat → Nat) : Nat → Int32
  | 0 => -1
  | n + 1 => if T n < bst T n then nI n else bsi T n
theorem bst_le (T : Nat → Nat) : ∀ n, bst T n ≤ 101
  | 0 => Nat.le_refl _
  | n + 1 => by
    have ih := bst_le T n
    unfold bst
    split <;> omega
theorem bsi_zero {T : Nat → Nat} {n : Nat} (h : bst T n = 0) : ∀ d, bst T (n + d) = 0 ∧ bsi T (n + d) = bsi T n
  | 0 => ⟨h, rfl⟩
  | d + 1 => by
    have ih := bsi_zero h d
    constructor
    · show (if T (n + d) < bst T (n + d) then T (n + d) else bst T (n + d)) = 0
      rw [ih.1, if_neg (by omega)]
    · show (if T (n + d) < bst T (n + d) then nI (n + d) else bsi T (n + d)) = bsi T n
      rw [ih.1, if_neg (by omega), ih.2]
theorem ff_min (p : Nat → Bool) {m n : Nat} (h : m ≤ n) : fa_first p m = min m (fa_first p n) := by
  rcases Nat.lt_or_ge (fa_first p n) m with q | q
  · rw [Nat.min_eq_right (by omega)]
    exact ff_eq q (fa_first_yes p n (by omega)) (fun i hi => fa_first_no p n i hi)
  · rw [Nat.min_eq_left q]
    exact ff_none (fun i hi => fa_first_no p n i (by omega))
theorem nI_m1 (m : Nat) : nI (m + 1) - 1 = nI m := by
  rw [← p1_]
  exact Int32.add_sub_cancel (nI m) 1
section TILL
variable {k a w r : Nat} {qf : Nat → Nat} {cur : Nat → Int32} {x : Int64} {sn : Nat → Bool}
theorem tillOutF {f nn : Nat} (hn : f < nn) (hf : f ≤ 101) (hk : k < 7) (ha : a < 48 ∨ a = 100 ∨ a = 101) (hw : w < 2) (hr : r ≤ 99) (hq : ∀ c, c < 48 → cur c = nI (qf c) ∧ qf c < 5) (hs : ∀ c, c < 48 → lb x c = sn c) :
    ∃ u v, uX4_minutesTillOut nn x (nI f - 1) (nI k) (nI a) (nI w) (nI r) cur = some (if fa_first (fun n => !decide (pan k w qf sn a n < 48)) 101 < f then nI (fa_first (fun n => !decide (pan k w qf sn a n < 48)) 101) else -1, u, v) := by
  cases f with
  | zero =>
    refine ⟨nI a, nI r, ?_⟩
    rw [if_neg (by omega)]
    unfold uX4_minutesTillOut
    obtain ⟨m, rfl⟩ : ∃ m, nn = m + 1 := ⟨nn - 1, by omega⟩
    rfl
  | succ m =>
    obtain ⟨u, v, e⟩ := tillOut (m := m) (nn := nn) (x := x) (sn := sn) hn (by omega) hk ha hw hr hq hs
    refine ⟨u, v, ?_⟩
    rw [nI_m1, e, ff_min _ hf]
    by_cases h : fa_first (fun n => !decide (pan k w qf sn a n < 48)) 101 < m + 1
    · rw [if_pos (by omega), if_pos h, Nat.min_eq_right (by omega)]
    · rw [if_neg (by omega), if_neg h]
theorem tillSeenF {f nn : Nat} (hn : f < nn) (hf : f ≤ 101) (hk : k < 7) (ha : a < 48 ∨ a = 100 ∨ a = 101) (hw : w < 2) (hr : r ≤ 99) (hq : ∀ c, c < 48 → cur c = nI (qf c) ∧ qf c < 5) (hs : ∀ c, c < 48 → lb x c = sn c) :
    ∃ u v, uX4_minutesTillSeen nn x (nI f - 1) (nI k) (nI a) (nI w) (nI r) cur = some (if fa_first (fun n => decide (pan k w qf sn a n < 48) && sn (pan k w qf sn a n)) 101 < f then nI (fa_first (fun n => decide (pan k w qf sn a n < 48) && sn (pan k w qf sn a n)) 101) else -1, u, v) := by
  cases f with
  | zero =>
    refine ⟨nI a, nI r, ?_⟩
    rw [if_neg (by omega)]
    unfold uX4_minutesTillSeen
    obtain ⟨m, rfl⟩ : ∃ m, nn = m + 1 := ⟨nn - 1, by omega⟩
    rfl
  | succ m =>
    obtain ⟨u, v, e⟩ := tillSeen (m := m) (nn := nn) (x := x) (sn := sn) hn (by omega) hk ha hw hr hq hs
    refine ⟨u, v, ?_⟩
    rw [nI_m1, e, ff_min _ hf]
    by_cases h : fa_first (fun n => decide (pan k w qf sn a n < 48) && sn (pan k w qf sn a n)) 101 < m + 1
    · rw [if_pos (by omega), if_pos h, Nat.min_eq_right (by omega)]
    · rw [if_neg (by omega), if_neg h]
end TILL
section BEST
variable {s ga st cu ki at_ wi wr ke sp : Nat → Int32} {mi ba si ev z : Int32}
def tOut (k w : Nat) (q : Nat → Nat) (sn : Nat → Bool) (a : Nat) : Nat := fa_first (fun n => !decide (pan k w q sn a n < 48)) 101
def tSeen (k w : Nat) (q : Nat → Nat) (sn : Nat → Bool) (a : Nat) : Nat := fa_first (fun n => decide (pan k w q sn a n < 48) && sn (pan k w q sn a n)) 101
theorem tOut_le (k w : Nat) (q : Nat → Nat) (sn : Nat → Bool) (a : Nat) : tOut k w q sn a ≤ 101 := fa_first_le _ _
theorem tSeen_le (k w : Nat) (q : Nat → Nat) (sn : Nat → Bool) (a : Nat) : tSeen k w q sn a ≤ 101 := fa_first_le _ _
theorem tOut_cong {k a w : Nat} {q q2 : Nat → Nat} {sn sn2 : Nat → Bool} (hw : w < 2) (hq : ∀ c, c < 48 → q c = q2 c) (hs : ∀ c, c < 48 → sn c = sn2 c) : tOut k w q sn a = tOut k w q2 sn2 a := by
  unfold tOut
  exact ff_cong (fun i _ => by rw [pan_cong hw hq hs i])
theorem tSeen_cong {k a w : Nat} {q q2 : Nat → Nat} {sn sn2 : Nat → Bool} (hw : w < 2) (hq : ∀ c, c < 48 → q c = q2 c) (hs : ∀ c, c < 48 → sn c = sn2 c) : tSeen k w q sn a = tSeen k w q2 sn2 a := by
  unfold tSeen
  refine ff_cong (fun i _ => ?_)
  rw [pan_cong hw hq hs i]
  by_cases h : pan k w q2 sn2 a i < 48
  · rw [hs _ h]
  · simp [h]
theorem nI_lt_iff {a b : Nat} (ha : a < 2 ^ 31) (hb : b < 2 ^ 31) : (nI a < nI b) = (a < b) := propext (by rw [i_lt, nI_toInt ha, nI_toInt hb]; omega)
theorem nI_le_iff {a b : Nat} (ha : a < 2 ^ 31) (hb : b < 2 ^ 31) : (nI a ≤ nI b) = (a ≤ b) := propext (by rw [i_le, nI_toInt ha, nI_toInt hb]; omega)
theorem bsi_ok (T : Nat → Nat) : ∀ n, bsi T n = -1 ∨ ∃ j, j < n ∧ bsi T n = nI j
  | 0 => Or.inl rfl
  | n + 1 => by
    unfold bsi
    split
    · exact Or.inr ⟨n, by omega, rfl⟩
    · rcases bsi_ok T n with e | ⟨j, hj, e⟩
      · exact Or.inl e
      · exact Or.inr ⟨j, by omega, e⟩
theorem nI_nneg {m : Nat} (hm : m < 2 ^ 31) : ¬ nI m < (0 : Int32) := by
  rw [i_lt, nI_toInt hm, show ((0 : Int32).toInt) = 0 from by decide]; omega
/-- the bounds of a row in which one cell stands otherwise -/
theorem kO_eq {t : Nat → Int32} {b : Nat} (h : t (105 + 5 * b) = s (105 + 5 * b)) : kO t b = kO s b := by unfold kO; rw [h]
theorem aO_eq {t : Nat → Int32} {b : Nat} (h : t (106 + 5 * b) = s (106 + 5 * b)) : aO t b = aO s b := by unfold aO; rw [h]
theorem wO_eq {t : Nat → Int32} {b : Nat} (h : t (107 + 5 * b) = s (107 + 5 * b)) : wO t b = wO s b := by unfold wO; rw [h]
theorem qO_eq {t : Nat → Int32} {c : Nat} (h : t (57 + c) = s (57 + c)) : qO t c = qO s c := by unfold qO; rw [h]
theorem nO_eq {t : Nat → Int32} (h : t 1 = s 1) : nO t = nO s := by unfold nO; rw [h]
theorem untilOut {nn b : Nat} (hn : 155 < nn) {t : Nat → Int32} (hV : IV t) (hb : b < nO t) (as : Nat → Int32) : uX8_until nn (nI b) 0 0 as t = some (nI (tOut (kO t b) (wO t b) (qO t) (sc8 t) (aO t b)), cp155 t as, cp155 (cp155 t as) (ami t (tOut (kO t b) (wO t b) (qO t) (sc8 t) (aO t b)))) :=
  until8 hn hV (fun n _ => so_out hV hb 0 n) as
theorem untilSeen {nn b : Nat} (hn : 155 < nn) {t : Nat → Int32} (hV : IV t) (hb : b < nO t) (as : Nat → Int32) : uX8_until nn (nI b) 1 0 as t = some (nI (tSeen (kO t b) (wO t b) (qO t) (sc8 t) (aO t b)), cp155 t as, cp155 (cp155 t as) (ami t (tSeen (kO t b) (wO t b) (qO t) (sc8 t) (aO t b)))) :=
  until8 hn hV (fun n _ => so_caught (show 4 < nn by omega) hV hb 0 n) as
theorem op_kindFor {nn : Nat} (hn : 155 < nn) (hR : RW s ga st cu ki at_ wi wr ke sp mi ba si ev z) (hI : IW s) (fo as : Nat → Int32) (p1 k0 a0 w0 r0 : Int32) :
    ∃ r fo2 k1 a1 w1 r1 as2 s2, uX7_kindFor nn p1 fo k0 a0 w0 r0 si ba at_ cu ga ki st wi wr = some (r, fo2, k1, a1, w1, r1) ∧ uX8_kindFor nn p1 as fo s = some (r, as2, fo2, s2) ∧ RW s2 ga st cu ki at_ wi wr ke sp mi ba si ev z ∧ IW s2 := by
  have hV := hI.v
  obtain ⟨en, hle⟩ := hV.n
  have eb : ba = nI (nO s) := hR.ba_.symm.trans en
  unfold uX7_kindFor uX8_kindFor
  simp only [bather7, bather8, hR.ba_, find78, fnd0, fnd3, seenCells6 (show 48 < nn by omega), bb_cut_s, bb_b0_s, bb_b1_s, bb_b2_s, bb_b3_s, bb_b4_s, bb_b5_s, bb_b6_s, bb_b7_s, bb_b8_s, bb_b9_s, bb_b10_s, bb_b11_s, bb_b12_s, bb_b13_s, bb_b14_s, bb_b15_s, bb_b16_s]
  rcases win p1 0 (ba - 1) with ⟨e1, h1, h2⟩ | ⟨e1, -⟩
  · rw [eb] at h2
    obtain ⟨b, hb, rfl⟩ := bat hle h1 h2
    have hb8 : b < 8 := by omega
    obtain ⟨c1, c2, c3, c4⟩ := hR.k7 hV hb8
    simp only [e1, bb_b0_s, bb_b1_s, bb_b2_s, bb_b3_s, bb_b4_s, bb_b5_s, bb_b6_s, bb_b7_s, bb_b8_s, bb_b9_s, bb_b10_s, bb_b11_s, bb_b12_s, bb_b13_s, bb_b14_s, bb_b15_s, bb_b16_s, e10, e00, e11, if_true, if_false, its_k hb8, (hV.k hb8).1]
    generalize hT : (fun k => tOut k (wO s b) (qO s) (sc8 s) (aO s b)) = T
    have hT1 : ∀ k, T k = tOut k (wO s b) (qO s) (sc8 s) (aO s b) := fun k => by rw [← hT]
    have hTl : ∀ k, T k ≤ 101 := fun k => by rw [hT1]; exact tOut_le _ _ _ _ _
    have L7 : ∀ K : Int32 → Int32 → Int32 → Int32 → Int32 → Option (Int32 × (Nat → Int32) × Int32 × Int32 × Int32 × Int32), ∃ x1 x2 x3 x4, bb_loop7 (uX7_kindFor_s39 nn (nI b) (seenX si ga st) at_ cu ki wi wr K) nn (-1) 101 0 k0 a0 w0 r0 = K (bsi T 7) x1 x2 x3 x4 := by
      intro K
      refine inv7 (fun i x1 x2 x3 _ _ _ _ => x1 = bsi T i ∧ x2 = nI (bst T i) ∧ x3 = nI i) 7 (fun o => ∃ x1 x2 x3 x4, o = K (bsi T 7) x1 x2 x3 x4) ?_ ?_ nn (by omega) (-1) 101 0 k0 a0 w0 r0 ⟨rfl, rfl, rfl⟩
      · rintro rec2 x1 x2 x3 x4 x5 x6 x7 ⟨rfl, rfl, rfl⟩
        exact ⟨_, _, _, _, rfl⟩
      · rintro rec2 i x1 x2 x3 x4 x5 x6 x7 hi ⟨rfl, rfl, rfl⟩
        refine Or.inl ?_
        unfold uX7_kindFor_s39
        obtain ⟨u, v, e⟩ := tillOutF (f := bst T i) (nn := nn) (x := seenX si ga st) (sn := sc8 s) (cur := cu) (k := i) (by have := bst_le T i; omega) (bst_le T i) hi (hV.a hb8).2 (hV.w_ hb8).2 (hV.r hb8).2 (hR.q7 hV) (fun c hc => lb78 hR hc)
        change _ = some (if tOut i (wO s b) (qO s) (sc8 s) (aO s b) < bst T i then nI (tOut i (wO s b) (qO s) (sc8 s) (aO s b)) else -1, u, v) at e
        rw [← hT1] at e
        rw [if_neg (show ¬ (7 : Int32) ≤ nI i from nI_ge (b := 7) hi (by omega)), take4 hb8, bb_b4_s, c2, c3, c4, e, bb_b3_s, bb_cut_s, p1_]
        by_cases h : T i < bst T i
        · rw [if_pos h, if_neg (nI_nneg (by have := hTl i; omega))]
          refine ⟨_, _, _, _, _, _, _, ⟨?_, ?_, rfl⟩, rfl⟩
          · show _ = if T i < bst T i then nI i else bsi T i
            rw [if_pos h]
          · show _ = nI (if T i < bst T i then T i else bst T i)
            rw [if_pos h]
        · rw [if_neg h, if_pos (by decide)]
          refine ⟨_, _, _, _, _, _, _, ⟨?_, ?_, rfl⟩, rfl⟩
          · show _ = if T i < bst T i then nI i else bsi T i
            rw [if_neg h]
          · show _ = nI (if T i < bst T i then T i else bst T i)
            rw [if_neg h]
    have L8 : ∀ K : Int32 → (Nat → Int32) → (Nat → Int32) → Option (Int32 × (Nat → Int32) × (Nat → Int32) × (Nat → Int32)), ∃ as2 t, (∀ j, j < 155 → j ≠ 105 + 5 * b → t j = s j) ∧ bb_loop5 (uX8_kindFor_s30 nn (nI b) K) nn (-1) 101 0 as s = K (bsi T 7) as2 t := by
      intro K
      refine inv5 (fun i x1 x2 x3 _ t => x1 = bsi T i ∧ x2 = nI (bst T i) ∧ x3 = nI i ∧ ∀ j, j < 155 → j ≠ 105 + 5 * b → t j = s j) 7 (fun o => ∃ as2 t, (∀ j, j < 155 → j ≠ 105 + 5 * b → t j = s j) ∧ o = K (bsi T 7) as2 t) ?_ ?_ nn (by omega) (-1) 101 0 as s ⟨rfl, rfl, rfl, fun _ _ _ => rfl⟩
      · rintro rec2 x1 x2 x3 as2 t ⟨rfl, rfl, rfl, h⟩
        exact ⟨as2, t, h, rfl⟩
      · rintro rec2 i x1 x2 x3 as2 t hi ⟨rfl, rfl, rfl, h⟩
        refine Or.inl ?_
        unfold uX8_kindFor_s30
        have ht : ∀ j, j < 155 → upd t (105 + 5 * b) (nI i) j = upd s (105 + 5 * b) (nI i) j := fun j hj => by
          by_cases e : j = 105 + 5 * b
          · subst e; rw [pk_us, pk_us]
          · rw [pk_un e, pk_un e]; exact h j hj e
        have hW : IW (upd t (105 + 5 * b) (nI i)) := (hI.u_ki hb8 ⟨i, by omega, rfl⟩).ext ht
        generalize hu : upd t (105 + 5 * b) (nI i) = u at ht hW
        have hu2 : ∀ j, j < 155 → j ≠ 105 + 5 * b → u j = s j := fun j hj e => by rw [ht j hj, pk_un e]
        have hk : kO u b = i := by unfold kO; rw [ht _ (by omega), pk_us, cln (by omega)]
        have e := untilOut hn hW.v (b := b) (by rw [nO_eq (hu2 1 (by omega) (by omega))]; exact hb) as2
        rw [hk, wO_eq (hu2 (107 + 5 * b) (by omega) (by omega)), aO_eq (hu2 (106 + 5 * b) (by omega) (by omega)), tOut_cong (q2 := qO s) (sn2 := sc8 s) (hV.w_ hb8).2 (fun c hc => qO_eq (hu2 _ (by omega) (by omega))) (fun c hc => sc8_ext (hu2 2 (by omega) (by omega)) (fun j h5 h6 => hu2 j (by omega) (by omega)) hc), ← hT1] at e
        rw [if_neg (show ¬ (6 : Int32) < nI i from nI_nlt (a := 6) (by omega) (by omega)), set_k hb8, bb_b1_s, hu, e, bb_b3_s, bb_cut_s, p1_]
        have q1 := nI_le_iff (a := bst T i) (b := T i) (by have := bst_le T i; omega) (by have := hTl i; omega)
        have q2 := nI_lt_iff (a := T i) (b := bst T i) (by have := hTl i; omega) (by have := bst_le T i; omega)
        by_cases hh : T i < bst T i
        · rw [if_neg (show ¬ nI (bst T i) ≤ nI (T i) by rw [q1]; omega), if_pos (show nI (T i) < nI (bst T i) by rw [q2]; exact hh)]
          refine ⟨_, _, _, _, _, ⟨?_, ?_, rfl, ?_⟩, rfl⟩
          · show _ = if T i < bst T i then nI i else bsi T i
            rw [if_pos hh]
          · show _ = nI (if T i < bst T i then T i else bst T i)
            rw [if_pos hh]
          · intro j hj e; rw [cp155_lt hj, cp155_lt hj]; exact hu2 j hj e
        · rw [if_pos (show nI (bst T i) ≤ nI (T i) by rw [q1]; omega), if_neg (show ¬ nI (T i) < nI (bst T i) by rw [q2]; exact hh)]
          refine ⟨_, _, _, _, _, ⟨?_, ?_, rfl, ?_⟩, rfl⟩
          · show _ = if T i < bst T i then nI i else bsi T i
            rw [if_neg hh]
          · show _ = nI (if T i < bst T i then T i else bst T i)
            rw [if_neg hh]
          · intro j hj e; rw [cp155_lt hj, cp155_lt hj]; exact hu2 j hj e
    obtain ⟨y1, y2, y3, y4, f7⟩ := L7 (fun x1 x2 x3 x4 x5 => if 0 ≤ x1 then some (x1, fo, x2, x3, x4, x5) else some (-1000004, nfd 3 fo, x2, x3, x4, x5))
    obtain ⟨as2, t, ht, f8⟩ := L8 (fun x1 as2 t => bb_b1 (uX8_sets (nI b) 0 (nI (kO s b)) t) (fun w => if 0 ≤ x1 then some (x1, as2, fo, w) else some (-1000004, as2, nfd 3 fo, w)))
    have hs2 : ∀ j, j < 155 → upd t (105 + 5 * b) (nI (kO s b)) j = s j := fun j hj => by
      by_cases e : j = 105 + 5 * b
      · subst e; rw [pk_us]; exact (hV.k hb8).1.symm
      · rw [pk_un e]; exact ht j hj e
    rw [f7, f8, set_k hb8, bb_b1_s]
    by_cases h : 0 ≤ bsi T 7
    · rw [if_pos h, if_pos h]
      exact ⟨_, _, _, _, _, _, _, _, rfl, rfl, hR.ext hs2, hI.ext hs2⟩
    · rw [if_neg h, if_neg h]
      exact ⟨_, _, _, _, _, _, _, _, rfl, rfl, hR.ext hs2, hI.ext hs2⟩
  · simp only [e1, bb_b0_s, bb_b1_s, bb_b2_s, bb_b3_s, bb_b4_s, bb_b5_s, bb_b6_s, bb_b7_s, bb_b8_s, bb_b9_s, bb_b10_s, bb_b11_s, bb_b12_s, bb_b13_s, bb_b14_s, bb_b15_s, bb_b16_s, e10, e00, e11, if_true, if_false]
    exact ⟨_, _, _, _, _, _, _, _, rfl, rfl, hR, hI⟩
end BEST
