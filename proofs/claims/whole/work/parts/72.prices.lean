/-! ===== what hides a cell; row ===== -/
def apN (a c : Nat) : Nat := (apv (nI a) (nI c)).toNatClampNeg
theorem ap_ok : ∀ a, a < 48 → ∀ c, c < 48 → apv (nI a) (nI c) = nI (apN a c) ∧ apN a c ≤ 12 := by decide +kernel
theorem xy1 (x y : Int32) : x - y + 1 = (x + 1) - y := by
  rw [Int32.sub_eq_add_neg, Int32.sub_eq_add_neg]
  ac_rfl
theorem xyz1 (x y z : Int32) : x - y - z + 1 = (x + 1) - (y + z) := by
  rw [Int32.sub_eq_add_neg, Int32.sub_eq_add_neg, Int32.sub_eq_add_neg, Int32.neg_add, Int32.sub_eq_add_neg]
  ac_rfl
theorem hideA {H S P : Nat} (hH : H < 1000) (hS : S < 1000) (hP : P < 1000) : (if nI H < nI S - nI P + 1 then nI S - nI P + 1 else nI H) = nI (max H (S + 1 - P)) := by
  rw [xy1, p1_]
  by_cases h : P ≤ S + 1
  · rw [pk_sub h]
    by_cases h2 : H < S + 1 - P
    · rw [if_pos (nI_lt h2 (by omega))]
      congr 1
      omega
    · rw [if_neg (nI_nlt (by omega) (by omega))]
      congr 1
      omega
  · have h3 := pk_sneg (a := S + 1) (b := P) (by omega) (by omega)
    rw [if_neg]
    · congr 1
      omega
    · intro q
      rw [i_lt] at h3 q
      rw [nI_toInt (by omega)] at q
      rw [show ((0 : Int32).toInt) = 0 by decide] at h3
      omega
theorem hideB {H S P t : Nat} (hH : H < 1000) (hS : S < 1000) (hP : P < 1000) (ht : t ≤ H) : (if nI (H - t) < nI S - nI P - nI t + 1 then nI S - nI P - nI t + 1 else nI (H - t)) = nI (max H (S + 1 - P) - t) := by
  rw [xyz1, p1_, nAdd]
  by_cases h : P + t ≤ S + 1
  · rw [pk_sub h]
    by_cases h2 : H < S + 1 - P
    · rw [if_pos (nI_lt (by omega) (by omega))]
      congr 1
      omega
    · rw [if_neg (nI_nlt (by omega) (by omega))]
      congr 1
      omega
  · have h3 := pk_sneg (a := S + 1) (b := P + t) (by omega) (by omega)
    rw [if_neg]
    · congr 1
      omega
    · intro q
      rw [i_lt] at h3 q
      rw [nI_toInt (by omega)] at q
      rw [show ((0 : Int32).toInt) = 0 by decide] at h3
      omega
def tO (s : Nat → Int32) (c : Nat) : Nat := (s (9 + c)).toNatClampNeg
def siO (s : Nat → Int32) : Nat := (s 2).toNatClampNeg
def hidG (s : Nat → Int32) (c : Nat) : Nat → Nat
  | 0 => tO s c
  | g + 1 => if s (5 + g) < 0 then hidG s c g else max (hidG s c g) (siO s + 1 - apN (s (5 + g)).toNatClampNeg c)
def hid (s : Nat → Int32) (c : Nat) : Nat := hidG s c 4
section PRICES
variable {s ga st cu ki at_ wi wr ke sp : Nat → Int32} {mi ba si ev z : Int32}
theorem IV.t (h : IV s) {c : Nat} (hc : c < 48) : s (9 + c) = nI (tO s c) ∧ tO s c ≤ 9 := dec (by decide) (h.st_ hc)
theorem IV.sN (h : IV s) : s 2 = nI (siO s) ∧ siO s ≤ 12 := dec (by decide) h.si_
theorem IV.g (h : IV s) {g : Nat} (hg : g < 4) : s (5 + g) < 0 ∨ ((¬ s (5 + g) < 0) ∧ s (5 + g) = nI (s (5 + g)).toNatClampNeg ∧ (s (5 + g)).toNatClampNeg < 48) := by
  rcases h.ga_ hg with e | ⟨n, hn, e⟩
  · exact Or.inl (by rw [e]; decide)
  · refine Or.inr ?_
    rw [e, cln (by omega)]
    exact ⟨nI_nneg (by omega), rfl, hn⟩
theorem hidG_ok (h : IV s) {c : Nat} (hc : c < 48) : ∀ g, g ≤ 4 → tO s c ≤ hidG s c g ∧ hidG s c g ≤ 13
  | 0, _ => ⟨Nat.le_refl _, by have := (h.t hc).2; show tO s c ≤ 13; omega⟩
  | g + 1, hg => by
    have ih := hidG_ok h hc g (by omega)
    have h2 := h.sN.2
    unfold hidG
    split
    · exact ih
    · omega
theorem hide6 {nn c : Nat} (hn : 155 < nn) (hc : c < 48) (hR : RW s ga st cu ki at_ wi wr ke sp mi ba si ev z) (hV : IV s) : uX6_steamToHide nn (nI c) si ga st = some (if hid s c ≤ 9 then nI (hid s c - tO s c) else -1) := by
  have e1 : st c = nI (tO s c) := (hR.st_ hc).symm.trans (hV.t hc).1
  have e2 : si = nI (siO s) := hR.si_.symm.trans hV.sN.1
  have b2 := hV.sN.2
  have b1 := (hV.t hc).2
  unfold uX6_steamToHide
  rw [ixn hc (by decide), bb_cut_s, cln (by omega), e1]
  have L : ∀ K : Int32 → Option Int32, bb_loop2 (uX6_steamToHide_s9 (nI c) si ga K) nn (nI (tO s c)) 0 = K (nI (hid s c)) := by
    intro K
    refine for2 (F1 := fun i => nI (hidG s c i)) (F2 := fun i => nI i) (N := 4) (fun rec2 => ?_) (fun rec2 i hi => ?_) nn (by omega)
    · rfl
    · unfold uX6_steamToHide_s9
      have hb := hidG_ok hV hc i (by omega)
      rw [if_neg (show ¬ (4 : Int32) ≤ nI i from nI_ge (b := 4) hi (by decide)), ixn hi (by decide), bb_cut_s, p1_, cln (by omega), ← hR.ga_ hi]
      show _ = rec2 (nI (if s (5 + i) < 0 then hidG s c i else max (hidG s c i) (siO s + 1 - apN (s (5 + i)).toNatClampNeg c))) _
      rcases hV.g hi with q | ⟨q1, q2, q3⟩
      · rw [if_pos q, if_pos q]
      · rw [if_neg q1, if_neg q1]
        generalize (s (5 + i)).toNatClampNeg = a at q2 q3
        rw [q2, ap0, bb_b1_s, (ap_ok a q3 c hc).1, bb_lt, e2, hideA (by omega) (by omega) (by have := (ap_ok a q3 c hc).2; omega)]
  rw [L]
  have hb := hidG_ok hV hc 4 (by omega)
  have hb2 : tO s c ≤ hid s c ∧ hid s c ≤ 13 := hb
  have e9 : (nI (hid s c) ≤ 9) = (hid s c ≤ 9) := nI_le_iff (b := 9) (by omega) (by omega)
  by_cases h : hid s c ≤ 9
  · rw [if_pos (by rw [e9]; exact h), if_pos h, ixn hc (by decide), pk_sub hb2.1]
  · rw [if_neg (by rw [e9]; exact h), if_neg h]
theorem steamOn8 {nn c : Nat} (hn : 155 < nn) (hc : c < 48) (hV : IV s) : uX8_steamOn nn (nI c) s = some (if hid s c ≤ 9 then nI (hid s c - tO s c) else 1000000) := by
  have e1 := (hV.t hc).1
  have e2 := hV.sN.1
  have b2 := hV.sN.2
  have b1 := (hV.t hc).2
  unfold uX8_steamOn
  simp only [bb_cut_s, a9_, ixn (show 9 + c < 155 by omega) (show 155 < 2 ^ 31 by decide), cln (show 9 + c < 2 ^ 31 by omega)]
  have L : ∀ K : Int32 → Option Int32, bb_loop2 (uX8_steamOn_s4 (nI c) s K) nn 0 0 = K (nI (hid s c - tO s c)) := by
    intro K
    have key : ∀ x, x = nI (hidG s c 0 - tO s c) → bb_loop2 (uX8_steamOn_s4 (nI c) s K) nn x 0 = K (nI (hid s c - tO s c)) := by
      rintro x rfl
      refine for2 (F1 := fun i => nI (hidG s c i - tO s c)) (F2 := fun i => nI i) (N := 4) (fun rec2 => ?_) (fun rec2 i hi => ?_) nn (by omega)
      · rfl
      · unfold uX8_steamOn_s4
        have hb := hidG_ok hV hc i (by omega)
        rw [if_neg (show ¬ (4 : Int32) ≤ nI i from nI_ge (b := 4) hi (by decide)), a5_, ixn (show 5 + i < 155 by omega) (by decide), bb_cut_s, p1_, cln (by omega), cl2, a9_, cln (show 9 + c < 2 ^ 31 by omega)]
        show _ = rec2 (nI ((if s (5 + i) < 0 then hidG s c i else max (hidG s c i) (siO s + 1 - apN (s (5 + i)).toNatClampNeg c)) - tO s c)) _
        have ec : (0 ≤ s (5 + i)) = ¬ (s (5 + i) < 0) := propext (by rw [i_lt, i_le]; omega)
        rcases hV.g hi with q | ⟨q1, q2, q3⟩
        · rw [if_neg (by rw [ec]; exact fun r => r q), if_pos q]
        · rw [if_pos (by rw [ec]; exact q1), if_neg q1]
          generalize (s (5 + i)).toNatClampNeg = a at q2 q3
          rw [q2, ap8, bb_b1_s, (ap_ok a q3 c hc).1, ixn (show 9 + c < 155 by omega) (by decide), e1, e2, hideB (by omega) (by omega) (by have := (ap_ok a q3 c hc).2; omega) hb.1]
    refine key 0 ?_
    show 0 = nI (tO s c - tO s c)
    rw [Nat.sub_self]
    rfl
  rw [L]
  have hb2 : tO s c ≤ hid s c ∧ hid s c ≤ 13 := hidG_ok hV hc 4 (by omega)
  rw [e1, nAdd, show tO s c + (hid s c - tO s c) = hid s c by omega]
  have e9 : (nI (hid s c) ≤ 9) = (hid s c ≤ 9) := nI_le_iff (b := 9) (by omega) (by omega)
  by_cases h : hid s c ≤ 9
  · rw [if_pos (by rw [e9]; exact h), if_pos h]
  · rw [if_neg (by rw [e9]; exact h), if_neg h]
def prS (s : Nat → Int32) (c : Nat) : Nat := if hid s c ≤ 9 then hid s c - tO s c else 1000000
def prW (s : Nat → Int32) (c : Nat) : Nat := if sc8 s c then 1000000 else 1
theorem prices8 {nn : Nat} (hn : 155 < nn) (hV : IV s) (pr : Nat → Int32) : ∃ f, (∀ c, c < 48 → f c = nI (prS s c)) ∧ uX8_findPrices nn 1 pr s = some f := by
  unfold uX8_findPrices
  refine inv2 (fun i (x1 : Int32) (f : Nat → Int32) => x1 = nI i ∧ ∀ c, c < i → f c = nI (prS s c)) 48 (fun o => ∃ f : Nat → Int32, (∀ c, c < 48 → f c = nI (prS s c)) ∧ o = some f) ?_ ?_ nn (by omega) 0 pr ⟨rfl, fun c hc => by omega⟩
  · rintro rec2 x1 f ⟨h1, h⟩
    refine ⟨f, h, ?_⟩
    unfold uX8_findPrices_s2
    rw [h1, if_pos (by decide)]
  · rintro rec2 i x1 f hi ⟨rfl, h⟩
    refine Or.inl ?_
    unfold uX8_findPrices_s2
    rw [if_neg (show ¬ (48 : Int32) ≤ nI i from nI_ge (b := 48) hi (by decide)), bb_cut_s, if_neg (by decide), steamOn8 hn hi hV, bb_b1_s]
    simp only [ixn hi (show 48 < 2 ^ 31 by decide), cln (show i < 2 ^ 31 by omega), p1_]
    refine ⟨_, _, ⟨rfl, ?_⟩, rfl⟩
    intro c hc
    by_cases e : c = i
    · subst e
      rw [pk_us]
      unfold prS
      split <;> rfl
    · rw [pk_un e]; exact h c (by omega)
theorem pricesW8 {nn : Nat} (hn : 155 < nn) (pr : Nat → Int32) : ∃ f, (∀ c, c < 48 → f c = nI (prW s c)) ∧ uX8_findPrices nn 0 pr s = some f := by
  unfold uX8_findPrices
  refine inv2 (fun i (x1 : Int32) (f : Nat → Int32) => x1 = nI i ∧ ∀ c, c < i → f c = nI (prW s c)) 48 (fun o => ∃ f : Nat → Int32, (∀ c, c < 48 → f c = nI (prW s c)) ∧ o = some f) ?_ ?_ nn (by omega) 0 pr ⟨rfl, fun c hc => by omega⟩
  · rintro rec2 x1 f ⟨h1, h⟩
    refine ⟨f, h, ?_⟩
    unfold uX8_findPrices_s2
    rw [h1, if_pos (by decide)]
  · rintro rec2 i x1 f hi ⟨rfl, h⟩
    refine Or.inl ?_
    unfold uX8_findPrices_s2
    rw [if_neg (show ¬ (48 : Int32) ≤ nI i from nI_ge (b := 48) hi (by decide)), bb_cut_s, if_pos rfl, isSeen8 (by omega) hi, bb_b1_s]
    simp only [ixn hi (show 48 < 2 ^ 31 by decide), cln (show i < 2 ^ 31 by omega), p1_]
    have e3 : ∀ c, c < i + 1 → upd f i (nI (prW s i)) c = nI (prW s c) := fun c hc => by
      by_cases e : c = i
      · subst e
        rw [pk_us]
      · rw [pk_un e]; exact h c (by omega)
    cases hs : sc8 s i
    · have ew : prW s i = 1 := by unfold prW; rw [hs]; rfl
      rw [ew] at e3
      exact ⟨_, _, ⟨rfl, e3⟩, rfl⟩
    · have ew : prW s i = 1000000 := by unfold prW; rw [hs]; rfl
      rw [ew] at e3
      exact ⟨_, _, ⟨rfl, e3⟩, rfl⟩
def smN (f : Nat → Nat) : Nat → Nat
  | 0 => 0
  | n + 1 => smN f n + f n
theorem smN_ge (f : Nat → Nat) : ∀ n i, i < n → f i ≤ smN f n
  | 0, i, h => by omega
  | n + 1, i, h => by
    unfold smN
    rcases Nat.lt_or_ge i n with q | q
    · have := smN_ge f n i q
      omega
    · obtain rfl : i = n := by omega
      omega
theorem smN_le {f : Nat → Nat} {m : Nat} : ∀ n, (∀ i, i < n → f i ≤ m) → smN f n ≤ m * n
  | 0, _ => Nat.zero_le _
  | n + 1, h => by
    have := smN_le n (fun i hi => h i (by omega))
    have h2 := h n (by omega)
    unfold smN
    rw [Nat.mul_succ]
    omega
def rwN (s : Nat → Int32) (r : Nat) : Nat := smN (fun k => prS s (8 * r + k)) 8
def rb (T : Nat → Nat) : Nat → Nat
  | 0 => 1000000
  | n + 1 => if T n < rb T n then T n else rb T n
def ri (T : Nat → Nat) : Nat → Int32
  | 0 => -1
  | n + 1 => if T n < rb T n then nI n else ri T n
theorem rb_le (T : Nat → Nat) : ∀ n, rb T n ≤ 1000000
  | 0 => Nat.le_refl _
  | n + 1 => by
    have := rb_le T n
    unfold rb
    split <;> omega
theorem prS_le (s : Nat → Int32) (c : Nat) : prS s c ≤ 9 ∨ prS s c = 1000000 := by
  unfold prS
  split
  · exact Or.inl (by omega)
  · exact Or.inr rfl
theorem rwN_le (s : Nat → Int32) (r : Nat) : rwN s r ≤ 8000000 := smN_le (m := 1000000) 8 (fun i _ => by rcases prS_le s (8 * r + i) with h | h <;> omega)
theorem hideRow6 {nn r : Nat} (hn : 155 < nn) (hr : r < 6) (hR : RW s ga st cu ki at_ wi wr ke sp mi ba si ev z) (hV : IV s) : uX5_steamToHideRow nn (nI r) si ga st = some (if rwN s r < 1000000 then nI (rwN s r) else -1) := by
  unfold uX5_steamToHideRow
  refine inv2 (fun i x1 x2 => x1 = nI (smN (fun k => prS s (8 * r + k)) i) ∧ x2 = nI i ∧ smN (fun k => prS s (8 * r + k)) i ≤ 9 * i) 8 (fun o => o = some (if rwN s r < 1000000 then nI (rwN s r) else -1)) ?_ ?_ nn (by omega) 0 0 ⟨rfl, rfl, Nat.le_refl _⟩
  · rintro rec2 x1 x2 ⟨rfl, rfl, h⟩
    unfold uX5_steamToHideRow_s4
    have h2 : rwN s r ≤ 9 * 8 := h
    rw [if_pos (by decide), if_pos (by omega)]
    rfl
  · rintro rec2 i x1 x2 hi ⟨rfl, rfl, h⟩
    unfold uX5_steamToHideRow_s4
    rw [if_neg (show ¬ (8 : Int32) ≤ nI i from nI_ge (b := 8) hi (by decide)), show nI r * 8 + nI i = nI (8 * r + i) by rw [show nI r * 8 = nI (r * 8) from pk_mul r 8, nAdd, Nat.mul_comm], hide6 hn (by omega) hR hV, bb_b1_s, p1_]
    have e : prS s (8 * r + i) = if hid s (8 * r + i) ≤ 9 then hid s (8 * r + i) - tO s (8 * r + i) else 1000000 := rfl
    by_cases hh : hid s (8 * r + i) ≤ 9
    · rw [if_pos hh] at e
      refine Or.inl ⟨_, _, ⟨rfl, rfl, ?_⟩, ?_⟩
      · show smN _ i + prS s (8 * r + i) ≤ 9 * (i + 1)
        omega
      · rw [if_pos hh, if_pos (nI_pos' (by omega)), nAdd, ← e]
        rfl
    · refine Or.inr ?_
      rw [if_neg hh] at e
      have h3 : prS s (8 * r + i) ≤ rwN s r := smN_ge (fun k => prS s (8 * r + k)) 8 i hi
      rw [if_neg hh, if_neg (by decide), if_neg (by omega)]
theorem op_row {nn : Nat} (hn : 155 < nn) (hR : RW s ga st cu ki at_ wi wr ke sp mi ba si ev z) (hI : IW s) (fo pr : Nat → Int32) : ∃ r fo2 pr2, uX7_row nn fo si ga st = some (r, fo2) ∧ uX8_row nn fo pr s = some (r, fo2, pr2) := by
  have hV := hI.v
  obtain ⟨f, hf, e1⟩ := prices8 hn hV pr
  have L7 : uX5_cheapestRow nn si ga st = some (ri (rwN s) 6) := by
    unfold uX5_cheapestRow
    refine for3 (F1 := fun i => ri (rwN s) i) (F2 := fun i => nI (rb (rwN s) i)) (F3 := fun i => nI i) (N := 6) (fun rec2 => ?_) (fun rec2 i hi => ?_) nn (by omega)
    · unfold uX5_cheapestRow_s7
      rw [if_pos (by decide)]
    · unfold uX5_cheapestRow_s7
      have hb := rb_le (rwN s) i
      have hw := rwN_le s i
      rw [if_neg (show ¬ (6 : Int32) ≤ nI i from nI_ge (b := 6) hi (by decide)), hideRow6 hn hi hR hV, bb_b1_s, bb_cut_s, p1_]
      show _ = rec2 (if rwN s i < rb (rwN s) i then nI i else ri (rwN s) i) (nI (if rwN s i < rb (rwN s) i then rwN s i else rb (rwN s) i)) _
      by_cases h : rwN s i < 1000000
      · rw [if_pos h, if_neg (nI_nneg (by omega))]
        by_cases h2 : rwN s i < rb (rwN s) i
        · rw [if_neg (nI_ge h2 (by omega)), if_pos h2, if_pos h2]
        · rw [if_pos (nI_le (by omega) (by omega)), if_neg h2, if_neg h2]
      · rw [if_neg h, if_pos (by decide), if_neg (by omega), if_neg (by omega)]
  have L8 : ∀ K : Int32 → Option (Int32 × (Nat → Int32) × (Nat → Int32)), bb_loop3 (uX8_row_s12 nn f K) nn (-1) 1000000 0 = K (ri (rwN s) 6) := by
    intro K
    refine for3 (F1 := fun i => ri (rwN s) i) (F2 := fun i => nI (rb (rwN s) i)) (F3 := fun i => nI i) (N := 6) (fun rec2 => ?_) (fun rec2 i hi => ?_) nn (by omega)
    · unfold uX8_row_s12
      rw [if_pos (by decide)]
    · unfold uX8_row_s12
      have hb := rb_le (rwN s) i
      have hw := rwN_le s i
      have Lin : ∀ K2 : Int32 → Option (Int32 × (Nat → Int32) × (Nat → Int32)), bb_loop2 (uX8_row_s24 (nI i) f K2) nn 0 0 = K2 (nI (rwN s i)) := by
        intro K2
        refine for2 (F1 := fun j => nI (smN (fun k => prS s (8 * i + k)) j)) (F2 := fun j => nI j) (N := 8) (fun rec2 => ?_) (fun rec2 j hj => ?_) nn (by omega)
        · rfl
        · unfold uX8_row_s24
          rw [if_neg (show ¬ (8 : Int32) ≤ nI j from nI_ge (b := 8) hj (by decide)), m8_, nAdd, ixn (show 8 * i + j < 48 by omega) (by decide), cln (by omega), hf _ (by omega), nAdd, p1_]
          rfl
      rw [if_neg (show ¬ (6 : Int32) ≤ nI i from nI_ge (b := 6) hi (by decide)), bb_cut_s, Lin, bb_cut_s, p1_]
      show _ = rec2 (if rwN s i < rb (rwN s) i then nI i else ri (rwN s) i) (nI (if rwN s i < rb (rwN s) i then rwN s i else rb (rwN s) i)) _
      by_cases h2 : rwN s i < rb (rwN s) i
      · rw [if_neg (nI_ge h2 (by omega)), if_pos (nI_lt h2 (by omega)), if_pos h2, if_pos h2]
      · rw [if_pos (nI_le (by omega) (by omega)), if_neg (nI_nlt (by omega) (by omega)), if_neg h2, if_neg h2]
  unfold uX7_row uX8_row
  simp only [L7, e1, L8, bb_cut_s, find78, fnd3, bb_b0_s, bb_b1_s, bb_b2_s, bb_b3_s, bb_b4_s, bb_b5_s, bb_b6_s, bb_b7_s, bb_b8_s, bb_b9_s, bb_b10_s, bb_b11_s, bb_b12_s, bb_b13_s, bb_b14_s, bb_b15_s, bb_b16_s]
  by_cases h : 0 ≤ ri (rwN s) 6
  · simp only [if_pos h]; exact ⟨_, _, _, rfl, rfl⟩
  · simp only [if_neg h]; exact ⟨_, _, _, rfl, rfl⟩
end PRICES
