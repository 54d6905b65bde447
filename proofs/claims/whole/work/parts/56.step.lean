/-! ===== a bather's step ===== -/
def nr (c w : Nat) : Nat := if w = 0 then (if c % 8 = 0 then c else c - 1) else (if c % 8 = 7 then c else c + 1)
def be (c d : Nat) : Option Nat := if d = 1 then (if 8 ≤ c then some (c - 8) else none) else if d = 2 then (if c % 8 < 7 then some (c + 1) else none) else if d = 3 then (if c < 40 then some (c + 8) else none) else if d = 4 then (if 0 < c % 8 then some (c - 1) else none) else none
def on (o : Option Nat) : Int32 := match o with | some e => nI e | none => -1
def sd (w : Nat) : Nat := if w = 0 then 0 else 7
theorem nr4 : ∀ w, w < 2 → ∀ c, c < 48 → uX4_nearer (nI c) (nI (sd w)) = some (nI (nr c w)) := by decide +kernel
theorem nr8 : ∀ w, w < 2 → ∀ c, c < 48 → uX8_nearer (nI c) (nI w) = some (nI (nr c w)) := by decide +kernel
theorem nr_lt : ∀ w, w < 2 → ∀ c, c < 48 → nr c w < 48 := by decide +kernel
theorem side0 : ∀ w, w < 2 → uX0_columnOfSide (nI w) = some (nI (sd w)) := by decide +kernel
theorem be0 : ∀ d, d < 5 → ∀ c, c < 48 → uX0_beside (nI c) (nI d) = some (on (be c d)) := by decide +kernel
theorem be8 : ∀ d, d < 5 → ∀ c, c < 48 → uX8_beside (nI c) (nI d) = some (on (be c d)) := by decide +kernel
theorem be_lt {c d e : Nat} (hc : c < 48) (h : be c d = some e) : e < 48 := by
  unfold be at h
  split at h
  · split at h
    · cases h; omega
    · cases h
  · split at h
    · split at h
      · cases h; omega
      · cases h
    · split at h
      · split at h
        · cases h; omega
        · cases h
      · split at h
        · split at h
          · cases h; omega
          · cases h
        · cases h
theorem colI : ∀ c, c < 48 → nI c - nI c / 8 * 8 = nI (c % 8) := by decide +kernel
theorem col0 {c : Nat} (hc : c < 48) : uX0_columnOf (nI c) = some (nI (c % 8)) := by unfold uX0_columnOf; rw [colI c hc]
def lvr (c : Nat) : Nat := if c % 8 < 3 then c + 1 else if 4 < c % 8 then c - 1 else c
def spy (c w : Nat) (sn : Nat → Bool) : Nat := if sn (nr c w) then c else nr c w
def flo (c q : Nat) : Nat := (be c q).getD c
def gen (c w : Nat) (sn : Nat → Bool) : Nat := if spy c w sn = c then (match be c 3 with | some d => if sn d then c else d | none => c) else spy c w sn
/-- where one of kind k at cell c steps -/
def tg (k c w q : Nat) (sn : Nat → Bool) : Nat := if k = 1 then spy c w sn else if k = 2 then flo c q else if k = 3 then (if q = 0 then lvr c else flo c q) else if k = 4 then (if q = 0 then lvr c else flo c q) else if k = 5 then nr (nr c w) w else if k = 6 then gen c w sn else nr c w
theorem flo_lt {c q : Nat} (hc : c < 48) : flo c q < 48 := by
  unfold flo
  cases e : be c q with
  | none => exact hc
  | some d => exact be_lt hc e
theorem lvr_lt {c : Nat} (hc : c < 48) : lvr c < 48 := by
  unfold lvr
  split
  · omega
  · split <;> omega
theorem spy_lt {c w : Nat} (hc : c < 48) (hw : w < 2) (sn : Nat → Bool) : spy c w sn < 48 := by
  unfold spy
  split
  · exact hc
  · exact nr_lt w hw c hc
theorem gen_lt {c w : Nat} (hc : c < 48) (hw : w < 2) (sn : Nat → Bool) : gen c w sn < 48 := by
  unfold gen
  split
  · cases e : be c 3 with
    | none => exact hc
    | some d =>
      show (if sn d then c else d) < 48
      split
      · exact hc
      · exact be_lt hc e
  · exact spy_lt hc hw sn
theorem tg_lt {k c w q : Nat} (hc : c < 48) (hw : w < 2) (sn : Nat → Bool) : tg k c w q sn < 48 := by
  unfold tg
  split
  · exact spy_lt hc hw sn
  · split
    · exact flo_lt hc
    · split
      · split
        · exact lvr_lt hc
        · exact flo_lt hc
      · split
        · split
          · exact lvr_lt hc
          · exact flo_lt hc
        · split
          · exact nr_lt w hw _ (nr_lt w hw c hc)
          · split
            · exact gen_lt hc hw sn
            · exact nr_lt w hw c hc
/-- only what is seen of the cells matters -/
theorem tg_cong {k c w q : Nat} (hc : c < 48) (hw : w < 2) {sn sm : Nat → Bool} (h : ∀ i, i < 48 → sn i = sm i) : tg k c w q sn = tg k c w q sm := by
  have h1 : spy c w sn = spy c w sm := by unfold spy; rw [h _ (nr_lt w hw c hc)]
  have h2 : gen c w sn = gen c w sm := by
    unfold gen
    rw [h1]
    cases e : be c 3 with
    | none => rfl
    | some d => simp only [h d (be_lt hc e)]
  unfold tg
  rw [h1, h2]
theorem on_lt0 (o : Option Nat) (h : ∀ e, o = some e → e < 48) : (on o < 0) = (o = none) := by
  cases o with
  | none => exact propext ⟨fun _ => rfl, fun _ => by decide⟩
  | some e => exact propext ⟨fun q => absurd q (nI_pos (by have := h e rfl; omega)), fun q => by cases q⟩
theorem on_ge0 (o : Option Nat) (h : ∀ e, o = some e → e < 48) : (0 ≤ on o) = ¬ (o = none) := by
  cases o with
  | none => exact propext ⟨fun q => absurd q (by decide), fun q => absurd rfl q⟩
  | some e => exact propext ⟨(fun _ q => by cases q), (fun _ => nI_pos' (by have := h e rfl; omega))⟩
/-! the class -/
theorem in4 {c : Nat} (hc : c < 48) : uX4_isIn (nI c) = some 1 := by
  unfold uX4_isIn
  rw [b1_id, cell0]
  exact win_t (nI_pos' (by omega)) (nI_le (b := 47) (by omega) (by decide))
theorem spy4 {c w : Nat} (hc : c < 48) (hw : w < 2) (x : Int64) : uX4_spyTarget x (nI c) (nI w) = some (nI (spy c w (lb x))) := by
  unfold uX4_spyTarget spy
  simp only [side0 w hw, nr4 w hw c hc, has0 x (show nr c w < 64 by have := nr_lt w hw c hc; omega), bb_b0_s, bb_b1_s, bb_b2_s, bb_b3_s, bb_b4_s, bb_b5_s, bb_b6_s, bb_b7_s, bb_b8_s, bb_b9_s, bb_b10_s, bb_b11_s, bb_b12_s, bb_b13_s, bb_b14_s, bb_b15_s, bb_b16_s]
  by_cases h : lb x (nr c w) = true
  · simp only [if_pos h, e10, e00, e11, if_true, if_false]
  · simp only [if_neg h, e10, e00, e11, if_true, if_false]
theorem flo4 {c q : Nat} (hc : c < 48) (hq : q < 5) {cur : Nat → Int32} (e : cur c = nI q) : uX4_floaterTarget (nI c) cur = some (nI (flo c q)) := by
  unfold uX4_floaterTarget flo
  simp only [ixn hc (show 48 < 2 ^ 31 by decide), cln (show c < 2 ^ 31 by omega), e, be0 q hq c hc, on_ge0 _ (fun _ h => be_lt hc h), bb_b0_s, bb_b1_s, bb_b2_s, bb_b3_s, bb_b4_s, bb_b5_s, bb_b6_s, bb_b7_s, bb_b8_s, bb_b9_s, bb_b10_s, bb_b11_s, bb_b12_s, bb_b13_s, bb_b14_s, bb_b15_s, bb_b16_s]
  cases h : be c q with
  | none => simp
  | some d => simp [on]
theorem lov4a : ∀ c, c < 48 → (if (4 : Int32) ≤ nI (c % 8) then bb_b1 (uX4_nearer (nI c) 4) (fun r => some r) else bb_b1 (uX4_nearer (nI c) 3) (fun r => some r)) = some (nI (lvr c)) := by decide +kernel
theorem lov4 {c q : Nat} (hc : c < 48) (hq : q < 5) {cur : Nat → Int32} (e : cur c = nI q) : uX4_loverTarget (nI c) cur = some (nI (if q = 0 then lvr c else flo c q)) := by
  unfold uX4_loverTarget
  simp only [ixn hc (show 48 < 2 ^ 31 by decide), cln (show c < 2 ^ 31 by omega), e, col0 hc, flo4 hc hq e, bb_b0_s, bb_b1_s, bb_b2_s, bb_b3_s, bb_b4_s, bb_b5_s, bb_b6_s, bb_b7_s, bb_b8_s, bb_b9_s, bb_b10_s, bb_b11_s, bb_b12_s, bb_b13_s, bb_b14_s, bb_b15_s, bb_b16_s]
  by_cases h : q = 0
  · subst h
    rw [if_pos (show nI 0 = 0 from rfl), if_pos rfl]
    exact lov4a c hc
  · rw [if_neg (nI_ne0 (by omega) (by omega)), if_neg h]
theorem gen4 {c w : Nat} (hc : c < 48) (hw : w < 2) (x : Int64) : uX4_generalTarget x (nI c) (nI w) = some (nI (gen c w (lb x))) := by
  unfold uX4_generalTarget gen
  have e3 : uX0_beside (nI c) 3 = some (on (be c 3)) := be0 3 (by omega) c hc
  have hs := spy_lt hc hw (lb x)
  simp only [spy4 hc hw, e3, on_lt0 _ (fun _ h => be_lt hc h), bb_b0_s, bb_b1_s, bb_b2_s, bb_b3_s, bb_b4_s, bb_b5_s, bb_b6_s, bb_b7_s, bb_b8_s, bb_b9_s, bb_b10_s, bb_b11_s, bb_b12_s, bb_b13_s, bb_b14_s, bb_b15_s, bb_b16_s]
  by_cases h : spy c w (lb x) = c
  · rw [if_pos (by rw [h]), if_pos h]
    cases hb : be c 3 with
    | none => simp
    | some d =>
      have hd := be_lt hc hb
      simp only [on, has0 x (show d < 64 by omega), bb_b0_s, bb_b1_s, bb_b2_s, bb_b3_s, bb_b4_s, bb_b5_s, bb_b6_s, bb_b7_s, bb_b8_s, bb_b9_s, bb_b10_s, bb_b11_s, bb_b12_s, bb_b13_s, bb_b14_s, bb_b15_s, bb_b16_s]
      by_cases h2 : lb x d = true
      · simp [h2]
      · simp [h2]
  · rw [if_neg (fun q => h ((nI_eq (by omega) (by omega)).mp q)), if_neg h]
theorem target4 {k c w q : Nat} (hk : k < 7) (hc : c < 48) (hw : w < 2) (hq : q < 5) {cur : Nat → Int32} (e : cur c = nI q) (x : Int64) : uX4_target x (nI k) (nI c) (nI w) cur = some (nI (tg k c w q (lb x))) := by
  unfold uX4_target
  have hn := nr_lt w hw c hc
  simp only [in4 hc, spy4 hc hw, flo4 hc hq e, lov4 hc hq e, gen4 hc hw, side0 w hw, nr4 w hw c hc, nr4 w hw _ hn, bb_b0_s, bb_b1_s, bb_b2_s, bb_b3_s, bb_b4_s, bb_b5_s, bb_b6_s, bb_b7_s, bb_b8_s, bb_b9_s, bb_b10_s, bb_b11_s, bb_b12_s, bb_b13_s, bb_b14_s, bb_b15_s, bb_b16_s, e10, e00, e11, if_true, if_false]
  rcases (show k = 0 ∨ k = 1 ∨ k = 2 ∨ k = 3 ∨ k = 4 ∨ k = 5 ∨ k = 6 by omega) with rfl | rfl | rfl | rfl | rfl | rfl | rfl <;> rfl
/-! the reference -/
theorem spy8 {nn c w : Nat} (hn : 4 < nn) (hc : c < 48) (hw : w < 2) (s : Nat → Int32) : uX8_spied nn (nI c) (nI w) s = some (nI (spy c w (sc8 s))) := by
  unfold uX8_spied spy
  simp only [nr8 w hw c hc, isSeen8 hn (nr_lt w hw c hc), bb_b0_s, bb_b1_s, bb_b2_s, bb_b3_s, bb_b4_s, bb_b5_s, bb_b6_s, bb_b7_s, bb_b8_s, bb_b9_s, bb_b10_s, bb_b11_s, bb_b12_s, bb_b13_s, bb_b14_s, bb_b15_s, bb_b16_s]
  by_cases h : sc8 s (nr c w) = true
  · simp only [if_pos h, e10, e00, e11, if_true, if_false]
  · simp only [if_neg h, e10, e00, e11, if_true, if_false]
theorem flo8 {c q : Nat} (hc : c < 48) (hq : q < 5) {s : Nat → Int32} (e : s (57 + c) = nI q) : uX8_floats (nI c) s = some (nI (flo c q)) := by
  unfold uX8_floats flo uX8_orOwn
  simp only [a57_, ixn (show 57 + c < 155 by omega) (show 155 < 2 ^ 31 by decide), cln (show 57 + c < 2 ^ 31 by omega), e, be8 q hq c hc, on_ge0 _ (fun _ h => be_lt hc h), bb_b0_s, bb_b1_s, bb_b2_s, bb_b3_s, bb_b4_s, bb_b5_s, bb_b6_s, bb_b7_s, bb_b8_s, bb_b9_s, bb_b10_s, bb_b11_s, bb_b12_s, bb_b13_s, bb_b14_s, bb_b15_s, bb_b16_s]
  cases h : be c q with
  | none => simp [bb_b1_s]
  | some d => simp [on, bb_b1_s]
theorem lov8a : ∀ c, c < 48 → (if (3 : Int32) ≤ nI (c % 8) then (if nI (c % 8) ≤ (4 : Int32) then some (nI c) else some (nI c - 1)) else some (nI c + 1)) = some (nI (lvr c)) := by decide +kernel
theorem lov8 {c q : Nat} (hc : c < 48) (hq : q < 5) {s : Nat → Int32} (e : s (57 + c) = nI q) : uX8_loves (nI c) s = some (nI (if q = 0 then lvr c else flo c q)) := by
  unfold uX8_loves
  simp only [a57_, ixn (show 57 + c < 155 by omega) (show 155 < 2 ^ 31 by decide), cln (show 57 + c < 2 ^ 31 by omega), e, colI c hc, flo8 hc hq e, bb_b0_s, bb_b1_s, bb_b2_s, bb_b3_s, bb_b4_s, bb_b5_s, bb_b6_s, bb_b7_s, bb_b8_s, bb_b9_s, bb_b10_s, bb_b11_s, bb_b12_s, bb_b13_s, bb_b14_s, bb_b15_s, bb_b16_s]
  by_cases h : q = 0
  · subst h
    rw [if_pos (show nI 0 ≤ 0 by decide), if_pos rfl]
    exact lov8a c hc
  · rw [if_neg (nI_nle (by omega) (by omega)), if_neg h]
theorem gen8 {nn c w : Nat} (hn : 4 < nn) (hc : c < 48) (hw : w < 2) (s : Nat → Int32) : uX8_general nn (nI c) (nI w) s = some (nI (gen c w (sc8 s))) := by
  unfold uX8_general gen
  have e3 : uX8_beside (nI c) 3 = some (on (be c 3)) := be8 3 (by omega) c hc
  have hs := spy_lt hc hw (sc8 s)
  simp only [spy8 hn hc hw, e3, on_lt0 _ (fun _ h => be_lt hc h), bb_b0_s, bb_b1_s, bb_b2_s, bb_b3_s, bb_b4_s, bb_b5_s, bb_b6_s, bb_b7_s, bb_b8_s, bb_b9_s, bb_b10_s, bb_b11_s, bb_b12_s, bb_b13_s, bb_b14_s, bb_b15_s, bb_b16_s]
  by_cases h : spy c w (sc8 s) = c
  · rw [if_pos (by rw [h]), if_pos h]
    cases hb : be c 3 with
    | none => simp [h]
    | some d =>
      have hd := be_lt hc hb
      simp only [on, isSeen8 hn hd, h, bb_b0_s, bb_b1_s, bb_b2_s, bb_b3_s, bb_b4_s, bb_b5_s, bb_b6_s, bb_b7_s, bb_b8_s, bb_b9_s, bb_b10_s, bb_b11_s, bb_b12_s, bb_b13_s, bb_b14_s, bb_b15_s, bb_b16_s]
      by_cases h2 : sc8 s d = true
      · simp [h2]
      · simp [h2]
  · rw [if_neg (fun q => h ((nI_eq (by omega) (by omega)).mp q)), if_neg h]
theorem step8 {nn b k c w q : Nat} (hn : 4 < nn) (hb : b < 8) (hk : k < 7) (hc : c < 48) (hw : w < 2) (hq : q < 5) {s : Nat → Int32} (ek : s (105 + 5 * b) = nI k) (ea : s (106 + 5 * b) = nI c) (ew : s (107 + 5 * b) = nI w) (e : s (57 + c) = nI q) : uX8_stepOf nn (nI b) s = some (nI (tg k c w q (sc8 s))) := by
  unfold uX8_stepOf
  have i0 : uX8_its (nI b) 0 s = some (nI k) := by rw [← ek]; exact its8 (w := 0) hb (by omega) s
  have i1 : uX8_its (nI b) 1 s = some (nI c) := by rw [← ea, show 106 + 5 * b = 105 + 5 * b + 1 by omega]; exact its8 (w := 1) hb (by omega) s
  have i2 : uX8_its (nI b) 2 s = some (nI w) := by rw [← ew, show 107 + 5 * b = 105 + 5 * b + 2 by omega]; exact its8 (w := 2) hb (by omega) s
  have h3 := nr_lt w hw c hc
  simp only [i0, i1, i2, spy8 hn hc hw, flo8 hc hq e, lov8 hc hq e, gen8 hn hc hw, nr8 w hw c hc, nr8 w hw _ h3, bb_b0_s, bb_b1_s, bb_b2_s, bb_b3_s, bb_b4_s, bb_b5_s, bb_b6_s, bb_b7_s, bb_b8_s, bb_b9_s, bb_b10_s, bb_b11_s, bb_b12_s, bb_b13_s, bb_b14_s, bb_b15_s, bb_b16_s]
  rcases (show k = 0 ∨ k = 1 ∨ k = 2 ∨ k = 3 ∨ k = 4 ∨ k = 5 ∨ k = 6 by omega) with rfl | rfl | rfl | rfl | rfl | rfl | rfl <;> rfl
