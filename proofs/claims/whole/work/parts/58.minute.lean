/-! ===== a minute of the reference ===== -/
theorem minL {m e i : Nat} (hm : m < 2 ^ 30) (h : e + i < 2 ^ 30) : (if nI e + nI i < nI m then nI e + nI i else nI m) = nI (min m (e + i)) := by
  rw [nAdd]
  by_cases q : e + i < m
  · rw [if_pos (nI_lt q (by omega)), Nat.min_eq_right (by omega)]
  · rw [if_neg (nI_nlt (by omega) (by omega)), Nat.min_eq_left (by omega)]
theorem sc8_ext {s t : Nat → Int32} (h2 : t 2 = s 2) (h : ∀ j, 5 ≤ j → j < 57 → t j = s j) {c : Nat} (hc : c < 48) : sc8 t c = sc8 s c := by
  unfold sc8 anyG sb8
  rw [h2, h (9 + c) (by omega) (by omega), h (5 + 0) (by omega) (by omega), h (5 + 1) (by omega) (by omega), h (5 + 2) (by omega) (by omega), h (5 + 3) (by omega) (by omega)]
def exs (k a w : Nat) : Bool := decide (k ≠ 4) && decide (a % 8 = sd w)
def pa (k a w q : Nat) (sn : Nat → Bool) : Nat := if a < 48 then (if exs k a w then 100 + w else tg k a w q sn) else a
def pw (k a w r : Nat) : Nat := if a < 48 then (if exs k a w then r else min 99 (r + 1)) else r
def stp (s : Nat → Int32) (b : Nat) : Nat := tg (kO s b) (aO s b) (wO s b) (qO s (aO s b)) (sc8 s)
def bmin (s : Nat → Int32) (b : Nat) : Nat → Int32 :=
  if aO s b < 48 then (if exs (kO s b) (aO s b) (wO s b) then upd s (106 + 5 * b) (nI (100 + wO s b)) else upd (upd (upd s (106 + 5 * b) (nI (stp s b))) (108 + 5 * b) (nI (min 99 (rO s b + 1)))) 3 (nI (min 99999 (eO s + (if sc8 s (stp s b) then 1 else 0))))) else s
theorem its_k {b : Nat} (hb : b < 8) (f : Nat → Int32) : uX8_its (nI b) 0 f = some (f (105 + 5 * b)) := its8 (w := 0) hb (by omega) f
theorem its_a {b : Nat} (hb : b < 8) (f : Nat → Int32) : uX8_its (nI b) 1 f = some (f (106 + 5 * b)) := by rw [show 106 + 5 * b = 105 + 5 * b + 1 by omega]; exact its8 (w := 1) hb (by omega) f
theorem its_w {b : Nat} (hb : b < 8) (f : Nat → Int32) : uX8_its (nI b) 2 f = some (f (107 + 5 * b)) := by rw [show 107 + 5 * b = 105 + 5 * b + 2 by omega]; exact its8 (w := 2) hb (by omega) f
theorem its_r {b : Nat} (hb : b < 8) (f : Nat → Int32) : uX8_its (nI b) 3 f = some (f (108 + 5 * b)) := by rw [show 108 + 5 * b = 105 + 5 * b + 3 by omega]; exact its8 (w := 3) hb (by omega) f
theorem its_e {b : Nat} (hb : b < 8) (f : Nat → Int32) : uX8_its (nI b) 4 f = some (f (109 + 5 * b)) := by rw [show 109 + 5 * b = 105 + 5 * b + 4 by omega]; exact its8 (w := 4) hb (by omega) f
theorem set_k {b : Nat} (hb : b < 8) (v : Int32) (f : Nat → Int32) : uX8_sets (nI b) 0 v f = some (upd f (105 + 5 * b) v) := sets8 (w := 0) hb (by omega) v f
theorem set_a {b : Nat} (hb : b < 8) (v : Int32) (f : Nat → Int32) : uX8_sets (nI b) 1 v f = some (upd f (106 + 5 * b) v) := by rw [show 106 + 5 * b = 105 + 5 * b + 1 by omega]; exact sets8 (w := 1) hb (by omega) v f
theorem set_r {b : Nat} (hb : b < 8) (v : Int32) (f : Nat → Int32) : uX8_sets (nI b) 3 v f = some (upd f (108 + 5 * b) v) := by rw [show 108 + 5 * b = 105 + 5 * b + 3 by omega]; exact sets8 (w := 3) hb (by omega) v f
theorem bathes8 {nn b : Nat} {s : Nat → Int32} (hn : 4 < nn) (hb : b < 8) (h : IV s) (ha : aO s b < 48) : uX8_bathes nn (nI b) s = some (bmin s b) := by
  obtain ⟨ek, hk⟩ := h.k hb
  obtain ⟨ea, -⟩ := h.a hb
  obtain ⟨ew, hw⟩ := h.w_ hb
  obtain ⟨er, hr⟩ := h.r hb
  obtain ⟨ee, he⟩ := h.e
  obtain ⟨eq, hq⟩ := h.q ha
  have ht : stp s b < 48 := tg_lt ha hw _
  have e3 : (3 : Int32).toNatClampNeg = 3 := rfl
  have hst : uX8_stepOf nn (nI b) s = some (nI (stp s b)) := step8 hn hb hk ha hw hq ek ea ew eq
  have hz : (if wO s b = 0 then (0 : Int32) else 7) = nI (sd (wO s b)) := by unfold sd; split <;> rfl
  -- the way of one who stays in
  have stay : (bb_b1 (uX8_stepOf nn (nI b) s) (fun (r11 : Int32) => bb_b1 (uX8_sets (nI b) (1 : Int32) r11 s) (fun (w14 : Nat → Int32) => bb_b1 (uX8_its (nI b) (3 : Int32) w14) (fun (r16 : Int32) => bb_b1 (uX8_sets (nI b) (3 : Int32) (if (r16 + (1 : Int32)) < (99 : Int32) then (r16 + (1 : Int32)) else (99 : Int32)) w14) (fun (w19 : Nat → Int32) => bb_b1 (uX8_its (nI b) (1 : Int32) w19) (fun (r21 : Int32) => bb_b1 (uX8_isSeen nn r21 w19) (fun (r24 : Int32) => (if r24 = 0 then some (upd w19 (3 : Int32).toNatClampNeg (if ((w19 (3 : Int32).toNatClampNeg) + (0 : Int32)) < (99999 : Int32) then ((w19 (3 : Int32).toNatClampNeg) + (0 : Int32)) else (99999 : Int32))) else some (upd w19 (3 : Int32).toNatClampNeg (if ((w19 (3 : Int32).toNatClampNeg) + (1 : Int32)) < (99999 : Int32) then ((w19 (3 : Int32).toNatClampNeg) + (1 : Int32)) else (99999 : Int32)))))))))))
      = some (upd (upd (upd s (106 + 5 * b) (nI (stp s b))) (108 + 5 * b) (nI (min 99 (rO s b + 1)))) 3 (nI (min 99999 (eO s + (if sc8 s (stp s b) then 1 else 0))))) := by
    simp only [hst, set_a hb, its_r hb, set_r hb, its_a hb, e3, bb_b0_s, bb_b1_s, bb_b2_s, bb_b3_s, bb_b4_s, bb_b5_s, bb_b6_s, bb_b7_s, bb_b8_s, bb_b9_s, bb_b10_s, bb_b11_s, bb_b12_s, bb_b13_s, bb_b14_s, bb_b15_s, bb_b16_s]
    rw [pk_un (show 108 + 5 * b ≠ 106 + 5 * b by omega), er]
    have m1 : (if nI (rO s b) + (1 : Int32) < (99 : Int32) then nI (rO s b) + (1 : Int32) else (99 : Int32)) = nI (min 99 (rO s b + 1)) := minL (m := 99) (i := 1) (by decide) (by omega)
    rw [m1]
    generalize hX : upd (upd s (106 + 5 * b) (nI (stp s b))) (108 + 5 * b) (nI (min 99 (rO s b + 1))) = X
    have x1 : X (106 + 5 * b) = nI (stp s b) := by rw [← hX, pk_un (by omega), pk_us]
    have x3 : X 3 = nI (eO s) := by rw [← hX, pk_un (by omega), pk_un (by omega)]; exact ee
    have xs : sc8 X (stp s b) = sc8 s (stp s b) := sc8_ext (by rw [← hX, pk_un (by omega), pk_un (by omega)]) (fun j h1 h2 => by rw [← hX, pk_un (by omega), pk_un (by omega)]) ht
    rw [x1, x3, isSeen8 hn ht, xs, bb_b1_s]
    have m2 : (if nI (eO s) + (0 : Int32) < (99999 : Int32) then nI (eO s) + (0 : Int32) else (99999 : Int32)) = nI (min 99999 (eO s + 0)) := minL (m := 99999) (i := 0) (by decide) (by omega)
    have m3 : (if nI (eO s) + (1 : Int32) < (99999 : Int32) then nI (eO s) + (1 : Int32) else (99999 : Int32)) = nI (min 99999 (eO s + 1)) := minL (m := 99999) (i := 1) (by decide) (by omega)
    rw [m2, m3]
    by_cases q : sc8 s (stp s b) = true
    · simp only [if_pos q, e10, e00, e11, if_true, if_false]
    · simp only [if_neg q, e10, e00, e11, if_true, if_false]
  unfold uX8_bathes bmin
  rw [if_pos ha]
  simp only [bb_cut_s]
  rw [stay]
  simp only [its_w hb, its_a hb, its_k hb, ek, ea, ew, set_a hb, colI _ ha, a100_, bb_b1_s]
  unfold exs
  have hw0 : (nI (wO s b) = 0) = (wO s b = 0) := propext ⟨fun q => (nI_eq (b := 0) (by omega) (by decide)).mp q, fun q => by rw [q]; rfl⟩
  have hk4 : (nI (kO s b) = (4 : Int32)) = (kO s b = 4) := propext ⟨fun q => (nI_eq (b := 4) (by omega) (by decide)).mp q, fun q => by rw [q]; rfl⟩
  have hc0 : ∀ m : Nat, m < 8 → (nI (aO s b % 8) = nI m) = (aO s b % 8 = m) := fun m hm => propext ⟨fun q => (nI_eq (by omega) (by omega)).mp q, fun q => by rw [q]⟩
  have hc1 : (nI (aO s b % 8) = (0 : Int32)) = (aO s b % 8 = 0) := hc0 0 (by omega)
  have hc2 : (nI (aO s b % 8) = (7 : Int32)) = (aO s b % 8 = 7) := hc0 7 (by omega)
  simp only [hw0, hk4, hc1, hc2, sd]
  by_cases h1 : wO s b = 0
  · simp only [h1, if_true]
    by_cases h2 : aO s b % 8 = 0
    · by_cases h3 : kO s b = 4 <;> simp [h2, h3]
    · simp [h2]
  · simp only [h1, if_false]
    by_cases h2 : aO s b % 8 = 7
    · by_cases h3 : kO s b = 4 <;> simp [h2, h3]
    · simp [h2]
theorem IV.bmn {s : Nat → Int32} (h : IV s) {b : Nat} (hb : b < 8) : IV (bmin s b) := by
  unfold bmin
  obtain ⟨-, hw⟩ := h.w_ hb
  obtain ⟨-, hr⟩ := h.r hb
  obtain ⟨-, he⟩ := h.e
  split
  · rename_i ha
    split
    · refine h.u_at_ hb (Or.inr ?_)
      rcases (show wO s b = 0 ∨ wO s b = 1 by omega) with e | e
      · rw [e]; exact Or.inl rfl
      · rw [e]; exact Or.inr rfl
    · exact ((h.u_at_ hb (Or.inl ⟨_, tg_lt ha hw _, rfl⟩)).u_wr hb ⟨_, Nat.min_le_left _ _, rfl⟩).u_ev ⟨_, Nat.min_le_left _ _, rfl⟩
  · exact h
theorem bmin_other {s : Nat → Int32} {b j : Nat} (h3 : j ≠ 3) (h1 : j ≠ 106 + 5 * b) (h2 : j ≠ 108 + 5 * b) : bmin s b j = s j := by
  unfold bmin
  split
  · split
    · exact pk_un h1
    · rw [pk_un h3, pk_un h2, pk_un h1]
  · rfl
def bfold (s : Nat → Int32) : Nat → (Nat → Int32)
  | 0 => s
  | b + 1 => bmin (bfold s b) b
def amin (s : Nat → Int32) : Nat → Int32 := upd (bfold s (nO s)) 0 (bfold s (nO s) 0 + 1)
theorem IV.bfl {s : Nat → Int32} (h : IV s) : ∀ i, i ≤ 8 → IV (bfold s i)
  | 0, _ => h
  | i + 1, hi => (IV.bfl h i (by omega)).bmn (by omega)
theorem bfold_other {s : Nat → Int32} {j : Nat} (h3 : j ≠ 3) : ∀ i, (∀ b, b < i → j ≠ 106 + 5 * b ∧ j ≠ 108 + 5 * b) → bfold s i j = s j
  | 0, _ => rfl
  | i + 1, h => by
    show bmin (bfold s i) i j = s j
    rw [bmin_other h3 (h i (by omega)).1 (h i (by omega)).2]
    exact bfold_other h3 i (fun b hb => h b (by omega))
theorem isIn8 {b : Nat} (hb : b < 8) {s : Nat → Int32} (h : IV s) : uX8_isIn (nI b) s = some (if aO s b < 48 then 1 else 0) := by
  unfold uX8_isIn
  obtain ⟨ea, ha⟩ := h.a hb
  simp only [its_a hb, ea, bb_b1_s]
  have e : ((48 : Int32) ≤ nI (aO s b)) = (48 ≤ aO s b) := propext (nI_leI (a := 48) (by decide) (by omega))
  simp only [e]
  by_cases q : aO s b < 48
  · rw [if_neg (by omega), if_pos q]
  · rw [if_pos (by omega), if_neg q]
theorem aMinute8 {nn : Nat} {s : Nat → Int32} (hn : 8 < nn) (h : IV s) : uX8_aMinute nn s = some (amin s) := by
  obtain ⟨en, hle⟩ := h.n
  unfold uX8_aMinute
  rw [bb_cut_s]
  refine for2 (F1 := fun i => nI i) (F2 := fun i => bfold s i) (N := nO s) (fun rec2 => ?_) (fun rec2 i hi => ?_) nn (by omega)
  · unfold uX8_aMinute_s2
    have e1 : bfold s (nO s) (1 : Int32).toNatClampNeg = nI (nO s) := (bfold_other (by decide) _ (fun b _ => ⟨by show 1 ≠ _; omega, by show 1 ≠ _; omega⟩)).trans en
    rw [if_pos (by rw [e1]; exact nI_le (Nat.le_refl _) (by omega))]
    rfl
  · unfold uX8_aMinute_s2
    have e1 : bfold s i (1 : Int32).toNatClampNeg = nI (nO s) := (bfold_other (by decide) _ (fun b _ => ⟨by show 1 ≠ _; omega, by show 1 ≠ _; omega⟩)).trans en
    have hv := h.bfl i (by omega)
    rw [if_neg (by rw [e1]; exact nI_ge hi (by omega))]
    simp only [isIn8 (show i < 8 by omega) hv, bb_cut_s, p1_, bb_b1_s]
    show _ = rec2 (nI (i + 1)) (bmin (bfold s i) i)
    by_cases q : aO (bfold s i) i < 48
    · simp only [if_pos q, e10, e00, e11, if_true, if_false, bathes8 (show 4 < nn by omega) (show i < 8 by omega) hv q, bb_b1_s]
    · simp only [if_neg q, e10, e00, e11, if_true, if_false]
      unfold bmin
      rw [if_neg q]
