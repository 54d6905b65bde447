/-! ===== minutes: go, steams ===== -/
theorem inv10 {α1 α2 α3 α4 α5 α6 α7 α8 α9 α10 β : Type} {st : (α1 → α2 → α3 → α4 → α5 → α6 → α7 → α8 → α9 → α10 → Option β) → α1 → α2 → α3 → α4 → α5 → α6 → α7 → α8 → α9 → α10 → Option β} (I : Nat → α1 → α2 → α3 → α4 → α5 → α6 → α7 → α8 → α9 → α10 → Prop) (N : Nat) (P : Option β → Prop) (hend : ∀ rec2 x1 x2 x3 x4 x5 x6 x7 x8 x9 x10, I N x1 x2 x3 x4 x5 x6 x7 x8 x9 x10 → P (st rec2 x1 x2 x3 x4 x5 x6 x7 x8 x9 x10)) (hstep : ∀ rec2 (i : Nat) x1 x2 x3 x4 x5 x6 x7 x8 x9 x10, i < N → I i x1 x2 x3 x4 x5 x6 x7 x8 x9 x10 → (∃ y1 y2 y3 y4 y5 y6 y7 y8 y9 y10, I (i + 1) y1 y2 y3 y4 y5 y6 y7 y8 y9 y10 ∧ st rec2 x1 x2 x3 x4 x5 x6 x7 x8 x9 x10 = rec2 y1 y2 y3 y4 y5 y6 y7 y8 y9 y10) ∨ P (st rec2 x1 x2 x3 x4 x5 x6 x7 x8 x9 x10)) : ∀ n, N < n → ∀ x1 x2 x3 x4 x5 x6 x7 x8 x9 x10, I 0 x1 x2 x3 x4 x5 x6 x7 x8 x9 x10 → P (bb_loop10 st n x1 x2 x3 x4 x5 x6 x7 x8 x9 x10) := by
  have key : ∀ (k i n : Nat) x1 x2 x3 x4 x5 x6 x7 x8 x9 x10, i + k = N → k < n → I i x1 x2 x3 x4 x5 x6 x7 x8 x9 x10 → P (bb_loop10 st n x1 x2 x3 x4 x5 x6 x7 x8 x9 x10) := by
    intro k
    induction k with
    | zero =>
      intro i n x1 x2 x3 x4 x5 x6 x7 x8 x9 x10 h1 h2 h3
      obtain ⟨m, rfl⟩ : ∃ m, n = m + 1 := ⟨n - 1, by omega⟩
      have e : i = N := by omega
      subst e
      exact hend _ x1 x2 x3 x4 x5 x6 x7 x8 x9 x10 h3
    | succ k ih =>
      intro i n x1 x2 x3 x4 x5 x6 x7 x8 x9 x10 h1 h2 h3
      obtain ⟨m, rfl⟩ : ∃ m, n = m + 1 := ⟨n - 1, by omega⟩
      rcases hstep (bb_loop10 st m) i x1 x2 x3 x4 x5 x6 x7 x8 x9 x10 (by omega) h3 with ⟨y1, y2, y3, y4, y5, y6, y7, y8, y9, y10, h4, h5⟩ | h4
      · have e : bb_loop10 st (m + 1) x1 x2 x3 x4 x5 x6 x7 x8 x9 x10 = bb_loop10 st m y1 y2 y3 y4 y5 y6 y7 y8 y9 y10 := h5
        rw [e]
        exact ih (i + 1) m y1 y2 y3 y4 y5 y6 y7 y8 y9 y10 (by omega) (by omega) h4
      · exact h4
  intro n hn x1 x2 x3 x4 x5 x6 x7 x8 x9 x10 h
  exact key N 0 n x1 x2 x3 x4 x5 x6 x7 x8 x9 x10 (by omega) hn h
theorem inv11 {α1 α2 α3 α4 α5 α6 α7 α8 α9 α10 α11 β : Type} {st : (α1 → α2 → α3 → α4 → α5 → α6 → α7 → α8 → α9 → α10 → α11 → Option β) → α1 → α2 → α3 → α4 → α5 → α6 → α7 → α8 → α9 → α10 → α11 → Option β} (I : Nat → α1 → α2 → α3 → α4 → α5 → α6 → α7 → α8 → α9 → α10 → α11 → Prop) (N : Nat) (P : Option β → Prop) (hend : ∀ rec2 x1 x2 x3 x4 x5 x6 x7 x8 x9 x10 x11, I N x1 x2 x3 x4 x5 x6 x7 x8 x9 x10 x11 → P (st rec2 x1 x2 x3 x4 x5 x6 x7 x8 x9 x10 x11)) (hstep : ∀ rec2 (i : Nat) x1 x2 x3 x4 x5 x6 x7 x8 x9 x10 x11, i < N → I i x1 x2 x3 x4 x5 x6 x7 x8 x9 x10 x11 → (∃ y1 y2 y3 y4 y5 y6 y7 y8 y9 y10 y11, I (i + 1) y1 y2 y3 y4 y5 y6 y7 y8 y9 y10 y11 ∧ st rec2 x1 x2 x3 x4 x5 x6 x7 x8 x9 x10 x11 = rec2 y1 y2 y3 y4 y5 y6 y7 y8 y9 y10 y11) ∨ P (st rec2 x1 x2 x3 x4 x5 x6 x7 x8 x9 x10 x11)) : ∀ n, N < n → ∀ x1 x2 x3 x4 x5 x6 x7 x8 x9 x10 x11, I 0 x1 x2 x3 x4 x5 x6 x7 x8 x9 x10 x11 → P (bb_loop11 st n x1 x2 x3 x4 x5 x6 x7 x8 x9 x10 x11) := by
  have key : ∀ (k i n : Nat) x1 x2 x3 x4 x5 x6 x7 x8 x9 x10 x11, i + k = N → k < n → I i x1 x2 x3 x4 x5 x6 x7 x8 x9 x10 x11 → P (bb_loop11 st n x1 x2 x3 x4 x5 x6 x7 x8 x9 x10 x11) := by
    intro k
    induction k with
    | zero =>
      intro i n x1 x2 x3 x4 x5 x6 x7 x8 x9 x10 x11 h1 h2 h3
      obtain ⟨m, rfl⟩ : ∃ m, n = m + 1 := ⟨n - 1, by omega⟩
      have e : i = N := by omega
      subst e
      exact hend _ x1 x2 x3 x4 x5 x6 x7 x8 x9 x10 x11 h3
    | succ k ih =>
      intro i n x1 x2 x3 x4 x5 x6 x7 x8 x9 x10 x11 h1 h2 h3
      obtain ⟨m, rfl⟩ : ∃ m, n = m + 1 := ⟨n - 1, by omega⟩
      rcases hstep (bb_loop11 st m) i x1 x2 x3 x4 x5 x6 x7 x8 x9 x10 x11 (by omega) h3 with ⟨y1, y2, y3, y4, y5, y6, y7, y8, y9, y10, y11, h4, h5⟩ | h4
      · have e : bb_loop11 st (m + 1) x1 x2 x3 x4 x5 x6 x7 x8 x9 x10 x11 = bb_loop11 st m y1 y2 y3 y4 y5 y6 y7 y8 y9 y10 y11 := h5
        rw [e]
        exact ih (i + 1) m y1 y2 y3 y4 y5 y6 y7 y8 y9 y10 y11 (by omega) (by omega) h4
      · exact h4
  intro n hn x1 x2 x3 x4 x5 x6 x7 x8 x9 x10 x11 h
  exact key N 0 n x1 x2 x3 x4 x5 x6 x7 x8 x9 x10 x11 (by omega) hn h
theorem inv12 {α1 α2 α3 α4 α5 α6 α7 α8 α9 α10 α11 α12 β : Type} {st : (α1 → α2 → α3 → α4 → α5 → α6 → α7 → α8 → α9 → α10 → α11 → α12 → Option β) → α1 → α2 → α3 → α4 → α5 → α6 → α7 → α8 → α9 → α10 → α11 → α12 → Option β} (I : Nat → α1 → α2 → α3 → α4 → α5 → α6 → α7 → α8 → α9 → α10 → α11 → α12 → Prop) (N : Nat) (P : Option β → Prop) (hend : ∀ rec2 x1 x2 x3 x4 x5 x6 x7 x8 x9 x10 x11 x12, I N x1 x2 x3 x4 x5 x6 x7 x8 x9 x10 x11 x12 → P (st rec2 x1 x2 x3 x4 x5 x6 x7 x8 x9 x10 x11 x12)) (hstep : ∀ rec2 (i : Nat) x1 x2 x3 x4 x5 x6 x7 x8 x9 x10 x11 x12, i < N → I i x1 x2 x3 x4 x5 x6 x7 x8 x9 x10 x11 x12 → (∃ y1 y2 y3 y4 y5 y6 y7 y8 y9 y10 y11 y12, I (i + 1) y1 y2 y3 y4 y5 y6 y7 y8 y9 y10 y11 y12 ∧ st rec2 x1 x2 x3 x4 x5 x6 x7 x8 x9 x10 x11 x12 = rec2 y1 y2 y3 y4 y5 y6 y7 y8 y9 y10 y11 y12) ∨ P (st rec2 x1 x2 x3 x4 x5 x6 x7 x8 x9 x10 x11 x12)) : ∀ n, N < n → ∀ x1 x2 x3 x4 x5 x6 x7 x8 x9 x10 x11 x12, I 0 x1 x2 x3 x4 x5 x6 x7 x8 x9 x10 x11 x12 → P (bb_loop12 st n x1 x2 x3 x4 x5 x6 x7 x8 x9 x10 x11 x12) := by
  have key : ∀ (k i n : Nat) x1 x2 x3 x4 x5 x6 x7 x8 x9 x10 x11 x12, i + k = N → k < n → I i x1 x2 x3 x4 x5 x6 x7 x8 x9 x10 x11 x12 → P (bb_loop12 st n x1 x2 x3 x4 x5 x6 x7 x8 x9 x10 x11 x12) := by
    intro k
    induction k with
    | zero =>
      intro i n x1 x2 x3 x4 x5 x6 x7 x8 x9 x10 x11 x12 h1 h2 h3
      obtain ⟨m, rfl⟩ : ∃ m, n = m + 1 := ⟨n - 1, by omega⟩
      have e : i = N := by omega
      subst e
      exact hend _ x1 x2 x3 x4 x5 x6 x7 x8 x9 x10 x11 x12 h3
    | succ k ih =>
      intro i n x1 x2 x3 x4 x5 x6 x7 x8 x9 x10 x11 x12 h1 h2 h3
      obtain ⟨m, rfl⟩ : ∃ m, n = m + 1 := ⟨n - 1, by omega⟩
      rcases hstep (bb_loop12 st m) i x1 x2 x3 x4 x5 x6 x7 x8 x9 x10 x11 x12 (by omega) h3 with ⟨y1, y2, y3, y4, y5, y6, y7, y8, y9, y10, y11, y12, h4, h5⟩ | h4
      · have e : bb_loop12 st (m + 1) x1 x2 x3 x4 x5 x6 x7 x8 x9 x10 x11 x12 = bb_loop12 st m y1 y2 y3 y4 y5 y6 y7 y8 y9 y10 y11 y12 := h5
        rw [e]
        exact ih (i + 1) m y1 y2 y3 y4 y5 y6 y7 y8 y9 y10 y11 y12 (by omega) (by omega) h4
      · exact h4
  intro n hn x1 x2 x3 x4 x5 x6 x7 x8 x9 x10 x11 x12 h
  exact key N 0 n x1 x2 x3 x4 x5 x6 x7 x8 x9 x10 x11 x12 (by omega) hn h

def paS (s : Nat → Int32) (b : Nat) : Nat := pa (kO s b) (aO s b) (wO s b) (qO s (aO s b)) (sc8 s)
def ctS (s : Nat → Int32) (b : Nat) : Bool := decide (paS s b < 48) && sc8 s (paS s b)
section MINUTES
variable {s ga st cu ki at_ wi wr ke sp : Nat → Int32} {mi ba si ev z : Int32}
theorem bmin_e {t : Nat → Int32} (hV : IV t) {b : Nat} (hb : b < 8) : bmin t b 3 = nI (min 99999 (eO t + (if ctS t b then 1 else 0))) := by
  obtain ⟨e1, l1⟩ := hV.e
  unfold bmin ctS paS pa
  split
  · rename_i ha
    split
    · rename_i hx
      rw [pk_un (by omega), e1]
      have hw := (hV.w_ hb).2
      simp only [show ¬ 100 + wO t b < 48 by omega, decide_false, Bool.false_and]
      congr 1
      show eO t = min 99999 (eO t + 0)
      omega
    · rename_i hx
      rw [pk_us]
      have hl : tg (kO t b) (aO t b) (wO t b) (qO t (aO t b)) (sc8 t) < 48 := tg_lt ha (hV.w_ hb).2 _
      simp only [hl, decide_true, Bool.true_and]
      rfl
  · rename_i ha
    rw [e1]
    simp only [ha, decide_false, Bool.false_and]
    congr 1
    show eO t = min 99999 (eO t + 0)
    omega
theorem ctS_bfold (h : IV s) {b : Nat} (hb : b < 8) : ctS (bfold s b) b = ctS s b := by
  have e : paS (bfold s b) b = paS s b := by
    unfold paS
    rw [kO_bfold, wO_bfold, aO_bfold s (Nat.le_refl b)]
    unfold pa
    split
    · rename_i ha
      rw [qO_bfold s b ha, tg_cong ha (h.w_ hb).2 (fun c hc => sc8_bfold s b hc)]
    · rfl
  unfold ctS
  rw [e]
  by_cases q : paS s b < 48
  · rw [sc8_bfold s b q]
  · simp [q]
theorem bfold_e (h : IV s) : ∀ i, i ≤ 8 → bfold s i 3 = nI (min 99999 (eO s + cntN (ctS s) i))
  | 0, _ => by
    obtain ⟨e1, l1⟩ := h.e
    show s 3 = _
    rw [e1]
    congr 1
    show eO s = min 99999 (eO s + 0)
    omega
  | i + 1, hi => by
    have ih := bfold_e h i (by omega)
    show bmin (bfold s i) i 3 = _
    have hc := cntN_le (ctS s) i
    have l1 := h.e.2
    rw [bmin_e (h.bfl i (by omega)) (by omega), ctS_bfold h (by omega)]
    have e2 : eO (bfold s i) = min 99999 (eO s + cntN (ctS s) i) := by
      unfold eO at ih ⊢
      rw [ih, cln (by omega)]
    rw [e2]
    congr 1
    show min 99999 (min 99999 (eO s + cntN (ctS s) i) + _) = min 99999 (eO s + (cntN (ctS s) i + _))
    omega
theorem pass7 {nn m : Nat} (hn : 155 < nn) (hR : RW s ga st cu ki at_ wi wr ke sp mi ba si ev z) (hV : IV s) (hm : mi = nI m) (hm2 : m + 1 ≤ 99999) (k0 a0 w0 r0 : Int32) :
    ∃ k1 a1 w1 r1 at2 wr2, uX7_passMinute nn (seenX si ga st) k0 a0 w0 r0 ba mi ev at_ cu ki wi wr = some (nI (cntN (ctS s) (nO s)), k1, a1, w1, r1, nI (m + 1), nI (min 99999 (eO s + cntN (ctS s) (nO s))), at2, wr2) ∧ RW (amin s) ga st cu ki at2 wi wr2 ke sp (nI (m + 1)) ba si (nI (min 99999 (eO s + cntN (ctS s) (nO s)))) z ∧ IW (amin s) := by
  obtain ⟨en, hle⟩ := hV.n
  have eb : ba = nI (nO s) := hR.ba_.symm.trans en
  have hc := cntN_le (ctS s) (nO s)
  have l1 := hV.e.2
  unfold uX7_passMinute
  rw [bb_cut_s]
  have L : ∀ K : Int32 → Int32 → Int32 → Int32 → Int32 → (Nat → Int32) → (Nat → Int32) → Option (Int32 × Int32 × Int32 × Int32 × Int32 × Int32 × Int32 × (Nat → Int32) × (Nat → Int32)), ∃ k1 a1 w1 r1 at2 wr2, (∀ b, b < 8 → at2 b = bfold s (nO s) (106 + 5 * b)) ∧ (∀ b, b < 8 → wr2 b = bfold s (nO s) (108 + 5 * b)) ∧ bb_loop8 (uX7_passMinute_s5 (seenX si ga st) ba cu ki wi K) nn 0 0 k0 a0 w0 r0 at_ wr = K (nI (cntN (ctS s) (nO s))) k1 a1 w1 r1 at2 wr2 := by
    intro K
    refine inv8 (fun i x1 x2 _ _ _ _ fa fw => x1 = nI (cntN (ctS s) i) ∧ x2 = nI i ∧ (∀ b, b < 8 → fa b = bfold s i (106 + 5 * b)) ∧ (∀ b, b < 8 → fw b = bfold s i (108 + 5 * b))) (nO s) (fun o => ∃ k1 a1 w1 r1 at2 wr2, (∀ b, b < 8 → at2 b = bfold s (nO s) (106 + 5 * b)) ∧ (∀ b, b < 8 → wr2 b = bfold s (nO s) (108 + 5 * b)) ∧ o = K (nI (cntN (ctS s) (nO s))) k1 a1 w1 r1 at2 wr2) ?_ ?_ nn (by omega) 0 0 k0 a0 w0 r0 at_ wr ⟨rfl, rfl, fun b hb => (hR.at__ hb).symm, fun b hb => (hR.wr_ hb).symm⟩
    · rintro rec2 x1 x2 x3 x4 x5 x6 fa fw ⟨rfl, rfl, h1, h2⟩
      refine ⟨x3, x4, x5, x6, fa, fw, h1, h2, ?_⟩
      unfold uX7_passMinute_s5
      rw [eb, if_pos (nI_le (Nat.le_refl _) (by omega))]
    · rintro rec2 i x1 x2 x3 x4 x5 x6 fa fw hi ⟨rfl, rfl, h1, h2⟩
      refine Or.inl ?_
      have hi8 : i < 8 := by omega
      have fa1 : fa i = nI (aO s i) := by
        have e := ((hV.bfl i (by omega)).a hi8).1
        rw [aO_bfold s (Nat.le_refl i)] at e
        rw [h1 i hi8, e]
      have fw1 : fw i = nI (rO s i) := by
        have e := ((hV.bfl i (by omega)).r hi8).1
        rw [rO_bfold s (Nat.le_refl i)] at e
        rw [h2 i hi8, e]
      obtain ⟨c1, -, c3, -⟩ := hR.k7 hV hi8
      have hp := pass4 (hV.k hi8).2 (hV.a hi8).2 (hV.w_ hi8).2 (hV.r hi8).2 (hR.q7 hV) (seenX si ga st)
      have e5 : pa (kO s i) (aO s i) (wO s i) (qO s (aO s i)) (lb (seenX si ga st)) = paS s i := by
        unfold paS pa
        split
        · rename_i ha
          rw [tg_cong ha (hV.w_ hi8).2 (fun c hc => lb78 hR hc)]
        · rfl
      rw [e5] at hp
      have hok : paS s i < 48 ∨ paS s i = 100 ∨ paS s i = 101 := pa_ok (hV.w_ hi8).2 (hV.a hi8).2
      unfold uX7_passMinute_s5 uX4_putBack
      rw [eb, if_neg (nI_ge hi (by omega)), take4 hi8, bb_b4_s, c1, c3, fa1, fw1, hp, bb_b2_s, ixn hi8 (by decide), ixn hi8 (by decide), bb_b2_s, isSeenP hok (fun c hc => lb78 hR hc), bb_b1_s, bb_cut_s, cln (by omega), p1_]
      have q1 := (bfold_at hV (show i < i + 1 by omega) (show i + 1 ≤ 8 by omega)).1
      have q2 := (bfold_at hV (show i < i + 1 by omega) (show i + 1 ≤ 8 by omega)).2
      have g1 : ∀ b, b < 8 → upd fa i (nI (paS s i)) b = bfold s (i + 1) (106 + 5 * b) := fun b hb => by
        by_cases e : b = i
        · subst e; rw [pk_us]; exact q1.symm
        · rw [pk_un e, h1 b hb]
          exact (bmin_other (by omega) (by omega) (by omega)).symm
      have g2 : ∀ b, b < 8 → upd fw i (nI (pw (kO s i) (aO s i) (wO s i) (rO s i))) b = bfold s (i + 1) (108 + 5 * b) := fun b hb => by
        by_cases e : b = i
        · subst e; rw [pk_us]; exact q2.symm
        · rw [pk_un e, h2 b hb]
          exact (bmin_other (by omega) (by omega) (by omega)).symm
      have ec : cntN (ctS s) (i + 1) = cntN (ctS s) i + (if (decide (paS s i < 48) && sc8 s (paS s i)) = true then 1 else 0) := rfl
      by_cases hh : (decide (paS s i < 48) && sc8 s (paS s i)) = true
      · rw [if_pos hh, if_neg (by decide)]
        rw [if_pos hh] at ec
        refine ⟨_, _, _, _, _, _, _, _, ⟨?_, rfl, g1, g2⟩, rfl⟩
        rw [ec, p1_]
      · rw [if_neg hh, if_pos (by decide)]
        rw [if_neg hh] at ec
        refine ⟨_, _, _, _, _, _, _, _, ⟨?_, rfl, g1, g2⟩, rfl⟩
        rw [ec, Nat.add_zero]
  obtain ⟨k1, a1, w1, r1, at2, wr2, g1, g2, hL⟩ := L (fun x3 k a w r fa fw => some (x3, k, a, w, r, if mi + 1 < 99999 then mi + 1 else 99999, if ev + x3 < 99999 then ev + x3 else 99999, fa, fw))
  have e1 : (if mi + 1 < 99999 then mi + 1 else 99999) = nI (m + 1) := by
    have := minL (m := 99999) (e := m) (i := 1) (by omega) (by omega)
    rw [hm]
    refine this.trans ?_
    congr 1
    omega
  have ee : ev = nI (eO s) := hR.ev_.symm.trans hV.e.1
  have e2 : (if ev + nI (cntN (ctS s) (nO s)) < 99999 then ev + nI (cntN (ctS s) (nO s)) else 99999) = nI (min 99999 (eO s + cntN (ctS s) (nO s))) := by
    rw [ee]
    exact minL (m := 99999) (by omega) (by omega)
  rw [e1, e2] at hL
  rw [e1]
  have a0 : amin s 0 = nI (m + 1) := by
    show upd (bfold s (nO s)) 0 (bfold s (nO s) 0 + 1) 0 = _
    rw [pk_us, bfold_other (by omega) _ (fun b _ => ⟨by omega, by omega⟩), hR.mi_, hm, p1_]
  have a3 : amin s 3 = nI (min 99999 (eO s + cntN (ctS s) (nO s))) := by
    show upd (bfold s (nO s)) 0 (bfold s (nO s) 0 + 1) 3 = _
    rw [pk_un (by omega), bfold_e hV _ hle]
  have ao : ∀ j, j ≠ 0 → j ≠ 3 → (∀ b, b < 8 → j ≠ 106 + 5 * b ∧ j ≠ 108 + 5 * b) → amin s j = s j := fun j h0 h3 h => amin_other h0 h3 (fun b hb => h b (by omega))
  refine ⟨k1, a1, w1, r1, at2, wr2, hL, ?_, ?_⟩
  · refine ⟨a0, ?_, ?_, a3, ?_, ?_, ?_, ?_, ?_, ?_, ?_, ?_, ?_, ?_⟩
    · rw [ao _ (by omega) (by omega) (fun b _ => ⟨by omega, by omega⟩)]; exact hR.ba_
    · rw [ao _ (by omega) (by omega) (fun b _ => ⟨by omega, by omega⟩)]; exact hR.si_
    · rw [ao _ (by omega) (by omega) (fun b _ => ⟨by omega, by omega⟩)]; exact hR.z_
    · intro i hi; rw [ao _ (by omega) (by omega) (fun b _ => ⟨by omega, by omega⟩)]; exact hR.ga_ hi
    · intro i hi; rw [ao _ (by omega) (by omega) (fun b _ => ⟨by omega, by omega⟩)]; exact hR.st_ hi
    · intro i hi; rw [ao _ (by omega) (by omega) (fun b _ => ⟨by omega, by omega⟩)]; exact hR.cu_ hi
    · intro i hi; rw [ao _ (by omega) (by omega) (fun b _ => ⟨by omega, by omega⟩)]; exact hR.ki_ hi
    · intro i hi
      rw [g1 i hi]
      exact pk_un (by omega)
    · intro i hi; rw [ao _ (by omega) (by omega) (fun b _ => ⟨by omega, by omega⟩)]; exact hR.wi_ hi
    · intro i hi
      rw [g2 i hi]
      exact pk_un (by omega)
    · intro i hi; rw [ao _ (by omega) (by omega) (fun b _ => ⟨by omega, by omega⟩)]; exact hR.ke_ hi
    · intro i hi; rw [ao _ (by omega) (by omega) (fun b _ => ⟨by omega, by omega⟩)]; exact hR.sp_ hi
  · exact hV.amn.w ⟨m + 1, hm2, a0⟩
theorem op_go {nn : Nat} (hn : 155 < nn) (hR : RW s ga st cu ki at_ wi wr ke sp mi ba si ev z) (hI : IW s) (fo : Nat → Int32) (p1 k0 a0 w0 r0 : Int32) :
    ∃ r fo2 k1 a1 w1 r1 mi2 ev2 at2 wr2 s2, uX7_go nn p1 fo k0 a0 w0 r0 si ba mi ev at_ cu ga ki st wi wr = some (r, fo2, k1, a1, w1, r1, mi2, ev2, at2, wr2) ∧ uX8_go nn p1 fo s = some (r, fo2, s2) ∧ RW s2 ga st cu ki at2 wi wr2 ke sp mi2 ba si ev2 z ∧ IW s2 := by
  have hV := hI.v
  obtain ⟨m, hm, em⟩ := hI.mi_
  have em7 : mi = nI m := hR.mi_.symm.trans em
  unfold uX7_go uX8_go
  have e6 : uX8_in p1.toInt64 1 60 = uX7_isWithin p1 1 60 := in8 p1 1 60
  simp only [find78, fnd0, fnd4, e6, seenCells6 (show 48 < nn by omega), bb_cut_s, show (0 : Int32).toNatClampNeg = 0 by decide, hR.mi_, bb_b0_s, bb_b1_s, bb_b2_s, bb_b3_s, bb_b4_s, bb_b5_s, bb_b6_s, bb_b7_s, bb_b8_s, bb_b9_s, bb_b10_s, bb_b11_s, bb_b12_s, bb_b13_s, bb_b14_s, bb_b15_s, bb_b16_s]
  rcases win p1 1 60 with ⟨e1, h1, h2⟩ | ⟨e1, -⟩
  · obtain ⟨n, hn6, rfl⟩ := nat_of (n := 60) (by decide) (show (0 : Int32) ≤ p1 by rw [i_le] at h1 ⊢; exact Int.le_trans (by decide) h1) h2
    simp only [e1, bb_b0_s, bb_b1_s, bb_b2_s, bb_b3_s, bb_b4_s, bb_b5_s, bb_b6_s, bb_b7_s, bb_b8_s, bb_b9_s, bb_b10_s, bb_b11_s, bb_b12_s, bb_b13_s, bb_b14_s, bb_b15_s, bb_b16_s, e10, e00, e11, if_true, if_false]
    by_cases hle : mi + nI n ≤ 99999
    · simp only [if_pos hle]
      rw [em7, nAdd] at hle
      have hle2 : m + n ≤ 99999 := by
        have := nI_le_iff (a := m + n) (b := 99999) (by omega) (by omega)
        exact cast this hle
      have L7 : ∀ K : Int32 → Int32 → Int32 → Int32 → Int32 → Int32 → (Nat → Int32) → (Nat → Int32) → Option (Int32 × (Nat → Int32) × Int32 × Int32 × Int32 × Int32 × Int32 × Int32 × (Nat → Int32) × (Nat → Int32)), ∃ k1 a1 w1 r1 mi2 ev2 at2 wr2, RW (ami s n) ga st cu ki at2 wi wr2 ke sp mi2 ba si ev2 z ∧ IW (ami s n) ∧ bb_loop9 (uX7_go_s54 nn (nI n) (seenX si ga st) ba cu ki wi K) nn 0 k0 a0 w0 r0 mi ev at_ wr = K k1 a1 w1 r1 mi2 ev2 at2 wr2 := by
        intro K
        refine inv9 (fun i x1 _ _ _ _ mi2 ev2 fa fw => x1 = nI i ∧ mi2 = nI (m + i) ∧ RW (ami s i) ga st cu ki fa wi fw ke sp mi2 ba si ev2 z ∧ IW (ami s i)) n (fun o => ∃ k1 a1 w1 r1 mi2 ev2 at2 wr2, RW (ami s n) ga st cu ki at2 wi wr2 ke sp mi2 ba si ev2 z ∧ IW (ami s n) ∧ o = K k1 a1 w1 r1 mi2 ev2 at2 wr2) ?_ ?_ nn (by omega) 0 k0 a0 w0 r0 mi ev at_ wr ⟨rfl, em7, hR, hI⟩
        · rintro rec2 x1 x2 x3 x4 x5 x6 x7 fa fw ⟨rfl, h3, h4, h5⟩
          refine ⟨x2, x3, x4, x5, x6, x7, fa, fw, h4, h5, ?_⟩
          unfold uX7_go_s54
          rw [if_pos (nI_le (Nat.le_refl _) (by omega))]
        · rintro rec2 i x1 x2 x3 x4 x5 x6 x7 fa fw hi ⟨rfl, rfl, h4, h5⟩
          refine Or.inl ?_
          unfold uX7_go_s54
          obtain ⟨k1, a1, w1, r1, at2, wr2, q1, q2, q3⟩ := pass7 (nn := nn) (m := m + i) hn h4 h5.v rfl (by omega) x2 x3 x4 x5
          rw [if_neg (nI_ge hi (by omega)), q1, bb_b9_s, p1_]
          exact ⟨_, _, _, _, _, _, _, _, _, ⟨rfl, rfl, q2, q3⟩, rfl⟩
      have L8 : ∀ K : (Nat → Int32) → Option (Int32 × (Nat → Int32) × (Nat → Int32)), bb_loop2 (uX8_go_s39 nn (nI n) K) nn 0 s = K (ami s n) := by
        intro K
        refine for2 (F1 := fun i => nI i) (F2 := fun i => ami s i) (N := n) (fun rec2 => ?_) (fun rec2 i hi => ?_) nn (by omega)
        · unfold uX8_go_s39
          rw [if_pos (nI_le (Nat.le_refl _) (by omega))]
        · unfold uX8_go_s39
          rw [if_neg (nI_ge hi (by omega)), aMinute8 (by omega) (hV.ami i), bb_b1_s, p1_]
          rfl
      obtain ⟨k1, a1, w1, r1, mi2, ev2, at2, wr2, q1, q2, q3⟩ := L7 (fun k a w r mi2 ev2 fa fw => bb_b1 (uX6_howManyOut nn ba fa) (fun r19 => some (r19, fo, k, a, w, r, mi2, ev2, fa, fw)))
      rw [q3, L8, howManyOut6 (by omega) q1 q2.v, outMany8 (by omega) q2.v]
      exact ⟨_, _, _, _, _, _, _, _, _, _, _, rfl, rfl, q1, q2⟩
    · simp only [if_neg hle]
      exact ⟨_, _, _, _, _, _, _, _, _, _, _, rfl, rfl, hR, hI⟩
  · simp only [e1, bb_b0_s, bb_b1_s, bb_b2_s, bb_b3_s, bb_b4_s, bb_b5_s, bb_b6_s, bb_b7_s, bb_b8_s, bb_b9_s, bb_b10_s, bb_b11_s, bb_b12_s, bb_b13_s, bb_b14_s, bb_b15_s, bb_b16_s, e10, e00, e11, if_true, if_false]
    exact ⟨_, _, _, _, _, _, _, _, _, _, _, rfl, rfl, hR, hI⟩
theorem nI_of_nat {x : Int32} {m : Nat} (h : x.toBitVec.toNat = m) : x = nI m := by
  rw [← Int32.toBitVec_inj]
  apply BitVec.eq_of_toNat_eq
  have a3 : (nI m).toBitVec.toNat = m % 2 ^ 32 := rfl
  rw [a3, ← h]
  exact (Nat.mod_eq_of_lt x.toBitVec.isLt).symm
theorem draw_cell (y : Int32) : ∃ c, c < 48 ∧ (y.toUInt32 >>> ((8 : Int32).toUInt32 &&& Int32.toUInt32 31)).toInt32 - (y.toUInt32 >>> ((8 : Int32).toUInt32 &&& Int32.toUInt32 31)).toInt32 / 48 * 48 = nI c := by
  have e := nI_of_nat (pk_ushr y 8 8 (by decide))
  have hl : y.toBitVec.toNat < 2 ^ 32 := y.toBitVec.isLt
  rw [e]
  exact ⟨_, Nat.mod_lt _ (by decide), pk_rem (d := 48) (by omega) (by decide) (by decide)⟩
theorem caught_amin {nn : Nat} (hn : 155 < nn) (hV : IV s) {b : Nat} (hb : b < nO s) : uX8_isCaught nn (nI b) (amin s) = some (if ctS s b then 1 else 0) := by
  have hle := hV.n.2
  rw [isCaught8 (by omega) hV.amn (show b < 8 by omega), (amin_at hV hb).1]
  unfold ctS paS
  by_cases h : pa (kO s b) (aO s b) (wO s b) (qO s (aO s b)) (sc8 s) < 48
  · rw [sc8_amin s h]
  · simp [h]
def zN (z : Int32) : Int32 := z * 1103515245 + 12345
def zR (z : Int32) : Int32 := ((zN z).toUInt32 >>> ((8 : Int32).toUInt32 &&& Int32.toUInt32 31)).toInt32
def zC (z : Int32) : Nat := (zR z - zR z / 48 * 48).toNatClampNeg
theorem zC_ok (z : Int32) : zR z - zR z / 48 * 48 = nI (zC z) ∧ zC z < 48 := by
  obtain ⟨c, hc, e⟩ := draw_cell (zN z)
  unfold zC
  have e2 : zR z - zR z / 48 * 48 = nI c := e
  rw [e2, cln (by omega)]
  exact ⟨rfl, hc⟩
def mor (x : Int32) : Int32 := if x + 1 < 9 then x + 1 else 9
def stN (t : Nat → Int32) : Nat → Int32 := upd (upd t 4 (zN (t 4))) (9 + zC (t 4)) (mor (t (9 + zC (t 4))))
def stS (s : Nat → Int32) : Nat → (Nat → Int32)
  | 0 => s
  | i + 1 => amin (stN (stS s i))
def stX (s : Nat → Int32) : Nat → Int32
  | 0 => 0
  | i + 1 => stX s i + nI (cntN (ctS (stN (stS s i))) (nO (stS s i)))
theorem draw6 (z : Int32) : uX6_draw z = some (zR z, zN z) := rfl
theorem draw8 (t : Nat → Int32) : uX8_draw t = some (zR (t 4), upd t 4 (zN (t 4))) := rfl
theorem stN_ok {t : Nat → Int32} (hR : RW t ga st cu ki at_ wi wr ke sp mi ba si ev z) (hI : IW t) : RW (stN t) ga (upd st (zC z) (mor (st (zC z)))) cu ki at_ wi wr ke sp mi ba si ev (zN z) ∧ IW (stN t) := by
  have hc := (zC_ok z).2
  have ez := hR.z_
  unfold stN
  rw [ez, hR.st_ hc]
  refine ⟨(hR.u_z _).u_st hc _, (hI.u_z (v := zN z) trivial).u_st hc ?_⟩
  obtain ⟨q, hq, eq⟩ := hI.st_ hc
  rw [hR.st_ hc] at eq
  rw [eq]
  exact ⟨min 9 (q + 1), by omega, minL (m := 9) (e := q) (i := 1) (by omega) (by omega)⟩
theorem stN_iw {t : Nat → Int32} (hI : IW t) : IW (stN t) := by
  have hc := (zC_ok (t 4)).2
  unfold stN
  refine (hI.u_z (v := zN (t 4)) trivial).u_st hc ?_
  obtain ⟨q, hq, eq⟩ := hI.st_ hc
  rw [eq]
  exact ⟨min 9 (q + 1), by omega, minL (m := 9) (e := q) (i := 1) (by omega) (by omega)⟩
theorem nO_stN (t : Nat → Int32) : nO (stN t) = nO t := nO_eq (by unfold stN; rw [pk_un (by omega), pk_un (by omega)])
theorem op_steams {nn : Nat} (hn : 155 < nn) (hR : RW s ga st cu ki at_ wi wr ke sp mi ba si ev z) (hI : IW s) (fo : Nat → Int32) (p1 k0 a0 w0 r0 : Int32) :
    ∃ r fo2 k1 a1 w1 r1 mi2 ev2 z2 at2 st2 wr2 s2, uX7_steams nn p1 fo k0 a0 w0 r0 si ba mi ev z at_ cu ga ki st wi wr = some (r, fo2, k1, a1, w1, r1, mi2, ev2, z2, at2, st2, wr2) ∧ uX8_steams nn p1 fo s = some (r, fo2, s2) ∧ RW s2 ga st2 cu ki at2 wi wr2 ke sp mi2 ba si ev2 z2 ∧ IW s2 := by
  obtain ⟨m, hm, em⟩ := hI.mi_
  have em7 : mi = nI m := hR.mi_.symm.trans em
  unfold uX7_steams uX8_steams
  have e6 : uX8_in p1.toInt64 1 20 = uX7_isWithin p1 1 20 := in8 p1 1 20
  simp only [find78, fnd0, fnd4, e6, bb_cut_s, show (0 : Int32).toNatClampNeg = 0 by decide, hR.mi_, bb_b0_s, bb_b1_s, bb_b2_s, bb_b3_s, bb_b4_s, bb_b5_s, bb_b6_s, bb_b7_s, bb_b8_s, bb_b9_s, bb_b10_s, bb_b11_s, bb_b12_s, bb_b13_s, bb_b14_s, bb_b15_s, bb_b16_s]
  rcases win p1 1 20 with ⟨e1, h1, h2⟩ | ⟨e1, -⟩
  · obtain ⟨n, hn6, rfl⟩ := nat_of (n := 20) (by decide) (show (0 : Int32) ≤ p1 by rw [i_le] at h1 ⊢; exact Int.le_trans (by decide) h1) h2
    simp only [e1, bb_b0_s, bb_b1_s, bb_b2_s, bb_b3_s, bb_b4_s, bb_b5_s, bb_b6_s, bb_b7_s, bb_b8_s, bb_b9_s, bb_b10_s, bb_b11_s, bb_b12_s, bb_b13_s, bb_b14_s, bb_b15_s, bb_b16_s, e10, e00, e11, if_true, if_false]
    by_cases hle : mi + nI n ≤ 99999
    · simp only [if_pos hle]
      rw [em7, nAdd] at hle
      have hle2 : m + n ≤ 99999 := by
        have := nI_le_iff (a := m + n) (b := 99999) (by omega) (by omega)
        exact cast this hle
      have hI0 : ∀ j, j ≤ 0 → IW (stS s j) := fun j hj => by
        obtain rfl : j = 0 := by omega
        exact hI
      have L7 : ∃ k1 a1 w1 r1 mi2 ev2 z2 at2 st2 wr2, RW (stS s n) ga st2 cu ki at2 wi wr2 ke sp mi2 ba si ev2 z2 ∧ (∀ i, i ≤ n → IW (stS s i)) ∧ bb_loop12 (uX7_steams_s40 nn (nI n) fo si ba cu ga ki wi) nn 0 0 k0 a0 w0 r0 mi ev z at_ st wr = some (stX s n, fo, k1, a1, w1, r1, mi2, ev2, z2, at2, st2, wr2) := by
        refine inv12 (fun i x1 x2 _ _ _ _ mi2 ev2 z2 fa fs fw => x1 = stX s i ∧ x2 = nI i ∧ mi2 = nI (m + i) ∧ RW (stS s i) ga fs cu ki fa wi fw ke sp mi2 ba si ev2 z2 ∧ (∀ j, j ≤ i → IW (stS s j))) n (fun o => ∃ k1 a1 w1 r1 mi2 ev2 z2 at2 st2 wr2, RW (stS s n) ga st2 cu ki at2 wi wr2 ke sp mi2 ba si ev2 z2 ∧ (∀ i, i ≤ n → IW (stS s i)) ∧ o = some (stX s n, fo, k1, a1, w1, r1, mi2, ev2, z2, at2, st2, wr2)) ?_ ?_ nn (by omega) 0 0 k0 a0 w0 r0 mi ev z at_ st wr ⟨rfl, rfl, em7, hR, hI0⟩
        · rintro rec2 x1 x2 x3 x4 x5 x6 x7 x8 x9 fa fs fw ⟨rfl, rfl, h3, h4, h5⟩
          refine ⟨x3, x4, x5, x6, x7, x8, x9, fa, fs, fw, h4, h5, ?_⟩
          unfold uX7_steams_s40
          rw [if_pos (nI_le (Nat.le_refl _) (by omega))]
        · rintro rec2 i x1 x2 x3 x4 x5 x6 x7 x8 x9 fa fs fw hi ⟨rfl, rfl, rfl, h4, h5⟩
          refine Or.inl ?_
          unfold uX7_steams_s40
          obtain ⟨hc1, hc2⟩ := zC_ok x9
          obtain ⟨hR2, hI2⟩ := stN_ok h4 (h5 i (Nat.le_refl _))
          obtain ⟨k1, a1, w1, r1, at2, wr2, q1, q2, q3⟩ := pass7 (nn := nn) (m := m + i) hn hR2 hI2.v rfl (by omega) x3 x4 x5 x6
          rw [if_neg (nI_ge hi (by omega)), draw6, bb_b2_s, hc1, ixn hc2 (by decide), ixn hc2 (by decide), seenCells6 (by omega), bb_b1_s, cln (by omega)]
          change ∃ y1 y2 y3 y4 y5 y6 y7 y8 y9 y10 y11 y12, _ ∧ bb_b9 (uX7_passMinute nn (seenX si ga (upd fs (zC x9) (mor (fs (zC x9))))) x3 x4 x5 x6 ba (nI (m + i)) x8 fa cu ki wi fw) _ = _
          rw [nO_stN] at q1 q2
          rw [q1, bb_b9_s, p1_]
          refine ⟨_, _, _, _, _, _, _, _, _, _, _, _, ⟨rfl, rfl, rfl, q2, ?_⟩, rfl⟩
          intro j hj
          rcases Nat.lt_or_ge i j with g | g
          · obtain rfl : j = i + 1 := by omega
            exact q3
          · exact h5 j g
      obtain ⟨k1, a1, w1, r1, mi2, ev2, z2, at2, st2, wr2, q1, q2, q3⟩ := L7
      have L8 : bb_loop3 (uX8_steams_s41 nn (nI n) fo) nn 0 0 s = some (stX s n, fo, stS s n) := by
        refine for3 (F1 := fun i => stX s i) (F2 := fun i => nI i) (F3 := fun i => stS s i) (N := n) (fun rec2 => ?_) (fun rec2 i hi => ?_) nn (by omega)
        · unfold uX8_steams_s41
          rw [if_pos (nI_le (Nat.le_refl _) (by omega))]
        · unfold uX8_steams_s41
          have hIi := q2 i (by omega)
          have hIi2 := q2 (i + 1) (by omega)
          obtain ⟨hc1, hc2⟩ := zC_ok (stS s i 4)
          have hV2 : IV (stN (stS s i)) := (stN_iw hIi).v
          rw [if_neg (nI_ge hi (by omega)), draw8, bb_b2_s, hc1, a9_, ixn (show 9 + zC (stS s i 4) < 155 by omega) (by decide), ixn (show 9 + zC (stS s i 4) < 155 by omega) (by decide), cln (by omega), pk_un (show 9 + zC (stS s i 4) ≠ 4 by omega)]
          change bb_b1 (uX8_aMinute nn (stN (stS s i))) _ = _
          rw [aMinute8 (by omega) hV2, bb_b1_s, bb_cut_s]
          change bb_loop2 (uX8_steams_s86 nn (stS s (i + 1)) (fun x2_23 => rec2 x2_23 (nI i + 1) (stS s (i + 1)))) nn (stX s i) 0 = rec2 (stX s (i + 1)) (nI (i + 1)) (stS s (i + 1))
          have hcn : ∀ j, j < nO (stS s i) → stX s i + nI (cntN (ctS (stN (stS s i))) j) + (if ctS (stN (stS s i)) j then 1 else 0) = stX s i + nI (cntN (ctS (stN (stS s i))) (j + 1)) := fun j hj => by
            show _ = stX s i + nI (cntN (ctS (stN (stS s i))) j + (if ctS (stN (stS s i)) j = true then 1 else 0))
            rw [Int32.add_assoc]
            congr 1
            by_cases g : ctS (stN (stS s i)) j = true
            · rw [if_pos g, if_pos g, p1_]
            · rw [if_neg g, if_neg g, p0_]
          have hno : stS s (i + 1) 1 = nI (nO (stS s i)) := by
            rw [hIi2.v.n.1]
            congr 1
            show nO (amin (stN (stS s i))) = _
            rw [nO_amin, nO_stN]
          have hno8 := hIi.v.n.2
          have key : ∀ x, x = stX s i + nI (cntN (ctS (stN (stS s i))) 0) → bb_loop2 (uX8_steams_s86 nn (stS s (i + 1)) (fun x2_23 => rec2 x2_23 (nI i + 1) (stS s (i + 1)))) nn x 0 = rec2 (stX s (i + 1)) (nI (i + 1)) (stS s (i + 1)) := by
            rintro x rfl
            refine for2 (F1 := fun j => stX s i + nI (cntN (ctS (stN (stS s i))) j)) (F2 := fun j => nI j) (N := nO (stS s i)) (fun rec3 => ?_) (fun rec3 j hj => ?_) nn (by omega)
            · unfold uX8_steams_s86
              rw [cl1, hno, if_pos (nI_le (Nat.le_refl _) (by omega)), p1_]
              rfl
            · unfold uX8_steams_s86
              have hca : uX8_isCaught nn (nI j) (stS s (i + 1)) = some (if ctS (stN (stS s i)) j then 1 else 0) := caught_amin hn hV2 (by rw [nO_stN]; exact hj)
              have hcn := hcn j hj
              rw [cl1, hno, if_neg (nI_ge hj (by omega)), hca, bb_b1_s, bb_cut_s, p1_]
              by_cases g : ctS (stN (stS s i)) j = true
              · rw [if_pos g] at hcn
                rw [if_pos g, if_neg (by decide)]
                show rec3 (stX s i + nI (cntN (ctS (stN (stS s i))) j) + 1) _ = _
                rw [hcn]
              · rw [if_neg g] at hcn
                rw [if_neg g, if_pos (by decide)]
                show rec3 (stX s i + nI (cntN (ctS (stN (stS s i))) j) + 0) _ = _
                rw [hcn]
          exact key _ (Int32.add_zero _).symm
      rw [q3, L8]
      exact ⟨_, _, _, _, _, _, _, _, _, _, _, _, _, rfl, rfl, q1, q2 n (Nat.le_refl _)⟩
    · simp only [if_neg hle]
      exact ⟨_, _, _, _, _, _, _, _, _, _, _, _, _, rfl, rfl, hR, hI⟩
  · simp only [e1, bb_b0_s, bb_b1_s, bb_b2_s, bb_b3_s, bb_b4_s, bb_b5_s, bb_b6_s, bb_b7_s, bb_b8_s, bb_b9_s, bb_b10_s, bb_b11_s, bb_b12_s, bb_b13_s, bb_b14_s, bb_b15_s, bb_b16_s, e10, e00, e11, if_true, if_false]
    exact ⟨_, _, _, _, _, _, _, _, _, _, _, _, _, rfl, rfl, hR, hI⟩
end MINUTES
