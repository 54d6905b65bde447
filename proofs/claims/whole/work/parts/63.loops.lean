/-! ===== loops with an invariant ===== -/
theorem inv1 {α1 β : Type} {st : (α1 → Option β) → α1 → Option β} (I : Nat → α1 → Prop) (N : Nat) (P : Option β → Prop) (hend : ∀ rec2 x1, I N x1 → P (st rec2 x1)) (hstep : ∀ rec2 (i : Nat) x1, i < N → I i x1 → (∃ y1, I (i + 1) y1 ∧ st rec2 x1 = rec2 y1) ∨ P (st rec2 x1)) : ∀ n, N < n → ∀ x1, I 0 x1 → P (bb_loop1 st n x1) := by
  have key : ∀ (k i n : Nat) x1, i + k = N → k < n → I i x1 → P (bb_loop1 st n x1) := by
    intro k
    induction k with
    | zero =>
      intro i n x1 h1 h2 h3
      obtain ⟨m, rfl⟩ : ∃ m, n = m + 1 := ⟨n - 1, by omega⟩
      have e : i = N := by omega
      subst e
      exact hend _ x1 h3
    | succ k ih =>
      intro i n x1 h1 h2 h3
      obtain ⟨m, rfl⟩ : ∃ m, n = m + 1 := ⟨n - 1, by omega⟩
      rcases hstep (bb_loop1 st m) i x1 (by omega) h3 with ⟨y1, h4, h5⟩ | h4
      · have e : bb_loop1 st (m + 1) x1 = bb_loop1 st m y1 := h5
        rw [e]
        exact ih (i + 1) m y1 (by omega) (by omega) h4
      · exact h4
  intro n hn x1 h
  exact key N 0 n x1 (by omega) hn h
theorem inv2 {α1 α2 β : Type} {st : (α1 → α2 → Option β) → α1 → α2 → Option β} (I : Nat → α1 → α2 → Prop) (N : Nat) (P : Option β → Prop) (hend : ∀ rec2 x1 x2, I N x1 x2 → P (st rec2 x1 x2)) (hstep : ∀ rec2 (i : Nat) x1 x2, i < N → I i x1 x2 → (∃ y1 y2, I (i + 1) y1 y2 ∧ st rec2 x1 x2 = rec2 y1 y2) ∨ P (st rec2 x1 x2)) : ∀ n, N < n → ∀ x1 x2, I 0 x1 x2 → P (bb_loop2 st n x1 x2) := by
  have key : ∀ (k i n : Nat) x1 x2, i + k = N → k < n → I i x1 x2 → P (bb_loop2 st n x1 x2) := by
    intro k
    induction k with
    | zero =>
      intro i n x1 x2 h1 h2 h3
      obtain ⟨m, rfl⟩ : ∃ m, n = m + 1 := ⟨n - 1, by omega⟩
      have e : i = N := by omega
      subst e
      exact hend _ x1 x2 h3
    | succ k ih =>
      intro i n x1 x2 h1 h2 h3
      obtain ⟨m, rfl⟩ : ∃ m, n = m + 1 := ⟨n - 1, by omega⟩
      rcases hstep (bb_loop2 st m) i x1 x2 (by omega) h3 with ⟨y1, y2, h4, h5⟩ | h4
      · have e : bb_loop2 st (m + 1) x1 x2 = bb_loop2 st m y1 y2 := h5
        rw [e]
        exact ih (i + 1) m y1 y2 (by omega) (by omega) h4
      · exact h4
  intro n hn x1 x2 h
  exact key N 0 n x1 x2 (by omega) hn h
theorem inv3 {α1 α2 α3 β : Type} {st : (α1 → α2 → α3 → Option β) → α1 → α2 → α3 → Option β} (I : Nat → α1 → α2 → α3 → Prop) (N : Nat) (P : Option β → Prop) (hend : ∀ rec2 x1 x2 x3, I N x1 x2 x3 → P (st rec2 x1 x2 x3)) (hstep : ∀ rec2 (i : Nat) x1 x2 x3, i < N → I i x1 x2 x3 → (∃ y1 y2 y3, I (i + 1) y1 y2 y3 ∧ st rec2 x1 x2 x3 = rec2 y1 y2 y3) ∨ P (st rec2 x1 x2 x3)) : ∀ n, N < n → ∀ x1 x2 x3, I 0 x1 x2 x3 → P (bb_loop3 st n x1 x2 x3) := by
  have key : ∀ (k i n : Nat) x1 x2 x3, i + k = N → k < n → I i x1 x2 x3 → P (bb_loop3 st n x1 x2 x3) := by
    intro k
    induction k with
    | zero =>
      intro i n x1 x2 x3 h1 h2 h3
      obtain ⟨m, rfl⟩ : ∃ m, n = m + 1 := ⟨n - 1, by omega⟩
      have e : i = N := by omega
      subst e
      exact hend _ x1 x2 x3 h3
    | succ k ih =>
      intro i n x1 x2 x3 h1 h2 h3
      obtain ⟨m, rfl⟩ : ∃ m, n = m + 1 := ⟨n - 1, by omega⟩
      rcases hstep (bb_loop3 st m) i x1 x2 x3 (by omega) h3 with ⟨y1, y2, y3, h4, h5⟩ | h4
      · have e : bb_loop3 st (m + 1) x1 x2 x3 = bb_loop3 st m y1 y2 y3 := h5
        rw [e]
        exact ih (i + 1) m y1 y2 y3 (by omega) (by omega) h4
      · exact h4
  intro n hn x1 x2 x3 h
  exact key N 0 n x1 x2 x3 (by omega) hn h
theorem inv4 {α1 α2 α3 α4 β : Type} {st : (α1 → α2 → α3 → α4 → Option β) → α1 → α2 → α3 → α4 → Option β} (I : Nat → α1 → α2 → α3 → α4 → Prop) (N : Nat) (P : Option β → Prop) (hend : ∀ rec2 x1 x2 x3 x4, I N x1 x2 x3 x4 → P (st rec2 x1 x2 x3 x4)) (hstep : ∀ rec2 (i : Nat) x1 x2 x3 x4, i < N → I i x1 x2 x3 x4 → (∃ y1 y2 y3 y4, I (i + 1) y1 y2 y3 y4 ∧ st rec2 x1 x2 x3 x4 = rec2 y1 y2 y3 y4) ∨ P (st rec2 x1 x2 x3 x4)) : ∀ n, N < n → ∀ x1 x2 x3 x4, I 0 x1 x2 x3 x4 → P (bb_loop4 st n x1 x2 x3 x4) := by
  have key : ∀ (k i n : Nat) x1 x2 x3 x4, i + k = N → k < n → I i x1 x2 x3 x4 → P (bb_loop4 st n x1 x2 x3 x4) := by
    intro k
    induction k with
    | zero =>
      intro i n x1 x2 x3 x4 h1 h2 h3
      obtain ⟨m, rfl⟩ : ∃ m, n = m + 1 := ⟨n - 1, by omega⟩
      have e : i = N := by omega
      subst e
      exact hend _ x1 x2 x3 x4 h3
    | succ k ih =>
      intro i n x1 x2 x3 x4 h1 h2 h3
      obtain ⟨m, rfl⟩ : ∃ m, n = m + 1 := ⟨n - 1, by omega⟩
      rcases hstep (bb_loop4 st m) i x1 x2 x3 x4 (by omega) h3 with ⟨y1, y2, y3, y4, h4, h5⟩ | h4
      · have e : bb_loop4 st (m + 1) x1 x2 x3 x4 = bb_loop4 st m y1 y2 y3 y4 := h5
        rw [e]
        exact ih (i + 1) m y1 y2 y3 y4 (by omega) (by omega) h4
      · exact h4
  intro n hn x1 x2 x3 x4 h
  exact key N 0 n x1 x2 x3 x4 (by omega) hn h
theorem inv5 {α1 α2 α3 α4 α5 β : Type} {st : (α1 → α2 → α3 → α4 → α5 → Option β) → α1 → α2 → α3 → α4 → α5 → Option β} (I : Nat → α1 → α2 → α3 → α4 → α5 → Prop) (N : Nat) (P : Option β → Prop) (hend : ∀ rec2 x1 x2 x3 x4 x5, I N x1 x2 x3 x4 x5 → P (st rec2 x1 x2 x3 x4 x5)) (hstep : ∀ rec2 (i : Nat) x1 x2 x3 x4 x5, i < N → I i x1 x2 x3 x4 x5 → (∃ y1 y2 y3 y4 y5, I (i + 1) y1 y2 y3 y4 y5 ∧ st rec2 x1 x2 x3 x4 x5 = rec2 y1 y2 y3 y4 y5) ∨ P (st rec2 x1 x2 x3 x4 x5)) : ∀ n, N < n → ∀ x1 x2 x3 x4 x5, I 0 x1 x2 x3 x4 x5 → P (bb_loop5 st n x1 x2 x3 x4 x5) := by
  have key : ∀ (k i n : Nat) x1 x2 x3 x4 x5, i + k = N → k < n → I i x1 x2 x3 x4 x5 → P (bb_loop5 st n x1 x2 x3 x4 x5) := by
    intro k
    induction k with
    | zero =>
      intro i n x1 x2 x3 x4 x5 h1 h2 h3
      obtain ⟨m, rfl⟩ : ∃ m, n = m + 1 := ⟨n - 1, by omega⟩
      have e : i = N := by omega
      subst e
      exact hend _ x1 x2 x3 x4 x5 h3
    | succ k ih =>
      intro i n x1 x2 x3 x4 x5 h1 h2 h3
      obtain ⟨m, rfl⟩ : ∃ m, n = m + 1 := ⟨n - 1, by omega⟩
      rcases hstep (bb_loop5 st m) i x1 x2 x3 x4 x5 (by omega) h3 with ⟨y1, y2, y3, y4, y5, h4, h5⟩ | h4
      · have e : bb_loop5 st (m + 1) x1 x2 x3 x4 x5 = bb_loop5 st m y1 y2 y3 y4 y5 := h5
        rw [e]
        exact ih (i + 1) m y1 y2 y3 y4 y5 (by omega) (by omega) h4
      · exact h4
  intro n hn x1 x2 x3 x4 x5 h
  exact key N 0 n x1 x2 x3 x4 x5 (by omega) hn h
theorem inv6 {α1 α2 α3 α4 α5 α6 β : Type} {st : (α1 → α2 → α3 → α4 → α5 → α6 → Option β) → α1 → α2 → α3 → α4 → α5 → α6 → Option β} (I : Nat → α1 → α2 → α3 → α4 → α5 → α6 → Prop) (N : Nat) (P : Option β → Prop) (hend : ∀ rec2 x1 x2 x3 x4 x5 x6, I N x1 x2 x3 x4 x5 x6 → P (st rec2 x1 x2 x3 x4 x5 x6)) (hstep : ∀ rec2 (i : Nat) x1 x2 x3 x4 x5 x6, i < N → I i x1 x2 x3 x4 x5 x6 → (∃ y1 y2 y3 y4 y5 y6, I (i + 1) y1 y2 y3 y4 y5 y6 ∧ st rec2 x1 x2 x3 x4 x5 x6 = rec2 y1 y2 y3 y4 y5 y6) ∨ P (st rec2 x1 x2 x3 x4 x5 x6)) : ∀ n, N < n → ∀ x1 x2 x3 x4 x5 x6, I 0 x1 x2 x3 x4 x5 x6 → P (bb_loop6 st n x1 x2 x3 x4 x5 x6) := by
  have key : ∀ (k i n : Nat) x1 x2 x3 x4 x5 x6, i + k = N → k < n → I i x1 x2 x3 x4 x5 x6 → P (bb_loop6 st n x1 x2 x3 x4 x5 x6) := by
    intro k
    induction k with
    | zero =>
      intro i n x1 x2 x3 x4 x5 x6 h1 h2 h3
      obtain ⟨m, rfl⟩ : ∃ m, n = m + 1 := ⟨n - 1, by omega⟩
      have e : i = N := by omega
      subst e
      exact hend _ x1 x2 x3 x4 x5 x6 h3
    | succ k ih =>
      intro i n x1 x2 x3 x4 x5 x6 h1 h2 h3
      obtain ⟨m, rfl⟩ : ∃ m, n = m + 1 := ⟨n - 1, by omega⟩
      rcases hstep (bb_loop6 st m) i x1 x2 x3 x4 x5 x6 (by omega) h3 with ⟨y1, y2, y3, y4, y5, y6, h4, h5⟩ | h4
      · have e : bb_loop6 st (m + 1) x1 x2 x3 x4 x5 x6 = bb_loop6 st m y1 y2 y3 y4 y5 y6 := h5
        rw [e]
        exact ih (i + 1) m y1 y2 y3 y4 y5 y6 (by omega) (by omega) h4
      · exact h4
  intro n hn x1 x2 x3 x4 x5 x6 h
  exact key N 0 n x1 x2 x3 x4 x5 x6 (by omega) hn h
theorem inv7 {α1 α2 α3 α4 α5 α6 α7 β : Type} {st : (α1 → α2 → α3 → α4 → α5 → α6 → α7 → Option β) → α1 → α2 → α3 → α4 → α5 → α6 → α7 → Option β} (I : Nat → α1 → α2 → α3 → α4 → α5 → α6 → α7 → Prop) (N : Nat) (P : Option β → Prop) (hend : ∀ rec2 x1 x2 x3 x4 x5 x6 x7, I N x1 x2 x3 x4 x5 x6 x7 → P (st rec2 x1 x2 x3 x4 x5 x6 x7)) (hstep : ∀ rec2 (i : Nat) x1 x2 x3 x4 x5 x6 x7, i < N → I i x1 x2 x3 x4 x5 x6 x7 → (∃ y1 y2 y3 y4 y5 y6 y7, I (i + 1) y1 y2 y3 y4 y5 y6 y7 ∧ st rec2 x1 x2 x3 x4 x5 x6 x7 = rec2 y1 y2 y3 y4 y5 y6 y7) ∨ P (st rec2 x1 x2 x3 x4 x5 x6 x7)) : ∀ n, N < n → ∀ x1 x2 x3 x4 x5 x6 x7, I 0 x1 x2 x3 x4 x5 x6 x7 → P (bb_loop7 st n x1 x2 x3 x4 x5 x6 x7) := by
  have key : ∀ (k i n : Nat) x1 x2 x3 x4 x5 x6 x7, i + k = N → k < n → I i x1 x2 x3 x4 x5 x6 x7 → P (bb_loop7 st n x1 x2 x3 x4 x5 x6 x7) := by
    intro k
    induction k with
    | zero =>
      intro i n x1 x2 x3 x4 x5 x6 x7 h1 h2 h3
      obtain ⟨m, rfl⟩ : ∃ m, n = m + 1 := ⟨n - 1, by omega⟩
      have e : i = N := by omega
      subst e
      exact hend _ x1 x2 x3 x4 x5 x6 x7 h3
    | succ k ih =>
      intro i n x1 x2 x3 x4 x5 x6 x7 h1 h2 h3
      obtain ⟨m, rfl⟩ : ∃ m, n = m + 1 := ⟨n - 1, by omega⟩
      rcases hstep (bb_loop7 st m) i x1 x2 x3 x4 x5 x6 x7 (by omega) h3 with ⟨y1, y2, y3, y4, y5, y6, y7, h4, h5⟩ | h4
      · have e : bb_loop7 st (m + 1) x1 x2 x3 x4 x5 x6 x7 = bb_loop7 st m y1 y2 y3 y4 y5 y6 y7 := h5
        rw [e]
        exact ih (i + 1) m y1 y2 y3 y4 y5 y6 y7 (by omega) (by omega) h4
      · exact h4
  intro n hn x1 x2 x3 x4 x5 x6 x7 h
  exact key N 0 n x1 x2 x3 x4 x5 x6 x7 (by omega) hn h
theorem inv8 {α1 α2 α3 α4 α5 α6 α7 α8 β : Type} {st : (α1 → α2 → α3 → α4 → α5 → α6 → α7 → α8 → Option β) → α1 → α2 → α3 → α4 → α5 → α6 → α7 → α8 → Option β} (I : Nat → α1 → α2 → α3 → α4 → α5 → α6 → α7 → α8 → Prop) (N : Nat) (P : Option β → Prop) (hend : ∀ rec2 x1 x2 x3 x4 x5 x6 x7 x8, I N x1 x2 x3 x4 x5 x6 x7 x8 → P (st rec2 x1 x2 x3 x4 x5 x6 x7 x8)) (hstep : ∀ rec2 (i : Nat) x1 x2 x3 x4 x5 x6 x7 x8, i < N → I i x1 x2 x3 x4 x5 x6 x7 x8 → (∃ y1 y2 y3 y4 y5 y6 y7 y8, I (i + 1) y1 y2 y3 y4 y5 y6 y7 y8 ∧ st rec2 x1 x2 x3 x4 x5 x6 x7 x8 = rec2 y1 y2 y3 y4 y5 y6 y7 y8) ∨ P (st rec2 x1 x2 x3 x4 x5 x6 x7 x8)) : ∀ n, N < n → ∀ x1 x2 x3 x4 x5 x6 x7 x8, I 0 x1 x2 x3 x4 x5 x6 x7 x8 → P (bb_loop8 st n x1 x2 x3 x4 x5 x6 x7 x8) := by
  have key : ∀ (k i n : Nat) x1 x2 x3 x4 x5 x6 x7 x8, i + k = N → k < n → I i x1 x2 x3 x4 x5 x6 x7 x8 → P (bb_loop8 st n x1 x2 x3 x4 x5 x6 x7 x8) := by
    intro k
    induction k with
    | zero =>
      intro i n x1 x2 x3 x4 x5 x6 x7 x8 h1 h2 h3
      obtain ⟨m, rfl⟩ : ∃ m, n = m + 1 := ⟨n - 1, by omega⟩
      have e : i = N := by omega
      subst e
      exact hend _ x1 x2 x3 x4 x5 x6 x7 x8 h3
    | succ k ih =>
      intro i n x1 x2 x3 x4 x5 x6 x7 x8 h1 h2 h3
      obtain ⟨m, rfl⟩ : ∃ m, n = m + 1 := ⟨n - 1, by omega⟩
      rcases hstep (bb_loop8 st m) i x1 x2 x3 x4 x5 x6 x7 x8 (by omega) h3 with ⟨y1, y2, y3, y4, y5, y6, y7, y8, h4, h5⟩ | h4
      · have e : bb_loop8 st (m + 1) x1 x2 x3 x4 x5 x6 x7 x8 = bb_loop8 st m y1 y2 y3 y4 y5 y6 y7 y8 := h5
        rw [e]
        exact ih (i + 1) m y1 y2 y3 y4 y5 y6 y7 y8 (by omega) (by omega) h4
      · exact h4
  intro n hn x1 x2 x3 x4 x5 x6 x7 x8 h
  exact key N 0 n x1 x2 x3 x4 x5 x6 x7 x8 (by omega) hn h
theorem inv9 {α1 α2 α3 α4 α5 α6 α7 α8 α9 β : Type} {st : (α1 → α2 → α3 → α4 → α5 → α6 → α7 → α8 → α9 → Option β) → α1 → α2 → α3 → α4 → α5 → α6 → α7 → α8 → α9 → Option β} (I : Nat → α1 → α2 → α3 → α4 → α5 → α6 → α7 → α8 → α9 → Prop) (N : Nat) (P : Option β → Prop) (hend : ∀ rec2 x1 x2 x3 x4 x5 x6 x7 x8 x9, I N x1 x2 x3 x4 x5 x6 x7 x8 x9 → P (st rec2 x1 x2 x3 x4 x5 x6 x7 x8 x9)) (hstep : ∀ rec2 (i : Nat) x1 x2 x3 x4 x5 x6 x7 x8 x9, i < N → I i x1 x2 x3 x4 x5 x6 x7 x8 x9 → (∃ y1 y2 y3 y4 y5 y6 y7 y8 y9, I (i + 1) y1 y2 y3 y4 y5 y6 y7 y8 y9 ∧ st rec2 x1 x2 x3 x4 x5 x6 x7 x8 x9 = rec2 y1 y2 y3 y4 y5 y6 y7 y8 y9) ∨ P (st rec2 x1 x2 x3 x4 x5 x6 x7 x8 x9)) : ∀ n, N < n → ∀ x1 x2 x3 x4 x5 x6 x7 x8 x9, I 0 x1 x2 x3 x4 x5 x6 x7 x8 x9 → P (bb_loop9 st n x1 x2 x3 x4 x5 x6 x7 x8 x9) := by
  have key : ∀ (k i n : Nat) x1 x2 x3 x4 x5 x6 x7 x8 x9, i + k = N → k < n → I i x1 x2 x3 x4 x5 x6 x7 x8 x9 → P (bb_loop9 st n x1 x2 x3 x4 x5 x6 x7 x8 x9) := by
    intro k
    induction k with
    | zero =>
      intro i n x1 x2 x3 x4 x5 x6 x7 x8 x9 h1 h2 h3
      obtain ⟨m, rfl⟩ : ∃ m, n = m + 1 := ⟨n - 1, by omega⟩
      have e : i = N := by omega
      subst e
      exact hend _ x1 x2 x3 x4 x5 x6 x7 x8 x9 h3
    | succ k ih =>
      intro i n x1 x2 x3 x4 x5 x6 x7 x8 x9 h1 h2 h3
      obtain ⟨m, rfl⟩ : ∃ m, n = m + 1 := ⟨n - 1, by omega⟩
      rcases hstep (bb_loop9 st m) i x1 x2 x3 x4 x5 x6 x7 x8 x9 (by omega) h3 with ⟨y1, y2, y3, y4, y5, y6, y7, y8, y9, h4, h5⟩ | h4
      · have e : bb_loop9 st (m + 1) x1 x2 x3 x4 x5 x6 x7 x8 x9 = bb_loop9 st m y1 y2 y3 y4 y5 y6 y7 y8 y9 := h5
        rw [e]
        exact ih (i + 1) m y1 y2 y3 y4 y5 y6 y7 y8 y9 (by omega) (by omega) h4
      · exact h4
  intro n hn x1 x2 x3 x4 x5 x6 x7 x8 x9 h
  exact key N 0 n x1 x2 x3 x4 x5 x6 x7 x8 x9 (by omega) hn h
