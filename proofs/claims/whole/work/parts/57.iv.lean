/-! ===== bounds without the minute's ===== -/
def IV (s : Nat → Int32) : Prop := (True) ∧ (∃ n : Nat, n ≤ 8 ∧ s 1 = nI n) ∧ (∃ n : Nat, n ≤ 12 ∧ s 2 = nI n) ∧ (∃ n : Nat, n ≤ 99999 ∧ s 3 = nI n) ∧ (True) ∧ (∀ i : Nat, i < 4 → s (5 + i) = -1 ∨ ∃ n : Nat, n < 48 ∧ s (5 + i) = nI n) ∧ (∀ i : Nat, i < 48 → ∃ n : Nat, n ≤ 9 ∧ s (9 + i) = nI n) ∧ (∀ i : Nat, i < 48 → ∃ n : Nat, n ≤ 4 ∧ s (57 + i) = nI n) ∧ (∀ i : Nat, i < 8 → ∃ n : Nat, n ≤ 6 ∧ s (105 + 5 * i) = nI n) ∧ (∀ i : Nat, i < 8 → (∃ n : Nat, n < 48 ∧ s (106 + 5 * i) = nI n) ∨ s (106 + 5 * i) = 100 ∨ s (106 + 5 * i) = 101) ∧ (∀ i : Nat, i < 8 → ∃ n : Nat, n ≤ 1 ∧ s (107 + 5 * i) = nI n) ∧ (∀ i : Nat, i < 8 → ∃ n : Nat, n ≤ 99 ∧ s (108 + 5 * i) = nI n) ∧ (∀ i : Nat, i < 8 → ∃ n : Nat, n ≤ 7 ∧ s (109 + 5 * i) = nI n) ∧ (∀ i : Nat, i < 10 → s (145 + i) = -1 ∨ ∃ n : Nat, s (145 + i) = nI n ∧ (n : Int) < (s 1).toInt)
theorem IW.v {s : Nat → Int32} (h : IW s) : IV s := ⟨trivial, h.2⟩
theorem IV.w {s : Nat → Int32} (h : IV s) (hm : ∃ n : Nat, n ≤ 99999 ∧ s 0 = nI n) : IW s := ⟨hm, h.2⟩
theorem IV.u_mi {s : Nat → Int32} (h : IV s) {v : Int32} (hv : True) : IV (upd s (0) v) := by
  obtain ⟨h0, h1, h2, h3, h4, h5, h6, h7, h8, h9, h10, h11, h12, h13⟩ := h
  refine ⟨?_, ?_, ?_, ?_, ?_, ?_, ?_, ?_, ?_, ?_, ?_, ?_, ?_, ?_⟩
  · trivial
  · rw [pk_un (by omega)]; exact h1
  · rw [pk_un (by omega)]; exact h2
  · rw [pk_un (by omega)]; exact h3
  · trivial
  · intro i hi; rw [pk_un (by omega)]; exact h5 i hi
  · intro i hi; rw [pk_un (by omega)]; exact h6 i hi
  · intro i hi; rw [pk_un (by omega)]; exact h7 i hi
  · intro i hi; rw [pk_un (by omega)]; exact h8 i hi
  · intro i hi; rw [pk_un (by omega)]; exact h9 i hi
  · intro i hi; rw [pk_un (by omega)]; exact h10 i hi
  · intro i hi; rw [pk_un (by omega)]; exact h11 i hi
  · intro i hi; rw [pk_un (by omega)]; exact h12 i hi
  · intro i hi; rw [pk_un (by omega), pk_un (by omega : (1 : Nat) ≠ _)]; exact h13 i hi
theorem IV.ba_ {s : Nat → Int32} (h : IV s) : ∃ n : Nat, n ≤ 8 ∧ s (1) = nI n := h.2.1
theorem IV.u_ba {s : Nat → Int32} (h : IV s) {v : Int32} (hv : ∃ n : Nat, n ≤ 8 ∧ v = nI n) (hb : (s 1).toInt ≤ v.toInt) : IV (upd s (1) v) := by
  obtain ⟨h0, h1, h2, h3, h4, h5, h6, h7, h8, h9, h10, h11, h12, h13⟩ := h
  refine ⟨?_, ?_, ?_, ?_, ?_, ?_, ?_, ?_, ?_, ?_, ?_, ?_, ?_, ?_⟩
  · trivial
  · rw [pk_us]; exact hv
  · rw [pk_un (by omega)]; exact h2
  · rw [pk_un (by omega)]; exact h3
  · trivial
  · intro i hi; rw [pk_un (by omega)]; exact h5 i hi
  · intro i hi; rw [pk_un (by omega)]; exact h6 i hi
  · intro i hi; rw [pk_un (by omega)]; exact h7 i hi
  · intro i hi; rw [pk_un (by omega)]; exact h8 i hi
  · intro i hi; rw [pk_un (by omega)]; exact h9 i hi
  · intro i hi; rw [pk_un (by omega)]; exact h10 i hi
  · intro i hi; rw [pk_un (by omega)]; exact h11 i hi
  · intro i hi; rw [pk_un (by omega)]; exact h12 i hi
  · intro i hi
    rw [pk_un (by omega), pk_us]
    rcases h13 i hi with e | ⟨q, e1, e2⟩
    · exact Or.inl e
    · exact Or.inr ⟨q, e1, by omega⟩
theorem IV.si_ {s : Nat → Int32} (h : IV s) : ∃ n : Nat, n ≤ 12 ∧ s (2) = nI n := h.2.2.1
theorem IV.u_si {s : Nat → Int32} (h : IV s) {v : Int32} (hv : ∃ n : Nat, n ≤ 12 ∧ v = nI n) : IV (upd s (2) v) := by
  obtain ⟨h0, h1, h2, h3, h4, h5, h6, h7, h8, h9, h10, h11, h12, h13⟩ := h
  refine ⟨?_, ?_, ?_, ?_, ?_, ?_, ?_, ?_, ?_, ?_, ?_, ?_, ?_, ?_⟩
  · trivial
  · rw [pk_un (by omega)]; exact h1
  · rw [pk_us]; exact hv
  · rw [pk_un (by omega)]; exact h3
  · trivial
  · intro i hi; rw [pk_un (by omega)]; exact h5 i hi
  · intro i hi; rw [pk_un (by omega)]; exact h6 i hi
  · intro i hi; rw [pk_un (by omega)]; exact h7 i hi
  · intro i hi; rw [pk_un (by omega)]; exact h8 i hi
  · intro i hi; rw [pk_un (by omega)]; exact h9 i hi
  · intro i hi; rw [pk_un (by omega)]; exact h10 i hi
  · intro i hi; rw [pk_un (by omega)]; exact h11 i hi
  · intro i hi; rw [pk_un (by omega)]; exact h12 i hi
  · intro i hi; rw [pk_un (by omega), pk_un (by omega : (1 : Nat) ≠ _)]; exact h13 i hi
theorem IV.ev_ {s : Nat → Int32} (h : IV s) : ∃ n : Nat, n ≤ 99999 ∧ s (3) = nI n := h.2.2.2.1
theorem IV.u_ev {s : Nat → Int32} (h : IV s) {v : Int32} (hv : ∃ n : Nat, n ≤ 99999 ∧ v = nI n) : IV (upd s (3) v) := by
  obtain ⟨h0, h1, h2, h3, h4, h5, h6, h7, h8, h9, h10, h11, h12, h13⟩ := h
  refine ⟨?_, ?_, ?_, ?_, ?_, ?_, ?_, ?_, ?_, ?_, ?_, ?_, ?_, ?_⟩
  · trivial
  · rw [pk_un (by omega)]; exact h1
  · rw [pk_un (by omega)]; exact h2
  · rw [pk_us]; exact hv
  · trivial
  · intro i hi; rw [pk_un (by omega)]; exact h5 i hi
  · intro i hi; rw [pk_un (by omega)]; exact h6 i hi
  · intro i hi; rw [pk_un (by omega)]; exact h7 i hi
  · intro i hi; rw [pk_un (by omega)]; exact h8 i hi
  · intro i hi; rw [pk_un (by omega)]; exact h9 i hi
  · intro i hi; rw [pk_un (by omega)]; exact h10 i hi
  · intro i hi; rw [pk_un (by omega)]; exact h11 i hi
  · intro i hi; rw [pk_un (by omega)]; exact h12 i hi
  · intro i hi; rw [pk_un (by omega), pk_un (by omega : (1 : Nat) ≠ _)]; exact h13 i hi
theorem IV.u_z {s : Nat → Int32} (h : IV s) {v : Int32} (hv : True) : IV (upd s (4) v) := by
  obtain ⟨h0, h1, h2, h3, h4, h5, h6, h7, h8, h9, h10, h11, h12, h13⟩ := h
  refine ⟨?_, ?_, ?_, ?_, ?_, ?_, ?_, ?_, ?_, ?_, ?_, ?_, ?_, ?_⟩
  · trivial
  · rw [pk_un (by omega)]; exact h1
  · rw [pk_un (by omega)]; exact h2
  · rw [pk_un (by omega)]; exact h3
  · trivial
  · intro i hi; rw [pk_un (by omega)]; exact h5 i hi
  · intro i hi; rw [pk_un (by omega)]; exact h6 i hi
  · intro i hi; rw [pk_un (by omega)]; exact h7 i hi
  · intro i hi; rw [pk_un (by omega)]; exact h8 i hi
  · intro i hi; rw [pk_un (by omega)]; exact h9 i hi
  · intro i hi; rw [pk_un (by omega)]; exact h10 i hi
  · intro i hi; rw [pk_un (by omega)]; exact h11 i hi
  · intro i hi; rw [pk_un (by omega)]; exact h12 i hi
  · intro i hi; rw [pk_un (by omega), pk_un (by omega : (1 : Nat) ≠ _)]; exact h13 i hi
theorem IV.ga_ {s : Nat → Int32} (h : IV s) {i : Nat} (hi : i < 4) : s (5 + i) = -1 ∨ ∃ n : Nat, n < 48 ∧ s (5 + i) = nI n := h.2.2.2.2.2.1 i hi
theorem IV.u_ga {s : Nat → Int32} (h : IV s) {c : Nat} (hc : c < 4) {v : Int32} (hv : v = -1 ∨ ∃ n : Nat, n < 48 ∧ v = nI n) : IV (upd s (5 + c) v) := by
  obtain ⟨h0, h1, h2, h3, h4, h5, h6, h7, h8, h9, h10, h11, h12, h13⟩ := h
  refine ⟨?_, ?_, ?_, ?_, ?_, ?_, ?_, ?_, ?_, ?_, ?_, ?_, ?_, ?_⟩
  · trivial
  · rw [pk_un (by omega)]; exact h1
  · rw [pk_un (by omega)]; exact h2
  · rw [pk_un (by omega)]; exact h3
  · trivial
  · intro i hi
    by_cases e : i = c
    · subst e; rw [pk_us]; exact hv
    · rw [pk_un (by omega)]; exact h5 i hi
  · intro i hi; rw [pk_un (by omega)]; exact h6 i hi
  · intro i hi; rw [pk_un (by omega)]; exact h7 i hi
  · intro i hi; rw [pk_un (by omega)]; exact h8 i hi
  · intro i hi; rw [pk_un (by omega)]; exact h9 i hi
  · intro i hi; rw [pk_un (by omega)]; exact h10 i hi
  · intro i hi; rw [pk_un (by omega)]; exact h11 i hi
  · intro i hi; rw [pk_un (by omega)]; exact h12 i hi
  · intro i hi; rw [pk_un (by omega), pk_un (by omega : (1 : Nat) ≠ _)]; exact h13 i hi
theorem IV.st_ {s : Nat → Int32} (h : IV s) {i : Nat} (hi : i < 48) : ∃ n : Nat, n ≤ 9 ∧ s (9 + i) = nI n := h.2.2.2.2.2.2.1 i hi
theorem IV.u_st {s : Nat → Int32} (h : IV s) {c : Nat} (hc : c < 48) {v : Int32} (hv : ∃ n : Nat, n ≤ 9 ∧ v = nI n) : IV (upd s (9 + c) v) := by
  obtain ⟨h0, h1, h2, h3, h4, h5, h6, h7, h8, h9, h10, h11, h12, h13⟩ := h
  refine ⟨?_, ?_, ?_, ?_, ?_, ?_, ?_, ?_, ?_, ?_, ?_, ?_, ?_, ?_⟩
  · trivial
  · rw [pk_un (by omega)]; exact h1
  · rw [pk_un (by omega)]; exact h2
  · rw [pk_un (by omega)]; exact h3
  · trivial
  · intro i hi; rw [pk_un (by omega)]; exact h5 i hi
  · intro i hi
    by_cases e : i = c
    · subst e; rw [pk_us]; exact hv
    · rw [pk_un (by omega)]; exact h6 i hi
  · intro i hi; rw [pk_un (by omega)]; exact h7 i hi
  · intro i hi; rw [pk_un (by omega)]; exact h8 i hi
  · intro i hi; rw [pk_un (by omega)]; exact h9 i hi
  · intro i hi; rw [pk_un (by omega)]; exact h10 i hi
  · intro i hi; rw [pk_un (by omega)]; exact h11 i hi
  · intro i hi; rw [pk_un (by omega)]; exact h12 i hi
  · intro i hi; rw [pk_un (by omega), pk_un (by omega : (1 : Nat) ≠ _)]; exact h13 i hi
theorem IV.cu_ {s : Nat → Int32} (h : IV s) {i : Nat} (hi : i < 48) : ∃ n : Nat, n ≤ 4 ∧ s (57 + i) = nI n := h.2.2.2.2.2.2.2.1 i hi
theorem IV.u_cu {s : Nat → Int32} (h : IV s) {c : Nat} (hc : c < 48) {v : Int32} (hv : ∃ n : Nat, n ≤ 4 ∧ v = nI n) : IV (upd s (57 + c) v) := by
  obtain ⟨h0, h1, h2, h3, h4, h5, h6, h7, h8, h9, h10, h11, h12, h13⟩ := h
  refine ⟨?_, ?_, ?_, ?_, ?_, ?_, ?_, ?_, ?_, ?_, ?_, ?_, ?_, ?_⟩
  · trivial
  · rw [pk_un (by omega)]; exact h1
  · rw [pk_un (by omega)]; exact h2
  · rw [pk_un (by omega)]; exact h3
  · trivial
  · intro i hi; rw [pk_un (by omega)]; exact h5 i hi
  · intro i hi; rw [pk_un (by omega)]; exact h6 i hi
  · intro i hi
    by_cases e : i = c
    · subst e; rw [pk_us]; exact hv
    · rw [pk_un (by omega)]; exact h7 i hi
  · intro i hi; rw [pk_un (by omega)]; exact h8 i hi
  · intro i hi; rw [pk_un (by omega)]; exact h9 i hi
  · intro i hi; rw [pk_un (by omega)]; exact h10 i hi
  · intro i hi; rw [pk_un (by omega)]; exact h11 i hi
  · intro i hi; rw [pk_un (by omega)]; exact h12 i hi
  · intro i hi; rw [pk_un (by omega), pk_un (by omega : (1 : Nat) ≠ _)]; exact h13 i hi
theorem IV.ki_ {s : Nat → Int32} (h : IV s) {i : Nat} (hi : i < 8) : ∃ n : Nat, n ≤ 6 ∧ s (105 + 5 * i) = nI n := h.2.2.2.2.2.2.2.2.1 i hi
theorem IV.u_ki {s : Nat → Int32} (h : IV s) {c : Nat} (hc : c < 8) {v : Int32} (hv : ∃ n : Nat, n ≤ 6 ∧ v = nI n) : IV (upd s (105 + 5 * c) v) := by
  obtain ⟨h0, h1, h2, h3, h4, h5, h6, h7, h8, h9, h10, h11, h12, h13⟩ := h
  refine ⟨?_, ?_, ?_, ?_, ?_, ?_, ?_, ?_, ?_, ?_, ?_, ?_, ?_, ?_⟩
  · trivial
  · rw [pk_un (by omega)]; exact h1
  · rw [pk_un (by omega)]; exact h2
  · rw [pk_un (by omega)]; exact h3
  · trivial
  · intro i hi; rw [pk_un (by omega)]; exact h5 i hi
  · intro i hi; rw [pk_un (by omega)]; exact h6 i hi
  · intro i hi; rw [pk_un (by omega)]; exact h7 i hi
  · intro i hi
    by_cases e : i = c
    · subst e; rw [pk_us]; exact hv
    · rw [pk_un (by omega)]; exact h8 i hi
  · intro i hi; rw [pk_un (by omega)]; exact h9 i hi
  · intro i hi; rw [pk_un (by omega)]; exact h10 i hi
  · intro i hi; rw [pk_un (by omega)]; exact h11 i hi
  · intro i hi; rw [pk_un (by omega)]; exact h12 i hi
  · intro i hi; rw [pk_un (by omega), pk_un (by omega : (1 : Nat) ≠ _)]; exact h13 i hi
theorem IV.at__ {s : Nat → Int32} (h : IV s) {i : Nat} (hi : i < 8) : (∃ n : Nat, n < 48 ∧ s (106 + 5 * i) = nI n) ∨ s (106 + 5 * i) = 100 ∨ s (106 + 5 * i) = 101 := h.2.2.2.2.2.2.2.2.2.1 i hi
theorem IV.u_at_ {s : Nat → Int32} (h : IV s) {c : Nat} (hc : c < 8) {v : Int32} (hv : (∃ n : Nat, n < 48 ∧ v = nI n) ∨ v = 100 ∨ v = 101) : IV (upd s (106 + 5 * c) v) := by
  obtain ⟨h0, h1, h2, h3, h4, h5, h6, h7, h8, h9, h10, h11, h12, h13⟩ := h
  refine ⟨?_, ?_, ?_, ?_, ?_, ?_, ?_, ?_, ?_, ?_, ?_, ?_, ?_, ?_⟩
  · trivial
  · rw [pk_un (by omega)]; exact h1
  · rw [pk_un (by omega)]; exact h2
  · rw [pk_un (by omega)]; exact h3
  · trivial
  · intro i hi; rw [pk_un (by omega)]; exact h5 i hi
  · intro i hi; rw [pk_un (by omega)]; exact h6 i hi
  · intro i hi; rw [pk_un (by omega)]; exact h7 i hi
  · intro i hi; rw [pk_un (by omega)]; exact h8 i hi
  · intro i hi
    by_cases e : i = c
    · subst e; rw [pk_us]; exact hv
    · rw [pk_un (by omega)]; exact h9 i hi
  · intro i hi; rw [pk_un (by omega)]; exact h10 i hi
  · intro i hi; rw [pk_un (by omega)]; exact h11 i hi
  · intro i hi; rw [pk_un (by omega)]; exact h12 i hi
  · intro i hi; rw [pk_un (by omega), pk_un (by omega : (1 : Nat) ≠ _)]; exact h13 i hi
theorem IV.wi_ {s : Nat → Int32} (h : IV s) {i : Nat} (hi : i < 8) : ∃ n : Nat, n ≤ 1 ∧ s (107 + 5 * i) = nI n := h.2.2.2.2.2.2.2.2.2.2.1 i hi
theorem IV.u_wi {s : Nat → Int32} (h : IV s) {c : Nat} (hc : c < 8) {v : Int32} (hv : ∃ n : Nat, n ≤ 1 ∧ v = nI n) : IV (upd s (107 + 5 * c) v) := by
  obtain ⟨h0, h1, h2, h3, h4, h5, h6, h7, h8, h9, h10, h11, h12, h13⟩ := h
  refine ⟨?_, ?_, ?_, ?_, ?_, ?_, ?_, ?_, ?_, ?_, ?_, ?_, ?_, ?_⟩
  · trivial
  · rw [pk_un (by omega)]; exact h1
  · rw [pk_un (by omega)]; exact h2
  · rw [pk_un (by omega)]; exact h3
  · trivial
  · intro i hi; rw [pk_un (by omega)]; exact h5 i hi
  · intro i hi; rw [pk_un (by omega)]; exact h6 i hi
  · intro i hi; rw [pk_un (by omega)]; exact h7 i hi
  · intro i hi; rw [pk_un (by omega)]; exact h8 i hi
  · intro i hi; rw [pk_un (by omega)]; exact h9 i hi
  · intro i hi
    by_cases e : i = c
    · subst e; rw [pk_us]; exact hv
    · rw [pk_un (by omega)]; exact h10 i hi
  · intro i hi; rw [pk_un (by omega)]; exact h11 i hi
  · intro i hi; rw [pk_un (by omega)]; exact h12 i hi
  · intro i hi; rw [pk_un (by omega), pk_un (by omega : (1 : Nat) ≠ _)]; exact h13 i hi
theorem IV.wr_ {s : Nat → Int32} (h : IV s) {i : Nat} (hi : i < 8) : ∃ n : Nat, n ≤ 99 ∧ s (108 + 5 * i) = nI n := h.2.2.2.2.2.2.2.2.2.2.2.1 i hi
theorem IV.u_wr {s : Nat → Int32} (h : IV s) {c : Nat} (hc : c < 8) {v : Int32} (hv : ∃ n : Nat, n ≤ 99 ∧ v = nI n) : IV (upd s (108 + 5 * c) v) := by
  obtain ⟨h0, h1, h2, h3, h4, h5, h6, h7, h8, h9, h10, h11, h12, h13⟩ := h
  refine ⟨?_, ?_, ?_, ?_, ?_, ?_, ?_, ?_, ?_, ?_, ?_, ?_, ?_, ?_⟩
  · trivial
  · rw [pk_un (by omega)]; exact h1
  · rw [pk_un (by omega)]; exact h2
  · rw [pk_un (by omega)]; exact h3
  · trivial
  · intro i hi; rw [pk_un (by omega)]; exact h5 i hi
  · intro i hi; rw [pk_un (by omega)]; exact h6 i hi
  · intro i hi; rw [pk_un (by omega)]; exact h7 i hi
  · intro i hi; rw [pk_un (by omega)]; exact h8 i hi
  · intro i hi; rw [pk_un (by omega)]; exact h9 i hi
  · intro i hi; rw [pk_un (by omega)]; exact h10 i hi
  · intro i hi
    by_cases e : i = c
    · subst e; rw [pk_us]; exact hv
    · rw [pk_un (by omega)]; exact h11 i hi
  · intro i hi; rw [pk_un (by omega)]; exact h12 i hi
  · intro i hi; rw [pk_un (by omega), pk_un (by omega : (1 : Nat) ≠ _)]; exact h13 i hi
theorem IV.ke_ {s : Nat → Int32} (h : IV s) {i : Nat} (hi : i < 8) : ∃ n : Nat, n ≤ 7 ∧ s (109 + 5 * i) = nI n := h.2.2.2.2.2.2.2.2.2.2.2.2.1 i hi
theorem IV.u_ke {s : Nat → Int32} (h : IV s) {c : Nat} (hc : c < 8) {v : Int32} (hv : ∃ n : Nat, n ≤ 7 ∧ v = nI n) : IV (upd s (109 + 5 * c) v) := by
  obtain ⟨h0, h1, h2, h3, h4, h5, h6, h7, h8, h9, h10, h11, h12, h13⟩ := h
  refine ⟨?_, ?_, ?_, ?_, ?_, ?_, ?_, ?_, ?_, ?_, ?_, ?_, ?_, ?_⟩
  · trivial
  · rw [pk_un (by omega)]; exact h1
  · rw [pk_un (by omega)]; exact h2
  · rw [pk_un (by omega)]; exact h3
  · trivial
  · intro i hi; rw [pk_un (by omega)]; exact h5 i hi
  · intro i hi; rw [pk_un (by omega)]; exact h6 i hi
  · intro i hi; rw [pk_un (by omega)]; exact h7 i hi
  · intro i hi; rw [pk_un (by omega)]; exact h8 i hi
  · intro i hi; rw [pk_un (by omega)]; exact h9 i hi
  · intro i hi; rw [pk_un (by omega)]; exact h10 i hi
  · intro i hi; rw [pk_un (by omega)]; exact h11 i hi
  · intro i hi
    by_cases e : i = c
    · subst e; rw [pk_us]; exact hv
    · rw [pk_un (by omega)]; exact h12 i hi
  · intro i hi; rw [pk_un (by omega), pk_un (by omega : (1 : Nat) ≠ _)]; exact h13 i hi
theorem IV.sp_ {s : Nat → Int32} (h : IV s) {i : Nat} (hi : i < 10) : s (145 + i) = -1 ∨ ∃ n : Nat, s (145 + i) = nI n ∧ (n : Int) < (s 1).toInt := h.2.2.2.2.2.2.2.2.2.2.2.2.2 i hi
theorem IV.u_sp {s : Nat → Int32} (h : IV s) {c : Nat} (hc : c < 10) {v : Int32} (hv : v = -1 ∨ ∃ n : Nat, v = nI n ∧ (n : Int) < (s 1).toInt) : IV (upd s (145 + c) v) := by
  obtain ⟨h0, h1, h2, h3, h4, h5, h6, h7, h8, h9, h10, h11, h12, h13⟩ := h
  refine ⟨?_, ?_, ?_, ?_, ?_, ?_, ?_, ?_, ?_, ?_, ?_, ?_, ?_, ?_⟩
  · trivial
  · rw [pk_un (by omega)]; exact h1
  · rw [pk_un (by omega)]; exact h2
  · rw [pk_un (by omega)]; exact h3
  · trivial
  · intro i hi; rw [pk_un (by omega)]; exact h5 i hi
  · intro i hi; rw [pk_un (by omega)]; exact h6 i hi
  · intro i hi; rw [pk_un (by omega)]; exact h7 i hi
  · intro i hi; rw [pk_un (by omega)]; exact h8 i hi
  · intro i hi; rw [pk_un (by omega)]; exact h9 i hi
  · intro i hi; rw [pk_un (by omega)]; exact h10 i hi
  · intro i hi; rw [pk_un (by omega)]; exact h11 i hi
  · intro i hi; rw [pk_un (by omega)]; exact h12 i hi
  · intro i hi
    by_cases e : i = c
    · subst e; rw [pk_us, pk_un (by omega : (1 : Nat) ≠ _)]; exact hv
    · rw [pk_un (by omega), pk_un (by omega : (1 : Nat) ≠ _)]; exact h13 i hi
def kO (s : Nat → Int32) (b : Nat) : Nat := (s (105 + 5 * b)).toNatClampNeg
def aO (s : Nat → Int32) (b : Nat) : Nat := (s (106 + 5 * b)).toNatClampNeg
def wO (s : Nat → Int32) (b : Nat) : Nat := (s (107 + 5 * b)).toNatClampNeg
def rO (s : Nat → Int32) (b : Nat) : Nat := (s (108 + 5 * b)).toNatClampNeg
def qO (s : Nat → Int32) (c : Nat) : Nat := (s (57 + c)).toNatClampNeg
def eO (s : Nat → Int32) : Nat := (s 3).toNatClampNeg
def nO (s : Nat → Int32) : Nat := (s 1).toNatClampNeg
theorem dec {x : Int32} {m : Nat} (hm : m < 2 ^ 31) (h : ∃ n : Nat, n ≤ m ∧ x = nI n) : x = nI x.toNatClampNeg ∧ x.toNatClampNeg ≤ m := by
  obtain ⟨n, h1, rfl⟩ := h
  rw [cln (by omega)]
  exact ⟨rfl, h1⟩
section IVD
variable {s : Nat → Int32}
theorem IV.k (h : IV s) {b : Nat} (hb : b < 8) : s (105 + 5 * b) = nI (kO s b) ∧ kO s b < 7 := by
  obtain ⟨h1, h2⟩ := dec (by decide) (h.ki_ hb)
  exact ⟨h1, Nat.lt_succ_of_le h2⟩
theorem IV.w_ (h : IV s) {b : Nat} (hb : b < 8) : s (107 + 5 * b) = nI (wO s b) ∧ wO s b < 2 := by
  obtain ⟨h1, h2⟩ := dec (by decide) (h.wi_ hb)
  exact ⟨h1, Nat.lt_succ_of_le h2⟩
theorem IV.r (h : IV s) {b : Nat} (hb : b < 8) : s (108 + 5 * b) = nI (rO s b) ∧ rO s b ≤ 99 := dec (by decide) (h.wr_ hb)
theorem IV.q (h : IV s) {c : Nat} (hc : c < 48) : s (57 + c) = nI (qO s c) ∧ qO s c < 5 := by
  obtain ⟨h1, h2⟩ := dec (by decide) (h.cu_ hc)
  exact ⟨h1, Nat.lt_succ_of_le h2⟩
theorem IV.e (h : IV s) : s 3 = nI (eO s) ∧ eO s ≤ 99999 := dec (by decide) h.ev_
theorem IV.n (h : IV s) : s 1 = nI (nO s) ∧ nO s ≤ 8 := dec (by decide) h.ba_
theorem IV.a (h : IV s) {b : Nat} (hb : b < 8) : s (106 + 5 * b) = nI (aO s b) ∧ (aO s b < 48 ∨ aO s b = 100 ∨ aO s b = 101) := by
  unfold aO
  rcases h.at__ hb with ⟨n, h1, h2⟩ | h1 | h1
  · rw [h2, cln (by omega)]; exact ⟨rfl, Or.inl h1⟩
  · rw [h1]; exact ⟨rfl, Or.inr (Or.inl rfl)⟩
  · rw [h1]; exact ⟨rfl, Or.inr (Or.inr rfl)⟩
end IVD
