/-! ===== the reference's row and the class's world ===== -/
def RW (s : Nat → Int32) (ga st cu ki at_ wi wr ke sp : Nat → Int32) (mi ba si ev z : Int32) : Prop := s 0 = mi ∧ s 1 = ba ∧ s 2 = si ∧ s 3 = ev ∧ s 4 = z ∧ (∀ i : Nat, i < 4 → s (5 + i) = ga i) ∧ (∀ i : Nat, i < 48 → s (9 + i) = st i) ∧ (∀ i : Nat, i < 48 → s (57 + i) = cu i) ∧ (∀ i : Nat, i < 8 → s (105 + 5 * i) = ki i) ∧ (∀ i : Nat, i < 8 → s (106 + 5 * i) = at_ i) ∧ (∀ i : Nat, i < 8 → s (107 + 5 * i) = wi i) ∧ (∀ i : Nat, i < 8 → s (108 + 5 * i) = wr i) ∧ (∀ i : Nat, i < 8 → s (109 + 5 * i) = ke i) ∧ (∀ i : Nat, i < 10 → s (145 + i) = sp i)
theorem RW.mi_ {s : Nat → Int32} {ga st cu ki at_ wi wr ke sp : Nat → Int32} {mi ba si ev z : Int32} (h : RW s ga st cu ki at_ wi wr ke sp mi ba si ev z) : s (0) = mi := h.1
theorem RW.u_mi {s : Nat → Int32} {ga st cu ki at_ wi wr ke sp : Nat → Int32} {mi ba si ev z : Int32} (h : RW s ga st cu ki at_ wi wr ke sp mi ba si ev z) (v : Int32) : RW (upd s (0) v) ga st cu ki at_ wi wr ke sp v ba si ev z := by
  obtain ⟨h0, h1, h2, h3, h4, h5, h6, h7, h8, h9, h10, h11, h12, h13⟩ := h
  refine ⟨?_, ?_, ?_, ?_, ?_, ?_, ?_, ?_, ?_, ?_, ?_, ?_, ?_, ?_⟩
  · exact pk_us
  · rw [pk_un (by omega)]; exact h1
  · rw [pk_un (by omega)]; exact h2
  · rw [pk_un (by omega)]; exact h3
  · rw [pk_un (by omega)]; exact h4
  · intro i hi; rw [pk_un (by omega)]; exact h5 i hi
  · intro i hi; rw [pk_un (by omega)]; exact h6 i hi
  · intro i hi; rw [pk_un (by omega)]; exact h7 i hi
  · intro i hi; rw [pk_un (by omega)]; exact h8 i hi
  · intro i hi; rw [pk_un (by omega)]; exact h9 i hi
  · intro i hi; rw [pk_un (by omega)]; exact h10 i hi
  · intro i hi; rw [pk_un (by omega)]; exact h11 i hi
  · intro i hi; rw [pk_un (by omega)]; exact h12 i hi
  · intro i hi; rw [pk_un (by omega)]; exact h13 i hi
theorem RW.ba_ {s : Nat → Int32} {ga st cu ki at_ wi wr ke sp : Nat → Int32} {mi ba si ev z : Int32} (h : RW s ga st cu ki at_ wi wr ke sp mi ba si ev z) : s (1) = ba := h.2.1
theorem RW.u_ba {s : Nat → Int32} {ga st cu ki at_ wi wr ke sp : Nat → Int32} {mi ba si ev z : Int32} (h : RW s ga st cu ki at_ wi wr ke sp mi ba si ev z) (v : Int32) : RW (upd s (1) v) ga st cu ki at_ wi wr ke sp mi v si ev z := by
  obtain ⟨h0, h1, h2, h3, h4, h5, h6, h7, h8, h9, h10, h11, h12, h13⟩ := h
  refine ⟨?_, ?_, ?_, ?_, ?_, ?_, ?_, ?_, ?_, ?_, ?_, ?_, ?_, ?_⟩
  · rw [pk_un (by omega)]; exact h0
  · exact pk_us
  · rw [pk_un (by omega)]; exact h2
  · rw [pk_un (by omega)]; exact h3
  · rw [pk_un (by omega)]; exact h4
  · intro i hi; rw [pk_un (by omega)]; exact h5 i hi
  · intro i hi; rw [pk_un (by omega)]; exact h6 i hi
  · intro i hi; rw [pk_un (by omega)]; exact h7 i hi
  · intro i hi; rw [pk_un (by omega)]; exact h8 i hi
  · intro i hi; rw [pk_un (by omega)]; exact h9 i hi
  · intro i hi; rw [pk_un (by omega)]; exact h10 i hi
  · intro i hi; rw [pk_un (by omega)]; exact h11 i hi
  · intro i hi; rw [pk_un (by omega)]; exact h12 i hi
  · intro i hi; rw [pk_un (by omega)]; exact h13 i hi
theorem RW.si_ {s : Nat → Int32} {ga st cu ki at_ wi wr ke sp : Nat → Int32} {mi ba si ev z : Int32} (h : RW s ga st cu ki at_ wi wr ke sp mi ba si ev z) : s (2) = si := h.2.2.1
theorem RW.u_si {s : Nat → Int32} {ga st cu ki at_ wi wr ke sp : Nat → Int32} {mi ba si ev z : Int32} (h : RW s ga st cu ki at_ wi wr ke sp mi ba si ev z) (v : Int32) : RW (upd s (2) v) ga st cu ki at_ wi wr ke sp mi ba v ev z := by
  obtain ⟨h0, h1, h2, h3, h4, h5, h6, h7, h8, h9, h10, h11, h12, h13⟩ := h
  refine ⟨?_, ?_, ?_, ?_, ?_, ?_, ?_, ?_, ?_, ?_, ?_, ?_, ?_, ?_⟩
  · rw [pk_un (by omega)]; exact h0
  · rw [pk_un (by omega)]; exact h1
  · exact pk_us
  · rw [pk_un (by omega)]; exact h3
  · rw [pk_un (by omega)]; exact h4
  · intro i hi; rw [pk_un (by omega)]; exact h5 i hi
  · intro i hi; rw [pk_un (by omega)]; exact h6 i hi
  · intro i hi; rw [pk_un (by omega)]; exact h7 i hi
  · intro i hi; rw [pk_un (by omega)]; exact h8 i hi
  · intro i hi; rw [pk_un (by omega)]; exact h9 i hi
  · intro i hi; rw [pk_un (by omega)]; exact h10 i hi
  · intro i hi; rw [pk_un (by omega)]; exact h11 i hi
  · intro i hi; rw [pk_un (by omega)]; exact h12 i hi
  · intro i hi; rw [pk_un (by omega)]; exact h13 i hi
theorem RW.ev_ {s : Nat → Int32} {ga st cu ki at_ wi wr ke sp : Nat → Int32} {mi ba si ev z : Int32} (h : RW s ga st cu ki at_ wi wr ke sp mi ba si ev z) : s (3) = ev := h.2.2.2.1
theorem RW.u_ev {s : Nat → Int32} {ga st cu ki at_ wi wr ke sp : Nat → Int32} {mi ba si ev z : Int32} (h : RW s ga st cu ki at_ wi wr ke sp mi ba si ev z) (v : Int32) : RW (upd s (3) v) ga st cu ki at_ wi wr ke sp mi ba si v z := by
  obtain ⟨h0, h1, h2, h3, h4, h5, h6, h7, h8, h9, h10, h11, h12, h13⟩ := h
  refine ⟨?_, ?_, ?_, ?_, ?_, ?_, ?_, ?_, ?_, ?_, ?_, ?_, ?_, ?_⟩
  · rw [pk_un (by omega)]; exact h0
  · rw [pk_un (by omega)]; exact h1
  · rw [pk_un (by omega)]; exact h2
  · exact pk_us
  · rw [pk_un (by omega)]; exact h4
  · intro i hi; rw [pk_un (by omega)]; exact h5 i hi
  · intro i hi; rw [pk_un (by omega)]; exact h6 i hi
  · intro i hi; rw [pk_un (by omega)]; exact h7 i hi
  · intro i hi; rw [pk_un (by omega)]; exact h8 i hi
  · intro i hi; rw [pk_un (by omega)]; exact h9 i hi
  · intro i hi; rw [pk_un (by omega)]; exact h10 i hi
  · intro i hi; rw [pk_un (by omega)]; exact h11 i hi
  · intro i hi; rw [pk_un (by omega)]; exact h12 i hi
  · intro i hi; rw [pk_un (by omega)]; exact h13 i hi
theorem RW.z_ {s : Nat → Int32} {ga st cu ki at_ wi wr ke sp : Nat → Int32} {mi ba si ev z : Int32} (h : RW s ga st cu ki at_ wi wr ke sp mi ba si ev z) : s (4) = z := h.2.2.2.2.1
theorem RW.u_z {s : Nat → Int32} {ga st cu ki at_ wi wr ke sp : Nat → Int32} {mi ba si ev z : Int32} (h : RW s ga st cu ki at_ wi wr ke sp mi ba si ev z) (v : Int32) : RW (upd s (4) v) ga st cu ki at_ wi wr ke sp mi ba si ev v := by
  obtain ⟨h0, h1, h2, h3, h4, h5, h6, h7, h8, h9, h10, h11, h12, h13⟩ := h
  refine ⟨?_, ?_, ?_, ?_, ?_, ?_, ?_, ?_, ?_, ?_, ?_, ?_, ?_, ?_⟩
  · rw [pk_un (by omega)]; exact h0
  · rw [pk_un (by omega)]; exact h1
  · rw [pk_un (by omega)]; exact h2
  · rw [pk_un (by omega)]; exact h3
  · exact pk_us
  · intro i hi; rw [pk_un (by omega)]; exact h5 i hi
  · intro i hi; rw [pk_un (by omega)]; exact h6 i hi
  · intro i hi; rw [pk_un (by omega)]; exact h7 i hi
  · intro i hi; rw [pk_un (by omega)]; exact h8 i hi
  · intro i hi; rw [pk_un (by omega)]; exact h9 i hi
  · intro i hi; rw [pk_un (by omega)]; exact h10 i hi
  · intro i hi; rw [pk_un (by omega)]; exact h11 i hi
  · intro i hi; rw [pk_un (by omega)]; exact h12 i hi
  · intro i hi; rw [pk_un (by omega)]; exact h13 i hi
theorem RW.ga_ {s : Nat → Int32} {ga st cu ki at_ wi wr ke sp : Nat → Int32} {mi ba si ev z : Int32} (h : RW s ga st cu ki at_ wi wr ke sp mi ba si ev z) {i : Nat} (hi : i < 4) : s (5 + i) = ga i := h.2.2.2.2.2.1 i hi
theorem RW.u_ga {s : Nat → Int32} {ga st cu ki at_ wi wr ke sp : Nat → Int32} {mi ba si ev z : Int32} (h : RW s ga st cu ki at_ wi wr ke sp mi ba si ev z) {c : Nat} (hc : c < 4) (v : Int32) : RW (upd s (5 + c) v) (upd ga c v) st cu ki at_ wi wr ke sp mi ba si ev z := by
  obtain ⟨h0, h1, h2, h3, h4, h5, h6, h7, h8, h9, h10, h11, h12, h13⟩ := h
  refine ⟨?_, ?_, ?_, ?_, ?_, ?_, ?_, ?_, ?_, ?_, ?_, ?_, ?_, ?_⟩
  · rw [pk_un (by omega)]; exact h0
  · rw [pk_un (by omega)]; exact h1
  · rw [pk_un (by omega)]; exact h2
  · rw [pk_un (by omega)]; exact h3
  · rw [pk_un (by omega)]; exact h4
  · intro i hi
    by_cases e : i = c
    · subst e; rw [pk_us, pk_us]
    · rw [pk_un (by omega), pk_un e]; exact h5 i hi
  · intro i hi; rw [pk_un (by omega)]; exact h6 i hi
  · intro i hi; rw [pk_un (by omega)]; exact h7 i hi
  · intro i hi; rw [pk_un (by omega)]; exact h8 i hi
  · intro i hi; rw [pk_un (by omega)]; exact h9 i hi
  · intro i hi; rw [pk_un (by omega)]; exact h10 i hi
  · intro i hi; rw [pk_un (by omega)]; exact h11 i hi
  · intro i hi; rw [pk_un (by omega)]; exact h12 i hi
  · intro i hi; rw [pk_un (by omega)]; exact h13 i hi
theorem RW.st_ {s : Nat → Int32} {ga st cu ki at_ wi wr ke sp : Nat → Int32} {mi ba si ev z : Int32} (h : RW s ga st cu ki at_ wi wr ke sp mi ba si ev z) {i : Nat} (hi : i < 48) : s (9 + i) = st i := h.2.2.2.2.2.2.1 i hi
theorem RW.u_st {s : Nat → Int32} {ga st cu ki at_ wi wr ke sp : Nat → Int32} {mi ba si ev z : Int32} (h : RW s ga st cu ki at_ wi wr ke sp mi ba si ev z) {c : Nat} (hc : c < 48) (v : Int32) : RW (upd s (9 + c) v) ga (upd st c v) cu ki at_ wi wr ke sp mi ba si ev z := by
  obtain ⟨h0, h1, h2, h3, h4, h5, h6, h7, h8, h9, h10, h11, h12, h13⟩ := h
  refine ⟨?_, ?_, ?_, ?_, ?_, ?_, ?_, ?_, ?_, ?_, ?_, ?_, ?_, ?_⟩
  · rw [pk_un (by omega)]; exact h0
  · rw [pk_un (by omega)]; exact h1
  · rw [pk_un (by omega)]; exact h2
  · rw [pk_un (by omega)]; exact h3
  · rw [pk_un (by omega)]; exact h4
  · intro i hi; rw [pk_un (by omega)]; exact h5 i hi
  · intro i hi
    by_cases e : i = c
    · subst e; rw [pk_us, pk_us]
    · rw [pk_un (by omega), pk_un e]; exact h6 i hi
  · intro i hi; rw [pk_un (by omega)]; exact h7 i hi
  · intro i hi; rw [pk_un (by omega)]; exact h8 i hi
  · intro i hi; rw [pk_un (by omega)]; exact h9 i hi
  · intro i hi; rw [pk_un (by omega)]; exact h10 i hi
  · intro i hi; rw [pk_un (by omega)]; exact h11 i hi
  · intro i hi; rw [pk_un (by omega)]; exact h12 i hi
  · intro i hi; rw [pk_un (by omega)]; exact h13 i hi
theorem RW.cu_ {s : Nat → Int32} {ga st cu ki at_ wi wr ke sp : Nat → Int32} {mi ba si ev z : Int32} (h : RW s ga st cu ki at_ wi wr ke sp mi ba si ev z) {i : Nat} (hi : i < 48) : s (57 + i) = cu i := h.2.2.2.2.2.2.2.1 i hi
theorem RW.u_cu {s : Nat → Int32} {ga st cu ki at_ wi wr ke sp : Nat → Int32} {mi ba si ev z : Int32} (h : RW s ga st cu ki at_ wi wr ke sp mi ba si ev z) {c : Nat} (hc : c < 48) (v : Int32) : RW (upd s (57 + c) v) ga st (upd cu c v) ki at_ wi wr ke sp mi ba si ev z := by
  obtain ⟨h0, h1, h2, h3, h4, h5, h6, h7, h8, h9, h10, h11, h12, h13⟩ := h
  refine ⟨?_, ?_, ?_, ?_, ?_, ?_, ?_, ?_, ?_, ?_, ?_, ?_, ?_, ?_⟩
  · rw [pk_un (by omega)]; exact h0
  · rw [pk_un (by omega)]; exact h1
  · rw [pk_un (by omega)]; exact h2
  · rw [pk_un (by omega)]; exact h3
  · rw [pk_un (by omega)]; exact h4
  · intro i hi; rw [pk_un (by omega)]; exact h5 i hi
  · intro i hi; rw [pk_un (by omega)]; exact h6 i hi
  · intro i hi
    by_cases e : i = c
    · subst e; rw [pk_us, pk_us]
    · rw [pk_un (by omega), pk_un e]; exact h7 i hi
  · intro i hi; rw [pk_un (by omega)]; exact h8 i hi
  · intro i hi; rw [pk_un (by omega)]; exact h9 i hi
  · intro i hi; rw [pk_un (by omega)]; exact h10 i hi
  · intro i hi; rw [pk_un (by omega)]; exact h11 i hi
  · intro i hi; rw [pk_un (by omega)]; exact h12 i hi
  · intro i hi; rw [pk_un (by omega)]; exact h13 i hi
theorem RW.ki_ {s : Nat → Int32} {ga st cu ki at_ wi wr ke sp : Nat → Int32} {mi ba si ev z : Int32} (h : RW s ga st cu ki at_ wi wr ke sp mi ba si ev z) {i : Nat} (hi : i < 8) : s (105 + 5 * i) = ki i := h.2.2.2.2.2.2.2.2.1 i hi
theorem RW.u_ki {s : Nat → Int32} {ga st cu ki at_ wi wr ke sp : Nat → Int32} {mi ba si ev z : Int32} (h : RW s ga st cu ki at_ wi wr ke sp mi ba si ev z) {c : Nat} (hc : c < 8) (v : Int32) : RW (upd s (105 + 5 * c) v) ga st cu (upd ki c v) at_ wi wr ke sp mi ba si ev z := by
  obtain ⟨h0, h1, h2, h3, h4, h5, h6, h7, h8, h9, h10, h11, h12, h13⟩ := h
  refine ⟨?_, ?_, ?_, ?_, ?_, ?_, ?_, ?_, ?_, ?_, ?_, ?_, ?_, ?_⟩
  · rw [pk_un (by omega)]; exact h0
  · rw [pk_un (by omega)]; exact h1
  · rw [pk_un (by omega)]; exact h2
  · rw [pk_un (by omega)]; exact h3
  · rw [pk_un (by omega)]; exact h4
  · intro i hi; rw [pk_un (by omega)]; exact h5 i hi
  · intro i hi; rw [pk_un (by omega)]; exact h6 i hi
  · intro i hi; rw [pk_un (by omega)]; exact h7 i hi
  · intro i hi
    by_cases e : i = c
    · subst e; rw [pk_us, pk_us]
    · rw [pk_un (by omega), pk_un e]; exact h8 i hi
  · intro i hi; rw [pk_un (by omega)]; exact h9 i hi
  · intro i hi; rw [pk_un (by omega)]; exact h10 i hi
  · intro i hi; rw [pk_un (by omega)]; exact h11 i hi
  · intro i hi; rw [pk_un (by omega)]; exact h12 i hi
  · intro i hi; rw [pk_un (by omega)]; exact h13 i hi
theorem RW.at__ {s : Nat → Int32} {ga st cu ki at_ wi wr ke sp : Nat → Int32} {mi ba si ev z : Int32} (h : RW s ga st cu ki at_ wi wr ke sp mi ba si ev z) {i : Nat} (hi : i < 8) : s (106 + 5 * i) = at_ i := h.2.2.2.2.2.2.2.2.2.1 i hi
theorem RW.u_at_ {s : Nat → Int32} {ga st cu ki at_ wi wr ke sp : Nat → Int32} {mi ba si ev z : Int32} (h : RW s ga st cu ki at_ wi wr ke sp mi ba si ev z) {c : Nat} (hc : c < 8) (v : Int32) : RW (upd s (106 + 5 * c) v) ga st cu ki (upd at_ c v) wi wr ke sp mi ba si ev z := by
  obtain ⟨h0, h1, h2, h3, h4, h5, h6, h7, h8, h9, h10, h11, h12, h13⟩ := h
  refine ⟨?_, ?_, ?_, ?_, ?_, ?_, ?_, ?_, ?_, ?_, ?_, ?_, ?_, ?_⟩
  · rw [pk_un (by omega)]; exact h0
  · rw [pk_un (by omega)]; exact h1
  · rw [pk_un (by omega)]; exact h2
  · rw [pk_un (by omega)]; exact h3
  · rw [pk_un (by omega)]; exact h4
  · intro i hi; rw [pk_un (by omega)]; exact h5 i hi
  · intro i hi; rw [pk_un (by omega)]; exact h6 i hi
  · intro i hi; rw [pk_un (by omega)]; exact h7 i hi
  · intro i hi; rw [pk_un (by omega)]; exact h8 i hi
  · intro i hi
    by_cases e : i = c
    · subst e; rw [pk_us, pk_us]
    · rw [pk_un (by omega), pk_un e]; exact h9 i hi
  · intro i hi; rw [pk_un (by omega)]; exact h10 i hi
  · intro i hi; rw [pk_un (by omega)]; exact h11 i hi
  · intro i hi; rw [pk_un (by omega)]; exact h12 i hi
  · intro i hi; rw [pk_un (by omega)]; exact h13 i hi
theorem RW.wi_ {s : Nat → Int32} {ga st cu ki at_ wi wr ke sp : Nat → Int32} {mi ba si ev z : Int32} (h : RW s ga st cu ki at_ wi wr ke sp mi ba si ev z) {i : Nat} (hi : i < 8) : s (107 + 5 * i) = wi i := h.2.2.2.2.2.2.2.2.2.2.1 i hi
theorem RW.u_wi {s : Nat → Int32} {ga st cu ki at_ wi wr ke sp : Nat → Int32} {mi ba si ev z : Int32} (h : RW s ga st cu ki at_ wi wr ke sp mi ba si ev z) {c : Nat} (hc : c < 8) (v : Int32) : RW (upd s (107 + 5 * c) v) ga st cu ki at_ (upd wi c v) wr ke sp mi ba si ev z := by
  obtain ⟨h0, h1, h2, h3, h4, h5, h6, h7, h8, h9, h10, h11, h12, h13⟩ := h
  refine ⟨?_, ?_, ?_, ?_, ?_, ?_, ?_, ?_, ?_, ?_, ?_, ?_, ?_, ?_⟩
  · rw [pk_un (by omega)]; exact h0
  · rw [pk_un (by omega)]; exact h1
  · rw [pk_un (by omega)]; exact h2
  · rw [pk_un (by omega)]; exact h3
  · rw [pk_un (by omega)]; exact h4
  · intro i hi; rw [pk_un (by omega)]; exact h5 i hi
  · intro i hi; rw [pk_un (by omega)]; exact h6 i hi
  · intro i hi; rw [pk_un (by omega)]; exact h7 i hi
  · intro i hi; rw [pk_un (by omega)]; exact h8 i hi
  · intro i hi; rw [pk_un (by omega)]; exact h9 i hi
  · intro i hi
    by_cases e : i = c
    · subst e; rw [pk_us, pk_us]
    · rw [pk_un (by omega), pk_un e]; exact h10 i hi
  · intro i hi; rw [pk_un (by omega)]; exact h11 i hi
  · intro i hi; rw [pk_un (by omega)]; exact h12 i hi
  · intro i hi; rw [pk_un (by omega)]; exact h13 i hi
theorem RW.wr_ {s : Nat → Int32} {ga st cu ki at_ wi wr ke sp : Nat → Int32} {mi ba si ev z : Int32} (h : RW s ga st cu ki at_ wi wr ke sp mi ba si ev z) {i : Nat} (hi : i < 8) : s (108 + 5 * i) = wr i := h.2.2.2.2.2.2.2.2.2.2.2.1 i hi
theorem RW.u_wr {s : Nat → Int32} {ga st cu ki at_ wi wr ke sp : Nat → Int32} {mi ba si ev z : Int32} (h : RW s ga st cu ki at_ wi wr ke sp mi ba si ev z) {c : Nat} (hc : c < 8) (v : Int32) : RW (upd s (108 + 5 * c) v) ga st cu ki at_ wi (upd wr c v) ke sp mi ba si ev z := by
  obtain ⟨h0, h1, h2, h3, h4, h5, h6, h7, h8, h9, h10, h11, h12, h13⟩ := h
  refine ⟨?_, ?_, ?_, ?_, ?_, ?_, ?_, ?_, ?_, ?_, ?_, ?_, ?_, ?_⟩
  · rw [pk_un (by omega)]; exact h0
  · rw [pk_un (by omega)]; exact h1
  · rw [pk_un (by omega)]; exact h2
  · rw [pk_un (by omega)]; exact h3
  · rw [pk_un (by omega)]; exact h4
  · intro i hi; rw [pk_un (by omega)]; exact h5 i hi
  · intro i hi; rw [pk_un (by omega)]; exact h6 i hi
  · intro i hi; rw [pk_un (by omega)]; exact h7 i hi
  · intro i hi; rw [pk_un (by omega)]; exact h8 i hi
  · intro i hi; rw [pk_un (by omega)]; exact h9 i hi
  · intro i hi; rw [pk_un (by omega)]; exact h10 i hi
  · intro i hi
    by_cases e : i = c
    · subst e; rw [pk_us, pk_us]
    · rw [pk_un (by omega), pk_un e]; exact h11 i hi
  · intro i hi; rw [pk_un (by omega)]; exact h12 i hi
  · intro i hi; rw [pk_un (by omega)]; exact h13 i hi
theorem RW.ke_ {s : Nat → Int32} {ga st cu ki at_ wi wr ke sp : Nat → Int32} {mi ba si ev z : Int32} (h : RW s ga st cu ki at_ wi wr ke sp mi ba si ev z) {i : Nat} (hi : i < 8) : s (109 + 5 * i) = ke i := h.2.2.2.2.2.2.2.2.2.2.2.2.1 i hi
theorem RW.u_ke {s : Nat → Int32} {ga st cu ki at_ wi wr ke sp : Nat → Int32} {mi ba si ev z : Int32} (h : RW s ga st cu ki at_ wi wr ke sp mi ba si ev z) {c : Nat} (hc : c < 8) (v : Int32) : RW (upd s (109 + 5 * c) v) ga st cu ki at_ wi wr (upd ke c v) sp mi ba si ev z := by
  obtain ⟨h0, h1, h2, h3, h4, h5, h6, h7, h8, h9, h10, h11, h12, h13⟩ := h
  refine ⟨?_, ?_, ?_, ?_, ?_, ?_, ?_, ?_, ?_, ?_, ?_, ?_, ?_, ?_⟩
  · rw [pk_un (by omega)]; exact h0
  · rw [pk_un (by omega)]; exact h1
  · rw [pk_un (by omega)]; exact h2
  · rw [pk_un (by omega)]; exact h3
  · rw [pk_un (by omega)]; exact h4
  · intro i hi; rw [pk_un (by omega)]; exact h5 i hi
  · intro i hi; rw [pk_un (by omega)]; exact h6 i hi
  · intro i hi; rw [pk_un (by omega)]; exact h7 i hi
  · intro i hi; rw [pk_un (by omega)]; exact h8 i hi
  · intro i hi; rw [pk_un (by omega)]; exact h9 i hi
  · intro i hi; rw [pk_un (by omega)]; exact h10 i hi
  · intro i hi; rw [pk_un (by omega)]; exact h11 i hi
  · intro i hi
    by_cases e : i = c
    · subst e; rw [pk_us, pk_us]
    · rw [pk_un (by omega), pk_un e]; exact h12 i hi
  · intro i hi; rw [pk_un (by omega)]; exact h13 i hi
theorem RW.sp_ {s : Nat → Int32} {ga st cu ki at_ wi wr ke sp : Nat → Int32} {mi ba si ev z : Int32} (h : RW s ga st cu ki at_ wi wr ke sp mi ba si ev z) {i : Nat} (hi : i < 10) : s (145 + i) = sp i := h.2.2.2.2.2.2.2.2.2.2.2.2.2 i hi
theorem RW.u_sp {s : Nat → Int32} {ga st cu ki at_ wi wr ke sp : Nat → Int32} {mi ba si ev z : Int32} (h : RW s ga st cu ki at_ wi wr ke sp mi ba si ev z) {c : Nat} (hc : c < 10) (v : Int32) : RW (upd s (145 + c) v) ga st cu ki at_ wi wr ke (upd sp c v) mi ba si ev z := by
  obtain ⟨h0, h1, h2, h3, h4, h5, h6, h7, h8, h9, h10, h11, h12, h13⟩ := h
  refine ⟨?_, ?_, ?_, ?_, ?_, ?_, ?_, ?_, ?_, ?_, ?_, ?_, ?_, ?_⟩
  · rw [pk_un (by omega)]; exact h0
  · rw [pk_un (by omega)]; exact h1
  · rw [pk_un (by omega)]; exact h2
  · rw [pk_un (by omega)]; exact h3
  · rw [pk_un (by omega)]; exact h4
  · intro i hi; rw [pk_un (by omega)]; exact h5 i hi
  · intro i hi; rw [pk_un (by omega)]; exact h6 i hi
  · intro i hi; rw [pk_un (by omega)]; exact h7 i hi
  · intro i hi; rw [pk_un (by omega)]; exact h8 i hi
  · intro i hi; rw [pk_un (by omega)]; exact h9 i hi
  · intro i hi; rw [pk_un (by omega)]; exact h10 i hi
  · intro i hi; rw [pk_un (by omega)]; exact h11 i hi
  · intro i hi; rw [pk_un (by omega)]; exact h12 i hi
  · intro i hi
    by_cases e : i = c
    · subst e; rw [pk_us, pk_us]
    · rw [pk_un (by omega), pk_un e]; exact h13 i hi
def IW (s : Nat → Int32) : Prop := (∃ n : Nat, n ≤ 99999 ∧ s 0 = nI n) ∧ (∃ n : Nat, n ≤ 8 ∧ s 1 = nI n) ∧ (∃ n : Nat, n ≤ 12 ∧ s 2 = nI n) ∧ (∃ n : Nat, n ≤ 99999 ∧ s 3 = nI n) ∧ (True) ∧ (∀ i : Nat, i < 4 → s (5 + i) = -1 ∨ ∃ n : Nat, n < 48 ∧ s (5 + i) = nI n) ∧ (∀ i : Nat, i < 48 → ∃ n : Nat, n ≤ 9 ∧ s (9 + i) = nI n) ∧ (∀ i : Nat, i < 48 → ∃ n : Nat, n ≤ 4 ∧ s (57 + i) = nI n) ∧ (∀ i : Nat, i < 8 → ∃ n : Nat, n ≤ 6 ∧ s (105 + 5 * i) = nI n) ∧ (∀ i : Nat, i < 8 → (∃ n : Nat, n < 48 ∧ s (106 + 5 * i) = nI n) ∨ s (106 + 5 * i) = 100 ∨ s (106 + 5 * i) = 101) ∧ (∀ i : Nat, i < 8 → ∃ n : Nat, n ≤ 1 ∧ s (107 + 5 * i) = nI n) ∧ (∀ i : Nat, i < 8 → ∃ n : Nat, n ≤ 99 ∧ s (108 + 5 * i) = nI n) ∧ (∀ i : Nat, i < 8 → ∃ n : Nat, n ≤ 7 ∧ s (109 + 5 * i) = nI n) ∧ (∀ i : Nat, i < 10 → s (145 + i) = -1 ∨ ∃ n : Nat, s (145 + i) = nI n ∧ (n : Int) < (s 1).toInt)
theorem IW.mi_ {s : Nat → Int32} (h : IW s) : ∃ n : Nat, n ≤ 99999 ∧ s (0) = nI n := h.1
theorem IW.u_mi {s : Nat → Int32} (h : IW s) {v : Int32} (hv : ∃ n : Nat, n ≤ 99999 ∧ v = nI n) : IW (upd s (0) v) := by
  obtain ⟨h0, h1, h2, h3, h4, h5, h6, h7, h8, h9, h10, h11, h12, h13⟩ := h
  refine ⟨?_, ?_, ?_, ?_, ?_, ?_, ?_, ?_, ?_, ?_, ?_, ?_, ?_, ?_⟩
  · rw [pk_us]; exact hv
  · rw [pk_un (by omega)]; exact h1
  · rw [pk_un (by omega)]; exact h2
  · rw [pk_un (by omega)]; exact h3
  · trivial
  · intro i hi; rw [pk_un (by omega)]; exact h5 i hi
  · intro i hi; rw [pk_un (by omega)]; exact h6 i hi
  · intro i hi; rw [pk_un (by omega)]; exact h7 i hi
  · intro i hi; rw [pk_un (by omega)]; exact h8 i hi
  · intro i hi; rw [pk_un (by omega)]; exact h9 i hi
  · intro i hi; rw [pk_un (by omega)]; exact h10 i hi
  · intro i hi; rw [pk_un (by omega)]; exact h11 i hi
  · intro i hi; rw [pk_un (by omega)]; exact h12 i hi
  · intro i hi; rw [pk_un (by omega), pk_un (by omega : (1 : Nat) ≠ _)]; exact h13 i hi
theorem IW.ba_ {s : Nat → Int32} (h : IW s) : ∃ n : Nat, n ≤ 8 ∧ s (1) = nI n := h.2.1
theorem IW.u_ba {s : Nat → Int32} (h : IW s) {v : Int32} (hv : ∃ n : Nat, n ≤ 8 ∧ v = nI n) (hb : (s 1).toInt ≤ v.toInt) : IW (upd s (1) v) := by
  obtain ⟨h0, h1, h2, h3, h4, h5, h6, h7, h8, h9, h10, h11, h12, h13⟩ := h
  refine ⟨?_, ?_, ?_, ?_, ?_, ?_, ?_, ?_, ?_, ?_, ?_, ?_, ?_, ?_⟩
  · rw [pk_un (by omega)]; exact h0
  · rw [pk_us]; exact hv
  · rw [pk_un (by omega)]; exact h2
  · rw [pk_un (by omega)]; exact h3
  · trivial
  · intro i hi; rw [pk_un (by omega)]; exact h5 i hi
  · intro i hi; rw [pk_un (by omega)]; exact h6 i hi
  · intro i hi; rw [pk_un (by omega)]; exact h7 i hi
  · intro i hi; rw [pk_un (by omega)]; exact h8 i hi
  · intro i hi; rw [pk_un (by omega)]; exact h9 i hi
  · intro i hi; rw [pk_un (by omega)]; exact h10 i hi
  · intro i hi; rw [pk_un (by omega)]; exact h11 i hi
  · intro i hi; rw [pk_un (by omega)]; exact h12 i hi
  · intro i hi
    rw [pk_un (by omega), pk_us]
    rcases h13 i hi with e | ⟨q, e1, e2⟩
    · exact Or.inl e
    · exact Or.inr ⟨q, e1, by omega⟩
theorem IW.si_ {s : Nat → Int32} (h : IW s) : ∃ n : Nat, n ≤ 12 ∧ s (2) = nI n := h.2.2.1
theorem IW.u_si {s : Nat → Int32} (h : IW s) {v : Int32} (hv : ∃ n : Nat, n ≤ 12 ∧ v = nI n) : IW (upd s (2) v) := by
  obtain ⟨h0, h1, h2, h3, h4, h5, h6, h7, h8, h9, h10, h11, h12, h13⟩ := h
  refine ⟨?_, ?_, ?_, ?_, ?_, ?_, ?_, ?_, ?_, ?_, ?_, ?_, ?_, ?_⟩
  · rw [pk_un (by omega)]; exact h0
  · rw [pk_un (by omega)]; exact h1
  · rw [pk_us]; exact hv
  · rw [pk_un (by omega)]; exact h3
  · trivial
  · intro i hi; rw [pk_un (by omega)]; exact h5 i hi
  · intro i hi; rw [pk_un (by omega)]; exact h6 i hi
  · intro i hi; rw [pk_un (by omega)]; exact h7 i hi
  · intro i hi; rw [pk_un (by omega)]; exact h8 i hi
  · intro i hi; rw [pk_un (by omega)]; exact h9 i hi
  · intro i hi; rw [pk_un (by omega)]; exact h10 i hi
  · intro i hi; rw [pk_un (by omega)]; exact h11 i hi
  · intro i hi; rw [pk_un (by omega)]; exact h12 i hi
  · intro i hi; rw [pk_un (by omega), pk_un (by omega : (1 : Nat) ≠ _)]; exact h13 i hi
theorem IW.ev_ {s : Nat → Int32} (h : IW s) : ∃ n : Nat, n ≤ 99999 ∧ s (3) = nI n := h.2.2.2.1
theorem IW.u_ev {s : Nat → Int32} (h : IW s) {v : Int32} (hv : ∃ n : Nat, n ≤ 99999 ∧ v = nI n) : IW (upd s (3) v) := by
  obtain ⟨h0, h1, h2, h3, h4, h5, h6, h7, h8, h9, h10, h11, h12, h13⟩ := h
  refine ⟨?_, ?_, ?_, ?_, ?_, ?_, ?_, ?_, ?_, ?_, ?_, ?_, ?_, ?_⟩
  · rw [pk_un (by omega)]; exact h0
  · rw [pk_un (by omega)]; exact h1
  · rw [pk_un (by omega)]; exact h2
  · rw [pk_us]; exact hv
  · trivial
  · intro i hi; rw [pk_un (by omega)]; exact h5 i hi
  · intro i hi; rw [pk_un (by omega)]; exact h6 i hi
  · intro i hi; rw [pk_un (by omega)]; exact h7 i hi
  · intro i hi; rw [pk_un (by omega)]; exact h8 i hi
  · intro i hi; rw [pk_un (by omega)]; exact h9 i hi
  · intro i hi; rw [pk_un (by omega)]; exact h10 i hi
  · intro i hi; rw [pk_un (by omega)]; exact h11 i hi
  · intro i hi; rw [pk_un (by omega)]; exact h12 i hi
  · intro i hi; rw [pk_un (by omega), pk_un (by omega : (1 : Nat) ≠ _)]; exact h13 i hi
theorem IW.z_ {s : Nat → Int32} (h : IW s) : True := h.2.2.2.2.1
theorem IW.u_z {s : Nat → Int32} (h : IW s) {v : Int32} (hv : True) : IW (upd s (4) v) := by
  obtain ⟨h0, h1, h2, h3, h4, h5, h6, h7, h8, h9, h10, h11, h12, h13⟩ := h
  refine ⟨?_, ?_, ?_, ?_, ?_, ?_, ?_, ?_, ?_, ?_, ?_, ?_, ?_, ?_⟩
  · rw [pk_un (by omega)]; exact h0
  · rw [pk_un (by omega)]; exact h1
  · rw [pk_un (by omega)]; exact h2
  · rw [pk_un (by omega)]; exact h3
  · trivial
  · intro i hi; rw [pk_un (by omega)]; exact h5 i hi
  · intro i hi; rw [pk_un (by omega)]; exact h6 i hi
  · intro i hi; rw [pk_un (by omega)]; exact h7 i hi
  · intro i hi; rw [pk_un (by omega)]; exact h8 i hi
  · intro i hi; rw [pk_un (by omega)]; exact h9 i hi
  · intro i hi; rw [pk_un (by omega)]; exact h10 i hi
  · intro i hi; rw [pk_un (by omega)]; exact h11 i hi
  · intro i hi; rw [pk_un (by omega)]; exact h12 i hi
  · intro i hi; rw [pk_un (by omega), pk_un (by omega : (1 : Nat) ≠ _)]; exact h13 i hi
theorem IW.ga_ {s : Nat → Int32} (h : IW s) {i : Nat} (hi : i < 4) : s (5 + i) = -1 ∨ ∃ n : Nat, n < 48 ∧ s (5 + i) = nI n := h.2.2.2.2.2.1 i hi
theorem IW.u_ga {s : Nat → Int32} (h : IW s) {c : Nat} (hc : c < 4) {v : Int32} (hv : v = -1 ∨ ∃ n : Nat, n < 48 ∧ v = nI n) : IW (upd s (5 + c) v) := by
  obtain ⟨h0, h1, h2, h3, h4, h5, h6, h7, h8, h9, h10, h11, h12, h13⟩ := h
  refine ⟨?_, ?_, ?_, ?_, ?_, ?_, ?_, ?_, ?_, ?_, ?_, ?_, ?_, ?_⟩
  · rw [pk_un (by omega)]; exact h0
  · rw [pk_un (by omega)]; exact h1
  · rw [pk_un (by omega)]; exact h2
  · rw [pk_un (by omega)]; exact h3
  · trivial
  · intro i hi
    by_cases e : i = c
    · subst e; rw [pk_us]; exact hv
    · rw [pk_un (by omega)]; exact h5 i hi
  · intro i hi; rw [pk_un (by omega)]; exact h6 i hi
  · intro i hi; rw [pk_un (by omega)]; exact h7 i hi
  · intro i hi; rw [pk_un (by omega)]; exact h8 i hi
  · intro i hi; rw [pk_un (by omega)]; exact h9 i hi
  · intro i hi; rw [pk_un (by omega)]; exact h10 i hi
  · intro i hi; rw [pk_un (by omega)]; exact h11 i hi
  · intro i hi; rw [pk_un (by omega)]; exact h12 i hi
  · intro i hi; rw [pk_un (by omega), pk_un (by omega : (1 : Nat) ≠ _)]; exact h13 i hi
theorem IW.st_ {s : Nat → Int32} (h : IW s) {i : Nat} (hi : i < 48) : ∃ n : Nat, n ≤ 9 ∧ s (9 + i) = nI n := h.2.2.2.2.2.2.1 i hi
theorem IW.u_st {s : Nat → Int32} (h : IW s) {c : Nat} (hc : c < 48) {v : Int32} (hv : ∃ n : Nat, n ≤ 9 ∧ v = nI n) : IW (upd s (9 + c) v) := by
  obtain ⟨h0, h1, h2, h3, h4, h5, h6, h7, h8, h9, h10, h11, h12, h13⟩ := h
  refine ⟨?_, ?_, ?_, ?_, ?_, ?_, ?_, ?_, ?_, ?_, ?_, ?_, ?_, ?_⟩
  · rw [pk_un (by omega)]; exact h0
  · rw [pk_un (by omega)]; exact h1
  · rw [pk_un (by omega)]; exact h2
  · rw [pk_un (by omega)]; exact h3
  · trivial
  · intro i hi; rw [pk_un (by omega)]; exact h5 i hi
  · intro i hi
    by_cases e : i = c
    · subst e; rw [pk_us]; exact hv
    · rw [pk_un (by omega)]; exact h6 i hi
  · intro i hi; rw [pk_un (by omega)]; exact h7 i hi
  · intro i hi; rw [pk_un (by omega)]; exact h8 i hi
  · intro i hi; rw [pk_un (by omega)]; exact h9 i hi
  · intro i hi; rw [pk_un (by omega)]; exact h10 i hi
  · intro i hi; rw [pk_un (by omega)]; exact h11 i hi
  · intro i hi; rw [pk_un (by omega)]; exact h12 i hi
  · intro i hi; rw [pk_un (by omega), pk_un (by omega : (1 : Nat) ≠ _)]; exact h13 i hi
theorem IW.cu_ {s : Nat → Int32} (h : IW s) {i : Nat} (hi : i < 48) : ∃ n : Nat, n ≤ 4 ∧ s (57 + i) = nI n := h.2.2.2.2.2.2.2.1 i hi
theorem IW.u_cu {s : Nat → Int32} (h : IW s) {c : Nat} (hc : c < 48) {v : Int32} (hv : ∃ n : Nat, n ≤ 4 ∧ v = nI n) : IW (upd s (57 + c) v) := by
  obtain ⟨h0, h1, h2, h3, h4, h5, h6, h7, h8, h9, h10, h11, h12, h13⟩ := h
  refine ⟨?_, ?_, ?_, ?_, ?_, ?_, ?_, ?_, ?_, ?_, ?_, ?_, ?_, ?_⟩
  · rw [pk_un (by omega)]; exact h0
  · rw [pk_un (by omega)]; exact h1
  · rw [pk_un (by omega)]; exact h2
  · rw [pk_un (by omega)]; exact h3
  · trivial
  · intro i hi; rw [pk_un (by omega)]; exact h5 i hi
  · intro i hi; rw [pk_un (by omega)]; exact h6 i hi
  · intro i hi
    by_cases e : i = c
    · subst e; rw [pk_us]; exact hv
    · rw [pk_un (by omega)]; exact h7 i hi
  · intro i hi; rw [pk_un (by omega)]; exact h8 i hi
  · intro i hi; rw [pk_un (by omega)]; exact h9 i hi
  · intro i hi; rw [pk_un (by omega)]; exact h10 i hi
  · intro i hi; rw [pk_un (by omega)]; exact h11 i hi
  · intro i hi; rw [pk_un (by omega)]; exact h12 i hi
  · intro i hi; rw [pk_un (by omega), pk_un (by omega : (1 : Nat) ≠ _)]; exact h13 i hi
theorem IW.ki_ {s : Nat → Int32} (h : IW s) {i : Nat} (hi : i < 8) : ∃ n : Nat, n ≤ 6 ∧ s (105 + 5 * i) = nI n := h.2.2.2.2.2.2.2.2.1 i hi
theorem IW.u_ki {s : Nat → Int32} (h : IW s) {c : Nat} (hc : c < 8) {v : Int32} (hv : ∃ n : Nat, n ≤ 6 ∧ v = nI n) : IW (upd s (105 + 5 * c) v) := by
  obtain ⟨h0, h1, h2, h3, h4, h5, h6, h7, h8, h9, h10, h11, h12, h13⟩ := h
  refine ⟨?_, ?_, ?_, ?_, ?_, ?_, ?_, ?_, ?_, ?_, ?_, ?_, ?_, ?_⟩
  · rw [pk_un (by omega)]; exact h0
  · rw [pk_un (by omega)]; exact h1
  · rw [pk_un (by omega)]; exact h2
  · rw [pk_un (by omega)]; exact h3
  · trivial
  · intro i hi; rw [pk_un (by omega)]; exact h5 i hi
  · intro i hi; rw [pk_un (by omega)]; exact h6 i hi
  · intro i hi; rw [pk_un (by omega)]; exact h7 i hi
  · intro i hi
    by_cases e : i = c
    · subst e; rw [pk_us]; exact hv
    · rw [pk_un (by omega)]; exact h8 i hi
  · intro i hi; rw [pk_un (by omega)]; exact h9 i hi
  · intro i hi; rw [pk_un (by omega)]; exact h10 i hi
  · intro i hi; rw [pk_un (by omega)]; exact h11 i hi
  · intro i hi; rw [pk_un (by omega)]; exact h12 i hi
  · intro i hi; rw [pk_un (by omega), pk_un (by omega : (1 : Nat) ≠ _)]; exact h13 i hi
theorem IW.at__ {s : Nat → Int32} (h : IW s) {i : Nat} (hi : i < 8) : (∃ n : Nat, n < 48 ∧ s (106 + 5 * i) = nI n) ∨ s (106 + 5 * i) = 100 ∨ s (106 + 5 * i) = 101 := h.2.2.2.2.2.2.2.2.2.1 i hi
theorem IW.u_at_ {s : Nat → Int32} (h : IW s) {c : Nat} (hc : c < 8) {v : Int32} (hv : (∃ n : Nat, n < 48 ∧ v = nI n) ∨ v = 100 ∨ v = 101) : IW (upd s (106 + 5 * c) v) := by
  obtain ⟨h0, h1, h2, h3, h4, h5, h6, h7, h8, h9, h10, h11, h12, h13⟩ := h
  refine ⟨?_, ?_, ?_, ?_, ?_, ?_, ?_, ?_, ?_, ?_, ?_, ?_, ?_, ?_⟩
  · rw [pk_un (by omega)]; exact h0
  · rw [pk_un (by omega)]; exact h1
  · rw [pk_un (by omega)]; exact h2
  · rw [pk_un (by omega)]; exact h3
  · trivial
  · intro i hi; rw [pk_un (by omega)]; exact h5 i hi
  · intro i hi; rw [pk_un (by omega)]; exact h6 i hi
  · intro i hi; rw [pk_un (by omega)]; exact h7 i hi
  · intro i hi; rw [pk_un (by omega)]; exact h8 i hi
  · intro i hi
    by_cases e : i = c
    · subst e; rw [pk_us]; exact hv
    · rw [pk_un (by omega)]; exact h9 i hi
  · intro i hi; rw [pk_un (by omega)]; exact h10 i hi
  · intro i hi; rw [pk_un (by omega)]; exact h11 i hi
  · intro i hi; rw [pk_un (by omega)]; exact h12 i hi
  · intro i hi; rw [pk_un (by omega), pk_un (by omega : (1 : Nat) ≠ _)]; exact h13 i hi
theorem IW.wi_ {s : Nat → Int32} (h : IW s) {i : Nat} (hi : i < 8) : ∃ n : Nat, n ≤ 1 ∧ s (107 + 5 * i) = nI n := h.2.2.2.2.2.2.2.2.2.2.1 i hi
theorem IW.u_wi {s : Nat → Int32} (h : IW s) {c : Nat} (hc : c < 8) {v : Int32} (hv : ∃ n : Nat, n ≤ 1 ∧ v = nI n) : IW (upd s (107 + 5 * c) v) := by
  obtain ⟨h0, h1, h2, h3, h4, h5, h6, h7, h8, h9, h10, h11, h12, h13⟩ := h
  refine ⟨?_, ?_, ?_, ?_, ?_, ?_, ?_, ?_, ?_, ?_, ?_, ?_, ?_, ?_⟩
  · rw [pk_un (by omega)]; exact h0
  · rw [pk_un (by omega)]; exact h1
  · rw [pk_un (by omega)]; exact h2
  · rw [pk_un (by omega)]; exact h3
  · trivial
  · intro i hi; rw [pk_un (by omega)]; exact h5 i hi
  · intro i hi; rw [pk_un (by omega)]; exact h6 i hi
  · intro i hi; rw [pk_un (by omega)]; exact h7 i hi
  · intro i hi; rw [pk_un (by omega)]; exact h8 i hi
  · intro i hi; rw [pk_un (by omega)]; exact h9 i hi
  · intro i hi
    by_cases e : i = c
    · subst e; rw [pk_us]; exact hv
    · rw [pk_un (by omega)]; exact h10 i hi
  · intro i hi; rw [pk_un (by omega)]; exact h11 i hi
  · intro i hi; rw [pk_un (by omega)]; exact h12 i hi
  · intro i hi; rw [pk_un (by omega), pk_un (by omega : (1 : Nat) ≠ _)]; exact h13 i hi
theorem IW.wr_ {s : Nat → Int32} (h : IW s) {i : Nat} (hi : i < 8) : ∃ n : Nat, n ≤ 99 ∧ s (108 + 5 * i) = nI n := h.2.2.2.2.2.2.2.2.2.2.2.1 i hi
theorem IW.u_wr {s : Nat → Int32} (h : IW s) {c : Nat} (hc : c < 8) {v : Int32} (hv : ∃ n : Nat, n ≤ 99 ∧ v = nI n) : IW (upd s (108 + 5 * c) v) := by
  obtain ⟨h0, h1, h2, h3, h4, h5, h6, h7, h8, h9, h10, h11, h12, h13⟩ := h
  refine ⟨?_, ?_, ?_, ?_, ?_, ?_, ?_, ?_, ?_, ?_, ?_, ?_, ?_, ?_⟩
  · rw [pk_un (by omega)]; exact h0
  · rw [pk_un (by omega)]; exact h1
  · rw [pk_un (by omega)]; exact h2
  · rw [pk_un (by omega)]; exact h3
  · trivial
  · intro i hi; rw [pk_un (by omega)]; exact h5 i hi
  · intro i hi; rw [pk_un (by omega)]; exact h6 i hi
  · intro i hi; rw [pk_un (by omega)]; exact h7 i hi
  · intro i hi; rw [pk_un (by omega)]; exact h8 i hi
  · intro i hi; rw [pk_un (by omega)]; exact h9 i hi
  · intro i hi; rw [pk_un (by omega)]; exact h10 i hi
  · intro i hi
    by_cases e : i = c
    · subst e; rw [pk_us]; exact hv
    · rw [pk_un (by omega)]; exact h11 i hi
  · intro i hi; rw [pk_un (by omega)]; exact h12 i hi
  · intro i hi; rw [pk_un (by omega), pk_un (by omega : (1 : Nat) ≠ _)]; exact h13 i hi
theorem IW.ke_ {s : Nat → Int32} (h : IW s) {i : Nat} (hi : i < 8) : ∃ n : Nat, n ≤ 7 ∧ s (109 + 5 * i) = nI n := h.2.2.2.2.2.2.2.2.2.2.2.2.1 i hi
theorem IW.u_ke {s : Nat → Int32} (h : IW s) {c : Nat} (hc : c < 8) {v : Int32} (hv : ∃ n : Nat, n ≤ 7 ∧ v = nI n) : IW (upd s (109 + 5 * c) v) := by
  obtain ⟨h0, h1, h2, h3, h4, h5, h6, h7, h8, h9, h10, h11, h12, h13⟩ := h
  refine ⟨?_, ?_, ?_, ?_, ?_, ?_, ?_, ?_, ?_, ?_, ?_, ?_, ?_, ?_⟩
  · rw [pk_un (by omega)]; exact h0
  · rw [pk_un (by omega)]; exact h1
  · rw [pk_un (by omega)]; exact h2
  · rw [pk_un (by omega)]; exact h3
  · trivial
  · intro i hi; rw [pk_un (by omega)]; exact h5 i hi
  · intro i hi; rw [pk_un (by omega)]; exact h6 i hi
  · intro i hi; rw [pk_un (by omega)]; exact h7 i hi
  · intro i hi; rw [pk_un (by omega)]; exact h8 i hi
  · intro i hi; rw [pk_un (by omega)]; exact h9 i hi
  · intro i hi; rw [pk_un (by omega)]; exact h10 i hi
  · intro i hi; rw [pk_un (by omega)]; exact h11 i hi
  · intro i hi
    by_cases e : i = c
    · subst e; rw [pk_us]; exact hv
    · rw [pk_un (by omega)]; exact h12 i hi
  · intro i hi; rw [pk_un (by omega), pk_un (by omega : (1 : Nat) ≠ _)]; exact h13 i hi
theorem IW.sp_ {s : Nat → Int32} (h : IW s) {i : Nat} (hi : i < 10) : s (145 + i) = -1 ∨ ∃ n : Nat, s (145 + i) = nI n ∧ (n : Int) < (s 1).toInt := h.2.2.2.2.2.2.2.2.2.2.2.2.2 i hi
theorem IW.u_sp {s : Nat → Int32} (h : IW s) {c : Nat} (hc : c < 10) {v : Int32} (hv : v = -1 ∨ ∃ n : Nat, v = nI n ∧ (n : Int) < (s 1).toInt) : IW (upd s (145 + c) v) := by
  obtain ⟨h0, h1, h2, h3, h4, h5, h6, h7, h8, h9, h10, h11, h12, h13⟩ := h
  refine ⟨?_, ?_, ?_, ?_, ?_, ?_, ?_, ?_, ?_, ?_, ?_, ?_, ?_, ?_⟩
  · rw [pk_un (by omega)]; exact h0
  · rw [pk_un (by omega)]; exact h1
  · rw [pk_un (by omega)]; exact h2
  · rw [pk_un (by omega)]; exact h3
  · trivial
  · intro i hi; rw [pk_un (by omega)]; exact h5 i hi
  · intro i hi; rw [pk_un (by omega)]; exact h6 i hi
  · intro i hi; rw [pk_un (by omega)]; exact h7 i hi
  · intro i hi; rw [pk_un (by omega)]; exact h8 i hi
  · intro i hi; rw [pk_un (by omega)]; exact h9 i hi
  · intro i hi; rw [pk_un (by omega)]; exact h10 i hi
  · intro i hi; rw [pk_un (by omega)]; exact h11 i hi
  · intro i hi; rw [pk_un (by omega)]; exact h12 i hi
  · intro i hi
    by_cases e : i = c
    · subst e; rw [pk_us, pk_un (by omega : (1 : Nat) ≠ _)]; exact hv
    · rw [pk_un (by omega), pk_un (by omega : (1 : Nat) ≠ _)]; exact h13 i hi
