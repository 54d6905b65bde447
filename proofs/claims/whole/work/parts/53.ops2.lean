/-! ===== bathers, keys, images, findings ===== -/
def cp155 (f g : Nat → Int32) : Nat → Int32 := fun j => if j < 155 then f j else g j
theorem cp155_lt {f g : Nat → Int32} {j : Nat} (h : j < 155) : cp155 f g j = f j := if_pos h
theorem become8_loop (f : Nat → Int32) : ∀ (n i : Nat) (g : Nat → Int32), i ≤ 155 → 155 - i < n → bb_loop2 (uX8_become_s2 f) n (nI i) g = some (fun j => if i ≤ j ∧ j < 155 then f j else g j) := by
  intro n
  induction n with
  | zero => intro i g h1 h2; omega
  | succ n ih =>
    intro i g h1 h2
    show uX8_become_s2 f (bb_loop2 (uX8_become_s2 f) n) (nI i) g = _
    generalize bb_loop2 (uX8_become_s2 f) n = rec at ih ⊢
    unfold uX8_become_s2
    by_cases h : i = 155
    · subst h
      rw [if_pos (show (155 : Int32) ≤ nI 155 from nI_le (a := 155) (Nat.le_refl _) (by decide))]
      refine congrArg some (funext fun j => ?_)
      rw [if_neg (by omega)]
    · rw [if_neg (show ¬ (155 : Int32) ≤ nI i from nI_ge (a := i) (b := 155) (by omega) (by decide)), ixn (by omega) (by decide), ixn (by omega) (by decide), p1_, cln (by omega), ih (i + 1) _ (by omega) (by omega)]
      refine congrArg some (funext fun j => ?_)
      by_cases e : j = i
      · subst e; rw [if_neg (by omega), if_pos (by omega), pk_us]
      · rw [pk_un e]
        by_cases e2 : i ≤ j ∧ j < 155
        · rw [if_pos e2, if_pos (by omega)]
        · rw [if_neg e2, if_neg (by omega)]
theorem become8 {nn : Nat} (hn : 155 < nn) (f g : Nat → Int32) : uX8_become nn f g = some (cp155 f g) := by
  unfold uX8_become
  rw [show (0 : Int32) = nI 0 from rfl, become8_loop f nn 0 g (by omega) (by omega)]
  refine congrArg some (funext fun j => ?_)
  unfold cp155
  by_cases e : j < 155
  · rw [if_pos e, if_pos (by omega)]
  · rw [if_neg e, if_neg (by omega)]
theorem lends8 {nn : Nat} (hn : 155 < nn) (a s : Nat → Int32) : uX8_lends nn a s = some (cp155 s a) := by unfold uX8_lends; rw [become8 hn]; rfl
theorem laysBack8 {nn : Nat} (hn : 155 < nn) (a s : Nat → Int32) : uX8_laysBack nn a s = some (cp155 a s) := by unfold uX8_laysBack; rw [become8 hn]; rfl
section OPS2
variable {s ga st cu ki at_ wi wr ke sp : Nat → Int32} {mi ba si ev z : Int32}
theorem RW.ext {t : Nat → Int32} (h : RW s ga st cu ki at_ wi wr ke sp mi ba si ev z) (ht : ∀ j, j < 155 → t j = s j) : RW t ga st cu ki at_ wi wr ke sp mi ba si ev z := by
  obtain ⟨h0, h1, h2, h3, h4, h5, h6, h7, h8, h9, h10, h11, h12, h13⟩ := h
  refine ⟨?_, ?_, ?_, ?_, ?_, ?_, ?_, ?_, ?_, ?_, ?_, ?_, ?_, ?_⟩
  · rw [ht _ (by omega)]; exact h0
  · rw [ht _ (by omega)]; exact h1
  · rw [ht _ (by omega)]; exact h2
  · rw [ht _ (by omega)]; exact h3
  · rw [ht _ (by omega)]; exact h4
  · intro i hi; rw [ht _ (by omega)]; exact h5 i hi
  · intro i hi; rw [ht _ (by omega)]; exact h6 i hi
  · intro i hi; rw [ht _ (by omega)]; exact h7 i hi
  · intro i hi; rw [ht _ (by omega)]; exact h8 i hi
  · intro i hi; rw [ht _ (by omega)]; exact h9 i hi
  · intro i hi; rw [ht _ (by omega)]; exact h10 i hi
  · intro i hi; rw [ht _ (by omega)]; exact h11 i hi
  · intro i hi; rw [ht _ (by omega)]; exact h12 i hi
  · intro i hi; rw [ht _ (by omega)]; exact h13 i hi
theorem IW.ext {t : Nat → Int32} (h : IW s) (ht : ∀ j, j < 155 → t j = s j) : IW t := by
  obtain ⟨h0, h1, h2, h3, h4, h5, h6, h7, h8, h9, h10, h11, h12, h13⟩ := h
  refine ⟨?_, ?_, ?_, ?_, trivial, ?_, ?_, ?_, ?_, ?_, ?_, ?_, ?_, ?_⟩
  · rw [ht _ (by omega)]; exact h0
  · rw [ht _ (by omega)]; exact h1
  · rw [ht _ (by omega)]; exact h2
  · rw [ht _ (by omega)]; exact h3
  · intro i hi; rw [ht _ (by omega)]; exact h5 i hi
  · intro i hi; rw [ht _ (by omega)]; exact h6 i hi
  · intro i hi; rw [ht _ (by omega)]; exact h7 i hi
  · intro i hi; rw [ht _ (by omega)]; exact h8 i hi
  · intro i hi; rw [ht _ (by omega)]; exact h9 i hi
  · intro i hi; rw [ht _ (by omega)]; exact h10 i hi
  · intro i hi; rw [ht _ (by omega)]; exact h11 i hi
  · intro i hi; rw [ht _ (by omega)]; exact h12 i hi
  · intro i hi; rw [ht _ (by omega), ht 1 (by omega)]; exact h13 i hi
/-- the class's side: contents that agree within the rows' lengths -/
theorem RW.ext7 {ga2 st2 cu2 ki2 at2 wi2 wr2 ke2 sp2 : Nat → Int32} (h : RW s ga st cu ki at_ wi wr ke sp mi ba si ev z) (h5 : ∀ i, i < 4 → ga2 i = ga i) (h6 : ∀ i, i < 48 → st2 i = st i) (h7 : ∀ i, i < 48 → cu2 i = cu i) (h8 : ∀ i, i < 8 → ki2 i = ki i) (h9 : ∀ i, i < 8 → at2 i = at_ i) (h10 : ∀ i, i < 8 → wi2 i = wi i) (h11 : ∀ i, i < 8 → wr2 i = wr i) (h12 : ∀ i, i < 8 → ke2 i = ke i) (h13 : ∀ i, i < 10 → sp2 i = sp i) : RW s ga2 st2 cu2 ki2 at2 wi2 wr2 ke2 sp2 mi ba si ev z :=
  ⟨h.mi_, h.ba_, h.si_, h.ev_, h.z_, fun i hi => (h.ga_ hi).trans (h5 i hi).symm, fun i hi => (h.st_ hi).trans (h6 i hi).symm, fun i hi => (h.cu_ hi).trans (h7 i hi).symm, fun i hi => (h.ki_ hi).trans (h8 i hi).symm, fun i hi => (h.at__ hi).trans (h9 i hi).symm, fun i hi => (h.wi_ hi).trans (h10 i hi).symm, fun i hi => (h.wr_ hi).trans (h11 i hi).symm, fun i hi => (h.ke_ hi).trans (h12 i hi).symm, fun i hi => (h.sp_ hi).trans (h13 i hi).symm⟩
theorem cpy0 {f g : Nat → Int32} {n j : Nat} (h : j < n) : va_cpy f g 0 0 n j = f j := by
  rw [pk_cpy_in (by omega) (by omega)]
  congr 1
  omega
theorem become6 (a1 a2 a3 a4 a5 b1 b2 b3 b4 b5 : Int32) (f1 f2 f3 f4 f5 f6 f7 f8 f9 g1 g2 g3 g4 g5 g6 g7 g8 g9 : Nat → Int32) :
    uX6_become a1 a2 a3 a4 a5 b1 b2 b3 b4 b5 f1 f2 f3 f4 f5 f6 f7 f8 f9 g1 g2 g3 g4 g5 g6 g7 g8 g9 = some (a1, a2, a3, a4, a5, va_cpy f1 g1 0 0 8, va_cpy f2 g2 0 0 48, va_cpy f3 g3 0 0 4, va_cpy f4 g4 0 0 8, va_cpy f5 g5 0 0 8, va_cpy f6 g6 0 0 10, va_cpy f7 g7 0 0 48, va_cpy f8 g8 0 0 8, va_cpy f9 g9 0 0 8) := rfl
theorem op_image {nn : Nat} (hn : 155 < nn) (hR : RW s ga st cu ki at_ wi wr ke sp mi ba si ev z) (hI : IW s) (ik : Int32) (kt : Nat → Int32) (b1 b2 b3 b4 b5 : Int32) (g1 g2 g3 g4 g5 g6 g7 g8 g9 : Nat → Int32) :
    ∃ ga2 st2 cu2 ki2 at2 wi2 wr2 ke2 sp2 s2, uX7_image ik b1 b2 b3 b4 b5 si ba mi ev z g1 g2 g3 g4 g5 g6 g7 g8 g9 at_ cu ga ke ki sp st wi wr = some (1, 1, si, ba, mi, ev, z, at2, cu2, ga2, ke2, ki2, sp2, st2, wi2, wr2) ∧ uX8_image nn ik kt s = some (1, 1, s2) ∧ RW s2 ga2 st2 cu2 ki2 at2 wi2 wr2 ke2 sp2 mi ba si ev z ∧ IW s2 := by
  unfold uX7_image uX8_image
  simp only [become6, become8 hn, bb_b0_s, bb_b1_s, bb_b2_s, bb_b3_s, bb_b4_s, bb_b5_s, bb_b6_s, bb_b7_s, bb_b8_s, bb_b9_s, bb_b10_s, bb_b11_s, bb_b12_s, bb_b13_s, bb_b14_s, bb_b15_s, bb_b16_s]
  refine ⟨_, _, _, _, _, _, _, _, _, _, rfl, rfl, ?_, hI.ext (fun j hj => cp155_lt hj)⟩
  exact (hR.ext (fun j hj => cp155_lt hj)).ext7 (fun i hi => cpy0 hi) (fun i hi => cpy0 hi) (fun i hi => cpy0 hi) (fun i hi => cpy0 hi) (fun i hi => cpy0 hi) (fun i hi => cpy0 hi) (fun i hi => cpy0 hi) (fun i hi => cpy0 hi) (fun i hi => cpy0 hi)
theorem op_undo {nn : Nat} (hn : 155 < nn) (hR : RW s ga st cu ki at_ wi wr ke sp mi ba si ev z) (hI : IW s) (ik : Int32) (fo kt : Nat → Int32) {b1 b2 b3 b4 b5 : Int32} {g1 g2 g3 g4 g5 g6 g7 g8 g9 : Nat → Int32} (hk : ¬ ik = 0 → RW kt g3 g7 g2 g5 g1 g8 g9 g4 g6 b3 b2 b1 b4 b5 ∧ IW kt) :
    ∃ r fo2 ga2 st2 cu2 ki2 at2 wi2 wr2 ke2 sp2 mi2 ba2 si2 ev2 z2 s2, uX7_undo ik fo b1 b2 b3 b4 b5 si ba mi ev z g1 g2 g3 g4 g5 g6 g7 g8 g9 at_ cu ga ke ki sp st wi wr = some (r, fo2, si2, ba2, mi2, ev2, z2, at2, cu2, ga2, ke2, ki2, sp2, st2, wi2, wr2) ∧ uX8_undo nn ik fo kt s = some (r, fo2, s2) ∧ RW s2 ga2 st2 cu2 ki2 at2 wi2 wr2 ke2 sp2 mi2 ba2 si2 ev2 z2 ∧ IW s2 := by
  unfold uX7_undo uX8_undo
  by_cases h : ik = 0
  · simp only [if_pos h, find78, fnd3, bb_b0_s, bb_b1_s, bb_b2_s, bb_b3_s, bb_b4_s, bb_b5_s, bb_b6_s, bb_b7_s, bb_b8_s, bb_b9_s, bb_b10_s, bb_b11_s, bb_b12_s, bb_b13_s, bb_b14_s, bb_b15_s, bb_b16_s]
    exact ⟨_, _, _, _, _, _, _, _, _, _, _, _, _, _, _, _, _, rfl, rfl, hR, hI⟩
  · obtain ⟨hR2, hI2⟩ := hk h
    simp only [if_neg h, become6, become8 hn, bb_b0_s, bb_b1_s, bb_b2_s, bb_b3_s, bb_b4_s, bb_b5_s, bb_b6_s, bb_b7_s, bb_b8_s, bb_b9_s, bb_b10_s, bb_b11_s, bb_b12_s, bb_b13_s, bb_b14_s, bb_b15_s, bb_b16_s]
    have e : cp155 kt s (0 : Int32).toNatClampNeg = b3 := (cp155_lt (show 0 < 155 by omega)).trans hR2.mi_
    rw [e]
    refine ⟨_, _, _, _, _, _, _, _, _, _, _, _, _, _, _, _, _, rfl, rfl, ?_, hI2.ext (fun j hj => cp155_lt hj)⟩
    exact (hR2.ext (fun j hj => cp155_lt hj)).ext7 (fun i hi => cpy0 hi) (fun i hi => cpy0 hi) (fun i hi => cpy0 hi) (fun i hi => cpy0 hi) (fun i hi => cpy0 hi) (fun i hi => cpy0 hi) (fun i hi => cpy0 hi) (fun i hi => cpy0 hi) (fun i hi => cpy0 hi)
theorem op_tear (ik : Int32) : ∃ r, uX7_tear ik = some (r, 0) ∧ uX8_tear ik = some (r, 0) := by
  unfold uX7_tear uX8_tear
  by_cases h : ik = 0
  · exact ⟨0, by rw [if_pos h], by rw [if_pos h]⟩
  · exact ⟨1, by rw [if_neg h], by rw [if_neg h]⟩
theorem admit6 {n : Nat} (hn : n < 8) (k c : Int32) (f1 f2 f3 f4 f5 : Nat → Int32) : uX6_admit k c (nI n) f1 f2 f3 f4 f5 = some (nI n, nI (n + 1), upd f1 n c, upd f2 n (nI n), upd f3 n k, upd f4 n 0, upd f5 n 0) := by
  unfold uX6_admit
  rw [ixn hn (by decide), ixn hn (by decide), ixn hn (by decide), ixn hn (by decide), ixn hn (by decide), cln (by omega), p1_]
theorem adds8 {n : Nat} (hn : n < 8) (k c : Int32) {s : Nat → Int32} (hs : s 1 = nI n) : uX8_adds k c s = some (nI n, upd (upd (upd (upd (upd (upd s 1 (nI (n + 1))) (105 + 5 * n) k) (106 + 5 * n) c) (107 + 5 * n) 0) (108 + 5 * n) 0) (109 + 5 * n) (nI n)) := by
  unfold uX8_adds
  have e1 : (1 : Int32).toNatClampNeg = 1 := rfl
  have g0 : ∀ (v : Int32) (f : Nat → Int32), uX8_sets (nI n) 0 v f = some (upd f (105 + 5 * n) v) := fun v f => sets8 (w := 0) hn (by omega) v f
  have g1 : ∀ (v : Int32) (f : Nat → Int32), uX8_sets (nI n) 1 v f = some (upd f (106 + 5 * n) v) := fun v f => by rw [show 106 + 5 * n = 105 + 5 * n + 1 by omega]; exact sets8 (w := 1) hn (by omega) v f
  have g2 : ∀ (v : Int32) (f : Nat → Int32), uX8_sets (nI n) 2 v f = some (upd f (107 + 5 * n) v) := fun v f => by rw [show 107 + 5 * n = 105 + 5 * n + 2 by omega]; exact sets8 (w := 2) hn (by omega) v f
  have g3 : ∀ (v : Int32) (f : Nat → Int32), uX8_sets (nI n) 3 v f = some (upd f (108 + 5 * n) v) := fun v f => by rw [show 108 + 5 * n = 105 + 5 * n + 3 by omega]; exact sets8 (w := 3) hn (by omega) v f
  have g4 : ∀ (v : Int32) (f : Nat → Int32), uX8_sets (nI n) 4 v f = some (upd f (109 + 5 * n) v) := fun v f => by rw [show 109 + 5 * n = 105 + 5 * n + 4 by omega]; exact sets8 (w := 4) hn (by omega) v f
  simp only [e1, hs, p1_, g0, g1, g2, g3, g4, bb_b0_s, bb_b1_s, bb_b2_s, bb_b3_s, bb_b4_s, bb_b5_s, bb_b6_s, bb_b7_s, bb_b8_s, bb_b9_s, bb_b10_s, bb_b11_s, bb_b12_s, bb_b13_s, bb_b14_s, bb_b15_s, bb_b16_s]
theorem RW.adds {n : Nat} (hR : RW s ga st cu ki at_ wi wr ke sp mi ba si ev z) (hn : n < 8) (k c : Int32) : RW (upd (upd (upd (upd (upd (upd s 1 (nI (n + 1))) (105 + 5 * n) k) (106 + 5 * n) c) (107 + 5 * n) 0) (108 + 5 * n) 0) (109 + 5 * n) (nI n)) ga st cu (upd ki n k) (upd at_ n c) (upd wi n 0) (upd wr n 0) (upd ke n (nI n)) sp mi (nI (n + 1)) si ev z :=
  (((((hR.u_ba (nI (n + 1))).u_ki hn k).u_at_ hn c).u_wi hn 0).u_wr hn 0).u_ke hn (nI n)
theorem IW.adds {n k c : Nat} (hI : IW s) (hn : n < 8) (hs : s 1 = nI n) (hk : k ≤ 6) (hc : c < 48) : IW (upd (upd (upd (upd (upd (upd s 1 (nI (n + 1))) (105 + 5 * n) (nI k)) (106 + 5 * n) (nI c)) (107 + 5 * n) 0) (108 + 5 * n) 0) (109 + 5 * n) (nI n)) :=
  (((((hI.u_ba (v := nI (n + 1)) ⟨n + 1, by omega, rfl⟩ (by rw [hs, nI_toInt (by omega), nI_toInt (by omega)]; omega)).u_ki hn ⟨k, hk, rfl⟩).u_at_ hn (Or.inl ⟨c, hc, rfl⟩)).u_wi hn ⟨0, by omega, rfl⟩).u_wr hn ⟨0, by omega, rfl⟩).u_ke hn ⟨n, by omega, rfl⟩
theorem op_bather (hR : RW s ga st cu ki at_ wi wr ke sp mi ba si ev z) (hI : IW s) (fo : Nat → Int32) (p1 p2 : Int32) :
    ∃ r fo2 ba2 at2 ke2 ki2 wi2 wr2 s2, uX7_bather p1 p2 fo ba at_ ke ki wi wr = some (r, fo2, ba2, at2, ke2, ki2, wi2, wr2) ∧ uX8_bather p1 p2 fo s = some (r, fo2, s2) ∧ RW s2 ga st cu ki2 at2 wi2 wr2 ke2 sp mi ba2 si ev z ∧ IW s2 := by
  unfold uX7_bather uX8_bather
  obtain ⟨n, hn, en⟩ := hI.ba_
  have eb : ba = nI n := by rw [← hR.ba_]; exact en
  have e1 : (1 : Int32).toNatClampNeg = 1 := rfl
  simp only [kind7, kind8, cell0, cell8, find78, fnd0, fnd1, e1, en, eb, bb_b0_s, bb_b1_s, bb_b2_s, bb_b3_s, bb_b4_s, bb_b5_s, bb_b6_s, bb_b7_s, bb_b8_s, bb_b9_s, bb_b10_s, bb_b11_s, bb_b12_s, bb_b13_s, bb_b14_s, bb_b15_s, bb_b16_s]
  rcases win p1 0 6 with ⟨e2, a2, b2⟩ | ⟨e2, -⟩
  · simp only [e2, bb_b0_s, bb_b1_s, bb_b2_s, bb_b3_s, bb_b4_s, bb_b5_s, bb_b6_s, bb_b7_s, bb_b8_s, bb_b9_s, bb_b10_s, bb_b11_s, bb_b12_s, bb_b13_s, bb_b14_s, bb_b15_s, bb_b16_s, e10, e00, e11, if_true, if_false]
    rcases win p2 0 47 with ⟨e3, a3, b3⟩ | ⟨e3, -⟩
    · simp only [e3, bb_b0_s, bb_b1_s, bb_b2_s, bb_b3_s, bb_b4_s, bb_b5_s, bb_b6_s, bb_b7_s, bb_b8_s, bb_b9_s, bb_b10_s, bb_b11_s, bb_b12_s, bb_b13_s, bb_b14_s, bb_b15_s, bb_b16_s, e10, e00, e11, if_true, if_false]
      obtain ⟨k, hk, rfl⟩ := nat_of (n := 6) (by decide) a2 b2
      obtain ⟨c, hc, rfl⟩ := nat_of (n := 47) (by decide) a3 b3
      by_cases h : n = 8
      · subst h
        rw [if_neg (by decide), if_pos (by decide)]
        simp only [← en, hR.ba_]
        exact ⟨_, _, _, _, _, _, _, _, _, rfl, rfl, hR, hI⟩
      · rw [if_pos (show nI n < (8 : Int32) from nI_lt (b := 8) (by omega) (by decide)), if_neg (show ¬ nI n = (8 : Int32) from fun e => h ((nI_eq (b := 8) (by omega) (by decide)).mp e))]
        simp only [admit6 (show n < 8 by omega), adds8 (show n < 8 by omega) _ _ en, bb_b0_s, bb_b1_s, bb_b2_s, bb_b3_s, bb_b4_s, bb_b5_s, bb_b6_s, bb_b7_s, bb_b8_s, bb_b9_s, bb_b10_s, bb_b11_s, bb_b12_s, bb_b13_s, bb_b14_s, bb_b15_s, bb_b16_s]
        exact ⟨_, _, _, _, _, _, _, _, _, rfl, rfl, hR.adds (by omega) _ _, hI.adds (by omega) en hk (by omega)⟩
    · simp only [e3, bb_b0_s, bb_b1_s, bb_b2_s, bb_b3_s, bb_b4_s, bb_b5_s, bb_b6_s, bb_b7_s, bb_b8_s, bb_b9_s, bb_b10_s, bb_b11_s, bb_b12_s, bb_b13_s, bb_b14_s, bb_b15_s, bb_b16_s, e10, e00, e11, if_true, if_false, ← en, hR.ba_]
      exact ⟨_, _, _, _, _, _, _, _, _, rfl, rfl, hR, hI⟩
  · simp only [e2, bb_b0_s, bb_b1_s, bb_b2_s, bb_b3_s, bb_b4_s, bb_b5_s, bb_b6_s, bb_b7_s, bb_b8_s, bb_b9_s, bb_b10_s, bb_b11_s, bb_b12_s, bb_b13_s, bb_b14_s, bb_b15_s, bb_b16_s, e10, e00, e11, if_true, if_false, ← en, hR.ba_]
    exact ⟨_, _, _, _, _, _, _, _, _, rfl, rfl, hR, hI⟩
end OPS2
