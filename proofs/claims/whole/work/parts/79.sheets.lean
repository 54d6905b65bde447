/-! ===== sheets ===== -/
def SHR (bo so nu : Nat → Int32) (k : Nat) (b l : Int32) (n : Nat → Int32) : Prop := bo k = b ∧ so k = l ∧ ∃ m : Nat, m ≤ 40 ∧ l = nI m ∧ ∀ i, i < m → nu (40 * k + i) = n i
def SHF (bo so nu B L : Nat → Int32) (N : Nat → Nat → Int32) : Prop := ∀ k, k < 4 → SHR bo so nu k (B k) (L k) (N k)
def updN (N : Nat → Nat → Int32) (k : Nat) (f : Nat → Int32) : Nat → Nat → Int32 := fun j => if j = k then f else N j
theorem updN_s {N : Nat → Nat → Int32} {k : Nat} {f : Nat → Int32} : updN N k f k = f := if_pos rfl
theorem updN_n {N : Nat → Nat → Int32} {k j : Nat} {f : Nat → Int32} (h : j ≠ k) : updN N k f j = N j := if_neg h
theorem lacks8 {k : Nat} (hk : k < 4) (bo : Nat → Int32) : uX8_lacks (nI k) bo = some (if bo k = 0 then 5 else -1) := by
  unfold uX8_lacks
  rw [sheet8, win_t (hi := 3) (nI_pos' (by omega)) (nI_le (b := 3) (by omega) (by decide)), bb_b1_s, if_neg (by decide), ixn hk (by decide), cln (by omega)]
  by_cases h : bo k = 0
  · rw [if_pos h, if_pos h]
  · rw [if_neg h, if_neg h]
theorem lacks8f {p : Int32} (bo : Nat → Int32) (e : uX7_isWithin p 0 3 = some 0) : uX8_lacks p bo = some 0 := by
  unfold uX8_lacks
  rw [sheet8, e, bb_b1_s, if_pos rfl]
theorem miss1 (b : Int32) : uX1_isMissing b = some (if b = 0 then 1 else 0) := by
  unfold uX1_isMissing
  by_cases h : b = 0
  · rw [if_pos h, if_pos h]
  · rw [if_neg h, if_neg h]
theorem k4 {k : Nat} (h : k ≤ 3) : k = 0 ∨ k = 1 ∨ k = 2 ∨ k = 3 := by omega
theorem n10 : ((nI 1 : Int32) = 0) = False := eq_false (by decide)
theorem n20 : ((nI 2 : Int32) = 0) = False := eq_false (by decide)
theorem n30 : ((nI 3 : Int32) = 0) = False := eq_false (by decide)
theorem n21 : ((nI 2 : Int32) = 1) = False := eq_false (by decide)
theorem n31 : ((nI 3 : Int32) = 1) = False := eq_false (by decide)
theorem n32 : ((nI 3 : Int32) = 2) = False := eq_false (by decide)
theorem n00 : ((nI 0 : Int32) = 0) = True := eq_true rfl
theorem n11 : ((nI 1 : Int32) = 1) = True := eq_true rfl
theorem n22 : ((nI 2 : Int32) = 2) = True := eq_true rfl
theorem n33 : ((nI 3 : Int32) = 3) = True := eq_true rfl
def zsz (p : Int32) (m : Nat) : Nat := if p = 0 then 0 else m
theorem zsel_ {β : Type} (p : Int32) (m : Nat) (k : Int32 → β) : (if p = 0 then k 0 else k (nI m)) = k (nI (zsz p m)) := by
  unfold zsz
  by_cases h : p = 0
  · rw [if_pos h, if_pos h]; rfl
  · rw [if_neg h, if_neg h]
section SHEETS
variable {bo so nu B L : Nat → Int32} {N : Nat → Nat → Int32}
theorem begin1 {nn m : Nat} (hn : 155 < nn) (hm : m ≤ 40) (p b l : Int32) (f : Nat → Int32) : ∃ f2, uX1_begin nn p (nI m) b l f = some (p, nI (zsz p m), f2) ∧ ∀ i, i < zsz p m → f2 i = 0 := by
  have hz : zsz p m ≤ 40 := by unfold zsz; split <;> omega
  unfold uX1_begin
  rw [bb_cut_s]
  have e := zsel_ p m (fun z1 => bb_loop2 (uX1_begin_s20 p z1) nn (0 : Int32) f)
  show ∃ f2, (if p = 0 then bb_loop2 (uX1_begin_s20 p 0) nn (0 : Int32) f else bb_loop2 (uX1_begin_s20 p (nI m)) nn (0 : Int32) f) = _ ∧ _
  rw [e]
  refine inv2 (fun i x (f : Nat → Int32) => x = nI i ∧ ∀ j, j < i → f j = 0) (zsz p m) (fun o => ∃ (f2 : Nat → Int32), o = some (p, nI (zsz p m), f2) ∧ ∀ i, i < zsz p m → f2 i = 0) ?_ ?_ nn (by omega) 0 f ⟨rfl, fun j h => by omega⟩
  · rintro rec2 x f ⟨rfl, h⟩
    refine ⟨f, ?_, h⟩
    unfold uX1_begin_s20
    rw [if_pos (nI_le (Nat.le_refl _) (by omega))]
  · rintro rec2 i x f hi ⟨rfl, h⟩
    refine Or.inl ?_
    unfold uX1_begin_s20
    rw [if_neg (nI_ge hi (by omega)), ixn (show i < 40 by omega) (by decide), cln (by omega), p1_]
    exact ⟨_, _, ⟨rfl, fun j hj => lt_succ_cases hj (fun q => by rw [pk_un (by omega)]; exact h j q) (fun q => by subst q; exact pk_us)⟩, rfl⟩
theorem zero8 {nn k : Nat} (hn : 155 < nn) (hk : k < 4) (nu : Nat → Int32) (K : (Nat → Int32) → Option (Int32 × (Nat → Int32) × (Nat → Int32) × (Nat → Int32) × (Nat → Int32))) : ∃ nu2, (∀ i, i < 40 → nu2 (40 * k + i) = 0) ∧ (∀ j, j < 40 * k ∨ 40 * k + 40 ≤ j → nu2 j = nu j) ∧ bb_loop2 (uX8_sheet_s95 (nI k) K) nn 0 nu = K nu2 := by
  refine inv2 (fun i x (f : Nat → Int32) => x = nI i ∧ (∀ j, j < i → f (40 * k + j) = 0) ∧ (∀ j, j < 40 * k ∨ 40 * k + 40 ≤ j → f j = nu j)) 40 (fun o => ∃ nu2, (∀ i, i < 40 → nu2 (40 * k + i) = 0) ∧ (∀ j, j < 40 * k ∨ 40 * k + 40 ≤ j → nu2 j = nu j) ∧ o = K nu2) ?_ ?_ nn (by omega) 0 nu ⟨rfl, fun j h => by omega, fun j _ => rfl⟩
  · rintro rec2 x f ⟨rfl, h1, h2⟩
    refine ⟨f, h1, h2, ?_⟩
    unfold uX8_sheet_s95
    rw [if_pos (by decide)]
  · rintro rec2 i x f hi ⟨rfl, h1, h2⟩
    refine Or.inl ?_
    unfold uX8_sheet_s95
    rw [if_neg (show ¬ (40 : Int32) ≤ nI i from nI_ge (b := 40) hi (by decide)), m40_, nAdd, ixn (show 40 * k + i < 160 by omega) (by decide), cln (by omega), p1_]
    refine ⟨_, _, ⟨rfl, fun j hj => lt_succ_cases hj (fun q => by rw [pk_un (by omega)]; exact h1 j q) (fun q => by subst q; exact pk_us), fun j hj => ?_⟩, rfl⟩
    rw [pk_un (by omega)]
    exact h2 j hj
theorem op_sheet {nn : Nat} (hn : 155 < nn) (hS : SHF bo so nu B L N) (fo : Nat → Int32) (p1 p2 p3 : Int32) :
    ∃ r fo2 B2 L2 N2 bo2 nu2 so2, uX7_sheet nn p1 p2 p3 fo (B 0) (L 0) (B 1) (L 1) (B 2) (L 2) (B 3) (L 3) (N 0) (N 1) (N 2) (N 3) = some (r, fo2, B2 0, L2 0, B2 1, L2 1, B2 2, L2 2, B2 3, L2 3, N2 0, N2 1, N2 2, N2 3) ∧ uX8_sheet nn p1 p2 p3 bo fo nu so = some (r, bo2, fo2, nu2, so2) ∧ SHF bo2 so2 nu2 B2 L2 N2 := by
  unfold uX7_sheet uX8_sheet
  simp only [sheet7, sheet8, find78, fnd0, fnd6, bb_cut_s, bb_b0_s, bb_b1_s, bb_b2_s, bb_b3_s, bb_b4_s, bb_b5_s, bb_b6_s, bb_b7_s, bb_b8_s, bb_b9_s, bb_b10_s, bb_b11_s, bb_b12_s, bb_b13_s, bb_b14_s, bb_b15_s, bb_b16_s]
  rcases win p1 0 3 with ⟨e1, a1, b1⟩ | ⟨e1, -⟩
  · simp only [e1, bb_b0_s, bb_b1_s, bb_b2_s, bb_b3_s, bb_b4_s, bb_b5_s, bb_b6_s, bb_b7_s, bb_b8_s, bb_b9_s, bb_b10_s, bb_b11_s, bb_b12_s, bb_b13_s, bb_b14_s, bb_b15_s, bb_b16_s, e10, e00, e11, if_true, if_false]
    by_cases ok : p2 = 0 ∨ p2 = 8 ∨ p2 = 16 ∨ p2 = 32
    · have sel : ∀ {α : Type} (A Z : α), (if p2 = 0 then A else if p2 = 8 then A else if p2 = 16 then A else if p2 = 32 then A else Z) = A := by
        intro α A Z
        by_cases h0 : p2 = 0
        · rw [if_pos h0]
        · rw [if_neg h0]
          by_cases h1 : p2 = 8
          · rw [if_pos h1]
          · rw [if_neg h1]
            by_cases h2 : p2 = 16
            · rw [if_pos h2]
            · rw [if_neg h2, if_pos]
              rcases ok with h | h | h | h
              · exact absurd h h0
              · exact absurd h h1
              · exact absurd h h2
              · exact h
      simp only [sel]
      by_cases h3 : 0 ≤ p3
      · by_cases h4 : p3 ≤ 40
        · obtain ⟨k, hk, rfl⟩ := nat_of (n := 3) (by decide) a1 b1
          obtain ⟨m, hm, rfl⟩ := nat_of (n := 40) (by decide) h3 h4
          obtain ⟨f2, ef, hf⟩ := begin1 hn hm p2 (B k) (L k) (N k)
          obtain ⟨nu2, hz1, hz2, ez⟩ := zero8 hn (show k < 4 by omega) nu (fun f_t_number_18 => some ((upd so k (nI (zsz p2 m))) k, upd bo k p2, fo, f_t_number_18, upd so k (nI (zsz p2 m))))
          have hz40 : zsz p2 m ≤ 40 := by unfold zsz; split <;> omega
          have hS2 : SHF (upd bo k p2) (upd so k (nI (zsz p2 m))) nu2 (upd B k p2) (upd L k (nI (zsz p2 m))) (updN N k f2) := by
            intro j hj
            by_cases e : j = k
            · subst e
              rw [updN_s]
              refine ⟨by rw [pk_us, pk_us], by rw [pk_us, pk_us], zsz p2 m, hz40, pk_us, fun i hi => ?_⟩
              rw [hf i hi]
              exact hz1 i (by omega)
            · obtain ⟨q1, q2, m2, q3, q4, q5⟩ := hS j hj
              rw [updN_n e]
              refine ⟨by rw [pk_un e, pk_un e]; exact q1, by rw [pk_un e, pk_un e]; exact q2, m2, q3, by rw [pk_un e]; exact q4, fun i hi => ?_⟩
              rw [hz2 _ (by omega)]
              exact q5 i hi
          have ez2 : ∀ {β : Type} (k : Int32 → β), (if p2 = 0 then k 0 else k (nI m)) = k (nI (zsz p2 m)) := fun k => zsel_ p2 m k
          have e8 : (if p2 = 0 then bb_loop2 (uX8_sheet_s95 (nI k) (fun f_t_number_18 => some ((upd so k 0) k, upd bo k p2, fo, f_t_number_18, upd so k 0))) nn (0 : Int32) nu else bb_loop2 (uX8_sheet_s95 (nI k) (fun f_t_number_18 => some ((upd so k (nI m)) k, upd bo k p2, fo, f_t_number_18, upd so k (nI m)))) nn (0 : Int32) nu) = some ((upd so k (nI (zsz p2 m))) k, upd bo k p2, fo, nu2, upd so k (nI (zsz p2 m))) :=
            (ez2 (fun z => bb_loop2 (uX8_sheet_s95 (nI k) (fun f_t_number_18 => some ((upd so k z) k, upd bo k p2, fo, f_t_number_18, upd so k z))) nn (0 : Int32) nu)).trans ez
          simp only [if_pos h3, if_pos h4, ixn (show k < 4 by omega) (show 4 < 2 ^ 31 by decide), cln (show k < 2 ^ 31 by omega), pk_us]
          simp only [pk_us] at e8
          rcases k4 hk with rfl | rfl | rfl | rfl
          · simp only [n00, ef, bb_b0_s, bb_b1_s, bb_b2_s, bb_b3_s, bb_b4_s, bb_b5_s, bb_b6_s, bb_b7_s, bb_b8_s, bb_b9_s, bb_b10_s, bb_b11_s, bb_b12_s, bb_b13_s, bb_b14_s, bb_b15_s, bb_b16_s, if_true]
            exact ⟨_, _, _, _, _, _, _, _, rfl, e8, hS2⟩
          · simp only [n10, n11, ef, bb_b0_s, bb_b1_s, bb_b2_s, bb_b3_s, bb_b4_s, bb_b5_s, bb_b6_s, bb_b7_s, bb_b8_s, bb_b9_s, bb_b10_s, bb_b11_s, bb_b12_s, bb_b13_s, bb_b14_s, bb_b15_s, bb_b16_s, if_true, if_false]
            exact ⟨_, _, _, _, _, _, _, _, rfl, e8, hS2⟩
          · simp only [n20, n21, n22, ef, bb_b0_s, bb_b1_s, bb_b2_s, bb_b3_s, bb_b4_s, bb_b5_s, bb_b6_s, bb_b7_s, bb_b8_s, bb_b9_s, bb_b10_s, bb_b11_s, bb_b12_s, bb_b13_s, bb_b14_s, bb_b15_s, bb_b16_s, if_true, if_false]
            exact ⟨_, _, _, _, _, _, _, _, rfl, e8, hS2⟩
          · simp only [n30, n31, n32, n33, ef, bb_b0_s, bb_b1_s, bb_b2_s, bb_b3_s, bb_b4_s, bb_b5_s, bb_b6_s, bb_b7_s, bb_b8_s, bb_b9_s, bb_b10_s, bb_b11_s, bb_b12_s, bb_b13_s, bb_b14_s, bb_b15_s, bb_b16_s, if_true, if_false]
            exact ⟨_, _, _, _, _, _, _, _, rfl, e8, hS2⟩
        · simp only [if_pos h3, if_neg h4]
          exact ⟨_, _, _, _, _, _, _, _, rfl, rfl, hS⟩
      · simp only [if_neg h3]
        exact ⟨_, _, _, _, _, _, _, _, rfl, rfl, hS⟩
    · simp only [if_neg (fun h => ok (Or.inl h)), if_neg (fun h => ok (Or.inr (Or.inl h))), if_neg (fun h => ok (Or.inr (Or.inr (Or.inl h)))), if_neg (fun h => ok (Or.inr (Or.inr (Or.inr h)))), e10, e00, e11, if_true, if_false]
      exact ⟨_, _, _, _, _, _, _, _, rfl, rfl, hS⟩
  · simp only [e1, bb_b0_s, bb_b1_s, bb_b2_s, bb_b3_s, bb_b4_s, bb_b5_s, bb_b6_s, bb_b7_s, bb_b8_s, bb_b9_s, bb_b10_s, bb_b11_s, bb_b12_s, bb_b13_s, bb_b14_s, bb_b15_s, bb_b16_s, e10, e00, e11, if_true, if_false]
    have sel0 : ∀ {α : Type} (A : α), (if p2 = 0 then A else if p2 = 8 then A else if p2 = 16 then A else if p2 = 32 then A else A) = A := by
      intro α A
      simp only [ite_self]
    simp only [sel0]
    exact ⟨_, _, _, _, _, _, _, _, rfl, rfl, hS⟩
theorem batN {n : Nat} {p : Int32} (hn : n ≤ 1000) (h1 : (0 : Int32) ≤ p) (h2 : p ≤ nI n - 1) : ∃ b : Nat, b < n ∧ p = nI b := by
  rcases Nat.eq_zero_or_pos n with e | e
  · subst e
    exact absurd (show (0 : Int32) ≤ nI 0 - 1 from by rw [i_le] at *; omega) (by decide)
  · have e1 : nI n - 1 = nI (n - 1) := by
      have e2 := nI_pred (n - 1)
      rw [show n - 1 + 1 = n by omega] at e2
      exact e2
    rw [e1] at h2
    obtain ⟨j, hj, ej⟩ := nat_of (n := n - 1) (nI_toInt (by omega)) h1 h2
    exact ⟨j, by omega, ej⟩
def wv (b v : Int32) : Int32 := if b = 8 then v.toInt8.toInt32 else if b = 16 then v.toInt16.toInt32 else v
theorem put1 {i : Nat} (hi : i < 40) (v b : Int32) (f : Nat → Int32) : uX1_put (nI i) v b f = some (upd f i (wv b v)) := by
  unfold uX1_put wv
  rw [ixn hi (by decide), ixn hi (by decide), ixn hi (by decide), cln (by omega)]
  by_cases h : b = 8
  · rw [if_pos h, if_pos h]
  · rw [if_neg h, if_neg h]
    by_cases h2 : b = 16
    · rw [if_pos h2, if_pos h2]
    · rw [if_neg h2, if_neg h2]
theorem op_write (hS : SHF bo so nu B L N) (fo : Nat → Int32) (p1 p2 p3 : Int32) :
    ∃ r fo2 N2 nu2, uX7_write p1 p2 p3 fo (B 0) (L 0) (B 1) (L 1) (B 2) (L 2) (B 3) (L 3) (N 0) (N 1) (N 2) (N 3) = some (r, fo2, N2 0, N2 1, N2 2, N2 3) ∧ uX8_write p1 p2 p3 bo fo nu so = some (r, fo2, nu2) ∧ SHF bo so nu2 B L N2 := by
  unfold uX7_write uX8_write
  simp only [sheet7, find78, fnd0, fnd5, miss1, bb_b0_s, bb_b1_s, bb_b2_s, bb_b3_s, bb_b4_s, bb_b5_s, bb_b6_s, bb_b7_s, bb_b8_s, bb_b9_s, bb_b10_s, bb_b11_s, bb_b12_s, bb_b13_s, bb_b14_s, bb_b15_s, bb_b16_s]
  rcases win p1 0 3 with ⟨e1, a1, b1⟩ | ⟨e1, -⟩
  · obtain ⟨k, hk, rfl⟩ := nat_of (n := 3) (by decide) a1 b1
    have hk4 : k < 4 := by omega
    obtain ⟨q1, q2, m, q3, q4, q5⟩ := hS k hk4
    simp only [e1, lacks8 hk4, ixn hk4 (show 4 < 2 ^ 31 by decide), cln (show k < 2 ^ 31 by omega), bb_b0_s, bb_b1_s, bb_b2_s, bb_b3_s, bb_b4_s, bb_b5_s, bb_b6_s, bb_b7_s, bb_b8_s, bb_b9_s, bb_b10_s, bb_b11_s, bb_b12_s, bb_b13_s, bb_b14_s, bb_b15_s, bb_b16_s, e10, e00, e11, if_true, if_false]
    by_cases hz : bo k = 0
    · rw [hz] at q1
      simp only [hz, e10, e00, e11, if_true, if_false, fnd5, if_neg (show ¬ (5 : Int32) < 0 by decide), bb_b0_s, bb_b1_s, bb_b2_s, bb_b3_s, bb_b4_s, bb_b5_s, bb_b6_s, bb_b7_s, bb_b8_s, bb_b9_s, bb_b10_s, bb_b11_s, bb_b12_s, bb_b13_s, bb_b14_s, bb_b15_s, bb_b16_s]
      refine ⟨-1000006, nfd 5 fo, N, nu, ?_, rfl, hS⟩
      rcases k4 hk with rfl | rfl | rfl | rfl
      · simp only [n00, ← q1, e10, e00, e11, if_true, if_false, bb_b0_s, bb_b1_s, bb_b2_s, bb_b3_s, bb_b4_s, bb_b5_s, bb_b6_s, bb_b7_s, bb_b8_s, bb_b9_s, bb_b10_s, bb_b11_s, bb_b12_s, bb_b13_s, bb_b14_s, bb_b15_s, bb_b16_s]
      · simp only [n10, n11, ← q1, e10, e00, e11, if_true, if_false, bb_b0_s, bb_b1_s, bb_b2_s, bb_b3_s, bb_b4_s, bb_b5_s, bb_b6_s, bb_b7_s, bb_b8_s, bb_b9_s, bb_b10_s, bb_b11_s, bb_b12_s, bb_b13_s, bb_b14_s, bb_b15_s, bb_b16_s]
      · simp only [n20, n21, n22, ← q1, e10, e00, e11, if_true, if_false, bb_b0_s, bb_b1_s, bb_b2_s, bb_b3_s, bb_b4_s, bb_b5_s, bb_b6_s, bb_b7_s, bb_b8_s, bb_b9_s, bb_b10_s, bb_b11_s, bb_b12_s, bb_b13_s, bb_b14_s, bb_b15_s, bb_b16_s]
      · simp only [n30, n31, n32, n33, ← q1, e10, e00, e11, if_true, if_false, bb_b0_s, bb_b1_s, bb_b2_s, bb_b3_s, bb_b4_s, bb_b5_s, bb_b6_s, bb_b7_s, bb_b8_s, bb_b9_s, bb_b10_s, bb_b11_s, bb_b12_s, bb_b13_s, bb_b14_s, bb_b15_s, bb_b16_s]
    · have hz2 : ¬ B k = 0 := by rw [← q1]; exact hz
      have ei : uX8_in p2.toInt64 0 ((so k - 1).toInt64) = uX7_isWithin p2 0 (so k - 1) := in8 p2 0 (so k - 1)
      simp only [if_neg hz, if_pos (show (-1 : Int32) < 0 by decide), ei]
      rcases win p2 0 (so k - 1) with ⟨e2, a2, b2⟩ | ⟨e2, -⟩
      · rw [q2, q4] at b2
        obtain ⟨i, hi, rfl⟩ := batN (by omega) a2 b2
        have e3 : uX7_isWithin (nI i) 0 (L k - 1) = some 1 := by rw [← q2]; exact e2
        have ep := put1 (show i < 40 by omega) p3 (B k) (N k)
        have hS2 : SHF bo so (upd nu (40 * k + i) (wv (bo k) p3)) B L (updN N k (upd (N k) i (wv (B k) p3))) := by
          intro j hj
          obtain ⟨u1, u2, m2, u3, u4, u5⟩ := hS j hj
          by_cases e : j = k
          · subst e
            rw [updN_s]
            refine ⟨u1, u2, m2, u3, u4, fun x hx => ?_⟩
            by_cases ex : x = i
            · subst ex
              rw [pk_us, pk_us, q1]
            · rw [pk_un (by omega), pk_un ex]
              exact u5 x hx
          · rw [updN_n e]
            refine ⟨u1, u2, m2, u3, u4, fun x hx => ?_⟩
            rw [pk_un (by omega)]
            exact u5 x hx
        refine ⟨1, fo, _, _, ?_, ?_, hS2⟩
        · rcases k4 hk with rfl | rfl | rfl | rfl
          · simp only [n00, hz2, e3, ep, e10, e00, e11, if_true, if_false, bb_b0_s, bb_b1_s, bb_b2_s, bb_b3_s, bb_b4_s, bb_b5_s, bb_b6_s, bb_b7_s, bb_b8_s, bb_b9_s, bb_b10_s, bb_b11_s, bb_b12_s, bb_b13_s, bb_b14_s, bb_b15_s, bb_b16_s]
            rfl
          · simp only [n10, n11, hz2, e3, ep, e10, e00, e11, if_true, if_false, bb_b0_s, bb_b1_s, bb_b2_s, bb_b3_s, bb_b4_s, bb_b5_s, bb_b6_s, bb_b7_s, bb_b8_s, bb_b9_s, bb_b10_s, bb_b11_s, bb_b12_s, bb_b13_s, bb_b14_s, bb_b15_s, bb_b16_s]
            rfl
          · simp only [n20, n21, n22, hz2, e3, ep, e10, e00, e11, if_true, if_false, bb_b0_s, bb_b1_s, bb_b2_s, bb_b3_s, bb_b4_s, bb_b5_s, bb_b6_s, bb_b7_s, bb_b8_s, bb_b9_s, bb_b10_s, bb_b11_s, bb_b12_s, bb_b13_s, bb_b14_s, bb_b15_s, bb_b16_s]
            rfl
          · simp only [n30, n31, n32, n33, hz2, e3, ep, e10, e00, e11, if_true, if_false, bb_b0_s, bb_b1_s, bb_b2_s, bb_b3_s, bb_b4_s, bb_b5_s, bb_b6_s, bb_b7_s, bb_b8_s, bb_b9_s, bb_b10_s, bb_b11_s, bb_b12_s, bb_b13_s, bb_b14_s, bb_b15_s, bb_b16_s]
            rfl
        · simp only [e2, e10, e00, e11, if_true, if_false, bb_b0_s, bb_b1_s, bb_b2_s, bb_b3_s, bb_b4_s, bb_b5_s, bb_b6_s, bb_b7_s, bb_b8_s, bb_b9_s, bb_b10_s, bb_b11_s, bb_b12_s, bb_b13_s, bb_b14_s, bb_b15_s, bb_b16_s, m40_, nAdd, ixn (show 40 * k + i < 160 by omega) (show 160 < 2 ^ 31 by decide), cln (show 40 * k + i < 2 ^ 31 by omega)]
          unfold wv
          by_cases h8 : bo k = 8
          · rw [if_pos h8, if_pos h8]
          · rw [if_neg h8, if_neg h8]
            by_cases h16 : bo k = 16
            · rw [if_pos h16, if_pos h16]
            · rw [if_neg h16, if_neg h16]
      · have e3 : uX7_isWithin p2 0 (L k - 1) = some 0 := by rw [← q2]; exact e2
        simp only [e2, e10, e00, e11, if_true, if_false, bb_b0_s, bb_b1_s, bb_b2_s, bb_b3_s, bb_b4_s, bb_b5_s, bb_b6_s, bb_b7_s, bb_b8_s, bb_b9_s, bb_b10_s, bb_b11_s, bb_b12_s, bb_b13_s, bb_b14_s, bb_b15_s, bb_b16_s]
        refine ⟨-1000001, nfd 0 fo, N, nu, ?_, rfl, hS⟩
        rcases k4 hk with rfl | rfl | rfl | rfl
        · simp only [n00, hz2, e3, e10, e00, e11, if_true, if_false, bb_b0_s, bb_b1_s, bb_b2_s, bb_b3_s, bb_b4_s, bb_b5_s, bb_b6_s, bb_b7_s, bb_b8_s, bb_b9_s, bb_b10_s, bb_b11_s, bb_b12_s, bb_b13_s, bb_b14_s, bb_b15_s, bb_b16_s]
        · simp only [n10, n11, hz2, e3, e10, e00, e11, if_true, if_false, bb_b0_s, bb_b1_s, bb_b2_s, bb_b3_s, bb_b4_s, bb_b5_s, bb_b6_s, bb_b7_s, bb_b8_s, bb_b9_s, bb_b10_s, bb_b11_s, bb_b12_s, bb_b13_s, bb_b14_s, bb_b15_s, bb_b16_s]
        · simp only [n20, n21, n22, hz2, e3, e10, e00, e11, if_true, if_false, bb_b0_s, bb_b1_s, bb_b2_s, bb_b3_s, bb_b4_s, bb_b5_s, bb_b6_s, bb_b7_s, bb_b8_s, bb_b9_s, bb_b10_s, bb_b11_s, bb_b12_s, bb_b13_s, bb_b14_s, bb_b15_s, bb_b16_s]
        · simp only [n30, n31, n32, n33, hz2, e3, e10, e00, e11, if_true, if_false, bb_b0_s, bb_b1_s, bb_b2_s, bb_b3_s, bb_b4_s, bb_b5_s, bb_b6_s, bb_b7_s, bb_b8_s, bb_b9_s, bb_b10_s, bb_b11_s, bb_b12_s, bb_b13_s, bb_b14_s, bb_b15_s, bb_b16_s]
  · simp only [e1, lacks8f bo e1, fnd0, if_neg (show ¬ (0 : Int32) < 0 by decide), bb_b0_s, bb_b1_s, bb_b2_s, bb_b3_s, bb_b4_s, bb_b5_s, bb_b6_s, bb_b7_s, bb_b8_s, bb_b9_s, bb_b10_s, bb_b11_s, bb_b12_s, bb_b13_s, bb_b14_s, bb_b15_s, bb_b16_s, e10, e00, e11, if_true, if_false]
    exact ⟨_, _, _, _, rfl, rfl, hS⟩
end SHEETS
