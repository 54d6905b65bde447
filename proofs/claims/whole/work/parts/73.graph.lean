/-! ===== ways over the cells ===== -/
def nbK (c : Nat) : Nat → Nat → Bool
  | 0, _ => false
  | i + 1, d => nbK c i d || decide (be c (i + 1) = some d)
def adjB (c d : Nat) : Bool := nbK c 4 d
theorem adj_sym : ∀ c, c < 48 → ∀ d, d < 48 → adjB c d = adjB d c := by decide +kernel
def rch (p : Nat → Nat) (S : Nat → Bool) : Nat → Nat → Nat → Prop
  | 0, c, n => c < 48 ∧ S c = true ∧ p c < 1000000 ∧ n = p c
  | k + 1, c, n => c < 48 ∧ p c < 1000000 ∧ ∃ b m, rch p S k b m ∧ adjB b c = true ∧ n = m + p c
def one (a c : Nat) : Bool := decide (c = a)
section GRAPH
variable {p : Nat → Nat} {S : Nat → Bool}
theorem rch_lt : ∀ {k c n : Nat}, rch p S k c n → c < 48
  | 0, _, _, h => h.1
  | _ + 1, _, _, h => h.1
theorem rch_p : ∀ {k c n : Nat}, rch p S k c n → p c < 1000000
  | 0, _, _, h => h.2.2.1
  | _ + 1, _, _, h => h.2.1
theorem rch_from : ∀ {k c n : Nat}, rch p S k c n → ∃ e, S e = true ∧ e < 48 ∧ rch p (one e) k c n
  | 0, c, n, h => ⟨c, h.2.1, h.1, h.1, by simp [one], h.2.2.1, h.2.2.2⟩
  | k + 1, c, n, h => by
    obtain ⟨h1, h2, b, m, h3, h4, h5⟩ := h
    obtain ⟨e, q1, q2, q3⟩ := rch_from h3
    exact ⟨e, q1, q2, h1, h2, b, m, q3, h4, h5⟩
theorem rch_to {e : Nat} (he : S e = true) : ∀ {k c n : Nat}, rch p (one e) k c n → rch p S k c n
  | 0, c, n, h => by
    obtain ⟨h1, h2, h3, h4⟩ := h
    have e2 : c = e := by simpa [one] using h2
    subst e2
    exact ⟨h1, he, h3, h4⟩
  | k + 1, c, n, h => by
    obtain ⟨h1, h2, b, m, h3, h4, h5⟩ := h
    exact ⟨h1, h2, b, m, rch_to he h3, h4, h5⟩
theorem rch_cons {a a2 : Nat} (h1 : a2 < 48) (h2 : p a2 < 1000000) (h3 : adjB a2 a = true) : ∀ {k b n : Nat}, rch p (one a) k b n → rch p (one a2) (k + 1) b (n + p a2)
  | 0, b, n, h => by
    obtain ⟨q1, q2, q3, q4⟩ := h
    have e2 : b = a := by simpa [one] using q2
    subst e2
    exact ⟨q1, q3, a2, p a2, ⟨h1, by simp [one], h2, rfl⟩, h3, by omega⟩
  | k + 1, b, n, h => by
    obtain ⟨q1, q2, b2, m, q3, q4, q5⟩ := h
    exact ⟨q1, q2, b2, m + p a2, rch_cons h1 h2 h3 q3, q4, by omega⟩
theorem rch_sym {a : Nat} : ∀ {k b n : Nat}, rch p (one a) k b n → rch p (one b) k a n
  | 0, b, n, h => by
    obtain ⟨q1, q2, q3, q4⟩ := h
    have e2 : b = a := by simpa [one] using q2
    subst e2
    exact ⟨q1, q2, q3, q4⟩
  | k + 1, b, n, h => by
    obtain ⟨q1, q2, b2, m, q3, q4, q5⟩ := h
    have ih := rch_sym q3
    rw [q5]
    exact rch_cons q1 q2 (by rw [adj_sym b q1 b2 (rch_lt q3)]; exact q4) ih
/-- the state of a search: what is nearest first -/
def DI (p : Nat → Nat) (S : Nat → Bool) (m : Nat) (F : Nat → Nat) (dn : Nat → Bool) : Prop :=
  (∀ c, c < 48 → F c = 1000000 ∨ (F c < 1000000 ∧ ∃ k, rch p S k c (F c))) ∧
  (∀ c, c < 48 → dn c = true → F c < 1000000 ∧ ∀ d, d < 48 → adjB c d = true → p d < 1000000 → F d ≤ F c + p d) ∧
  (∀ c, c < 48 → S c = true → p c < 1000000 → F c ≤ p c) ∧
  (∀ c d, c < 48 → d < 48 → dn c = true → dn d = false → F c ≤ F d) ∧
  (∀ c, c < 48 → F c < 1000000 → F c ≤ m * 48) ∧
  (∀ c, c < 48 → dn c = false → F c < 1000000 → F c ≤ m * (cntN dn 48 + 1))
def rlx (p : Nat → Nat) (F : Nat → Nat) (c i d : Nat) : Nat := if (nbK c i d && decide (p d < 1000000)) = true then min (F d) (F c + p d) else F d
theorem rlx_le (F : Nat → Nat) (c i d : Nat) : rlx p F c i d ≤ F d := by
  unfold rlx
  split <;> omega
theorem rlx_self (F : Nat → Nat) (c i : Nat) : rlx p F c i c = F c := by
  unfold rlx
  split <;> omega
theorem cntN_less {q : Nat → Bool} : ∀ {n d : Nat}, d < n → q d = false → cntN q n + 1 ≤ n
  | 0, d, h, _ => by omega
  | n + 1, d, h, hq => by
    unfold cntN
    rcases Nat.lt_or_ge d n with g | g
    · have := cntN_less (n := n) g hq
      split <;> omega
    · obtain rfl : d = n := by omega
      rw [hq]
      have := cntN_le q d
      simp
      omega
def ins (dn : Nat → Bool) (c d : Nat) : Bool := dn d || decide (d = c)
theorem cntN_ins {dn : Nat → Bool} {c : Nat} (hc : dn c = false) : ∀ n, cntN (ins dn c) n = cntN dn n + (if c < n then 1 else 0)
  | 0 => by simp [cntN]
  | n + 1 => by
    have ih := cntN_ins hc n
    unfold cntN
    rw [ih]
    unfold ins
    by_cases e : n = c
    · subst e
      simp [hc]
    · by_cases g : c < n
      · have g2 : c < n + 1 := by omega
        simp [e, g, g2]
        omega
      · have g2 : ¬ c < n + 1 := by omega
        simp [e, g, g2]
theorem DI.settle {m c : Nat} {F : Nat → Nat} {dn : Nat → Bool} (hm : m ≤ 100) (hp : ∀ d, d < 48 → p d < 1000000 → p d ≤ m) (h : DI p S m F dn) (hc : c < 48) (h1 : dn c = false) (h2 : F c < 1000000) (h3 : ∀ d, d < 48 → dn d = false → F c ≤ F d) : DI p S m (rlx p F c 4) (ins dn c) := by
  obtain ⟨a1, a2, a3, a4, a5, a6⟩ := h
  have hK := cntN_ins h1 48
  rw [if_pos hc] at hK
  have hF := a6 c hc h1 h2
  have hF5 := a5 c hc h2
  have keep : ∀ b, b < 48 → dn b = true → rlx p F c 4 b = F b := fun b hb hd => by
    have := a4 b c hb hc hd h1
    unfold rlx
    split <;> omega
  have low : ∀ d, d < 48 → dn d = false → F c ≤ rlx p F c 4 d := fun d hd hu => by
    have := h3 d hd hu
    unfold rlx
    split <;> omega
  have und : ∀ d, ins dn c d = false → dn d = false ∧ d ≠ c := fun d hd => by
    unfold ins at hd
    simpa using hd
  have bnd : ∀ d, d < 48 → ins dn c d = false → rlx p F c 4 d < 1000000 → rlx p F c 4 d ≤ m * (cntN dn 48 + 1 + 1) := fun d hd hu hl => by
    obtain ⟨u1, u2⟩ := und d hu
    rw [Nat.mul_add] at hF
    rw [Nat.mul_add, Nat.mul_add]
    unfold rlx at hl ⊢
    split
    · rename_i hh
      rw [if_pos hh] at hl
      have hpd : p d < 1000000 := by simp at hh; exact hh.2
      have := hp d hd hpd
      omega
    · rename_i hh
      rw [if_neg hh] at hl
      have := a6 d hd u1 hl
      rw [Nat.mul_add] at this
      omega
  refine ⟨?_, ?_, ?_, ?_, ?_, ?_⟩
  · intro d hd
    unfold rlx
    split
    · rename_i hh
      have hh2 : adjB c d = true ∧ p d < 1000000 := by simpa [adjB] using hh
      have := hp d hd hh2.2
      rcases a1 d hd with e | ⟨e1, k, e2⟩
      · refine Or.inr ?_
        obtain ⟨-, k, hk⟩ := (a1 c hc).resolve_left (by omega)
        rw [Nat.min_eq_right (by omega)]
        exact ⟨by omega, k + 1, hd, hh2.2, c, F c, hk, hh2.1, rfl⟩
      · refine Or.inr ?_
        rcases Nat.le_total (F d) (F c + p d) with g | g
        · rw [Nat.min_eq_left g]
          exact ⟨e1, k, e2⟩
        · obtain ⟨-, k, hk⟩ := (a1 c hc).resolve_left (by omega)
          rw [Nat.min_eq_right g]
          exact ⟨by omega, k + 1, hd, hh2.2, c, F c, hk, hh2.1, rfl⟩
    · exact a1 d hd
  · intro b hb hd
    by_cases e : b = c
    · subst e
      rw [rlx_self]
      refine ⟨h2, fun d hd2 g1 g2 => ?_⟩
      unfold rlx
      rw [if_pos (by unfold adjB at g1; rw [g1]; simpa using g2)]
      exact Nat.min_le_right _ _
    · have hdb : dn b = true := by
        unfold ins at hd
        simpa [e] using hd
      rw [keep b hb hdb]
      obtain ⟨q1, q2⟩ := a2 b hb hdb
      exact ⟨q1, fun d hd2 g1 g2 => Nat.le_trans (rlx_le F c 4 d) (q2 d hd2 g1 g2)⟩
  · intro d hd g1 g2
    exact Nat.le_trans (rlx_le F c 4 d) (a3 d hd g1 g2)
  · intro b d hb hd g1 g2
    obtain ⟨u1, u2⟩ := und d g2
    by_cases e : b = c
    · subst e
      rw [rlx_self]
      exact low d hd u1
    · have hdb : dn b = true := by
        unfold ins at g1
        simpa [e] using g1
      rw [keep b hb hdb]
      exact Nat.le_trans (a4 b c hb hc hdb h1) (low d hd u1)
  · intro d hd hl
    cases hu : ins dn c d
    · have q := bnd d hd hu hl
      have hK2 := cntN_less hd hu
      rw [hK] at hK2
      exact Nat.le_trans q (Nat.mul_le_mul_left m (by omega))
    · by_cases e : d = c
      · subst e
        rw [rlx_self]
        exact hF5
      · have hdb : dn d = true := by
          unfold ins at hu
          simpa [e] using hu
        rw [keep d hd hdb] at hl ⊢
        exact a5 d hd hl
  · intro d hd hu hl
    rw [hK]
    exact bnd d hd hu hl
/-- nothing is left: all is nearest -/
theorem DI.done {m : Nat} {F : Nat → Nat} {dn : Nat → Bool} (hm : m ≤ 100) (hp : ∀ d, d < 48 → p d < 1000000 → p d ≤ m) (h : DI p S m F dn) (hd : ∀ d, d < 48 → dn d = false → F d = 1000000) : ∀ k c n, rch p S k c n → dn c = true ∧ F c ≤ n
  | 0, c, n, hr => by
    obtain ⟨q1, q2, q3, q4⟩ := hr
    have h1 := h.2.2.1 c q1 q2 q3
    have h2 := hp c q1 q3
    cases hu : dn c
    · have := hd c q1 hu
      omega
    · exact ⟨rfl, by omega⟩
  | k + 1, c, n, hr => by
    obtain ⟨q1, q2, b, m2, q3, q4, q5⟩ := hr
    obtain ⟨i1, i2⟩ := DI.done hm hp h hd k b m2 q3
    obtain ⟨g1, g2⟩ := h.2.1 b (rch_lt q3) i1
    have h1 := g2 c q1 q4 q2
    have h2 := hp c q1 q2
    have h3 := h.2.2.2.2.1 b (rch_lt q3) g1
    cases hu : dn c
    · have := hd c q1 hu
      omega
    · exact ⟨rfl, by omega⟩
/-- whatever is not yet done costs no less than what is nearest now -/
theorem DI.near {m c : Nat} {F : Nat → Nat} {dn : Nat → Bool} (h : DI p S m F dn) (h3 : ∀ d, d < 48 → dn d = false → F c ≤ F d) : ∀ k e n, rch p S k e n → (dn e = true ∧ F e ≤ n) ∨ F c ≤ n
  | 0, e, n, hr => by
    obtain ⟨q1, q2, q3, q4⟩ := hr
    have h1 := h.2.2.1 e q1 q2 q3
    cases hu : dn e
    · have := h3 e q1 hu
      exact Or.inr (by omega)
    · exact Or.inl ⟨rfl, by omega⟩
  | k + 1, e, n, hr => by
    obtain ⟨q1, q2, b, m2, q3, q4, q5⟩ := hr
    rcases DI.near h h3 k b m2 q3 with ⟨i1, i2⟩ | i1
    · obtain ⟨g1, g2⟩ := h.2.1 b (rch_lt q3) i1
      have h1 := g2 e q1 q4 q2
      cases hu : dn e
      · have := h3 e q1 hu
        exact Or.inr (by omega)
      · exact Or.inl ⟨rfl, by omega⟩
    · exact Or.inr (by omega)
theorem DI.start {m : Nat} (hp : ∀ d, d < 48 → p d < 1000000 → p d ≤ m) (hp2 : ∀ d, d < 48 → p d ≤ 1000000) : DI p S m (fun c => if S c = true then p c else 1000000) (fun _ => false) := by
  refine ⟨?_, ?_, ?_, ?_, ?_, ?_⟩
  · intro c hc
    have := hp2 c hc
    by_cases g : S c = true
    · simp only [if_pos g]
      by_cases q : p c < 1000000
      · exact Or.inr ⟨q, 0, hc, g, q, rfl⟩
      · exact Or.inl (by omega)
    · simp only [if_neg g]
      exact Or.inl trivial
  · intro c hc hd
    cases hd
  · intro c hc h1 h2
    simp only [if_pos h1]
    exact Nat.le_refl _
  · intro c d _ _ h
    cases h
  · intro c hc hl
    have := hp c hc
    by_cases g : S c = true
    · simp only [if_pos g] at hl ⊢
      have := this hl
      omega
    · simp only [if_neg g] at hl
      omega
  · intro c hc _ hl
    have := hp c hc
    rw [show cntN (fun _ => false) 48 = 0 from by decide]
    by_cases g : S c = true
    · simp only [if_pos g] at hl ⊢
      have := this hl
      omega
    · simp only [if_neg g] at hl
      omega
/-- the nearest way to every cell -/
def RES (p : Nat → Nat) (S : Nat → Bool) (m : Nat) (F : Nat → Nat) : Prop := ∀ c, c < 48 → (F c = 1000000 ∧ ∀ k n, ¬ rch p S k c n) ∨ (F c < 1000000 ∧ F c ≤ m * 48 ∧ (∃ k, rch p S k c (F c)) ∧ ∀ k n, rch p S k c n → F c ≤ n)
theorem DI.res {m : Nat} {F : Nat → Nat} {dn : Nat → Bool} (hm : m ≤ 100) (hp : ∀ d, d < 48 → p d < 1000000 → p d ≤ m) (h : DI p S m F dn) (hd : ∀ d, d < 48 → dn d = false → F d = 1000000) : RES p S m F := by
  intro c hc
  have hall := fun k n => h.done hm hp hd k c n
  rcases h.1 c hc with e | ⟨e1, e2⟩
  · refine Or.inl ⟨e, fun k n hr => ?_⟩
    obtain ⟨q1, q2⟩ := hall k n hr
    have := (h.2.1 c hc q1).1
    omega
  · exact Or.inr ⟨e1, h.2.2.2.2.1 c hc e1, e2, fun k n hr => (hall k n hr).2⟩
end GRAPH
