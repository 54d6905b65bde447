/-! ===== the reference's search ===== -/
def NB (F : Nat → Nat) (dn : Nat → Bool) (i : Nat) (x : Int32) : Prop :=
  (x = -1 ∧ ∀ d, d < i → dn d = false → 1000000 ≤ F d) ∨ (∃ c, c < 48 ∧ x = nI c ∧ dn c = false ∧ F c < 1000000 ∧ ∀ d, d < i → dn d = false → F c ≤ F d)
def b32 (b : Bool) : Int32 := if b then 1 else 0
def sdB (w c : Nat) : Bool := decide (c % 8 = sd w)
theorem lt_succ_cases {d i : Nat} {P : Prop} (h : d < i + 1) (h1 : d < i → P) (h2 : d = i → P) : P := by
  rcases Nat.lt_or_ge d i with g | g
  · exact h1 g
  · exact h2 (by omega)
theorem M_ge {a : Nat} (h : a < 1000000) : ¬ (1000000 : Int32) ≤ nI a := nI_ge (b := 1000000) h (by decide)
theorem M_le {a : Nat} (h : 1000000 ≤ a) (ha : a < 2 ^ 31) : (1000000 : Int32) ≤ nI a := nI_le (a := 1000000) h ha
section FAR
variable {p : Nat → Nat} {S : Nat → Bool} {F : Nat → Nat} {dn : Nat → Bool} {far dn8 pr : Nat → Int32}
theorem NB.skip {i : Nat} {x : Int32} (h : NB F dn i x) (hs : dn i = false → 1000000 ≤ F i) : NB F dn (i + 1) x := by
  rcases h with ⟨h1, h2⟩ | ⟨c, h1, h2, h3, h4, h5⟩
  · exact Or.inl ⟨h1, fun d hd hu => lt_succ_cases hd (fun g => h2 d g hu) (fun g => by subst g; exact hs hu)⟩
  · exact Or.inr ⟨c, h1, h2, h3, h4, fun d hd hu => lt_succ_cases hd (fun g => h5 d g hu) (fun g => by subst g; have := hs hu; omega)⟩
theorem NB.take0 {i : Nat} (hi : i < 48) (h2 : ∀ d, d < i → dn d = false → 1000000 ≤ F d) (hu : dn i = false) (hF : F i < 1000000) : NB F dn (i + 1) (nI i) :=
  Or.inr ⟨i, hi, rfl, hu, hF, fun d hd hv => lt_succ_cases hd (fun g => by have := h2 d g hv; omega) (fun g => by subst g; exact Nat.le_refl _)⟩
theorem NB.take {i c : Nat} (hi : i < 48) (h5 : ∀ d, d < i → dn d = false → F c ≤ F d) (hu : dn i = false) (hF : F i < 1000000) (hl : F i ≤ F c) : NB F dn (i + 1) (nI i) :=
  Or.inr ⟨i, hi, rfl, hu, hF, fun d hd hv => lt_succ_cases hd (fun g => Nat.le_trans hl (h5 d g hv)) (fun g => by subst g; exact Nat.le_refl _)⟩
theorem NB.stay {i c : Nat} (hc : c < 48) (h3 : dn c = false) (h4 : F c < 1000000) (h5 : ∀ d, d < i → dn d = false → F c ≤ F d) (hl : F c ≤ F i) : NB F dn (i + 1) (nI c) :=
  Or.inr ⟨c, hc, rfl, h3, h4, fun d hd hv => lt_succ_cases hd (fun g => h5 d g hv) (fun g => by subst g; exact hl)⟩
theorem nearest8 {nn : Nat} (hn : 155 < nn) (hF : ∀ c, c < 48 → far c = nI (F c)) (hb : ∀ c, c < 48 → F c ≤ 1000000) (hd : ∀ c, c < 48 → dn8 c = b32 (dn c)) : ∃ x, uX8_nearest nn far dn8 = some x ∧ NB F dn 48 x := by
  unfold uX8_nearest
  refine inv2 (fun i x1 x2 => x2 = nI i ∧ NB F dn i x1) 48 (fun o => ∃ x, o = some x ∧ NB F dn 48 x) ?_ ?_ nn (by omega) (-1) 0 ⟨rfl, Or.inl ⟨rfl, fun d h => by omega⟩⟩
  · rintro rec2 x1 x2 ⟨rfl, h⟩
    refine ⟨x1, ?_, h⟩
    unfold uX8_nearest_s4
    rw [if_pos (by decide)]
  · rintro rec2 i x1 x2 hi ⟨rfl, h⟩
    refine Or.inl ?_
    unfold uX8_nearest_s4
    have hbi := hb i hi
    simp only [if_neg (show ¬ (48 : Int32) ≤ nI i from nI_ge (b := 48) hi (by decide)), ixn hi (show 48 < 2 ^ 31 by decide), cln (show i < 2 ^ 31 by omega), bb_cut_s, p1_, hF i hi, hd i hi]
    cases e : dn i
    · rw [if_pos (show b32 false = 0 from rfl)]
      by_cases g : F i < 1000000
      · rw [if_neg (M_ge g)]
        rcases h with ⟨rfl, h2⟩ | ⟨c, hc, rfl, h3, h4, h5⟩
        · rw [if_pos (by decide)]
          exact ⟨_, _, ⟨rfl, NB.take0 hi h2 e g⟩, rfl⟩
        · rw [if_neg (nI_nneg (by omega)), ixn hc (by decide), cln (show c < 2 ^ 31 by omega), hF c hc]
          by_cases g2 : F c ≤ F i
          · rw [if_pos (nI_le g2 (by omega))]
            exact ⟨_, _, ⟨rfl, NB.stay hc h3 h4 h5 g2⟩, rfl⟩
          · rw [if_neg (nI_ge (by omega) (by omega))]
            exact ⟨_, _, ⟨rfl, NB.take hi h5 e g (by omega)⟩, rfl⟩
      · rw [if_pos (M_le (by omega) (by omega))]
        exact ⟨_, _, ⟨rfl, h.skip (fun _ => by omega)⟩, rfl⟩
    · rw [if_neg (show ¬ b32 true = 0 by decide)]
      exact ⟨_, _, ⟨rfl, h.skip (fun q => by rw [e] at q; cases q)⟩, rfl⟩
theorem rlx_zero (c d : Nat) : rlx p F c 0 d = F d := by
  unfold rlx nbK
  rw [if_neg (by simp)]
theorem rlx_none {c i : Nat} (h : be c (i + 1) = none) (d : Nat) : rlx p F c (i + 1) d = rlx p F c i d := by
  unfold rlx
  rw [show nbK c (i + 1) d = nbK c i d from by rw [nbK, h]; simp]
theorem rlx_ne {c i e d : Nat} (h : be c (i + 1) = some e) (hd : d ≠ e) : rlx p F c (i + 1) d = rlx p F c i d := by
  unfold rlx
  rw [show nbK c (i + 1) d = nbK c i d from by rw [nbK, h]; simp [Ne.symm hd]]
theorem rlx_far {c i e : Nat} (hp : ¬ p e < 1000000) : rlx p F c i e = F e := by
  unfold rlx
  rw [if_neg (by simp [hp])]
theorem rlx_eq {c i e : Nat} (h : be c (i + 1) = some e) (hp : p e < 1000000) : rlx p F c (i + 1) e = min (F e) (F c + p e) ∧ (rlx p F c i e = F e ∨ rlx p F c i e = min (F e) (F c + p e)) := by
  unfold rlx
  constructor
  · rw [if_pos (by rw [nbK, h]; simp [hp])]
  · split
    · exact Or.inr rfl
    · exact Or.inl rfl
theorem minU {a b : Nat} (ha : a < 2 ^ 31) (hb : b < 2 ^ 31) : (if nI a < nI b then nI a else nI b) = nI (min b a) := by
  by_cases g : a < b
  · rw [if_pos (nI_lt g hb)]
    congr 1
    omega
  · rw [if_neg (nI_nlt (by omega) ha)]
    congr 1
    omega
theorem relax8 {nn c : Nat} (hn : 155 < nn) (hc : c < 48) (hF : ∀ d, d < 48 → far d = nI (F d)) (hb : ∀ d, d < 48 → F d ≤ 1000000) (hp : ∀ d, d < 48 → pr d = nI (p d)) (hpb : ∀ d, d < 48 → p d ≤ 1000000) (K : (Nat → Int32) → Option ((Nat → Int32) × (Nat → Int32))) :
    ∃ far2, (∀ d, d < 48 → far2 d = nI (rlx p F c 4 d)) ∧ bb_loop2 (uX8_findFar_s73 (nI c) pr K) nn 1 far = K far2 := by
  refine inv2 (fun i x (f : Nat → Int32) => x = nI (i + 1) ∧ ∀ d, d < 48 → f d = nI (rlx p F c i d)) 4 (fun o => ∃ far2, (∀ d, d < 48 → far2 d = nI (rlx p F c 4 d)) ∧ o = K far2) ?_ ?_ nn (by omega) 1 far ⟨rfl, fun d hd => by rw [rlx_zero]; exact hF d hd⟩
  · rintro rec2 x f ⟨rfl, h⟩
    refine ⟨f, h, ?_⟩
    unfold uX8_findFar_s73
    rw [if_pos (by decide)]
  · rintro rec2 i x f hi ⟨rfl, h⟩
    refine Or.inl ?_
    unfold uX8_findFar_s73
    rw [if_neg (show ¬ (4 : Int32) < nI (i + 1) from nI_nlt (b := i + 1) (a := 4) (by omega) (by decide)), be8 (i + 1) (by omega) c hc, bb_b1_s, bb_cut_s, p1_]
    cases e : be c (i + 1) with
    | none =>
      rw [if_pos (show on none < 0 by decide)]
      exact ⟨_, _, ⟨rfl, fun d hd => by rw [rlx_none e]; exact h d hd⟩, rfl⟩
    | some d0 =>
      have hd0 := be_lt hc e
      show ∃ y1 y2, _ ∧ (if nI d0 < 0 then _ else _) = _
      rw [if_neg (nI_nneg (by omega))]
      have en : on (some d0) = nI d0 := rfl
      simp only [en, ixn hd0 (show 48 < 2 ^ 31 by decide), ixn hc (show 48 < 2 ^ 31 by decide), cln (show d0 < 2 ^ 31 by omega), cln (show c < 2 ^ 31 by omega), hp d0 hd0, h d0 hd0, h c hc, rlx_self, nAdd]
      have b0 := hb d0 hd0
      have b1 := hb c hc
      have b2 := hpb d0 hd0
      have b3 := rlx_le (p := p) F c i d0
      by_cases g : p d0 < 1000000
      · obtain ⟨r1, r2⟩ := rlx_eq (F := F) e g
        rw [if_neg (M_ge g), minU (by omega) (by omega)]
        refine ⟨_, _, ⟨rfl, fun d hd => ?_⟩, rfl⟩
        by_cases q : d = d0
        · subst q
          rw [pk_us, r1]
          congr 1
          omega
        · rw [pk_un q, rlx_ne e q]
          exact h d hd
      · rw [if_pos (M_le (by omega) (by omega))]
        refine ⟨_, _, ⟨rfl, fun d hd => ?_⟩, rfl⟩
        by_cases q : d = d0
        · subst q
          rw [rlx_far g, h d hd, rlx_far g]
        · rw [rlx_ne e q]
          exact h d hd
theorem colE : ∀ w, w < 2 → ∀ c, c < 48 → (nI c - nI c / 8 * 8 = nI (sd w)) = (sdB w c = true) := by
  intro w hw c hc
  rw [colI c hc]
  unfold sdB
  rw [decide_eq_true_eq]
  refine propext (nI_eq (by omega) ?_)
  unfold sd
  split <;> omega
theorem findFar8 {nn w m : Nat} (hn : 155 < nn) (hw : w < 2) (hm : m ≤ 100) (hp : ∀ d, d < 48 → pr d = nI (p d)) (hp1 : ∀ d, d < 48 → p d < 1000000 → p d ≤ m) (hp2 : ∀ d, d < 48 → p d ≤ 1000000) (far dn8 : Nat → Int32) :
    ∃ far2 dn2 F, uX8_findFar nn (nI w) far dn8 pr = some (far2, dn2) ∧ (∀ c, c < 48 → far2 c = nI (F c)) ∧ RES p (sdB w) m F := by
  unfold uX8_findFar
  rw [bb_cut_s]
  have L : ∀ K : (Nat → Int32) → (Nat → Int32) → Option ((Nat → Int32) × (Nat → Int32)), ∃ f g, (∀ c, c < 48 → f c = nI (if sdB w c = true then p c else 1000000)) ∧ (∀ c, c < 48 → g c = b32 false) ∧ bb_loop3 (uX8_findFar_s2 (nI w) pr K) nn 0 far dn8 = K f g := by
    intro K
    refine inv3 (fun i x (f g : Nat → Int32) => x = nI i ∧ (∀ c, c < i → f c = nI (if sdB w c = true then p c else 1000000)) ∧ (∀ c, c < i → g c = b32 false)) 48 (fun o => ∃ f g, (∀ c, c < 48 → f c = nI (if sdB w c = true then p c else 1000000)) ∧ (∀ c, c < 48 → g c = b32 false) ∧ o = K f g) ?_ ?_ nn (by omega) 0 far dn8 ⟨rfl, fun c h => by omega, fun c h => by omega⟩
    · rintro rec2 x f g ⟨rfl, h1, h2⟩
      refine ⟨f, g, h1, h2, ?_⟩
      unfold uX8_findFar_s2
      rw [if_pos (by decide)]
    · rintro rec2 i x f g hi ⟨rfl, h1, h2⟩
      refine Or.inl ?_
      unfold uX8_findFar_s2
      have ew : ∀ {β : Type} (k : Int32 → β), (if nI w = 0 then k 0 else k 7) = k (nI (sd w)) := fun k => by
        rcases Nat.lt_or_ge w 1 with q | q
        · obtain rfl : w = 0 := by omega
          rfl
        · obtain rfl : w = 1 := by omega
          rfl
      have ez : vp_nar .boolean (0 : Int32) = b32 false := by decide
      simp only [if_neg (show ¬ (48 : Int32) ≤ nI i from nI_ge (b := 48) hi (by decide)), bb_cut_s, ew, colE w hw i hi, ixn hi (show 48 < 2 ^ 31 by decide), cln (show i < 2 ^ 31 by omega), p1_, ez, hp i hi]
      have a1 : ∀ c, c < i + 1 → upd f i (nI (if sdB w i = true then p i else 1000000)) c = nI (if sdB w c = true then p c else 1000000) := fun c hc => lt_succ_cases hc (fun q => by rw [pk_un (by omega)]; exact h1 c q) (fun q => by subst q; rw [pk_us])
      have a2 : ∀ c, c < i + 1 → upd g i (b32 false) c = b32 false := fun c hc => lt_succ_cases hc (fun q => by rw [pk_un (by omega)]; exact h2 c q) (fun q => by subst q; rw [pk_us])
      by_cases q : sdB w i = true
      · rw [if_pos q] at a1 ⊢
        exact ⟨_, _, _, ⟨rfl, a1, a2⟩, rfl⟩
      · rw [if_neg q] at a1 ⊢
        exact ⟨_, _, _, ⟨rfl, a1, a2⟩, rfl⟩
  obtain ⟨f, g, hf, hg, eL⟩ := L (fun f_t_far_1 f_t_isDone_2 => bb_b1 (uX8_nearest nn f_t_far_1 f_t_isDone_2) (fun r4 => bb_loop3 (uX8_findFar_s60 nn pr) nn r4 f_t_far_1 f_t_isDone_2))
  rw [eL]
  have hD := DI.start (S := sdB w) hp1 hp2
  obtain ⟨x, e1, hx⟩ := nearest8 hn hf (fun c hc => by have := hp2 c hc; split <;> omega) hg
  rw [e1, bb_b1_s]
  refine inv3 (fun i x (f g : Nat → Int32) => ∃ F dn, (∀ c, c < 48 → f c = nI (F c)) ∧ (∀ c, c < 48 → g c = b32 (dn c)) ∧ DI p (sdB w) m F dn ∧ NB F dn 48 x ∧ cntN dn 48 = i) 48 (fun o => ∃ (far2 dn2 : Nat → Int32) (F : Nat → Nat), o = some (far2, dn2) ∧ (∀ c, c < 48 → far2 c = nI (F c)) ∧ RES p (sdB w) m F) ?_ ?_ nn (by omega) x f g ⟨_, _, hf, hg, hD, hx, by decide⟩
  · rintro rec2 x f g ⟨F, dn, h1, h2, h3, h4, h5⟩
    rcases h4 with ⟨rfl, q⟩ | ⟨c, q1, q2, q3, q4, q5⟩
    · refine ⟨f, g, F, ?_, h1, h3.res hm hp1 (fun d hd hu => ?_)⟩
      · unfold uX8_findFar_s60
        rw [if_pos (by decide)]
      · have := q d hd hu
        rcases h3.1 d hd with e | ⟨e, -⟩ <;> omega
    · have := cntN_less q1 q3
      omega
  · rintro rec2 i x f g hi ⟨F, dn, h1, h2, h3, h4, h5⟩
    rcases h4 with ⟨rfl, q⟩ | ⟨c, q1, rfl, q3, q4, q5⟩
    · refine Or.inr ⟨f, g, F, ?_, h1, h3.res hm hp1 (fun d hd hu => ?_)⟩
      · unfold uX8_findFar_s60
        rw [if_pos (by decide)]
      · have := q d hd hu
        rcases h3.1 d hd with e | ⟨e, -⟩ <;> omega
    · refine Or.inl ?_
      have hbF : ∀ d, d < 48 → F d ≤ 1000000 := fun d hd => by rcases h3.1 d hd with e | ⟨e, -⟩ <;> omega
      unfold uX8_findFar_s60
      rw [if_neg (nI_nneg (by omega)), ixn q1 (by decide), bb_cut_s, cln (by omega)]
      have hS := h3.settle hm hp1 q1 q3 q4 q5
      have ez : vp_nar .boolean (1 : Int32) = b32 true := by decide
      rw [ez]
      have hg2 : ∀ d, d < 48 → upd g c (b32 true) d = b32 (ins dn c d) := fun d hd => by
        unfold ins
        by_cases e : d = c
        · subst e
          rw [pk_us]
          simp
        · rw [pk_un e, h2 d hd]
          simp [e]
      obtain ⟨far2, hf2, er⟩ := relax8 hn q1 h1 hbF hp hp2 (fun f_t_far_16 => bb_b1 (uX8_nearest nn f_t_far_16 (upd g c (b32 true))) (fun r18 => rec2 r18 f_t_far_16 (upd g c (b32 true))))
      rw [er]
      obtain ⟨y, e2, hy⟩ := nearest8 hn hf2 (fun d hd => by have := rlx_le (p := p) F c 4 d; have := hbF d hd; omega) hg2
      rw [e2, bb_b1_s]
      refine ⟨_, _, _, ⟨_, _, hf2, hg2, hS, hy, ?_⟩, rfl⟩
      rw [cntN_ins q3, if_pos q1]
      omega
end FAR
