/-! ===== steamFor ===== -/
theorem prS_1 (s : Nat → Int32) : ∀ d, d < 48 → prS s d < 1000000 → prS s d ≤ 9 := by
  intro d _ h
  rcases prS_le s d with q | q <;> omega
theorem prS_2 (s : Nat → Int32) : ∀ d, d < 48 → prS s d ≤ 1000000 := by
  intro d _
  rcases prS_le s d with q | q <;> omega
section LEAST
variable {s ga st cu ki at_ wi wr ke sp : Nat → Int32} {mi ba si ev z : Int32} {F : Nat → Nat} {dn : Nat → Bool} {f : Nat → Int32}
theorem offer5 {nn c n : Nat} (hn : 155 < nn) (hR : RW s ga st cu ki at_ wi wr ke sp mi ba si ev z) (hV : IV s) (hc : c < 48) (hb : n ≤ 1000000) {v : Nat} (hv : v ≤ 1000000) (hf : f c = nI v) : uX5_offer nn (nI c) (nI n) f si ga st = some (if prS s c < 1000000 then upd f c (nI (min v (n + prS s c))) else f) := by
  unfold uX5_offer
  rw [if_pos (nI_pos' (by omega)), hide6 hn hc hR hV, bb_b1_s]
  by_cases h : hid s c ≤ 9
  · have e : prS s c = hid s c - tO s c := by unfold prS; rw [if_pos h]
    rw [if_pos h, if_pos (show prS s c < 1000000 by omega), if_neg (nI_nneg (by omega)), ixn hc (by decide), ixn hc (by decide), cln (by omega), hf, nAdd, minU (by omega) (by omega), e]
  · have e : prS s c = 1000000 := by unfold prS; rw [if_neg h]
    rw [if_neg h, if_pos (show (-1 : Int32) < 0 by decide), if_neg (show ¬ prS s c < 1000000 by omega)]
theorem nearestBut5 {nn : Nat} (hn : 155 < nn) {x : Int64} (hF : ∀ c, c < 48 → f c = nI (F c)) (hb : ∀ c, c < 48 → F c ≤ 1000000) (hd : ∀ c, c < 48 → lb x c = dn c) : ∃ y, uX5_nearestBut nn x f = some y ∧ NB F dn 48 y := by
  unfold uX5_nearestBut
  refine inv3 (fun i x1 x2 x3 => x3 = nI i ∧ ((x1 = -1 ∧ x2 = nI 1000000 ∧ ∀ d, d < i → dn d = false → 1000000 ≤ F d) ∨ (∃ c, c < 48 ∧ x1 = nI c ∧ x2 = nI (F c) ∧ dn c = false ∧ F c < 1000000 ∧ ∀ d, d < i → dn d = false → F c ≤ F d))) 48 (fun o => ∃ y, o = some y ∧ NB F dn 48 y) ?_ ?_ nn (by omega) (-1) 1000000 0 ⟨rfl, Or.inl ⟨rfl, rfl, fun d h => by omega⟩⟩
  · rintro rec2 x1 x2 x3 ⟨rfl, h⟩
    refine ⟨x1, ?_, ?_⟩
    · unfold uX5_nearestBut_s9
      rw [if_pos (by decide)]
    · rcases h with ⟨h1, h2, h3⟩ | ⟨c, h1, h2, h3, h4, h5, h6⟩
      · exact Or.inl ⟨h1, h3⟩
      · exact Or.inr ⟨c, h1, h2, h4, h5, h6⟩
  · rintro rec2 i x1 x2 x3 hi ⟨rfl, h⟩
    refine Or.inl ?_
    unfold uX5_nearestBut_s9
    have hbi := hb i hi
    simp only [if_neg (show ¬ (48 : Int32) ≤ nI i from nI_ge (b := 48) hi (by decide)), ixn hi (show 48 < 2 ^ 31 by decide), cln (show i < 2 ^ 31 by omega), bb_cut_s, p1_, hF i hi, has0 x (show i < 64 by omega), hd i hi, bb_b1_s]
    rcases h with ⟨rfl, rfl, h3⟩ | ⟨c, h1, rfl, rfl, h4, h5, h6⟩
    · by_cases g : F i < 1000000
      · rw [if_neg (nI_ge g (by omega))]
        cases e : dn i
        · rw [if_pos (show ((if false = true then (1 : Int32) else 0) = 0) by decide)]
          exact ⟨_, _, _, ⟨rfl, Or.inr ⟨i, hi, rfl, rfl, e, g, fun d hd' hv => lt_succ_cases hd' (fun q => by have := h3 d q hv; omega) (fun q => by subst q; exact Nat.le_refl _)⟩⟩, rfl⟩
        · rw [if_pos rfl, if_neg (by decide)]
          exact ⟨_, _, _, ⟨rfl, Or.inl ⟨rfl, rfl, fun d hd' hv => lt_succ_cases hd' (fun q => h3 d q hv) (fun q => by subst q; rw [e] at hv; cases hv)⟩⟩, rfl⟩
      · rw [if_pos (nI_le (by omega) (by omega))]
        exact ⟨_, _, _, ⟨rfl, Or.inl ⟨rfl, rfl, fun d hd' hv => lt_succ_cases hd' (fun q => h3 d q hv) (fun q => by subst q; omega)⟩⟩, rfl⟩
    · by_cases g : F i < F c
      · rw [if_neg (nI_ge g (by omega))]
        cases e : dn i
        · rw [if_pos (show ((if false = true then (1 : Int32) else 0) = 0) by decide)]
          exact ⟨_, _, _, ⟨rfl, Or.inr ⟨i, hi, rfl, rfl, e, by omega, fun d hd' hv => lt_succ_cases hd' (fun q => by have := h6 d q hv; omega) (fun q => by subst q; exact Nat.le_refl _)⟩⟩, rfl⟩
        · rw [if_pos rfl, if_neg (by decide)]
          exact ⟨_, _, _, ⟨rfl, Or.inr ⟨c, h1, rfl, rfl, h4, h5, fun d hd' hv => lt_succ_cases hd' (fun q => h6 d q hv) (fun q => by subst q; rw [e] at hv; cases hv)⟩⟩, rfl⟩
      · rw [if_pos (nI_le (by omega) (by omega))]
        exact ⟨_, _, _, ⟨rfl, Or.inr ⟨c, h1, rfl, rfl, h4, h5, fun d hd' hv => lt_succ_cases hd' (fun q => h6 d q hv) (fun q => by subst q; omega)⟩⟩, rfl⟩
theorem relax5 {nn c : Nat} (hn : 155 < nn) (hR : RW s ga st cu ki at_ wi wr ke sp mi ba si ev z) (hV : IV s) (hc : c < 48) (hF : ∀ d, d < 48 → f d = nI (F d)) (hb : ∀ d, d < 48 → F d ≤ 1000000) (K : (Nat → Int32) → Option (Int32 × (Nat → Int32))) :
    ∃ f2, (∀ d, d < 48 → f2 d = nI (rlx (prS s) F c 4 d)) ∧ bb_loop2 (uX5_leastSteam_s84 nn (nI c) si ga st K) nn 1 f = K f2 := by
  refine inv2 (fun i x (g : Nat → Int32) => x = nI (i + 1) ∧ ∀ d, d < 48 → g d = nI (rlx (prS s) F c i d)) 4 (fun o => ∃ f2, (∀ d, d < 48 → f2 d = nI (rlx (prS s) F c 4 d)) ∧ o = K f2) ?_ ?_ nn (by omega) 1 f ⟨rfl, fun d hd => by rw [rlx_zero]; exact hF d hd⟩
  · rintro rec2 x g ⟨rfl, h⟩
    refine ⟨g, h, ?_⟩
    unfold uX5_leastSteam_s84
    rw [if_pos (by decide)]
  · rintro rec2 i x g hi ⟨rfl, h⟩
    refine Or.inl ?_
    unfold uX5_leastSteam_s84
    rw [if_neg (show ¬ (4 : Int32) < nI (i + 1) from nI_nlt (b := i + 1) (a := 4) (by omega) (by decide)), be0 (i + 1) (by omega) c hc, bb_b1_s, p1_, ixn hc (by decide), cln (by omega), h c hc, rlx_self]
    cases e : be c (i + 1) with
    | none =>
      have e2 : uX5_offer nn (on none) (nI (F c)) g si ga st = some g := by
        unfold uX5_offer
        rw [if_neg (show ¬ (0 : Int32) ≤ on none by decide)]
      rw [e2, bb_b1_s]
      exact ⟨_, _, ⟨rfl, fun d hd => by rw [rlx_none e]; exact h d hd⟩, rfl⟩
    | some d0 =>
      have hd0 := be_lt hc e
      have en : on (some d0) = nI d0 := rfl
      have b0 := hb d0 hd0
      have b3 := rlx_le (p := prS s) F c i d0
      rw [en, offer5 hn hR hV hd0 (hb c hc) (v := rlx (prS s) F c i d0) (by omega) (h d0 hd0), bb_b1_s]
      by_cases q : prS s d0 < 1000000
      · obtain ⟨r1, r2⟩ := rlx_eq (F := F) e q
        rw [if_pos q]
        refine ⟨_, _, ⟨rfl, fun d hd => ?_⟩, rfl⟩
        by_cases u : d = d0
        · subst u
          rw [pk_us, r1]
          congr 1
          omega
        · rw [pk_un u, rlx_ne e u]
          exact h d hd
      · rw [if_neg q]
        refine ⟨_, _, ⟨rfl, fun d hd => ?_⟩, rfl⟩
        by_cases u : d = d0
        · subst u
          rw [rlx_far q, h d hd, rlx_far q]
        · rw [rlx_ne e u]
          exact h d hd
/-- what the class answers is what the reference's search says -/
theorem least5 {nn w c : Nat} {G : Nat → Nat} (hn : 155 < nn) (hR : RW s ga st cu ki at_ wi wr ke sp mi ba si ev z) (hV : IV s) (hc : c < 48) (hw : w < 2) (hG : RES (prS s) (sdB w) 9 G) (su : Nat → Int32) :
    ∃ su2, uX5_leastSteam nn (nI c) (nI w) su si ga st = some (if G c < 1000000 then nI (G c) else -1, su2) := by
  have hp1 := prS_1 s
  have hp2 := prS_2 s
  unfold uX5_leastSteam
  rw [bb_cut_s]
  have L : ∀ K : (Nat → Int32) → Option (Int32 × (Nat → Int32)), ∃ f, (∀ d, d < 48 → f d = nI 1000000) ∧ bb_loop2 (uX5_leastSteam_s2 K) nn 0 su = K f := by
    intro K
    refine inv2 (fun i x (f : Nat → Int32) => x = nI i ∧ ∀ d, d < i → f d = nI 1000000) 48 (fun o => ∃ f, (∀ d, d < 48 → f d = nI 1000000) ∧ o = K f) ?_ ?_ nn (by omega) 0 su ⟨rfl, fun d hd => by omega⟩
    · rintro rec2 x f ⟨rfl, h⟩
      refine ⟨f, h, ?_⟩
      unfold uX5_leastSteam_s2
      rw [if_pos (by decide)]
    · rintro rec2 i x f hi ⟨rfl, h⟩
      refine Or.inl ?_
      unfold uX5_leastSteam_s2
      rw [if_neg (show ¬ (48 : Int32) ≤ nI i from nI_ge (b := 48) hi (by decide)), ixn hi (by decide), cln (by omega), p1_]
      exact ⟨_, _, ⟨rfl, fun d hd => lt_succ_cases hd (fun q => by rw [pk_un (by omega)]; exact h d q) (fun q => by subst q; rw [pk_us]; rfl)⟩, rfl⟩
  obtain ⟨f, hf, eL⟩ := L (fun f_t_sums_1 => bb_b1 (uX5_offer nn (nI c) (0 : Int32) f_t_sums_1 si ga st) (fun w3 => bb_cut (fun (x6_5 : Int32) (f_t_sums_6 : Nat → Int32) => bb_ix x6_5 48 (some (f_t_sums_6 x6_5.toNatClampNeg, f_t_sums_6))) (fun k7 => bb_loop3 (uX5_leastSteam_s33 nn (nI w) si ga st k7) nn (0 : Int64) (0 : Int32) w3)))
  rw [eL]
  have eo := offer5 (n := 0) hn hR hV hc (by omega) (v := 1000000) (by omega) (hf c hc)
  rw [show (0 : Int32) = nI 0 from rfl, eo, bb_b1_s, bb_cut_s]
  have hD := DI.start (S := one c) hp1 hp2
  have hf0 : ∀ d, d < 48 → (if prS s c < 1000000 then upd f c (nI (min 1000000 (0 + prS s c))) else f) d = nI (if one c d = true then prS s d else 1000000) := by
    intro d hd
    have h2 := hp2 c hc
    unfold one
    by_cases e : d = c
    · subst e
      rw [if_pos (show decide (d = d) = true by simp)]
      by_cases q : prS s d < 1000000
      · rw [if_pos q, pk_us]
        congr 1
        omega
      · rw [if_neg q, hf d hd]
        congr 1
        omega
    · rw [if_neg (show ¬ decide (d = c) = true by simp [e])]
      by_cases q : prS s c < 1000000
      · rw [if_pos q, pk_un e]
        exact hf d hd
      · rw [if_neg q]
        exact hf d hd
  have none_left : ∀ F dn, DI (prS s) (one c) 9 F dn → (∀ d, d < 48 → dn d = true → sdB w d = false) → (∀ d, d < 48 → dn d = false → 1000000 ≤ F d) → ¬ G c < 1000000 := by
    intro F dn h3 h4 h5 hlt
    rcases hG c hc with ⟨r1, -⟩ | ⟨r1, r2, ⟨k, r3⟩, r4⟩
    · omega
    · obtain ⟨e, u1, u2, u3⟩ := rch_from r3
      have u4 := rch_sym u3
      obtain ⟨u5, -⟩ := h3.done (by omega) hp1 (fun d hd hu => by have := h5 d hd hu; rcases h3.1 d hd with q | ⟨q, -⟩ <;> omega) k e _ u4
      have := h4 e u2 u5
      rw [u1] at this
      cases this
  refine inv3 (fun i (x1 : Int64) (x2 : Int32) (g : Nat → Int32) => x2 = nI i ∧ ∃ F dn, (∀ d, d < 48 → g d = nI (F d)) ∧ (∀ d, d < 48 → lb x1 d = dn d) ∧ DI (prS s) (one c) 9 F dn ∧ (∀ d, d < 48 → dn d = true → sdB w d = false) ∧ cntN dn 48 = i) 48 (fun o => ∃ su2, o = some (if G c < 1000000 then nI (G c) else -1, su2)) ?_ ?_ nn (by omega) 0 (nI 0) _ ⟨rfl, _, _, hf0, fun d _ => lb_0 d, hD, fun d _ h => (by cases h), by decide⟩
  · rintro rec2 x1 x2 g ⟨rfl, F, dn, h1, h2, h3, h4, h5⟩
    refine ⟨g, ?_⟩
    unfold uX5_leastSteam_s33
    rw [if_pos (by decide), if_neg (none_left F dn h3 h4 (fun d hd hu => by have := cntN_less hd hu; omega))]
  · rintro rec2 i x1 x2 g hi ⟨rfl, F, dn, h1, h2, h3, h4, h5⟩
    have hbF : ∀ d, d < 48 → F d ≤ 1000000 := fun d hd => by rcases h3.1 d hd with e | ⟨e, -⟩ <;> omega
    obtain ⟨y, ey, hy⟩ := nearestBut5 hn h1 hbF h2
    unfold uX5_leastSteam_s33
    rw [if_neg (show ¬ (48 : Int32) ≤ nI i from nI_ge (b := 48) hi (by decide)), ey, bb_b1_s, side5 hw, bb_b1_s, p1_]
    rcases hy with ⟨rfl, q⟩ | ⟨e, q1, rfl, q3, q4, q5⟩
    · refine Or.inr ⟨g, ?_⟩
      rw [if_neg (by decide), if_neg (none_left F dn h3 h4 q)]
    · rw [if_pos (nI_pos' (by omega)), has0 _ (by omega), bb_b1_s, lb_sw hw (by omega)]
      by_cases hs : sdB w e = true
      · refine Or.inr ⟨g, ?_⟩
        rw [hs, if_neg (by simp [q1])]
        show bb_ix (nI e) 48 (some (g (nI e).toNatClampNeg, g)) = _
        rw [ixn q1 (by decide), cln (by omega), h1 e q1]
        have k1 : G c ≤ F e := by
          obtain ⟨-, k, hk⟩ := (h3.1 e q1).resolve_left (by omega)
          have hk2 := rch_to hs (rch_sym hk)
          rcases hG c hc with ⟨r1, r2⟩ | ⟨r1, r2, r3, r4⟩
          · exact absurd hk2 (r2 _ _)
          · exact r4 _ _ hk2
        have k2 : F e ≤ G c := by
          rcases hG c hc with ⟨r1, -⟩ | ⟨r1, r2, ⟨k, r3⟩, r4⟩
          · omega
          · obtain ⟨e2, u1, u2, u3⟩ := rch_from r3
            rcases h3.near q5 k e2 _ (rch_sym u3) with ⟨v1, v2⟩ | v1
            · have := h4 e2 u2 v1
              rw [u1] at this
              cases this
            · exact v1
        rw [if_pos (by omega), show F e = G c by omega]
      · refine Or.inl ?_
        have hs2 : sdB w e = false := Bool.eq_false_iff.mpr hs
        rw [hs2, if_pos (by simp), bb_cut_s]
        obtain ⟨f2, hf2, er⟩ := relax5 hn hR hV q1 h1 hbF (fun f_t_sums_32 => rec2 (x1 ||| ((1 : Int64) <<< ((nI e).toInt64 &&& 63))) (nI (i + 1)) f_t_sums_32)
        rw [er]
        refine ⟨_, _, _, ⟨rfl, _, _, hf2, fun d hd => ?_, h3.settle (by omega) hp1 q1 q3 q4 q5, fun d hd hu => ?_, ?_⟩, rfl⟩
        · rw [lb_or, lb_one e q1 d (by omega), h2 d hd]
          rfl
        · unfold ins at hu
          simp only [Bool.or_eq_true, decide_eq_true_eq] at hu
          rcases hu with u | u
          · exact h4 d hd u
          · subst u; exact hs2
        · rw [cntN_ins q3, if_pos q1]
          omega
theorem op_steamFor {nn : Nat} (hn : 155 < nn) (hR : RW s ga st cu ki at_ wi wr ke sp mi ba si ev z) (hI : IW s) (fo su fa is pr : Nat → Int32) (p1 p2 : Int32) :
    ∃ r fo2 su2 fa2 is2 pr2, uX7_steamFor nn p1 p2 fo si su ga st = some (r, fo2, su2) ∧ uX8_steamFor nn p1 p2 fa fo is pr s = some (r, fa2, fo2, is2, pr2) := by
  unfold uX7_steamFor uX8_steamFor
  simp only [cell0, cell8, side7, side8, find78, fnd0, fnd3, bb_b0_s, bb_b1_s, bb_b2_s, bb_b3_s, bb_b4_s, bb_b5_s, bb_b6_s, bb_b7_s, bb_b8_s, bb_b9_s, bb_b10_s, bb_b11_s, bb_b12_s, bb_b13_s, bb_b14_s, bb_b15_s, bb_b16_s]
  rcases win p1 0 47 with ⟨e1, a1, b1⟩ | ⟨e1, -⟩
  · rcases win p2 0 1 with ⟨e2, a2, b2⟩ | ⟨e2, -⟩
    · obtain ⟨c, hc, rfl⟩ := nat_of (n := 47) (by decide) a1 b1
      obtain ⟨w, hw, rfl⟩ := nat_of (n := 1) (by decide) a2 b2
      obtain ⟨f, hf, ef⟩ := prices8 hn hI.v pr
      obtain ⟨far2, dn2, F, eF, hF, hRES⟩ := findFar8 (p := prS s) (m := 9) hn (show w < 2 by omega) (by omega) hf (prS_1 s) (prS_2 s) fa is
      obtain ⟨su2, e5⟩ := least5 hn hR hI.v (show c < 48 by omega) (show w < 2 by omega) hRES su
      simp only [e1, e2, ef, eF, e5, ixn (show c < 48 by omega) (show 48 < 2 ^ 31 by decide), cln (show c < 2 ^ 31 by omega), hF c (by omega), bb_b0_s, bb_b1_s, bb_b2_s, bb_b3_s, bb_b4_s, bb_b5_s, bb_b6_s, bb_b7_s, bb_b8_s, bb_b9_s, bb_b10_s, bb_b11_s, bb_b12_s, bb_b13_s, bb_b14_s, bb_b15_s, bb_b16_s, e10, e00, e11, if_true, if_false]
      rcases hRES c (by omega) with ⟨q1, q2⟩ | ⟨q1, q2, q3, q4⟩
      · simp only [q1, if_neg (show ¬ (1000000 : Nat) < 1000000 by omega), if_neg (show ¬ (0 : Int32) ≤ -1 by decide), if_pos (show (1000000 : Int32) ≤ nI 1000000 by decide)]
        exact ⟨_, _, _, _, _, _, rfl, rfl⟩
      · simp only [if_pos q1, if_pos (nI_pos' (show F c < 2 ^ 31 by omega)), if_neg (show ¬ (1000000 : Int32) ≤ nI (F c) from nI_ge (b := 1000000) (by omega) (by omega))]
        exact ⟨_, _, _, _, _, _, rfl, rfl⟩
    · simp only [e1, e2, bb_b0_s, bb_b1_s, bb_b2_s, bb_b3_s, bb_b4_s, bb_b5_s, bb_b6_s, bb_b7_s, bb_b8_s, bb_b9_s, bb_b10_s, bb_b11_s, bb_b12_s, bb_b13_s, bb_b14_s, bb_b15_s, bb_b16_s, e10, e00, e11, if_true, if_false]
      exact ⟨_, _, _, _, _, _, rfl, rfl⟩
  · simp only [e1, bb_b0_s, bb_b1_s, bb_b2_s, bb_b3_s, bb_b4_s, bb_b5_s, bb_b6_s, bb_b7_s, bb_b8_s, bb_b9_s, bb_b10_s, bb_b11_s, bb_b12_s, bb_b13_s, bb_b14_s, bb_b15_s, bb_b16_s, e10, e00, e11, if_true, if_false]
    exact ⟨_, _, _, _, _, _, rfl, rfl⟩
end LEAST
