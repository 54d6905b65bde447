/-! ===== sightFor, trap ===== -/
theorem cl1 : (1 : Int32).toNatClampNeg = 1 := by decide
theorem cl2 : (2 : Int32).toNatClampNeg = 2 := by decide
theorem e101 : (100 : Int32) = nI 101 - 1 := by decide
def lst (ok : Nat → Bool) : Nat → Int32
  | 0 => -1
  | n + 1 => if ok n then nI n else lst ok n
theorem lst_ok (ok : Nat → Bool) : ∀ n, lst ok n = -1 ∨ ∃ j, j < n ∧ lst ok n = nI j
  | 0 => Or.inl rfl
  | n + 1 => by
    unfold lst
    split
    · exact Or.inr ⟨n, by omega, rfl⟩
    · rcases lst_ok ok n with e | ⟨j, hj, e⟩
      · exact Or.inl e
      · exact Or.inr ⟨j, by omega, e⟩
section TRAP
variable {s ga st cu ki at_ wi wr ke sp : Nat → Int32} {mi ba si ev z : Int32}
theorem op_sightFor {nn : Nat} (hn : 155 < nn) (hR : RW s ga st cu ki at_ wi wr ke sp mi ba si ev z) (hI : IW s) (fo as : Nat → Int32) (p1 k0 a0 w0 r0 : Int32) :
    ∃ r fo2 k1 a1 w1 r1 as2 s2, uX7_sightFor nn p1 fo k0 a0 w0 r0 ba at_ cu ga ki st wi wr = some (r, fo2, k1, a1, w1, r1) ∧ uX8_sightFor nn p1 as fo s = some (r, as2, fo2, s2) ∧ RW s2 ga st cu ki at_ wi wr ke sp mi ba si ev z ∧ IW s2 := by
  have hV := hI.v
  obtain ⟨en, hle⟩ := hV.n
  have eb : ba = nI (nO s) := hR.ba_.symm.trans en
  unfold uX7_sightFor uX8_sightFor
  simp only [bather7, bather8, hR.ba_, find78, fnd0, fnd3, bb_cut_s, cl2, bb_b0_s, bb_b1_s, bb_b2_s, bb_b3_s, bb_b4_s, bb_b5_s, bb_b6_s, bb_b7_s, bb_b8_s, bb_b9_s, bb_b10_s, bb_b11_s, bb_b12_s, bb_b13_s, bb_b14_s, bb_b15_s, bb_b16_s]
  rcases win p1 0 (ba - 1) with ⟨e1, h1, h2⟩ | ⟨e1, -⟩
  · rw [eb] at h2
    obtain ⟨b, hb, rfl⟩ := bat hle h1 h2
    have hb8 : b < 8 := by omega
    obtain ⟨c1, c2, c3, c4⟩ := hR.k7 hV hb8
    simp only [e1, bb_b0_s, bb_b1_s, bb_b2_s, bb_b3_s, bb_b4_s, bb_b5_s, bb_b6_s, bb_b7_s, bb_b8_s, bb_b9_s, bb_b10_s, bb_b11_s, bb_b12_s, bb_b13_s, bb_b14_s, bb_b15_s, bb_b16_s, e10, e00, e11, if_true, if_false]
    generalize hT : (fun v => tSeen (kO s b) (wO s b) (qO s) (sc8 (upd s 2 (nI v))) (aO s b)) = T
    have hT1 : ∀ v, T v = tSeen (kO s b) (wO s b) (qO s) (sc8 (upd s 2 (nI v))) (aO s b) := fun k => by rw [← hT]
    have hTl : ∀ k, T k ≤ 101 := fun k => by rw [hT1]; exact tSeen_le _ _ _ _ _
    have L7 : ∀ K : Int32 → Int32 → Int32 → Int32 → Option (Int32 × (Nat → Int32) × Int32 × Int32 × Int32 × Int32), ∃ x1 x2 x3 x4, bb_loop5 (uX7_sightFor_s17 nn (nI b) fo at_ cu ga ki st wi wr K) nn 12 k0 a0 w0 r0 = if 0 ≤ lst (fun v => decide (100 < T v)) 13 then some (lst (fun v => decide (100 < T v)) 13, fo, x1, x2, x3, x4) else K x1 x2 x3 x4 := by
      intro K
      refine inv5 (fun i x1 _ _ _ _ => ∃ v, v + i = 13 ∧ x1 = nI v - 1 ∧ lst (fun v => decide (100 < T v)) 13 = lst (fun v => decide (100 < T v)) v) 13 (fun o => ∃ x1 x2 x3 x4, o = if 0 ≤ lst (fun v => decide (100 < T v)) 13 then some (lst (fun v => decide (100 < T v)) 13, fo, x1, x2, x3, x4) else K x1 x2 x3 x4) ?_ ?_ nn (by omega) 12 k0 a0 w0 r0 ⟨13, rfl, by decide, rfl⟩
      · rintro rec2 x1 x4 x5 x6 x7 ⟨v, hv, rfl, h⟩
        obtain rfl : v = 0 := by omega
        refine ⟨x4, x5, x6, x7, ?_⟩
        unfold uX7_sightFor_s17
        rw [if_pos (by decide), h, if_neg (show ¬ (0 : Int32) ≤ lst _ 0 from by show ¬ (0 : Int32) ≤ -1; decide)]
      · rintro rec2 i x1 x4 x5 x6 x7 hi ⟨v, hv, rfl, h⟩
        obtain ⟨v, rfl⟩ : ∃ w, v = w + 1 := ⟨v - 1, by omega⟩
        unfold uX7_sightFor_s17
        obtain ⟨u, y, e⟩ := tillSeenF (f := 101) (nn := nn) (x := seenX (nI v) ga st) (sn := sc8 (upd s 2 (nI v))) (cur := cu) (k := kO s b) (by omega) (by omega) (hV.k hb8).2 (hV.a hb8).2 (hV.w_ hb8).2 (hV.r hb8).2 (hR.q7 hV) (fun c hc => lb78 (hR.u_si (nI v)) hc)
        change _ = some (if tSeen (kO s b) (wO s b) (qO s) (sc8 (upd s 2 (nI v))) (aO s b) < 101 then nI (tSeen (kO s b) (wO s b) (qO s) (sc8 (upd s 2 (nI v))) (aO s b)) else -1, u, y) at e
        rw [← hT1] at e
        rw [nI_m1, if_neg (nI_nneg (by omega)), take4 hb8, bb_b4_s, c1, c2, c3, c4, seenCells6 (by omega), bb_b1_s, e101, e, bb_b3_s]
        have el : lst (fun v => decide (100 < T v)) (v + 1) = if 100 < T v then nI v else lst (fun v => decide (100 < T v)) v := by
          show (if decide (100 < T v) then nI v else lst (fun v => decide (100 < T v)) v) = _
          by_cases q : 100 < T v
          · simp [q]
          · simp [q]
        by_cases q : T v < 101
        · rw [if_pos q, if_pos (nI_pos' (by omega))]
          refine Or.inl ⟨_, _, _, _, _, ⟨v, by omega, ?_, ?_⟩, rfl⟩
          · rw [Int32.sub_eq_add_neg]
          · rw [h, el, if_neg (by omega)]
        · rw [if_neg q, if_neg (by decide)]
          refine Or.inr ⟨nI (kO s b), u, nI (wO s b), y, ?_⟩
          rw [h, el, if_pos (show 100 < T v by omega), if_pos (show (0 : Int32) ≤ nI v from nI_pos' (by omega))]
    have L8 : ∀ K : Int32 → (Nat → Int32) → (Nat → Int32) → Option (Int32 × (Nat → Int32) × (Nat → Int32) × (Nat → Int32)), ∃ as2 t, (∀ j, j < 155 → j ≠ 2 → t j = s j) ∧ bb_loop4 (uX8_sightFor_s26 nn (nI b) K) nn (-1) 0 as s = K (lst (fun v => decide (100 < T v)) 13) as2 t := by
      intro K
      refine inv4 (fun i x1 x3 _ t => x1 = lst (fun v => decide (100 < T v)) i ∧ x3 = nI i ∧ ∀ j, j < 155 → j ≠ 2 → t j = s j) 13 (fun o => ∃ as2 t, (∀ j, j < 155 → j ≠ 2 → t j = s j) ∧ o = K (lst (fun v => decide (100 < T v)) 13) as2 t) ?_ ?_ nn (by omega) (-1) 0 as s ⟨rfl, rfl, fun _ _ _ => rfl⟩
      · rintro rec2 x1 x3 as2 t ⟨rfl, rfl, h⟩
        exact ⟨as2, t, h, rfl⟩
      · rintro rec2 i x1 x3 as2 t hi ⟨rfl, rfl, h⟩
        refine Or.inl ?_
        unfold uX8_sightFor_s26
        have ht : ∀ j, j < 155 → upd t 2 (nI i) j = upd s 2 (nI i) j := fun j hj => by
          by_cases e : j = 2
          · subst e; rw [pk_us, pk_us]
          · rw [pk_un e, pk_un e]; exact h j hj e
        have hW : IW (upd t 2 (nI i)) := (hI.u_si ⟨i, by omega, rfl⟩).ext ht
        generalize hu : upd t 2 (nI i) = u at ht hW
        have hu2 : ∀ j, j < 155 → j ≠ 2 → u j = s j := fun j hj e => by rw [ht j hj, pk_un e]
        have e := untilSeen hn hW.v (b := b) (by rw [nO_eq (hu2 1 (by omega) (by omega))]; exact hb) as2
        rw [kO_eq (hu2 (105 + 5 * b) (by omega) (by omega)), wO_eq (hu2 (107 + 5 * b) (by omega) (by omega)), aO_eq (hu2 (106 + 5 * b) (by omega) (by omega)), tSeen_cong (q2 := qO s) (sn2 := sc8 (upd s 2 (nI i))) (hV.w_ hb8).2 (fun c hc => qO_eq (hu2 _ (by omega) (by omega))) (fun c hc => sc8_ext (ht 2 (by omega)) (fun j h5 h6 => ht j (by omega)) hc), ← hT1] at e
        rw [if_neg (show ¬ (12 : Int32) < nI i from nI_nlt (a := 12) (by omega) (by omega)), cl2, hu, e, bb_b3_s, bb_cut_s, p1_]
        have q1 := nI_le_iff (a := T i) (b := 100) (by have := hTl i; omega) (by omega)
        have el : lst (fun v => decide (100 < T v)) (i + 1) = if 100 < T i then nI i else lst (fun v => decide (100 < T v)) i := by
          show (if decide (100 < T i) then nI i else lst (fun v => decide (100 < T v)) i) = _
          by_cases q : 100 < T i
          · simp [q]
          · simp [q]
        by_cases hh : T i ≤ 100
        · rw [if_pos (show nI (T i) ≤ 100 from cast q1.symm hh)]
          refine ⟨_, _, _, _, ⟨?_, rfl, ?_⟩, rfl⟩
          · rw [el, if_neg (by omega)]
          · intro j hj e; rw [cp155_lt hj, cp155_lt hj]; exact hu2 j hj e
        · rw [if_neg (show ¬ nI (T i) ≤ 100 from fun q => hh (cast q1 q))]
          refine ⟨_, _, _, _, ⟨?_, rfl, ?_⟩, rfl⟩
          · rw [el, if_pos (by omega)]
          · intro j hj e; rw [cp155_lt hj, cp155_lt hj]; exact hu2 j hj e
    obtain ⟨y1, y2, y3, y4, f7⟩ := L7 (fun x2 x3 x4 x5 => some (-1000004, nfd 3 fo, x2, x3, x4, x5))
    obtain ⟨as2, t, ht, f8⟩ := L8 (fun x1 as2 t => if 0 ≤ x1 then some (x1, as2, fo, upd t 2 (s 2)) else some (-1000004, as2, nfd 3 fo, upd t 2 (s 2)))
    have hs2 : ∀ j, j < 155 → upd t 2 (s 2) j = s j := fun j hj => by
      by_cases e : j = 2
      · subst e; rw [pk_us]
      · rw [pk_un e]; exact ht j hj e
    rw [f7, f8]
    by_cases h : 0 ≤ lst (fun v => decide (100 < T v)) 13
    · rw [if_pos h, if_pos h]
      exact ⟨_, _, _, _, _, _, _, _, rfl, rfl, hR.ext hs2, hI.ext hs2⟩
    · rw [if_neg h, if_neg h]
      exact ⟨_, _, _, _, _, _, _, _, rfl, rfl, hR.ext hs2, hI.ext hs2⟩
  · simp only [e1, bb_b0_s, bb_b1_s, bb_b2_s, bb_b3_s, bb_b4_s, bb_b5_s, bb_b6_s, bb_b7_s, bb_b8_s, bb_b9_s, bb_b10_s, bb_b11_s, bb_b12_s, bb_b13_s, bb_b14_s, bb_b15_s, bb_b16_s, e10, e00, e11, if_true, if_false]
    exact ⟨_, _, _, _, _, _, _, _, rfl, rfl, hR, hI⟩
theorem orL4 (f : Nat → Int64) : orL f 4 = ((((0 : Int64) ||| f 0) ||| f 1) ||| f 2) ||| f 3 := rfl
def othX (si : Int32) (ga st : Nat → Int32) (g : Nat) : Int64 := orL (fun i => if i = g then 0 else orL (cb (fun c => sb7 si ga st c i)) 48) 4
theorem others6 {nn : Nat} (hn : 48 < nn) (si : Int32) (ga st : Nat → Int32) {g : Nat} (hg : g < 4) : uX6_seenByOthers nn (nI g) si ga st = some (othX si ga st g) := by
  unfold uX6_seenByOthers
  refine for2 (F1 := fun i => orL (fun i => if i = g then 0 else orL (cb (fun c => sb7 si ga st c i)) 48) i) (F2 := fun i => nI i) (N := 4) (fun rec2 => ?_) (fun rec2 i hi => ?_) nn (by omega)
  · rfl
  · unfold uX6_seenByOthers_s5
    rw [if_neg (show ¬ (4 : Int32) ≤ nI i from nI_ge (b := 4) hi (by omega)), bb_cut_s, p1_]
    by_cases h : i = g
    · subst h
      rw [if_pos rfl]
      show rec2 _ _ = rec2 (orL _ i ||| (if i = i then 0 else _)) _
      rw [if_pos rfl, orL0]
    · rw [if_neg (fun q => h ((nI_eq (by omega) (by omega)).mp q)), ixn hi (by decide), cln (by omega), seenFrom6 hn, bb_b1_s]
      show rec2 _ _ = rec2 (orL _ i ||| (if i = g then 0 else _)) _
      rw [if_neg h]
      rfl
theorem lb_oth (si : Int32) (ga st : Nat → Int32) {g c k : Nat} (hg : g < 4) (hk : k < 48) : lb (othX si ga st g ||| orL (cb (fun x => sv si (st x) (nI c) (nI x))) 48) k = lb (seenX si (upd ga g (nI c)) st) k := by
  rw [lb_seenX _ _ _ (by omega)]
  unfold othX
  rw [orL4]
  simp only [lb_or, lb_0]
  have e : ∀ i, lb (if i = g then 0 else orL (cb (fun x => sb7 si ga st x i)) 48) k = (!decide (i = g) && sb7 si ga st k i) := fun i => by
    by_cases h : i = g
    · rw [if_pos h, lb_0]; simp [h]
    · rw [if_neg h, lb_cells _ (by omega)]; simp [h, hk]
  rw [e, e, e, e, lb_cells _ (by omega)]
  have hk2 : decide (k < 48) = true := by simp [hk]
  rw [hk2, Bool.true_and, Bool.true_and]
  unfold anyG
  rcases (show g = 0 ∨ g = 1 ∨ g = 2 ∨ g = 3 by omega) with rfl | rfl | rfl | rfl
  all_goals (simp [sb7, upd]; try ac_rfl)
theorem op_trap {nn : Nat} (hn : 155 < nn) (hR : RW s ga st cu ki at_ wi wr ke sp mi ba si ev z) (hI : IW s) (fo as : Nat → Int32) (p1 p2 k0 a0 w0 r0 : Int32) :
    ∃ r fo2 k1 a1 w1 r1 as2 s2, uX7_trap nn p1 p2 fo k0 a0 w0 r0 si ba at_ cu ga ki st wi wr = some (r, fo2, k1, a1, w1, r1) ∧ uX8_trap nn p1 p2 as fo s = some (r, as2, fo2, s2) ∧ RW s2 ga st cu ki at_ wi wr ke sp mi ba si ev z ∧ IW s2 := by
  have hV := hI.v
  obtain ⟨en, hle⟩ := hV.n
  have eb : ba = nI (nO s) := hR.ba_.symm.trans en
  unfold uX7_trap uX8_trap
  simp only [guard7, guard8, bather7, bather8, hR.ba_, find78, fnd0, fnd3, bb_cut_s, bb_b0_s, bb_b1_s, bb_b2_s, bb_b3_s, bb_b4_s, bb_b5_s, bb_b6_s, bb_b7_s, bb_b8_s, bb_b9_s, bb_b10_s, bb_b11_s, bb_b12_s, bb_b13_s, bb_b14_s, bb_b15_s, bb_b16_s]
  rcases win p1 0 3 with ⟨e0, h3, h4⟩ | ⟨e0, -⟩
  · rcases win p2 0 (ba - 1) with ⟨e1, h1, h2⟩ | ⟨e1, -⟩
    · rw [eb] at h2
      obtain ⟨b, hb, rfl⟩ := bat hle h1 h2
      obtain ⟨g, hg, rfl⟩ := nat_of (n := 3) (by decide) h3 h4
      have hb8 : b < 8 := by omega
      have hg4 : g < 4 := by omega
      obtain ⟨c1, c2, c3, c4⟩ := hR.k7 hV hb8
      simp only [e0, e1, bb_b0_s, bb_b1_s, bb_b2_s, bb_b3_s, bb_b4_s, bb_b5_s, bb_b6_s, bb_b7_s, bb_b8_s, bb_b9_s, bb_b10_s, bb_b11_s, bb_b12_s, bb_b13_s, bb_b14_s, bb_b15_s, bb_b16_s, e10, e00, e11, if_true, if_false, others6 (show 48 < nn by omega) si ga st hg4, a5_, ixn (show 5 + g < 155 by omega) (show 155 < 2 ^ 31 by decide), cln (show 5 + g < 2 ^ 31 by omega)]
      generalize hT : (fun c => tSeen (kO s b) (wO s b) (qO s) (sc8 (upd s (5 + g) (nI c))) (aO s b)) = T
      have hT1 : ∀ v, T v = tSeen (kO s b) (wO s b) (qO s) (sc8 (upd s (5 + g) (nI v))) (aO s b) := fun k => by rw [← hT]
      have hTl : ∀ k, T k ≤ 101 := fun k => by rw [hT1]; exact tSeen_le _ _ _ _ _
      have L7 : ∀ K : Int32 → Int32 → Int32 → Int32 → Int32 → Option (Int32 × (Nat → Int32) × Int32 × Int32 × Int32 × Int32), ∃ x1 x2 x3 x4, bb_loop7 (uX7_trap_s40 nn (nI b) (othX si ga st g) si at_ cu ki st wi wr K) nn (-1) 101 0 k0 a0 w0 r0 = K (bsi T 48) x1 x2 x3 x4 := by
        intro K
        refine inv7 (fun i x1 x2 x3 _ _ _ _ => x1 = bsi T i ∧ x2 = nI (bst T i) ∧ x3 = nI i) 48 (fun o => ∃ x1 x2 x3 x4, o = K (bsi T 48) x1 x2 x3 x4) ?_ ?_ nn (by omega) (-1) 101 0 k0 a0 w0 r0 ⟨rfl, rfl, rfl⟩
        · rintro rec2 x1 x2 x3 x4 x5 x6 x7 ⟨h1, h2, h3⟩
          unfold uX7_trap_s40
          rw [h3, h1, if_pos (by decide)]
          exact ⟨_, _, _, _, rfl⟩
        · rintro rec2 i x1 x2 x3 x4 x5 x6 x7 hi ⟨rfl, rfl, rfl⟩
          unfold uX7_trap_s40
          rw [if_neg (show ¬ (48 : Int32) ≤ nI i from nI_ge (b := 48) hi (by omega))]
          by_cases hz : bst T i = 0
          · refine Or.inr ⟨x4, x5, x6, x7, ?_⟩
            rw [hz, if_pos (by decide)]
            have := (bsi_zero hz (48 - i)).2
            rw [show i + (48 - i) = 48 by omega] at this
            rw [this]
          · refine Or.inl ?_
            obtain ⟨u, v, e⟩ := tillSeenF (f := bst T i) (nn := nn) (x := othX si ga st g ||| orL (cb (fun x => sv si (st x) (nI i) (nI x))) 48) (sn := sc8 (upd s (5 + g) (nI i))) (cur := cu) (k := kO s b) (by have := bst_le T i; omega) (bst_le T i) (hV.k hb8).2 (hV.a hb8).2 (hV.w_ hb8).2 (hV.r hb8).2 (hR.q7 hV) (fun c hc => by rw [lb_oth si ga st hg4 hc]; exact lb78 (hR.u_ga hg4 (nI i)) hc)
            change _ = some (if tSeen (kO s b) (wO s b) (qO s) (sc8 (upd s (5 + g) (nI i))) (aO s b) < bst T i then nI (tSeen (kO s b) (wO s b) (qO s) (sc8 (upd s (5 + g) (nI i))) (aO s b)) else -1, u, v) at e
            rw [← hT1] at e
            rw [if_neg (show ¬ nI (bst T i) ≤ 0 from nI_ge (b := bst T i) (a := 0) (by omega) (by have := bst_le T i; omega)), take4 hb8, bb_b4_s, seenFrom6 (by omega), bb_b1_s, c1, c2, c3, c4, e, bb_b3_s, bb_cut_s, p1_]
            by_cases h : T i < bst T i
            · rw [if_pos h, if_neg (nI_nneg (by have := hTl i; omega))]
              refine ⟨_, _, _, _, _, _, _, ⟨?_, ?_, rfl⟩, rfl⟩
              · show _ = if T i < bst T i then nI i else bsi T i
                rw [if_pos h]
              · show _ = nI (if T i < bst T i then T i else bst T i)
                rw [if_pos h]
            · rw [if_neg h, if_pos (by decide)]
              refine ⟨_, _, _, _, _, _, _, ⟨?_, ?_, rfl⟩, rfl⟩
              · show _ = if T i < bst T i then nI i else bsi T i
                rw [if_neg h]
              · show _ = nI (if T i < bst T i then T i else bst T i)
                rw [if_neg h]
      have L8 : ∀ K : Int32 → (Nat → Int32) → (Nat → Int32) → Option (Int32 × (Nat → Int32) × (Nat → Int32) × (Nat → Int32)), ∃ as2 t, (∀ j, j < 155 → j ≠ 5 + g → t j = s j) ∧ bb_loop5 (uX8_trap_s40 nn (nI g) (nI b) K) nn (-1) 101 0 as s = K (bsi T 48) as2 t := by
        intro K
        refine inv5 (fun i x1 x2 x3 _ t => x1 = bsi T i ∧ x2 = nI (bst T i) ∧ x3 = nI i ∧ ∀ j, j < 155 → j ≠ 5 + g → t j = s j) 48 (fun o => ∃ as2 t, (∀ j, j < 155 → j ≠ 5 + g → t j = s j) ∧ o = K (bsi T 48) as2 t) ?_ ?_ nn (by omega) (-1) 101 0 as s ⟨rfl, rfl, rfl, fun _ _ _ => rfl⟩
        · rintro rec2 x1 x2 x3 as2 t ⟨h1, h2, h3, h⟩
          unfold uX8_trap_s40
          rw [h3, h1, if_pos (by decide)]
          exact ⟨as2, t, h, rfl⟩
        · rintro rec2 i x1 x2 x3 as2 t hi ⟨rfl, rfl, rfl, h⟩
          refine Or.inl ?_
          unfold uX8_trap_s40
          have ht : ∀ j, j < 155 → upd t (5 + g) (nI i) j = upd s (5 + g) (nI i) j := fun j hj => by
            by_cases e : j = 5 + g
            · subst e; rw [pk_us, pk_us]
            · rw [pk_un e, pk_un e]; exact h j hj e
          have hW : IW (upd t (5 + g) (nI i)) := (hI.u_ga hg4 (Or.inr ⟨i, by omega, rfl⟩)).ext ht
          simp only [a5_, ixn (show 5 + g < 155 by omega) (show 155 < 2 ^ 31 by decide), cln (show 5 + g < 2 ^ 31 by omega)]
          generalize hu : upd t (5 + g) (nI i) = u at ht hW
          have hu2 : ∀ j, j < 155 → j ≠ 5 + g → u j = s j := fun j hj e => by rw [ht j hj, pk_un e]
          have e := untilSeen hn hW.v (b := b) (by rw [nO_eq (hu2 1 (by omega) (by omega))]; exact hb) as2
          rw [kO_eq (hu2 (105 + 5 * b) (by omega) (by omega)), wO_eq (hu2 (107 + 5 * b) (by omega) (by omega)), aO_eq (hu2 (106 + 5 * b) (by omega) (by omega)), tSeen_cong (q2 := qO s) (sn2 := sc8 (upd s (5 + g) (nI i))) (hV.w_ hb8).2 (fun c hc => qO_eq (hu2 _ (by omega) (by omega))) (fun c hc => sc8_ext (ht 2 (by omega)) (fun j h5 h6 => ht j (by omega)) hc), ← hT1] at e
          rw [if_neg (show ¬ (48 : Int32) ≤ nI i from nI_ge (b := 48) hi (by omega)), e, bb_b3_s, bb_cut_s, p1_]
          have q1 := nI_le_iff (a := bst T i) (b := T i) (by have := bst_le T i; omega) (by have := hTl i; omega)
          have q2 := nI_lt_iff (a := T i) (b := bst T i) (by have := hTl i; omega) (by have := bst_le T i; omega)
          by_cases hh : T i < bst T i
          · rw [if_neg (show ¬ nI (bst T i) ≤ nI (T i) by rw [q1]; omega), if_pos (show nI (T i) < nI (bst T i) by rw [q2]; exact hh)]
            refine ⟨_, _, _, _, _, ⟨?_, ?_, rfl, ?_⟩, rfl⟩
            · show _ = if T i < bst T i then nI i else bsi T i
              rw [if_pos hh]
            · show _ = nI (if T i < bst T i then T i else bst T i)
              rw [if_pos hh]
            · intro j hj e; rw [cp155_lt hj, cp155_lt hj]; exact hu2 j hj e
          · rw [if_pos (show nI (bst T i) ≤ nI (T i) by rw [q1]; omega), if_neg (show ¬ nI (T i) < nI (bst T i) by rw [q2]; exact hh)]
            refine ⟨_, _, _, _, _, ⟨?_, ?_, rfl, ?_⟩, rfl⟩
            · show _ = if T i < bst T i then nI i else bsi T i
              rw [if_neg hh]
            · show _ = nI (if T i < bst T i then T i else bst T i)
              rw [if_neg hh]
            · intro j hj e; rw [cp155_lt hj, cp155_lt hj]; exact hu2 j hj e
      obtain ⟨y1, y2, y3, y4, f7⟩ := L7 (fun x1 x2 x3 x4 x5 => if 0 ≤ x1 then some (x1, fo, x2, x3, x4, x5) else some (-1000004, nfd 3 fo, x2, x3, x4, x5))
      obtain ⟨as2, t, ht, f8⟩ := L8 (fun x1 as2 t => if 0 ≤ x1 then some (x1, as2, fo, upd t (5 + g) (s (5 + g))) else some (-1000004, as2, nfd 3 fo, upd t (5 + g) (s (5 + g))))
      have hs2 : ∀ j, j < 155 → upd t (5 + g) (s (5 + g)) j = s j := fun j hj => by
        by_cases e : j = 5 + g
        · subst e; rw [pk_us]
        · rw [pk_un e]; exact ht j hj e
      rw [f7, f8]
      by_cases h : 0 ≤ bsi T 48
      · rw [if_pos h, if_pos h]
        exact ⟨_, _, _, _, _, _, _, _, rfl, rfl, hR.ext hs2, hI.ext hs2⟩
      · rw [if_neg h, if_neg h]
        exact ⟨_, _, _, _, _, _, _, _, rfl, rfl, hR.ext hs2, hI.ext hs2⟩
    · simp only [e0, e1, bb_b0_s, bb_b1_s, bb_b2_s, bb_b3_s, bb_b4_s, bb_b5_s, bb_b6_s, bb_b7_s, bb_b8_s, bb_b9_s, bb_b10_s, bb_b11_s, bb_b12_s, bb_b13_s, bb_b14_s, bb_b15_s, bb_b16_s, e10, e00, e11, if_true, if_false]
      exact ⟨_, _, _, _, _, _, _, _, rfl, rfl, hR, hI⟩
  · simp only [e0, bb_b0_s, bb_b1_s, bb_b2_s, bb_b3_s, bb_b4_s, bb_b5_s, bb_b6_s, bb_b7_s, bb_b8_s, bb_b9_s, bb_b10_s, bb_b11_s, bb_b12_s, bb_b13_s, bb_b14_s, bb_b15_s, bb_b16_s, e10, e00, e11, if_true, if_false]
    exact ⟨_, _, _, _, _, _, _, _, rfl, rfl, hR, hI⟩
end TRAP
