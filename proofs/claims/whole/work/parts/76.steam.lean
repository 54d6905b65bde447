/-! ===== next, steamFor ===== -/
section NEXT
variable {s ga st cu ki at_ wi wr ke sp : Nat → Int32} {mi ba si ev z : Int32}
theorem op_next {nn : Nat} (hn : 155 < nn) (hR : RW s ga st cu ki at_ wi wr ke sp mi ba si ev z) (fo fa is pr : Nat → Int32) (p1 p2 : Int32) :
    ∃ r fo2 fa2 is2 pr2, uX7_next nn p1 p2 fo si ga st = some (r, fo2) ∧ uX8_next nn p1 p2 fa fo is pr s = some (r, fa2, fo2, is2, pr2) := by
  unfold uX7_next uX8_next
  simp only [cell0, cell8, side7, side8, find78, fnd0, fnd3, bb_cut_s, bb_b0_s, bb_b1_s, bb_b2_s, bb_b3_s, bb_b4_s, bb_b5_s, bb_b6_s, bb_b7_s, bb_b8_s, bb_b9_s, bb_b10_s, bb_b11_s, bb_b12_s, bb_b13_s, bb_b14_s, bb_b15_s, bb_b16_s]
  rcases win p1 0 47 with ⟨e1, a1, b1⟩ | ⟨e1, -⟩
  · rcases win p2 0 1 with ⟨e2, a2, b2⟩ | ⟨e2, -⟩
    · obtain ⟨c, hc', rfl⟩ := nat_of (n := 47) (by decide) a1 b1
      obtain ⟨w, hw', rfl⟩ := nat_of (n := 1) (by decide) a2 b2
      have hc : c < 48 := by omega
      have hw : w < 2 := by omega
      obtain ⟨f, hf, ef⟩ := pricesW8 (s := s) hn pr
      obtain ⟨far2, dn2, F, eF, hF, hRES⟩ := findFar8 (p := prW s) (m := 1) hn hw (by omega) hf (fun d hd h => by rw [prW_1 s d hd h]; exact Nat.le_refl _) (prW_2 s) fa is
      have e5 : ∀ d, d < 48 → uX5_fewestSteps nn (nI d) (nI w) (seenX si ga st ^^^ (-1)) = some (if F d < 1000000 then nI (F d - 1) else -1) := fun d hd => fewest5 hn hw hd (prW_1 s) (free78 hR) hRES
      have hK := fun d hd => RES_RK (prW_1 s) hRES (c := d) hd
      simp only [e1, e2, ef, eF, seenCells6 (show 48 < nn by omega), ixn hc (show 48 < 2 ^ 31 by decide), cln (show c < 2 ^ 31 by omega), hF c hc, bb_b0_s, bb_b1_s, bb_b2_s, bb_b3_s, bb_b4_s, bb_b5_s, bb_b6_s, bb_b7_s, bb_b8_s, bb_b9_s, bb_b10_s, bb_b11_s, bb_b12_s, bb_b13_s, bb_b14_s, bb_b15_s, bb_b16_s, e10, e00, e11, if_true, if_false]
      unfold uX5_firstStep
      rw [e5 c hc, bb_b1_s]
      rcases hK c hc with ⟨q1, q2⟩ | ⟨q1, q2, q3, q4⟩
      · rw [q1]
        simp only [if_neg (show ¬ (1000000 : Nat) < 1000000 by omega), if_neg (show ¬ (0 : Int32) ≤ -1 by decide), if_neg (show ¬ (0 : Int32) < -1 by decide), if_neg (show ¬ nI 1000000 < (1000000 : Int32) by decide), bb_b0_s, bb_b1_s, bb_b2_s, bb_b3_s, bb_b4_s, bb_b5_s, bb_b6_s, bb_b7_s, bb_b8_s, bb_b9_s, bb_b10_s, bb_b11_s, bb_b12_s, bb_b13_s, bb_b14_s, bb_b15_s, bb_b16_s]
        exact ⟨_, _, _, _, _, rfl, rfl⟩
      · rw [if_pos (show F c < 1000000 by omega)]
        rw [if_pos (show nI (F c) < (1000000 : Int32) from nI_lt (b := 1000000) (by omega) (by omega))]
        have b8 : ∀ d, d < 48 → 1 ≤ F d ∧ F d ≤ 1000000 := fun d hd => by
          rcases hK d hd with ⟨r1, -⟩ | ⟨r1, r2, -⟩ <;> omega
        have L8 : ∀ x0, (x0 = 48 ∨ F c = 1) → x0 ≤ 48 → ∃ j, bb_loop2 (uX8_next_s67 (nI c) far2 fo dn2 f) nn (nI x0) 1 = some (nI j, far2, fo, dn2, f) ∧ (F c = 1 → j = x0) ∧ (1 < F c → (j = 48 ∧ ∀ d, d < 48 → adjB c d = true → ¬ F d + 1 = F c) ∨ (j < 48 ∧ adjB c j = true ∧ F j + 1 = F c ∧ ∀ d, d < 48 → adjB c d = true → F d + 1 = F c → j ≤ d)) := by
          intro x0 hx0 hx1
          refine inv2 (fun i x1 x2 => x2 = nI (i + 1) ∧ ∃ j, x1 = nI j ∧ j ≤ 48 ∧ (F c = 1 → j = x0) ∧ (1 < F c → (j = 48 ∧ ∀ d, d < 48 → nbK c i d = true → ¬ F d + 1 = F c) ∨ (j < 48 ∧ nbK c i j = true ∧ F j + 1 = F c ∧ ∀ d, d < 48 → nbK c i d = true → F d + 1 = F c → j ≤ d))) 4 (fun o => ∃ j, o = some (nI j, far2, fo, dn2, f) ∧ (F c = 1 → j = x0) ∧ (1 < F c → (j = 48 ∧ ∀ d, d < 48 → adjB c d = true → ¬ F d + 1 = F c) ∨ (j < 48 ∧ adjB c j = true ∧ F j + 1 = F c ∧ ∀ d, d < 48 → adjB c d = true → F d + 1 = F c → j ≤ d))) ?_ ?_ nn (by omega) (nI x0) 1 ⟨rfl, x0, rfl, hx1, fun _ => rfl, fun h => Or.inl ⟨by omega, fun d _ hd => by simp [nbK] at hd⟩⟩
          · rintro rec2 x1 x2 ⟨rfl, j, rfl, hj, h1, h2⟩
            refine ⟨j, ?_, h1, h2⟩
            unfold uX8_next_s67
            rw [if_pos (by decide)]
          · rintro rec2 i x1 x2 hi ⟨rfl, j, rfl, hj, h1, h2⟩
            refine Or.inl ?_
            unfold uX8_next_s67
            rw [if_neg (show ¬ (4 : Int32) < nI (i + 1) from nI_nlt (b := i + 1) (a := 4) (by omega) (by decide)), be8 (i + 1) (by omega) c hc, bb_b1_s]
            simp only [bb_cut_s, p1_]
            cases e : be c (i + 1) with
            | none =>
              have hk : ∀ d, nbK c (i + 1) d = nbK c i d := fun d => by rw [nbK, e]; simp
              rw [if_pos (show on none < 0 by decide)]
              refine ⟨_, _, ⟨rfl, j, rfl, hj, h1, ?_⟩, rfl⟩
              simp only [hk]
              exact h2
            | some d0 =>
              have hd0 := be_lt hc e
              have hk : ∀ d, nbK c (i + 1) d = (nbK c i d || decide (d0 = d)) := fun d => by rw [nbK, e]; simp
              have en : on (some d0) = nI d0 := rfl
              have bd := b8 d0 hd0
              simp only [en, if_neg (nI_nneg (show d0 < 2 ^ 31 by omega)), ixn hd0 (show 48 < 2 ^ 31 by decide), ixn hc (show 48 < 2 ^ 31 by decide), cln (show d0 < 2 ^ 31 by omega), cln (show c < 2 ^ 31 by omega), hF d0 hd0, hF c hc, show nI (F c) - 1 = nI (F c - 1) from pk_sub (b := 1) q1]
              by_cases g : F d0 = F c - 1
              · rw [if_pos (by rw [g]), minU (by omega) (by omega)]
                refine ⟨_, _, ⟨rfl, min j d0, rfl, by omega, fun h => by omega, fun h => Or.inr ?_⟩, rfl⟩
                rcases h2 h with ⟨r1, r2⟩ | ⟨r1, r2, r3, r4⟩
                · have em : min j d0 = d0 := by omega
                  rw [em]
                  refine ⟨hd0, by rw [hk]; simp, by omega, fun d hd hkd hFd => ?_⟩
                  rw [hk] at hkd
                  simp only [Bool.or_eq_true, decide_eq_true_eq] at hkd
                  rcases hkd with u | u
                  · exact absurd hFd (r2 d hd u)
                  · omega
                · have low : ∀ d, d < 48 → nbK c (i + 1) d = true → F d + 1 = F c → min j d0 ≤ d := fun d hd hkd hFd => by
                    rw [hk] at hkd
                    simp only [Bool.or_eq_true, decide_eq_true_eq] at hkd
                    rcases hkd with u | u
                    · have := r4 d hd u hFd
                      omega
                    · omega
                  rcases Nat.le_total j d0 with u | u
                  · rw [Nat.min_eq_left u] at low ⊢
                    exact ⟨r1, by rw [hk, r2]; rfl, r3, low⟩
                  · rw [Nat.min_eq_right u] at low ⊢
                    exact ⟨hd0, by rw [hk]; simp, by omega, low⟩
              · rw [if_neg (by rw [nI_eq (by omega) (by omega)]; exact g)]
                refine ⟨_, _, ⟨rfl, j, rfl, hj, h1, fun h => ?_⟩, rfl⟩
                rcases h2 h with ⟨r1, r2⟩ | ⟨r1, r2, r3, r4⟩
                · refine Or.inl ⟨r1, fun d hd hkd hFd => ?_⟩
                  rw [hk] at hkd
                  simp only [Bool.or_eq_true, decide_eq_true_eq] at hkd
                  rcases hkd with u | u
                  · exact r2 d hd u hFd
                  · subst u; omega
                · refine Or.inr ⟨r1, by rw [hk, r2]; rfl, r3, fun d hd hkd hFd => ?_⟩
                  rw [hk] at hkd
                  simp only [Bool.or_eq_true, decide_eq_true_eq] at hkd
                  rcases hkd with u | u
                  · exact r4 d hd u hFd
                  · subst u; omega
        by_cases g1 : F c = 1
        · obtain ⟨j, ej, hj1, -⟩ := L8 c (Or.inr g1) (by omega)
          have hj := hj1 g1
          subst hj
          rw [g1, if_neg (show ¬ (0 : Int32) < nI (1 - 1) by decide), if_pos (show (0 : Int32) ≤ nI (1 - 1) by decide), bb_b1_s, if_pos (nI_pos' (by omega)), if_pos (show nI 1 = (1 : Int32) from rfl), ej]
          exact ⟨_, _, _, _, _, rfl, rfl⟩
        · obtain ⟨j, ej, -, hj2⟩ := L8 48 (Or.inl rfl) (by omega)
          have hex : ∃ d, d < 48 ∧ adjB c d = true ∧ F d + 1 = F c := by
            have e6 : F c - 1 = F c - 2 + 1 := by omega
            have q5 := q3
            rw [e6] at q5
            obtain ⟨b, r1, r2⟩ := RK_pred q5
            have hb := RK_lt r1
            refine ⟨b, hb, by rw [adj_sym c hc b hb]; exact r2, ?_⟩
            rcases hK b hb with ⟨u1, u2⟩ | ⟨u1, u2, u3, u4⟩
            · exact absurd r1 (u2 _)
            · have v1 := u4 _ r1
              have v2 := q4 _ (RK_succ u3 hc (RK_p q3) r2)
              omega
          obtain ⟨d1, v1, v2, v3⟩ := hex
          obtain ⟨j1, j2, j3, j4⟩ := (hj2 (by omega)).resolve_left (fun h => h.2 d1 v1 v2 v3)
          rw [if_pos (show (0 : Int32) < nI (F c - 1) from nI_lt (a := 0) (by omega) (by omega)), if_neg (show ¬ nI (F c) = 1 by rw [show (1 : Int32) = nI 1 from rfl, nI_eq (by omega) (by omega)]; exact g1)]
          have L7 : bb_loop1 (uX5_firstStep_s27 nn (nI c) (nI w) (seenX si ga st ^^^ (-1)) (nI (F c - 1))) nn 0 = some (nI j) := by
            refine inv1 (fun i x => x = nI i ∧ ∀ d, d < i → ¬ (adjB c d = true ∧ F d + 1 = F c)) 48 (fun o => o = some (nI j)) ?_ ?_ nn (by omega) 0 ⟨rfl, fun d hd => by omega⟩
            · rintro rec2 x ⟨rfl, h⟩
              exact absurd ⟨j2, j3⟩ (h j j1)
            · rintro rec2 i x hi ⟨rfl, h⟩
              unfold uX5_firstStep_s27
              rw [if_neg (show ¬ (48 : Int32) ≤ nI i from nI_ge (b := 48) hi (by decide)), ap0, bb_b1_s]
              simp only [bb_cut_s, e5 i hi, p1_, bb_b1_s]
              have ea := adj_ap c hc i hi
              have em : nI (F c - 1) - 1 = nI (F c - 2) := by rw [show F c - 2 = F c - 1 - 1 by omega]; exact pk_sub (b := 1) (by omega)
              rw [em]
              have no : ¬ (adjB c i = true ∧ F i + 1 = F c) → ∀ d, d < i + 1 → ¬ (adjB c d = true ∧ F d + 1 = F c) := fun hno d hd => lt_succ_cases hd (h d) (fun e => by subst e; exact hno)
              by_cases g : adjB c i = true
              · rw [if_pos (ea.mpr g)]
                have bi := b8 i hi
                by_cases g2 : F i + 1 = F c
                · refine Or.inr ?_
                  rw [if_pos (show F i < 1000000 by omega), if_pos (by congr 1; omega)]
                  have := j4 i hi g g2
                  rcases Nat.lt_or_ge j i with u | u
                  · exact absurd ⟨j2, j3⟩ (h j u)
                  · rw [show j = i by omega]
                · refine Or.inl ⟨_, ⟨rfl, no (fun q => g2 q.2)⟩, ?_⟩
                  by_cases g3 : F i < 1000000
                  · rw [if_pos g3, if_neg (by rw [nI_eq (by omega) (by omega)]; omega)]
                  · rw [if_neg g3, if_neg]
                    intro q
                    have q9 := congrArg Int32.toInt q
                    rw [nI_toInt (by omega), show (-1 : Int32).toInt = -1 by decide] at q9
                    omega
              · refine Or.inl ⟨_, ⟨rfl, no (fun q => g q.1)⟩, ?_⟩
                rw [if_neg (fun q => g (ea.mp q))]
          rw [L7, bb_b1_s, if_pos (nI_pos' (by omega)), show (48 : Int32) = nI 48 from rfl, ej]
          exact ⟨_, _, _, _, _, rfl, rfl⟩
    · simp only [e1, e2, bb_b0_s, bb_b1_s, bb_b2_s, bb_b3_s, bb_b4_s, bb_b5_s, bb_b6_s, bb_b7_s, bb_b8_s, bb_b9_s, bb_b10_s, bb_b11_s, bb_b12_s, bb_b13_s, bb_b14_s, bb_b15_s, bb_b16_s, e10, e00, e11, if_true, if_false]
      exact ⟨_, _, _, _, _, rfl, rfl⟩
  · simp only [e1, bb_b0_s, bb_b1_s, bb_b2_s, bb_b3_s, bb_b4_s, bb_b5_s, bb_b6_s, bb_b7_s, bb_b8_s, bb_b9_s, bb_b10_s, bb_b11_s, bb_b12_s, bb_b13_s, bb_b14_s, bb_b15_s, bb_b16_s, e10, e00, e11, if_true, if_false]
    exact ⟨_, _, _, _, _, rfl, rfl⟩
end NEXT
