/-! ===== a text ===== -/
theorem loop15_ {α1 α2 α3 α4 α5 α6 α7 α8 α9 α10 α11 α12 α13 α14 α15 β : Type} (st : (α1 → α2 → α3 → α4 → α5 → α6 → α7 → α8 → α9 → α10 → α11 → α12 → α13 → α14 → α15 → Option β) → α1 → α2 → α3 → α4 → α5 → α6 → α7 → α8 → α9 → α10 → α11 → α12 → α13 → α14 → α15 → Option β) (m : Nat) (x1 : α1) (x2 : α2) (x3 : α3) (x4 : α4) (x5 : α5) (x6 : α6) (x7 : α7) (x8 : α8) (x9 : α9) (x10 : α10) (x11 : α11) (x12 : α12) (x13 : α13) (x14 : α14) (x15 : α15) : bb_loop15 st (m + 1) x1 x2 x3 x4 x5 x6 x7 x8 x9 x10 x11 x12 x13 x14 x15 = st (bb_loop15 st m) x1 x2 x3 x4 x5 x6 x7 x8 x9 x10 x11 x12 x13 x14 x15 := rfl
theorem loop5_ {α1 α2 α3 α4 α5 β : Type} (st : (α1 → α2 → α3 → α4 → α5 → Option β) → α1 → α2 → α3 → α4 → α5 → Option β) (m : Nat) (x1 : α1) (x2 : α2) (x3 : α3) (x4 : α4) (x5 : α5) : bb_loop5 st (m + 1) x1 x2 x3 x4 x5 = st (bb_loop5 st m) x1 x2 x3 x4 x5 := rfl
def KE (a b c d e1 f1 : Int32) (g1 g2 g3 g4 g5 g6 g7 g8 : Nat → Int32) : Option (Int32 × Int32 × Int32 × Int32 × Int32 × Int32 × Int32 × (Nat → Int32) × (Nat → Int32) × (Nat → Int32) × (Nat → Int32) × (Nat → Int32) × (Nat → Int32) × (Nat → Int32) × (Nat → Int32)) := some ((-1 : Int32) - c, a, b, c, d, e1, f1, g1, g2, g3, g4, g5, g6, g7, g8)
theorem mw14 {n : Nat} {V : Nat → Nat} {tb tc tp : Nat → Int32} {q e : Nat} (hB : TB n V tb tc tp) (hT : TK n V q e) (hq : q < n) : mw V 14 q e = decide (clN (V q) = 3) := by
  obtain ⟨-, b2, -, -⟩ := hB.2 q hq
  have hl : bb_len 14 = 1 := by decide
  have hb : bb_byt 14 0 = nI 59 := by decide
  obtain ⟨t1, t2, t3⟩ := hT
  obtain ⟨t4, t5, t6⟩ := t3 hq
  have e1 : mw V 14 q e = (decide (e - q = 1) && (true && decide (nI (V q) = nI 59))) := by
    unfold mw
    rw [hl]
    show (decide (e - q = 1) && (true && decide (nI (V (q + 0)) = bb_byt 14 0))) = _
    rw [hb, Nat.add_zero]
  rw [e1, Bool.true_and]
  by_cases g : V q = 59
  · have hc := (clN_3 _).mpr g
    have := t6 (Or.inl hc)
    rw [decide_eq_true hc, g, decide_eq_true (show e - q = 1 by omega)]
    rfl
  · rw [decide_eq_false (fun h => g ((clN_3 _).mp h)), decide_eq_false (show ¬ nI (V q) = nI 59 by rw [nI_eq (by omega) (by omega)]; exact g), Bool.and_false]
section TEXT
variable {n nn : Nat} {V : Nat → Nat} {tb tc tp sp : Nat → Int32} {mi ev z : Int32}
theorem rd78 (hB : TB n V tb tc tp) (hn : 155 < nn) (K : Int32 → Int32 → Int32 → Int32 → (Nat → Int32) → Option (Int32 × Int32 × Int32 × Int32 × Int32 × (Nat → Int32) × (Nat → Int32))) : ∀ d i n1 n2 q e (s ga st cu ki at_ wi wr ke : Nat → Int32) (ba si nu : Int32), n - q ≤ d → d < n1 → d + 1 < n2 → 2 * i ≤ q → TK n V q e → RW s ga st cu ki at_ wi wr ke sp mi ba si ev z → IW s →
    (∃ j nu2 tk2 q2 e2 si2 ba2 at2 cu2 ga2 ke2 ki2 st2 wi2 wr2 s2, j ≤ 120 ∧ bb_loop15 (uX3_read_s9 nn (nI n) tb tc KE KE KE) n1 (nI (i + 1)) nu (nI (tkV n V q)) (nI q) (nI e) si ba at_ cu ga ke ki st wi wr = some (nI j, nu2, tk2, q2, e2, si2, ba2, at2, cu2, ga2, ke2, ki2, st2, wi2, wr2) ∧ bb_b4 (uX8_item nn (nI n) (nI q) (nI e) 0 s tp) (fun a b c d => bb_loop5 (uX8_text_s24 nn (nI n) tp K) n2 (nI (i + 1)) a b c d) = K (nI j) q2 e2 0 s2 ∧ RW s2 ga2 st2 cu2 ki2 at2 wi2 wr2 ke2 sp mi ba2 si2 ev z ∧ IW s2) ∨
    (∃ j nu2 tk2 q2 e2 f2 si2 ba2 at2 cu2 ga2 ke2 ki2 st2 wi2 wr2 s2, q2 ≤ n ∧ bb_loop15 (uX3_read_s9 nn (nI n) tb tc KE KE KE) n1 (nI (i + 1)) nu (nI (tkV n V q)) (nI q) (nI e) si ba at_ cu ga ke ki st wi wr = some (-1 - nI q2, nu2, tk2, nI q2, e2, si2, ba2, at2, cu2, ga2, ke2, ki2, st2, wi2, wr2) ∧ bb_b4 (uX8_item nn (nI n) (nI q) (nI e) 0 s tp) (fun a b c d => bb_loop5 (uX8_text_s24 nn (nI n) tp K) n2 (nI (i + 1)) a b c d) = K j (nI q2) f2 1 s2) := by
  have h120 := hB.1
  intro d
  induction d with
  | zero =>
    intro i n1 n2 q e s ga st cu ki at_ wi wr ke ba si nu h1 h2 h3 h4 hT hR hI
    obtain ⟨m1, rfl⟩ : ∃ m1, n1 = m1 + 1 := ⟨n1 - 1, by omega⟩
    obtain ⟨m2, rfl⟩ : ∃ m2, n2 = m2 + 1 := ⟨n2 - 1, by omega⟩
    have hqn := hT.le
    rw [loop15_]
    generalize bb_loop15 (uX3_read_s9 nn (nI n) tb tc KE KE KE) m1 = rec1
    unfold uX3_read_s9
    rw [if_neg (show ¬ (120 : Int32) < nI (i + 1) from nI_nlt (b := i + 1) (a := 120) (by omega) (by omega))]
    rcases item78 hB hn hT hR hI nu with ⟨nu2, q2, e2, si2, ba2, at2, cu2, ga2, ke2, ki2, st2, wi2, wr2, s2, x1, x2, x3, x4, x5, x6⟩ | ⟨nu2, tk2, q2, e2, si2, ba2, at2, cu2, ga2, ke2, ki2, st2, wi2, wr2, s2, x0, x1, x2⟩
    · have := x5.le
      omega
    · rw [x1, x2, bb_b15_s, bb_b4_s, if_pos rfl, loop5_]
      refine Or.inr ⟨nI (i + 1), _, _, q2, _, nI e2, _, _, _, _, _, _, _, _, _, _, s2, x0, rfl, ?_⟩
      generalize bb_loop5 (uX8_text_s24 nn (nI n) tp K) m2 = rec2
      unfold uX8_text_s24
      exact if_neg (by decide)
  | succ d ih =>
    intro i n1 n2 q e s ga st cu ki at_ wi wr ke ba si nu h1 h2 h3 h4 hT hR hI
    obtain ⟨m1, rfl⟩ : ∃ m1, n1 = m1 + 1 := ⟨n1 - 1, by omega⟩
    obtain ⟨m2, rfl⟩ : ∃ m2, n2 = m2 + 1 := ⟨n2 - 1, by omega⟩
    have hqn := hT.le
    rw [loop15_]
    have ih2 := fun q2 e2 s ga st cu ki at_ wi wr ke ba si nu => ih (i + 1) m1 m2 q2 e2 s ga st cu ki at_ wi wr ke ba si nu
    generalize bb_loop15 (uX3_read_s9 nn (nI n) tb tc KE KE KE) m1 = rec1 at ih2 ⊢
    unfold uX3_read_s9
    rw [if_neg (show ¬ (120 : Int32) < nI (i + 1) from nI_nlt (b := i + 1) (a := 120) (by omega) (by omega))]
    rcases item78 hB hn hT hR hI nu with ⟨nu2, q2, e2, si2, ba2, at2, cu2, ga2, ke2, ki2, st2, wi2, wr2, s2, x1, x2, x3, x4, x5, x6⟩ | ⟨nu2, tk2, q2, e2, si2, ba2, at2, cu2, ga2, ke2, ki2, st2, wi2, wr2, s2, x0, x1, x2⟩
    · rw [x1, x2, bb_b15_s, bb_b4_s, if_neg (by decide), loop5_]
      by_cases g : q2 < n
      · have etk : tkV n V q2 = clN (V q2) := if_pos g
        have hc4 := clN_cases (V q2)
        rw [if_neg (show ¬ nI (tkV n V q2) = 0 from nI_ne0 (by rw [etk]; omega) (by rw [etk]; omega))]
        obtain ⟨m3, rfl⟩ : ∃ m3, m2 = m3 + 1 := ⟨m2 - 1, by omega⟩
        by_cases g3 : clN (V q2) = 3
        · obtain ⟨q3, e3, y1, y2, y3, y4⟩ := must1 hB hn x5.2.1 x5.1
          rw [if_pos (show nI (tkV n V q2) = (3 : Int32) by rw [etk, g3]; rfl), y3, bb_b3_s, p1_]
          have hlt := (x5.2.2 g).1
          have hgo := ih2 q3 e3 s2 ga2 st2 cu2 ki2 at2 wi2 wr2 ke2 ba2 si2 nu2 (by omega) (by omega) (by omega) (by omega) y1 x3 x4
          generalize bb_loop5 (uX8_text_s24 nn (nI n) tp K) (m3 + 1) = rec2 at hgo ⊢
          unfold uX8_text_s24
          rw [if_pos rfl, if_neg (nI_ge g (by omega)), isW8 hB hn x5 (show 14 < 15 by omega), mw14 hB x5 g, decide_eq_true g3, show b32 true = 1 from rfl, bb_b1_s, y4, bb_b3_s, p1_]
          exact hgo
        · rw [if_neg (show ¬ nI (tkV n V q2) = (3 : Int32) by rw [etk, show (3 : Int32) = nI 3 from rfl, nI_eq (by omega) (by omega)]; exact g3)]
          obtain ⟨s3, hs3⟩ := itemW hB hn x5 s2
          refine Or.inr ⟨nI (i + 1 + 1), _, _, q2, _, nI e2, _, _, _, _, _, _, _, _, _, _, s3, x5.le, rfl, ?_⟩
          have e9 : bb_loop5 (uX8_text_s24 nn (nI n) tp K) (m3 + 1) (nI (i + 1 + 1)) (nI q2) (nI e2) 1 s3 = K (nI (i + 1 + 1)) (nI q2) (nI e2) 1 s3 := by
            rw [loop5_]
            generalize bb_loop5 (uX8_text_s24 nn (nI n) tp K) m3 = rec2
            unfold uX8_text_s24
            exact if_neg (by decide)
          generalize bb_loop5 (uX8_text_s24 nn (nI n) tp K) (m3 + 1) = rec2 at e9 ⊢
          unfold uX8_text_s24
          rw [if_pos rfl, if_neg (nI_ge g (by omega)), isW8 hB hn x5 (show 14 < 15 by omega), mw14 hB x5 g, decide_eq_false g3, show b32 false = 0 from rfl, bb_b1_s, must0, bb_b3_s, hs3, bb_b4_s, p1_]
          exact e9
      · have etk : tkV n V q2 = 0 := if_neg g
        rw [etk, if_pos (show nI 0 = 0 from rfl)]
        refine Or.inl ⟨i + 1, _, _, _, _, _, _, _, _, _, _, _, _, _, _, s2, by omega, rfl, ?_, x3, x4⟩
        generalize bb_loop5 (uX8_text_s24 nn (nI n) tp K) m2 = rec2
        unfold uX8_text_s24
        rw [if_pos rfl, if_pos (nI_le (by omega) (by have := x5.le; omega))]
    · rw [x1, x2, bb_b15_s, bb_b4_s, if_pos rfl, loop5_]
      refine Or.inr ⟨nI (i + 1), _, _, q2, _, nI e2, _, _, _, _, _, _, _, _, _, _, s2, x0, rfl, ?_⟩
      generalize bb_loop5 (uX8_text_s24 nn (nI n) tp K) m2 = rec2
      unfold uX8_text_s24
      exact if_neg (by decide)
theorem neg_lt {q : Nat} (h : q ≤ 120) : (-1 : Int32) - nI q < 0 := by
  have e : (-1 : Int32) - nI q = nI 0 - nI (q + 1) := by
    rw [show nI (q + 1) = nI q + 1 from (p1_ q).symm, Int32.sub_eq_add_neg, Int32.sub_eq_add_neg, Int32.neg_add, Int32.sub_eq_add_neg, show nI 0 = (0 : Int32) from rfl, Int32.zero_add, Int32.add_comm]
  rw [e]
  exact pk_sneg (by omega) (by omega)
theorem op_text {s ga st cu ki at_ wi wr ke : Nat → Int32} {ba si : Int32} (hn : 155 < nn) (h120 : n ≤ 120) (hTP : TPn n tb tc tp) (hR : RW s ga st cu ki at_ wi wr ke sp mi ba si ev z) (hI : IW s) (rn tk tq te a1 a2 a3 a4 a5 fr to wg : Int32) (as g1 g2 g3 g4 g5 g6 g7 g8 g9 : Nat → Int32) :
    ∃ r rn2 tk2 tq2 te2 b1 b2 b3 b4 b5 si2 ba2 mi2 ev2 z2 k1 k2 k3 k4 k5 k6 k7 k8 k9 at2 cu2 ga2 ke2 ki2 sp2 st2 wi2 wr2 fr2 to2 wg2 as2 s2,
      uX7_text nn rn (nI n) tk tq te a1 a2 a3 a4 a5 si ba mi ev z tb tc g1 g2 g3 g4 g5 g6 g7 g8 g9 at_ cu ga ke ki sp st wi wr = some (r, rn2, 0, tk2, tq2, te2, b1, b2, b3, b4, b5, si2, ba2, mi2, ev2, z2, k1, k2, k3, k4, k5, k6, k7, k8, k9, at2, cu2, ga2, ke2, ki2, sp2, st2, wi2, wr2) ∧
      uX8_text nn (nI n) fr to wg as s tp = some (r, 0, fr2, to2, wg2, as2, s2) ∧ RW s2 ga2 st2 cu2 ki2 at2 wi2 wr2 ke2 sp2 mi2 ba2 si2 ev2 z2 ∧ IW s2 := by
  have hB := hTP.tb h120
  obtain ⟨q, e, x1, x2, x3, x4⟩ := next78 hB hn (Nat.zero_le n)
  unfold uX7_text uX8_text
  rw [become6, bb_b14_s, lends8 hn, bb_b1_s]
  unfold uX3_read uX2_rewind
  have x3' : uX2_readToken nn (nI n) tk tq 0 tb tc = some (nI (tkV n (fun i => (tb i).toNatClampNeg) q), nI q, nI e) := x3 tk tq
  have x4' : uX8_next_ nn (nI n) fr 0 tp = some (nI q, nI e) := x4 fr
  rw [x3', x4', bb_b3_s, bb_b3_s, bb_b2_s]
  have hR1 : RW s (va_cpy ga g3 0 0 4) (va_cpy st g7 0 0 48) (va_cpy cu g2 0 0 48) (va_cpy ki g5 0 0 8) (va_cpy at_ g1 0 0 8) (va_cpy wi g8 0 0 8) (va_cpy wr g9 0 0 8) (va_cpy ke g4 0 0 8) (va_cpy sp g6 0 0 10) mi ba si ev z := hR.ext7 (fun i hi => cpy0 hi) (fun i hi => cpy0 hi) (fun i hi => cpy0 hi) (fun i hi => cpy0 hi) (fun i hi => cpy0 hi) (fun i hi => cpy0 hi) (fun i hi => cpy0 hi) (fun i hi => cpy0 hi) (fun i hi => cpy0 hi)
  have hmain := rd78 hB hn (fun x1_11 v_t_from_12 v_t_to_13 v_t_isWrong_14 f_t_s_15 => (if v_t_isWrong_14 = 0 then some (x1_11, (0 : Int32), v_t_from_12, v_t_to_13, v_t_isWrong_14, cp155 s as, f_t_s_15) else bb_b1 (uX8_laysBack nn (cp155 s as) f_t_s_15) (fun (w18 : Nat → Int32) => some ((-1 : Int32) - v_t_from_12, (0 : Int32), v_t_from_12, v_t_to_13, v_t_isWrong_14, cp155 s as, w18)))) n 0 nn nn q e s _ _ _ _ _ _ _ _ ba si rn (by omega) (by omega) (by omega) (by omega) x1 hR1 hI
  rcases hmain with ⟨j, nu2, tk2, q2, e2, si2, ba2, at2, cu2, ga2, ke2, ki2, st2, wi2, wr2, s2, y0, y1, y2, y3, y4⟩ | ⟨j, nu2, tk2, q2, e2, f2, si2, ba2, at2, cu2, ga2, ke2, ki2, st2, wi2, wr2, s2, y0, y1, y2⟩
  · have y1' : bb_loop15 (uX3_read_s9 nn (nI n) tb tc KE KE KE) nn 1 rn (nI (tkV n (fun i => (tb i).toNatClampNeg) q)) (nI q) (nI e) si ba (va_cpy at_ g1 0 0 8) (va_cpy cu g2 0 0 48) (va_cpy ga g3 0 0 4) (va_cpy ke g4 0 0 8) (va_cpy ki g5 0 0 8) (va_cpy st g7 0 0 48) (va_cpy wi g8 0 0 8) (va_cpy wr g9 0 0 8) = some (nI j, nu2, tk2, q2, e2, si2, ba2, at2, cu2, ga2, ke2, ki2, st2, wi2, wr2) := y1
    simp only [bb_cut_s]
    have hR2 : RW s2 (va_cpy ga2 ga 0 0 4) (va_cpy st2 st 0 0 48) (va_cpy cu2 cu 0 0 48) (va_cpy ki2 ki 0 0 8) (va_cpy at2 at_ 0 0 8) (va_cpy wi2 wi 0 0 8) (va_cpy wr2 wr 0 0 8) (va_cpy ke2 ke 0 0 8) (va_cpy (va_cpy sp g6 0 0 10) sp 0 0 10) mi ba2 si2 ev z := y3.ext7 (fun i hi => cpy0 hi) (fun i hi => cpy0 hi) (fun i hi => cpy0 hi) (fun i hi => cpy0 hi) (fun i hi => cpy0 hi) (fun i hi => cpy0 hi) (fun i hi => cpy0 hi) (fun i hi => cpy0 hi) (fun i hi => cpy0 hi)
    refine ⟨nI j, nu2, tk2, q2, e2, si2, ba2, mi, ev, z, si2, ba2, mi, ev, z, at2, cu2, ga2, ke2, ki2, va_cpy sp g6 0 0 10, st2, wi2, wr2, va_cpy at2 at_ 0 0 8, va_cpy cu2 cu 0 0 48, va_cpy ga2 ga 0 0 4, va_cpy ke2 ke 0 0 8, va_cpy ki2 ki 0 0 8, va_cpy (va_cpy sp g6 0 0 10) sp 0 0 10, va_cpy st2 st 0 0 48, va_cpy wi2 wi 0 0 8, va_cpy wr2 wr 0 0 8, q2, e2, 0, cp155 s as, s2, ?_, y2.trans (if_pos rfl), hR2, y4⟩
    refine (congrArg (fun o => bb_b15 o _) y1').trans ?_
    rw [bb_b15_s, if_neg (nI_nneg (by omega)), become6, bb_b14_s]
  · have y1' : bb_loop15 (uX3_read_s9 nn (nI n) tb tc KE KE KE) nn 1 rn (nI (tkV n (fun i => (tb i).toNatClampNeg) q)) (nI q) (nI e) si ba (va_cpy at_ g1 0 0 8) (va_cpy cu g2 0 0 48) (va_cpy ga g3 0 0 4) (va_cpy ke g4 0 0 8) (va_cpy ki g5 0 0 8) (va_cpy st g7 0 0 48) (va_cpy wi g8 0 0 8) (va_cpy wr g9 0 0 8) = some (-1 - nI q2, nu2, tk2, nI q2, e2, si2, ba2, at2, cu2, ga2, ke2, ki2, st2, wi2, wr2) := y1
    simp only [bb_cut_s]
    have y2' := y2.trans (if_neg (show ¬ (1 : Int32) = 0 by decide))
    rw [laysBack8 hn, bb_b1_s] at y2'
    refine ⟨-1 - nI q2, nu2, tk2, nI q2, e2, si2, ba2, mi, ev, z, si, ba, mi, ev, z, at2, cu2, ga2, ke2, ki2, va_cpy sp g6 0 0 10, st2, wi2, wr2, at_, cu, ga, ke, ki, sp, st, wi, wr, nI q2, f2, 1, cp155 s as, cp155 (cp155 s as) s2, ?_, y2', hR.back as s2, hI.back as s2⟩
    refine (congrArg (fun o => bb_b15 o _) y1').trans ?_
    rw [bb_b15_s, if_pos (neg_lt (by omega))]
end TEXT
