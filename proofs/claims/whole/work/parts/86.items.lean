/-! ===== items of a text ===== -/
def wd : Nat → Nat
  | 0 => 6
  | j + 1 => j
theorem name3 : ∀ j, j < 7 → uX3_nameOf (nI j) = some (wd j) := by decide +kernel
def kdB (b6 b0 b1 b2 b3 b4 b5 : Bool) : Int32 := if b6 then 0 else if b0 then 1 else if b1 then 2 else if b2 then 3 else if b3 then 4 else if b4 then 5 else if b5 then 6 else -1
def kdV (V : Nat → Nat) (q e : Nat) : Int32 := kdB (mw V 6 q e) (mw V 0 q e) (mw V 1 q e) (mw V 2 q e) (mw V 3 q e) (mw V 4 q e) (mw V 5 q e)
theorem upd_upd (f : Nat → Int32) (k : Nat) (a b : Int32) : upd (upd f k a) k b = upd f k b := by
  funext j
  by_cases e : j = k
  · subst e; rw [pk_us, pk_us]
  · rw [pk_un e, pk_un e, pk_un e]
theorem set_w {b : Nat} (hb : b < 8) (v : Int32) (f : Nat → Int32) : uX8_sets (nI b) 2 v f = some (upd f (107 + 5 * b) v) := by rw [show 107 + 5 * b = 105 + 5 * b + 2 by omega]; exact sets8 (w := 2) hb (by omega) v f
def mst {X : Type} (nn w : Nat) (what hi b tn : Int32) (tp : Nat → Int32) (K : Int32 → Int32 → Int32 → (Nat → Int32) → Option X) (fr to wr : Int32) (s : Nat → Int32) : Option X :=
  bb_b3 (uX8_takes nn w tn fr to wr tp) (fun r a c => if r = 0 then K a c wr s else bb_b4 (uX8_numberRead nn 0 hi tn a c wr tp) (fun v a2 c2 wr2 => bb_b1 (uX8_sets b what v s) (fun s2 => K a2 c2 wr2 s2)))
theorem TK.le {n : Nat} {V : Nat → Nat} {q e : Nat} (h : TK n V q e) : q ≤ n := Nat.le_trans h.1 h.2.1
section ITEMS
variable {n nn : Nat} {V : Nat → Nat} {tb tc tp : Nat → Int32} {q e : Nat}
theorem kd_step (hB : TB n V tb tc tp) (hn : 155 < nn) (hT : TK n V q e) {i : Nat} (hi : i < 7) (rec2 : Int32 → Option Int32) : uX3_kindOfWord_s2 nn (nI (tkV n V q)) (nI q) (nI e) tb rec2 (nI i) = if mw V (wd i) q e then some (nI i) else rec2 (nI (i + 1)) := by
  unfold uX3_kindOfWord_s2
  have hw : wd i < 14 := by
    cases i with
    | zero => show 6 < 14; omega
    | succ i => show i < 14; omega
  rw [if_neg (show ¬ (7 : Int32) ≤ nI i from nI_ge (b := 7) hi (by decide)), name3 i hi, bb_b1_s, isW7 hB hn hT hw, bb_b1_s, p1_]
  cases mw V (wd i) q e
  · rw [if_pos (show b32 false = 0 from rfl), if_neg (by decide)]
  · rw [if_neg (show ¬ b32 true = 0 by decide), if_pos rfl]
theorem kdwA (hB : TB n V tb tc tp) (hn : 155 < nn) (hT : TK n V q e) (m : Nat) : bb_loop1 (uX3_kindOfWord_s2 nn (nI (tkV n V q)) (nI q) (nI e) tb) (m + 8) 0 = some (kdV V q e) := by
  show bb_loop1 _ (m + 7 + 1) (nI 0) = _
  rw [loop1_, kd_step hB hn hT (by omega), loop1_, kd_step hB hn hT (by omega), loop1_, kd_step hB hn hT (by omega), loop1_, kd_step hB hn hT (by omega), loop1_, kd_step hB hn hT (by omega), loop1_, kd_step hB hn hT (by omega), loop1_, kd_step hB hn hT (by omega), loop1_]
  generalize bb_loop1 (uX3_kindOfWord_s2 nn (nI (tkV n V q)) (nI q) (nI e) tb) m = rec2
  have e7 : uX3_kindOfWord_s2 nn (nI (tkV n V q)) (nI q) (nI e) tb rec2 (nI (0 + 1 + 1 + 1 + 1 + 1 + 1 + 1)) = some (-1) := by
    unfold uX3_kindOfWord_s2
    exact if_pos (by decide)
  rw [e7]
  show (if mw V 6 q e = true then _ else if mw V 0 q e = true then _ else if mw V 1 q e = true then _ else if mw V 2 q e = true then _ else if mw V 3 q e = true then _ else if mw V 4 q e = true then _ else if mw V 5 q e = true then _ else _) = _
  unfold kdV
  generalize mw V 6 q e = b6
  generalize mw V 0 q e = b0
  generalize mw V 1 q e = b1
  generalize mw V 2 q e = b2
  generalize mw V 3 q e = b3
  generalize mw V 4 q e = b4
  generalize mw V 5 q e = b5
  cases b6 <;> cases b0 <;> cases b1 <;> cases b2 <;> cases b3 <;> cases b4 <;> cases b5 <;> rfl
theorem kdw7 (hB : TB n V tb tc tp) (hn : 155 < nn) (hT : TK n V q e) : uX3_kindOfWord nn (nI (tkV n V q)) (nI q) (nI e) tb = some (kdV V q e) := by
  unfold uX3_kindOfWord
  have h := kdwA hB hn hT (nn - 8)
  rw [show nn - 8 + 8 = nn by omega] at h
  exact h
theorem kdw8 (hB : TB n V tb tc tp) (hn : 155 < nn) (hT : TK n V q e) : uX8_kindHere nn (nI q) (nI e) 0 tp = some (kdV V q e) := by
  unfold uX8_kindHere
  simp only [isW8 hB hn hT (show 6 < 15 by omega), isW8 hB hn hT (show 0 < 15 by omega), isW8 hB hn hT (show 1 < 15 by omega), isW8 hB hn hT (show 2 < 15 by omega), isW8 hB hn hT (show 3 < 15 by omega), isW8 hB hn hT (show 4 < 15 by omega), isW8 hB hn hT (show 5 < 15 by omega), bb_b1_s, bb_cut_s]
  unfold kdV
  generalize mw V 6 q e = b6
  generalize mw V 0 q e = b0
  generalize mw V 1 q e = b1
  generalize mw V 2 q e = b2
  generalize mw V 3 q e = b3
  generalize mw V 4 q e = b4
  generalize mw V 5 q e = b5
  cases b6 <;> cases b0 <;> cases b1 <;> cases b2 <;> cases b3 <;> cases b4 <;> cases b5 <;> rfl
theorem kindW (hn : 155 < nn) (a b : Int32) : uX8_kindHere nn a b 1 tp = some (-1) := by
  unfold uX8_kindHere
  simp only [isW8w hn, bb_b1_s, bb_cut_s]
  rfl
theorem kd_ok (hB : TB n V tb tc tp) (hT : TK n V q e) : kdV V q e = -1 ∨ ∃ k, k ≤ 6 ∧ kdV V q e = nI k ∧ q < n ∧ q < e := by
  have hm : ∀ w, w < 14 → mw V w q e = true → q < n ∧ q < e := fun w hw h => ⟨(mw_1 hB hT hw h).1, (mw_1 hB hT hw h).2.1⟩
  unfold kdV kdB
  cases h6 : mw V 6 q e
  · cases h0 : mw V 0 q e
    · cases h1 : mw V 1 q e
      · cases h2 : mw V 2 q e
        · cases h3 : mw V 3 q e
          · cases h4 : mw V 4 q e
            · cases h5 : mw V 5 q e
              · exact Or.inl rfl
              · exact Or.inr ⟨6, by omega, rfl, hm 5 (by omega) h5⟩
            · exact Or.inr ⟨5, by omega, rfl, hm 4 (by omega) h4⟩
          · exact Or.inr ⟨4, by omega, rfl, hm 3 (by omega) h3⟩
        · exact Or.inr ⟨3, by omega, rfl, hm 2 (by omega) h2⟩
      · exact Or.inr ⟨2, by omega, rfl, hm 1 (by omega) h1⟩
    · exact Or.inr ⟨1, by omega, rfl, hm 0 (by omega) h0⟩
  · exact Or.inr ⟨0, by omega, rfl, hm 6 (by omega) h6⟩
theorem mst78 {X : Type} (hB : TB n V tb tc tp) (hn : 155 < nn) (hT : TK n V q e) {w hi N i ix : Nat} (hw : w < 14) (hh : hi < 1000) (hN : i < N) (hN2 : N < 2 ^ 31) {b what : Int32} (hset : ∀ v s, uX8_sets b what v s = some (upd s ix v)) (f s : Nat → Int32) (nu : Int32) :
    (∃ f2 nu2 q2 e2 s2, uX3_readMaybe nn N w (nI i) (nI hi) f nu (nI n) (nI (tkV n V q)) (nI q) (nI e) tb tc = some (1, f2, nu2, nI (tkV n V q2), nI q2, nI e2) ∧ TK n V q2 e2 ∧ q ≤ q2 ∧ (∀ K : Int32 → Int32 → Int32 → (Nat → Int32) → Option X, mst nn w what (nI hi) b (nI n) tp K (nI q) (nI e) 0 s = K (nI q2) (nI e2) 0 s2) ∧ ((f2 = f ∧ s2 = s) ∨ ∃ v, v ≤ hi ∧ f2 = upd f i (nI v) ∧ s2 = upd s ix (nI v))) ∨
    (∃ f2 nu2 q2 e2 s2, q2 ≤ n ∧ uX3_readMaybe nn N w (nI i) (nI hi) f nu (nI n) (nI (tkV n V q)) (nI q) (nI e) tb tc = some (0, f2, nu2, nI (tkV n V q2), nI q2, nI e2) ∧ (∀ K : Int32 → Int32 → Int32 → (Nat → Int32) → Option X, mst nn w what (nI hi) b (nI n) tp K (nI q) (nI e) 0 s = K (nI q2) (nI e2) 1 s2)) := by
  unfold uX3_readMaybe mst
  rcases word78 hB hn hT hw with ⟨q1, e1, t1, -, t3, t4, t5⟩ | ⟨t4, t5⟩
  · rw [t4, t5, bb_b4_s]
    simp only [bb_b3_s, e10, if_false]
    rcases num78 hB hn t1 hh nu with ⟨v, q2, e2, u1, u2, u3, u4, u5⟩ | ⟨u4, v, u5⟩
    · refine Or.inl ⟨upd f i (nI v), nI v, q2, e2, upd s ix (nI v), ?_, u2, by omega, fun K => ?_, Or.inr ⟨v, u1, rfl, rfl⟩⟩
      · rw [u4, bb_b5_s, if_neg (by decide), ixn hN hN2, cln (by omega)]
      · rw [u5, bb_b4_s, hset, bb_b1_s]
    · refine Or.inr ⟨f, nu, q1, e1, upd s ix v, t1.le, ?_, fun K => ?_⟩
      · rw [u4, bb_b5_s, if_pos rfl]
      · rw [u5, bb_b4_s, hset, bb_b1_s]
  · rw [t4, t5, bb_b4_s]
    simp only [bb_b3_s, if_true]
    exact Or.inl ⟨f, nu, q, e, s, rfl, hT, Nat.le_refl _, fun K => rfl, Or.inl ⟨rfl, rfl⟩⟩
theorem mstW {X : Type} (hn : 155 < nn) {w : Nat} {what hi b tn fr to : Int32} (K : Int32 → Int32 → Int32 → (Nat → Int32) → Option X) (s : Nat → Int32) : mst nn w what hi b tn tp K fr to 1 s = K fr to 1 s := by
  unfold mst
  rw [wordW hn, bb_b3_s]
  exact if_pos rfl
theorem bath8 (k tn fr to wr : Int32) (s : Nat → Int32) : uX8_batherTold nn k tn fr to wr s tp = if (8 : Int32) ≤ (s (1 : Int32).toNatClampNeg) then bb_b3 (uX8_must nn 0 tn fr to wr tp) (fun w3 w4 w5 => if w5 = 0 then bb_b2 (uX8_adds k 0 s) (fun r8 w9 => mst nn 7 1 47 r8 tn tp (mst nn 8 2 1 r8 tn tp (mst nn 9 3 99 r8 tn tp (fun a b c d => some (a, b, c, d)))) w3 w4 w5 w9) else some (w3, w4, w5, s)) else bb_b3 (uX8_must nn 1 tn fr to wr tp) (fun w3 w4 w5 => if w5 = 0 then bb_b2 (uX8_adds k 0 s) (fun r8 w9 => mst nn 7 1 47 r8 tn tp (mst nn 8 2 1 r8 tn tp (mst nn 9 3 99 r8 tn tp (fun a b c d => some (a, b, c, d)))) w3 w4 w5 w9) else some (w3, w4, w5, s)) := rfl
variable {s ga st cu ki at_ wi wr ke sp : Nat → Int32} {mi ba si ev z : Int32}
theorem bath78 (hB : TB n V tb tc tp) (hn : 155 < nn) (hT : TK n V q e) (hq : q < n) (hqe : q < e) {k : Nat} (hk : k ≤ 6) (hR : RW s ga st cu ki at_ wi wr ke sp mi ba si ev z) (hI : IW s) (nu : Int32) :
    (∃ nu2 q2 e2 ba2 at2 ke2 ki2 wi2 wr2 s2, uX3_readBather nn (nI k) nu (nI n) (nI (tkV n V q)) (nI q) (nI e) ba tb tc at_ ke ki wi wr = some (1, nu2, nI (tkV n V q2), nI q2, nI e2, ba2, at2, ke2, ki2, wi2, wr2) ∧ uX8_batherTold nn (nI k) (nI n) (nI q) (nI e) 0 s tp = some (nI q2, nI e2, 0, s2) ∧ RW s2 ga st cu ki2 at2 wi2 wr2 ke2 sp mi ba2 si ev z ∧ IW s2 ∧ TK n V q2 e2 ∧ q < q2) ∨
    (∃ nu2 tk2 q2 e2 ba2 at2 ke2 ki2 wi2 wr2 s2, q2 ≤ n ∧ uX3_readBather nn (nI k) nu (nI n) (nI (tkV n V q)) (nI q) (nI e) ba tb tc at_ ke ki wi wr = some (0, nu2, tk2, nI q2, nI e2, ba2, at2, ke2, ki2, wi2, wr2) ∧ uX8_batherTold nn (nI k) (nI n) (nI q) (nI e) 0 s tp = some (nI q2, nI e2, 1, s2)) := by
  obtain ⟨en, hle⟩ := hI.v.n
  have eb : ba = nI (nO s) := hR.ba_.symm.trans en
  rw [bath8]
  unfold uX3_readBather
  rw [cl1, en, eb]
  by_cases g : nO s < 8
  · rw [if_pos (show nI (nO s) < (8 : Int32) from nI_lt (b := 8) g (by decide)), if_neg (show ¬ (8 : Int32) ≤ nI (nO s) from nI_ge (b := 8) g (by decide))]
    obtain ⟨q1, e1, x1, x2, x3, x4⟩ := must1 hB hn hT.2.1 hT.1
    rw [x3, bb_b3_s, admit6 g, bb_b7_s, x4, bb_b3_s, if_pos rfl, adds8 g (nI k) 0 en, bb_b2_s]
    have hR1 := hR.adds g (nI k) 0
    have hI1 : IW _ := hI.adds (c := 0) g en hk (by omega)
    rcases mst78 (X := Int32 × Int32 × Int32 × (Nat → Int32)) (w := 7) (hi := 47) (N := 8) hB hn x1 (by omega) (by omega) g (by decide) (fun v s => set_a g v s) (upd at_ (nO s) 0) (upd (upd (upd (upd (upd (upd s 1 (nI (nO s + 1))) (105 + 5 * nO s) (nI k)) (106 + 5 * nO s) 0) (107 + 5 * nO s) 0) (108 + 5 * nO s) 0) (109 + 5 * nO s) (nI (nO s))) nu with ⟨f2, nu2, q2, e2, s2, y1, y2, y3, y4, y5⟩ | ⟨f2, nu2, q2, e2, s2, y0, y1, y4⟩
    · have y1' : uX3_readMaybe nn 8 7 (nI (nO s)) 47 (upd at_ (nO s) 0) nu (nI n) (nI (tkV n V q1)) (nI q1) (nI e1) tb tc = some (1, f2, nu2, nI (tkV n V q2), nI q2, nI e2) := y1
      have y4' : ∀ K : Int32 → Int32 → Int32 → (Nat → Int32) → Option (Int32 × Int32 × Int32 × (Nat → Int32)), mst nn 7 1 47 (nI (nO s)) (nI n) tp K (nI q1) (nI e1) 0 _ = K (nI q2) (nI e2) 0 s2 := y4
      obtain ⟨hR2, hI2⟩ : RW s2 ga st cu (upd ki (nO s) (nI k)) f2 (upd wi (nO s) 0) (upd wr (nO s) 0) (upd ke (nO s) (nI (nO s))) sp mi (nI (nO s + 1)) si ev z ∧ IW s2 := by
        rcases y5 with ⟨rfl, rfl⟩ | ⟨v, hv, rfl, rfl⟩
        · exact ⟨hR1, hI1⟩
        · exact ⟨hR1.u_at_ g _, hI1.u_at_ g (Or.inl ⟨v, by omega, rfl⟩)⟩
      rw [y1', bb_b6_s, if_neg (by decide), y4']
      rcases mst78 (X := Int32 × Int32 × Int32 × (Nat → Int32)) (w := 8) (hi := 1) (N := 8) hB hn y2 (by omega) (by omega) g (by decide) (fun v s => set_w g v s) (upd wi (nO s) 0) s2 nu2 with ⟨f3, nu3, q3, e3, s3, z1, z2, z3, z4, z5⟩ | ⟨f3, nu3, q3, e3, s3, z0, z1, z4⟩
      · have z1' : uX3_readMaybe nn 8 8 (nI (nO s)) 1 (upd wi (nO s) 0) nu2 (nI n) (nI (tkV n V q2)) (nI q2) (nI e2) tb tc = some (1, f3, nu3, nI (tkV n V q3), nI q3, nI e3) := z1
        have z4' : ∀ K : Int32 → Int32 → Int32 → (Nat → Int32) → Option (Int32 × Int32 × Int32 × (Nat → Int32)), mst nn 8 2 1 (nI (nO s)) (nI n) tp K (nI q2) (nI e2) 0 s2 = K (nI q3) (nI e3) 0 s3 := z4
        obtain ⟨hR3, hI3⟩ : RW s3 ga st cu (upd ki (nO s) (nI k)) f2 f3 (upd wr (nO s) 0) (upd ke (nO s) (nI (nO s))) sp mi (nI (nO s + 1)) si ev z ∧ IW s3 := by
          rcases z5 with ⟨rfl, rfl⟩ | ⟨v, hv, rfl, rfl⟩
          · exact ⟨hR2, hI2⟩
          · refine ⟨?_, hI2.u_wi g ⟨v, hv, rfl⟩⟩
            have h := hR2.u_wi g (nI v)
            rw [upd_upd] at h
            rw [upd_upd]
            exact h
        rw [z1', bb_b6_s, if_neg (by decide), z4']
        rcases mst78 (X := Int32 × Int32 × Int32 × (Nat → Int32)) (w := 9) (hi := 99) (N := 8) hB hn z2 (by omega) (by omega) g (by decide) (fun v s => set_r g v s) (upd wr (nO s) 0) s3 nu3 with ⟨f4, nu4, q4, e4, s4, v1, v2, v3, v4, v5⟩ | ⟨f4, nu4, q4, e4, s4, v0, v1, v4⟩
        · have v1' : uX3_readMaybe nn 8 9 (nI (nO s)) 99 (upd wr (nO s) 0) nu3 (nI n) (nI (tkV n V q3)) (nI q3) (nI e3) tb tc = some (1, f4, nu4, nI (tkV n V q4), nI q4, nI e4) := v1
          have v4' : ∀ K : Int32 → Int32 → Int32 → (Nat → Int32) → Option (Int32 × Int32 × Int32 × (Nat → Int32)), mst nn 9 3 99 (nI (nO s)) (nI n) tp K (nI q3) (nI e3) 0 s3 = K (nI q4) (nI e4) 0 s4 := v4
          obtain ⟨hR4, hI4⟩ : RW s4 ga st cu (upd ki (nO s) (nI k)) f2 f3 f4 (upd ke (nO s) (nI (nO s))) sp mi (nI (nO s + 1)) si ev z ∧ IW s4 := by
            rcases v5 with ⟨rfl, rfl⟩ | ⟨v, hv, rfl, rfl⟩
            · exact ⟨hR3, hI3⟩
            · refine ⟨?_, hI3.u_wr g ⟨v, hv, rfl⟩⟩
              have h := hR3.u_wr g (nI v)
              rw [upd_upd] at h
              rw [upd_upd]
              exact h
          rw [v1', bb_b6_s, if_neg (by decide), v4']
          exact Or.inl ⟨_, q4, e4, _, _, _, _, _, _, _, rfl, rfl, hR4, hI4, v2, by omega⟩
        · have v1' : uX3_readMaybe nn 8 9 (nI (nO s)) 99 (upd wr (nO s) 0) nu3 (nI n) (nI (tkV n V q3)) (nI q3) (nI e3) tb tc = some (0, f4, nu4, nI (tkV n V q4), nI q4, nI e4) := v1
          have v4' : ∀ K : Int32 → Int32 → Int32 → (Nat → Int32) → Option (Int32 × Int32 × Int32 × (Nat → Int32)), mst nn 9 3 99 (nI (nO s)) (nI n) tp K (nI q3) (nI e3) 0 s3 = K (nI q4) (nI e4) 1 s4 := v4
          rw [v1', bb_b6_s, if_pos rfl, v4']
          exact Or.inr ⟨_, _, q4, e4, _, _, _, _, _, _, _, v0, rfl, rfl⟩
      · have z1' : uX3_readMaybe nn 8 8 (nI (nO s)) 1 (upd wi (nO s) 0) nu2 (nI n) (nI (tkV n V q2)) (nI q2) (nI e2) tb tc = some (0, f3, nu3, nI (tkV n V q3), nI q3, nI e3) := z1
        have z4' : ∀ K : Int32 → Int32 → Int32 → (Nat → Int32) → Option (Int32 × Int32 × Int32 × (Nat → Int32)), mst nn 8 2 1 (nI (nO s)) (nI n) tp K (nI q2) (nI e2) 0 s2 = K (nI q3) (nI e3) 1 s3 := z4
        rw [z1', bb_b6_s, if_pos rfl, z4', mstW hn]
        exact Or.inr ⟨_, _, q3, e3, _, _, _, _, _, _, _, z0, rfl, rfl⟩
    · have y1' : uX3_readMaybe nn 8 7 (nI (nO s)) 47 (upd at_ (nO s) 0) nu (nI n) (nI (tkV n V q1)) (nI q1) (nI e1) tb tc = some (0, f2, nu2, nI (tkV n V q2), nI q2, nI e2) := y1
      have y4' : ∀ K : Int32 → Int32 → Int32 → (Nat → Int32) → Option (Int32 × Int32 × Int32 × (Nat → Int32)), mst nn 7 1 47 (nI (nO s)) (nI n) tp K (nI q1) (nI e1) 0 _ = K (nI q2) (nI e2) 1 s2 := y4
      rw [y1', bb_b6_s, if_pos rfl, y4', mstW hn, mstW hn]
      exact Or.inr ⟨_, _, q2, e2, _, _, _, _, _, _, _, y0, rfl, rfl⟩
  · rw [if_neg (show ¬ nI (nO s) < (8 : Int32) from nI_nlt (b := 8) (by omega) (by omega)), if_pos (show (8 : Int32) ≤ nI (nO s) from nI_le (a := 8) (by omega) (by omega)), must0, bb_b3_s, if_neg (by decide)]
    exact Or.inr ⟨_, _, q, e, _, _, _, _, _, _, _, hT.le, rfl, rfl⟩
theorem cell78 (hB : TB n V tb tc tp) (hn : 155 < nn) (hT : TK n V q e) {hi base : Nat} (hh : hi < 1000) (hbase : base + 48 ≤ 155) (f s : Nat → Int32) (nu : Int32) :
    (∃ c v nu2 q2 e2, c < 48 ∧ v ≤ hi ∧ uX3_readCellRow nn 48 (nI hi) f nu (nI n) (nI (tkV n V q)) (nI q) (nI e) tb tc = some (1, upd f c (nI v), nu2, nI (tkV n V q2), nI q2, nI e2) ∧ uX8_cellTold nn (nI base) (nI hi) (nI n) (nI q) (nI e) 0 s tp = some (nI q2, nI e2, 0, upd s (base + c) (nI v)) ∧ TK n V q2 e2 ∧ q < q2) ∨
    (∃ f2 nu2 tk2 q2 e2 s2, q2 ≤ n ∧ uX3_readCellRow nn 48 (nI hi) f nu (nI n) (nI (tkV n V q)) (nI q) (nI e) tb tc = some (0, f2, nu2, tk2, nI q2, nI e2) ∧ uX8_cellTold nn (nI base) (nI hi) (nI n) (nI q) (nI e) 0 s tp = some (nI q2, nI e2, 1, s2)) := by
  unfold uX3_readCellRow uX8_cellTold
  rcases num78 (hi := 47) hB hn hT (by omega) nu with ⟨c, q1, e1, u1, u2, u3, u4, u5⟩ | ⟨u4, v, u5⟩
  · have u4' : uX3_takeNumber nn 47 nu (nI n) (nI (tkV n V q)) (nI q) (nI e) tb tc = some (1, nI c, nI (tkV n V q1), nI q1, nI e1) := u4
    have u5' : uX8_numberRead nn 0 47 (nI n) (nI q) (nI e) 0 tp = some (nI c, nI q1, nI e1, 0) := u5
    rw [u4', u5', bb_b5_s, bb_b4_s, if_neg (by decide)]
    rcases num78 hB hn u2 hh (nI c) with ⟨v, q2, e2, w1, w2, w3, w4, w5⟩ | ⟨w4, v, w5⟩
    · rw [w4, w5, bb_b5_s, bb_b4_s, if_neg (by decide), if_pos rfl, ixn (show c < 48 by omega) (by decide), nAdd, ixn (show base + c < 155 by omega) (by decide), cln (by omega), cln (by omega)]
      exact Or.inl ⟨c, v, _, q2, e2, by omega, w1, rfl, rfl, w2, by omega⟩
    · rw [w4, w5, bb_b5_s, bb_b4_s, if_pos rfl, if_neg (by decide)]
      exact Or.inr ⟨_, _, _, q1, e1, _, u2.le, rfl, rfl⟩
  · have u4' : uX3_takeNumber nn 47 nu (nI n) (nI (tkV n V q)) (nI q) (nI e) tb tc = some (0, nu, nI (tkV n V q), nI q, nI e) := u4
    have u5' : uX8_numberRead nn 0 47 (nI n) (nI q) (nI e) 0 tp = some (v, nI q, nI e, 1) := u5
    obtain ⟨v2, w5⟩ := numW hB hn hT (nI hi)
    rw [u4', u5', bb_b5_s, bb_b4_s, if_pos rfl, w5, bb_b4_s, if_neg (by decide)]
    exact Or.inr ⟨_, _, _, q, e, _, hT.le, rfl, rfl⟩
theorem guard78 (hB : TB n V tb tc tp) (hn : 155 < nn) (hT : TK n V q e) (ga s : Nat → Int32) (nu : Int32) :
    (∃ g v nu2 q2 e2, g < 4 ∧ (v = -1 ∨ ∃ c, c < 48 ∧ v = nI c) ∧ uX3_readGuard nn nu (nI n) (nI (tkV n V q)) (nI q) (nI e) tb tc ga = some (1, nu2, nI (tkV n V q2), nI q2, nI e2, upd ga g v) ∧ uX8_guardTold nn (nI n) (nI q) (nI e) 0 s tp = some (nI q2, nI e2, 0, upd s (5 + g) v) ∧ TK n V q2 e2 ∧ q < q2) ∨
    (∃ f2 nu2 tk2 q2 e2 s2, q2 ≤ n ∧ uX3_readGuard nn nu (nI n) (nI (tkV n V q)) (nI q) (nI e) tb tc ga = some (0, nu2, tk2, nI q2, nI e2, f2) ∧ uX8_guardTold nn (nI n) (nI q) (nI e) 0 s tp = some (nI q2, nI e2, 1, s2)) := by
  unfold uX3_readGuard uX8_guardTold
  rcases num78 (hi := 3) hB hn hT (by omega) nu with ⟨g, q1, e1, u1, u2, u3, u4, u5⟩ | ⟨u4, v, u5⟩
  · have u4' : uX3_takeNumber nn 3 nu (nI n) (nI (tkV n V q)) (nI q) (nI e) tb tc = some (1, nI g, nI (tkV n V q1), nI q1, nI e1) := u4
    have u5' : uX8_numberRead nn 0 3 (nI n) (nI q) (nI e) 0 tp = some (nI g, nI q1, nI e1, 0) := u5
    rw [u4', u5', bb_b5_s, bb_b4_s, if_neg (by decide), ixn (show g < 4 by omega) (by decide), cln (by omega)]
    unfold uX3_readMaybe
    simp only [bb_cut_s, a5_, ixn (show 5 + g < 155 by omega) (show 155 < 2 ^ 31 by decide), cln (show 5 + g < 2 ^ 31 by omega)]
    rcases word78 (w := 7) hB hn u2 (by omega) with ⟨q2, e2, t1, -, t3, t4, t5⟩ | ⟨t4, t5⟩
    · rw [t4, t5, bb_b4_s, bb_b3_s]
      simp only [e10, if_false]
      rcases num78 (hi := 47) hB hn t1 (by omega) (nI g) with ⟨c, q3, e3, w1, w2, w3, w4, w5⟩ | ⟨w4, v, w5⟩
      · have w4' : uX3_takeNumber nn 47 (nI g) (nI n) (nI (tkV n V q2)) (nI q2) (nI e2) tb tc = some (1, nI c, nI (tkV n V q3), nI q3, nI e3) := w4
        have w5' : uX8_numberRead nn 0 47 (nI n) (nI q2) (nI e2) 0 tp = some (nI c, nI q3, nI e3, 0) := w5
        rw [w4', w5', bb_b5_s, bb_b4_s, if_neg (by decide), if_pos rfl, ixn (show g < 4 by omega) (by decide), cln (by omega), bb_b6_s, upd_upd]
        exact Or.inl ⟨g, nI c, _, q3, e3, by omega, Or.inr ⟨c, by omega, rfl⟩, rfl, rfl, w2, by omega⟩
      · have w4' : uX3_takeNumber nn 47 (nI g) (nI n) (nI (tkV n V q2)) (nI q2) (nI e2) tb tc = some (0, nI g, nI (tkV n V q2), nI q2, nI e2) := w4
        have w5' : uX8_numberRead nn 0 47 (nI n) (nI q2) (nI e2) 0 tp = some (v, nI q2, nI e2, 1) := w5
        rw [w4', w5', bb_b5_s, bb_b4_s, if_pos rfl, if_neg (by decide), bb_b6_s]
        exact Or.inr ⟨_, _, _, q2, e2, _, t1.le, rfl, rfl⟩
    · rw [t4, t5, bb_b4_s, bb_b3_s]
      simp only [if_true]
      rw [bb_b6_s]
      exact Or.inl ⟨g, -1, _, q1, e1, by omega, Or.inl rfl, rfl, rfl, u2, by omega⟩
  · have u4' : uX3_takeNumber nn 3 nu (nI n) (nI (tkV n V q)) (nI q) (nI e) tb tc = some (0, nu, nI (tkV n V q), nI q, nI e) := u4
    have u5' : uX8_numberRead nn 0 3 (nI n) (nI q) (nI e) 0 tp = some (v, nI q, nI e, 1) := u5
    rw [u4', u5', bb_b5_s, bb_b4_s, if_pos rfl, wordW hn, bb_b3_s]
    simp only [bb_cut_s, e10, if_true, if_false]
    exact Or.inr ⟨_, _, _, q, e, _, hT.le, rfl, rfl⟩
theorem item78 (hB : TB n V tb tc tp) (hn : 155 < nn) (hT : TK n V q e) (hR : RW s ga st cu ki at_ wi wr ke sp mi ba si ev z) (hI : IW s) (nu : Int32) :
    (∃ nu2 q2 e2 si2 ba2 at2 cu2 ga2 ke2 ki2 st2 wi2 wr2 s2, uX3_readItem nn nu (nI n) (nI (tkV n V q)) (nI q) (nI e) si ba tb tc at_ cu ga ke ki st wi wr = some (1, nu2, nI (tkV n V q2), nI q2, nI e2, si2, ba2, at2, cu2, ga2, ke2, ki2, st2, wi2, wr2) ∧ uX8_item nn (nI n) (nI q) (nI e) 0 s tp = some (nI q2, nI e2, 0, s2) ∧ RW s2 ga2 st2 cu2 ki2 at2 wi2 wr2 ke2 sp mi ba2 si2 ev z ∧ IW s2 ∧ TK n V q2 e2 ∧ q < q2) ∨
    (∃ nu2 tk2 q2 e2 si2 ba2 at2 cu2 ga2 ke2 ki2 st2 wi2 wr2 s2, q2 ≤ n ∧ uX3_readItem nn nu (nI n) (nI (tkV n V q)) (nI q) (nI e) si ba tb tc at_ cu ga ke ki st wi wr = some (0, nu2, tk2, nI q2, nI e2, si2, ba2, at2, cu2, ga2, ke2, ki2, st2, wi2, wr2) ∧ uX8_item nn (nI n) (nI q) (nI e) 0 s tp = some (nI q2, nI e2, 1, s2)) := by
  unfold uX3_readItem uX8_item
  rw [kdw7 hB hn hT, kdw8 hB hn hT, bb_b1_s, bb_b1_s]
  rcases kd_ok hB hT with hk | ⟨k, hk, ek, hq, hqe⟩
  · rw [hk, if_pos (show (-1 : Int32) < 0 by decide), if_pos (show (-1 : Int32) < 0 by decide)]
    rcases word78 (w := 10) hB hn hT (by omega) with ⟨q1, e1, t1, -, t3, t4, t5⟩ | ⟨t4, t5⟩
    · rw [t4, t5, bb_b4_s, bb_b3_s, if_neg (by decide), if_neg (by decide)]
      rcases cell78 (hi := 9) (base := 9) hB hn t1 (by omega) (by omega) st s nu with ⟨c, v, nu2, q2, e2, x1, x2, x3, x4, x5, x6⟩ | ⟨f2, nu2, tk2, q2, e2, s2, x0, x3, x4⟩
      · have x3' : uX3_readCellRow nn 48 9 st nu (nI n) (nI (tkV n V q1)) (nI q1) (nI e1) tb tc = some (1, upd st c (nI v), nu2, nI (tkV n V q2), nI q2, nI e2) := x3
        have x4' : uX8_cellTold nn 9 9 (nI n) (nI q1) (nI e1) 0 s tp = some (nI q2, nI e2, 0, upd s (9 + c) (nI v)) := x4
        rw [x3', x4', bb_b6_s, bb_b4_s]
        exact Or.inl ⟨_, q2, e2, _, _, _, _, _, _, _, _, _, _, _, rfl, rfl, hR.u_st x1 _, hI.u_st x1 ⟨v, x2, rfl⟩, x5, by omega⟩
      · have x3' : uX3_readCellRow nn 48 9 st nu (nI n) (nI (tkV n V q1)) (nI q1) (nI e1) tb tc = some (0, f2, nu2, tk2, nI q2, nI e2) := x3
        have x4' : uX8_cellTold nn 9 9 (nI n) (nI q1) (nI e1) 0 s tp = some (nI q2, nI e2, 1, s2) := x4
        rw [x3', x4', bb_b6_s, bb_b4_s]
        exact Or.inr ⟨_, _, q2, e2, _, _, _, _, _, _, _, _, _, _, _, x0, rfl, rfl⟩
    · rw [t4, t5, bb_b4_s, bb_b3_s, if_pos rfl, if_pos rfl]
      rcases word78 (w := 11) hB hn hT (by omega) with ⟨q1, e1, t1, -, t3, t4, t5⟩ | ⟨t4, t5⟩
      · rw [t4, t5, bb_b4_s, bb_b3_s, if_neg (by decide), if_neg (by decide)]
        rcases cell78 (hi := 4) (base := 57) hB hn t1 (by omega) (by omega) cu s nu with ⟨c, v, nu2, q2, e2, x1, x2, x3, x4, x5, x6⟩ | ⟨f2, nu2, tk2, q2, e2, s2, x0, x3, x4⟩
        · have x3' : uX3_readCellRow nn 48 4 cu nu (nI n) (nI (tkV n V q1)) (nI q1) (nI e1) tb tc = some (1, upd cu c (nI v), nu2, nI (tkV n V q2), nI q2, nI e2) := x3
          have x4' : uX8_cellTold nn 57 4 (nI n) (nI q1) (nI e1) 0 s tp = some (nI q2, nI e2, 0, upd s (57 + c) (nI v)) := x4
          rw [x3', x4', bb_b6_s, bb_b4_s]
          exact Or.inl ⟨_, q2, e2, _, _, _, _, _, _, _, _, _, _, _, rfl, rfl, hR.u_cu x1 _, hI.u_cu x1 ⟨v, x2, rfl⟩, x5, by omega⟩
        · have x3' : uX3_readCellRow nn 48 4 cu nu (nI n) (nI (tkV n V q1)) (nI q1) (nI e1) tb tc = some (0, f2, nu2, tk2, nI q2, nI e2) := x3
          have x4' : uX8_cellTold nn 57 4 (nI n) (nI q1) (nI e1) 0 s tp = some (nI q2, nI e2, 1, s2) := x4
          rw [x3', x4', bb_b6_s, bb_b4_s]
          exact Or.inr ⟨_, _, q2, e2, _, _, _, _, _, _, _, _, _, _, _, x0, rfl, rfl⟩
      · rw [t4, t5, bb_b4_s, bb_b3_s, if_pos rfl, if_pos rfl]
        rcases word78 (w := 12) hB hn hT (by omega) with ⟨q1, e1, t1, -, t3, t4, t5⟩ | ⟨t4, t5⟩
        · rw [t4, t5, bb_b4_s, bb_b3_s, if_neg (by decide), if_neg (by decide)]
          rcases guard78 hB hn t1 ga s nu with ⟨g, v, nu2, q2, e2, x1, x2, x3, x4, x5, x6⟩ | ⟨f2, nu2, tk2, q2, e2, s2, x0, x3, x4⟩
          · rw [x3, x4, bb_b6_s, bb_b4_s]
            exact Or.inl ⟨_, q2, e2, _, _, _, _, _, _, _, _, _, _, _, rfl, rfl, hR.u_ga x1 _, hI.u_ga x1 x2, x5, by omega⟩
          · rw [x3, x4, bb_b6_s, bb_b4_s]
            exact Or.inr ⟨_, _, q2, e2, _, _, _, _, _, _, _, _, _, _, _, x0, rfl, rfl⟩
        · rw [t4, t5, bb_b4_s, bb_b3_s, if_pos rfl, if_pos rfl]
          unfold uX3_takeWord
          rw [isW7 hB hn hT (show 13 < 14 by omega), isW8 hB hn hT (show 13 < 15 by omega), bb_b1_s, bb_b1_s]
          cases g : mw V 13 q e
          · rw [if_pos (show b32 false = 0 from rfl), bb_b4_s, if_pos rfl, show b32 false = 0 from rfl, must0, bb_b3_s]
            obtain ⟨v, hv⟩ := numW hB hn hT 12
            rw [hv, bb_b4_s]
            exact Or.inr ⟨_, _, q, e, _, _, _, _, _, _, _, _, _, _, _, hT.le, rfl, rfl⟩
          · obtain ⟨m1, m2, m3⟩ := mw_1 hB hT (by omega) g
            obtain ⟨q1, e1, x1, x2, x3, x4⟩ := must1 hB hn hT.2.1 hT.1
            rw [if_neg (show ¬ b32 true = 0 by decide), x3, bb_b3_s, bb_b4_s, if_neg (by decide), show b32 true = 1 from rfl, x4, bb_b3_s]
            unfold uX3_readSight
            rcases num78 (hi := 12) hB hn x1 (by omega) nu with ⟨v, q2, e2, w1, w2, w3, w4, w5⟩ | ⟨w4, v, w5⟩
            · have w4' : uX3_takeNumber nn 12 nu (nI n) (nI (tkV n V q1)) (nI q1) (nI e1) tb tc = some (1, nI v, nI (tkV n V q2), nI q2, nI e2) := w4
              have w5' : uX8_numberRead nn 0 12 (nI n) (nI q1) (nI e1) 0 tp = some (nI v, nI q2, nI e2, 0) := w5
              rw [w4', w5', bb_b5_s, bb_b4_s, if_neg (by decide), bb_b6_s, cl2]
              exact Or.inl ⟨_, q2, e2, _, _, _, _, _, _, _, _, _, _, _, rfl, rfl, hR.u_si _, hI.u_si ⟨v, w1, rfl⟩, w2, by omega⟩
            · have w4' : uX3_takeNumber nn 12 nu (nI n) (nI (tkV n V q1)) (nI q1) (nI e1) tb tc = some (0, nu, nI (tkV n V q1), nI q1, nI e1) := w4
              have w5' : uX8_numberRead nn 0 12 (nI n) (nI q1) (nI e1) 0 tp = some (v, nI q1, nI e1, 1) := w5
              rw [w4', w5', bb_b5_s, bb_b4_s, if_pos rfl, bb_b6_s]
              exact Or.inr ⟨_, _, q1, e1, _, _, _, _, _, _, _, _, _, _, _, x1.le, rfl, rfl⟩
  · rw [ek, if_neg (nI_nneg (by omega)), if_neg (nI_nneg (by omega))]
    rcases bath78 hB hn hT hq hqe hk hR hI nu with ⟨nu2, q2, e2, ba2, at2, ke2, ki2, wi2, wr2, s2, x1, x2, x3, x4, x5, x6⟩ | ⟨nu2, tk2, q2, e2, ba2, at2, ke2, ki2, wi2, wr2, s2, x0, x1, x2⟩
    · rw [x1, x2, bb_b11_s, bb_b4_s]
      exact Or.inl ⟨_, q2, e2, _, _, _, _, _, _, _, _, _, _, _, rfl, rfl, x3, x4, x5, x6⟩
    · rw [x1, x2, bb_b11_s, bb_b4_s]
      exact Or.inr ⟨_, _, q2, e2, _, _, _, _, _, _, _, _, _, _, _, x0, rfl, rfl⟩
theorem itemW (hB : TB n V tb tc tp) (hn : 155 < nn) (hT : TK n V q e) (s : Nat → Int32) : ∃ s2, uX8_item nn (nI n) (nI q) (nI e) 1 s tp = some (nI q, nI e, 1, s2) := by
  obtain ⟨v, hv⟩ := numW hB hn hT 12
  unfold uX8_item
  rw [kindW hn, bb_b1_s, if_pos (by decide), wordW hn, bb_b3_s, if_pos rfl, wordW hn, bb_b3_s, if_pos rfl, wordW hn, bb_b3_s, if_pos rfl, isW8w hn, bb_b1_s, mustW, bb_b3_s, hv, bb_b4_s]
  exact ⟨_, rfl⟩
end ITEMS
