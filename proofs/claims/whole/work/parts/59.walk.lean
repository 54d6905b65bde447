/-! ===== minutes that are only thought: one bather alone, and all of them ===== -/
theorem out4 {a : Nat} (ha : a = 100 ∨ a = 101) : uX4_isIn (nI a) = some 0 := by
  rcases ha with rfl | rfl <;> decide
theorem pa_ok {k a w q : Nat} {sn : Nat → Bool} (hw : w < 2) (ha : a < 48 ∨ a = 100 ∨ a = 101) : pa k a w q sn < 48 ∨ pa k a w q sn = 100 ∨ pa k a w q sn = 101 := by
  unfold pa
  split
  · rename_i h
    split
    · omega
    · exact Or.inl (tg_lt h hw sn)
  · exact ha
theorem pw_ok {k a w r : Nat} (hr : r ≤ 99) : pw k a w r ≤ 99 := by
  unfold pw
  split
  · split
    · exact hr
    · exact Nat.min_le_left _ _
  · exact hr
theorem pass4 {k a w r : Nat} {qf : Nat → Nat} {cur : Nat → Int32} (hk : k < 7) (ha : a < 48 ∨ a = 100 ∨ a = 101) (hw : w < 2) (hr : r ≤ 99) (hq : ∀ c, c < 48 → cur c = nI (qf c) ∧ qf c < 5) (x : Int64) : uX4_pass x (nI k) (nI a) (nI w) (nI r) cur = some (nI (pa k a w (qf a) (lb x)), nI (pw k a w r)) := by
  unfold uX4_pass pa pw
  by_cases h : a < 48
  · have hk4 : (nI k = (4 : Int32)) = (k = 4) := propext ⟨fun q => (nI_eq (b := 4) (by omega) (by decide)).mp q, fun q => by rw [q]; rfl⟩
    have hsd : sd w < 8 := by unfold sd; split <;> omega
    have hc : (nI (a % 8) = nI (sd w)) = (a % 8 = sd w) := propext ⟨fun q => (nI_eq (by omega) (by omega)).mp q, fun q => by rw [q]⟩
    have m1 : (if nI r + (1 : Int32) < (99 : Int32) then nI r + (1 : Int32) else (99 : Int32)) = nI (min 99 (r + 1)) := minL (m := 99) (i := 1) (by decide) (by omega)
    simp only [in4 h, target4 hk h hw (hq a h).2 (hq a h).1, col0 h, side0 w hw, bb_cut_s, a100_, hk4, hc, m1, if_pos h, bb_b0_s, bb_b1_s, bb_b2_s, bb_b3_s, bb_b4_s, bb_b5_s, bb_b6_s, bb_b7_s, bb_b8_s, bb_b9_s, bb_b10_s, bb_b11_s, bb_b12_s, bb_b13_s, bb_b14_s, bb_b15_s, bb_b16_s, e10, e00, e11, if_true, if_false]
    unfold exs
    by_cases h1 : k = 4
    · simp [h1]
    · by_cases h2 : a % 8 = sd w <;> simp [h1, h2]
  · simp only [out4 (show a = 100 ∨ a = 101 by omega), if_neg h, bb_b0_s, bb_b1_s, bb_b2_s, bb_b3_s, bb_b4_s, bb_b5_s, bb_b6_s, bb_b7_s, bb_b8_s, bb_b9_s, bb_b10_s, bb_b11_s, bb_b12_s, bb_b13_s, bb_b14_s, bb_b15_s, bb_b16_s, e10, e00, e11, if_true, if_false]
/-! what a minute of the reference does to the row -/
section AM
variable {s : Nat → Int32}
theorem bmin_at {t : Nat → Int32} {b : Nat} (ht : t (106 + 5 * b) = nI (aO t b)) : bmin t b (106 + 5 * b) = nI (pa (kO t b) (aO t b) (wO t b) (qO t (aO t b)) (sc8 t)) := by
  unfold bmin pa
  split
  · split
    · rw [pk_us]
    · rw [pk_un (by omega), pk_un (by omega), pk_us]; rfl
  · exact ht
theorem bmin_wr {t : Nat → Int32} {b : Nat} (ht : t (108 + 5 * b) = nI (rO t b)) : bmin t b (108 + 5 * b) = nI (pw (kO t b) (aO t b) (wO t b) (rO t b)) := by
  unfold bmin pw
  split
  · split
    · rw [pk_un (by omega)]; exact ht
    · rw [pk_un (by omega), pk_us]
  · exact ht
theorem sc8_bfold (s : Nat → Int32) (i : Nat) {c : Nat} (hc : c < 48) : sc8 (bfold s i) c = sc8 s c :=
  sc8_ext (bfold_other (by decide) i (fun b _ => ⟨by omega, by omega⟩)) (fun j h1 h2 => bfold_other (by omega) i (fun b _ => ⟨by omega, by omega⟩)) hc
theorem qO_bfold (s : Nat → Int32) (i : Nat) {c : Nat} (hc : c < 48) : qO (bfold s i) c = qO s c := by
  unfold qO
  rw [bfold_other (by omega) i (fun b _ => ⟨by omega, by omega⟩)]
theorem kO_bfold (s : Nat → Int32) (i b : Nat) : kO (bfold s i) b = kO s b := by
  unfold kO
  rw [bfold_other (by omega) i (fun b _ => ⟨by omega, by omega⟩)]
theorem wO_bfold (s : Nat → Int32) (i b : Nat) : wO (bfold s i) b = wO s b := by
  unfold wO
  rw [bfold_other (by omega) i (fun b _ => ⟨by omega, by omega⟩)]
theorem aO_bfold (s : Nat → Int32) {i b : Nat} (h : i ≤ b) : aO (bfold s i) b = aO s b := by
  unfold aO
  rw [bfold_other (by omega) i (fun c _ => ⟨by omega, by omega⟩)]
theorem rO_bfold (s : Nat → Int32) {i b : Nat} (h : i ≤ b) : rO (bfold s i) b = rO s b := by
  unfold rO
  rw [bfold_other (by omega) i (fun c _ => ⟨by omega, by omega⟩)]
theorem bfold_keep (s : Nat → Int32) {b : Nat} {j : Nat} (hj : j = 106 + 5 * b ∨ j = 108 + 5 * b) : ∀ i, b < i → bfold s i j = bfold s (b + 1) j
  | 0, h => absurd h (Nat.not_lt_zero b)
  | i + 1, h => by
    rcases Nat.lt_or_ge b i with q | q
    · rw [← bfold_keep s hj i q]
      exact bmin_other (by omega) (by omega) (by omega)
    · have e : i = b := by omega
      subst e
      rfl
theorem bfold_at (h : IV s) {b i : Nat} (hb : b < i) (hi : i ≤ 8) : bfold s i (106 + 5 * b) = nI (pa (kO s b) (aO s b) (wO s b) (qO s (aO s b)) (sc8 s)) ∧ bfold s i (108 + 5 * b) = nI (pw (kO s b) (aO s b) (wO s b) (rO s b)) := by
  have hv := h.bfl b (by omega)
  obtain ⟨e1, -⟩ := hv.a (show b < 8 by omega)
  obtain ⟨e2, -⟩ := hv.r (show b < 8 by omega)
  rw [bfold_keep s (Or.inl rfl) i hb, bfold_keep s (Or.inr rfl) i hb]
  have q1 := bmin_at e1
  have q2 := bmin_wr e2
  rw [kO_bfold, wO_bfold, aO_bfold s (Nat.le_refl b)] at q1 q2
  rw [rO_bfold s (Nat.le_refl b)] at q2
  refine ⟨q1.trans (congrArg nI ?_), q2⟩
  unfold pa
  split
  · rename_i ha
    rw [qO_bfold s b ha, tg_cong ha (h.w_ (show b < 8 by omega)).2 (fun c hc => sc8_bfold s b hc)]
  · rfl
theorem amin_other {j : Nat} (h0 : j ≠ 0) (h3 : j ≠ 3) (h : ∀ b, b < nO s → j ≠ 106 + 5 * b ∧ j ≠ 108 + 5 * b) : amin s j = s j := by
  unfold amin
  rw [pk_un h0]
  exact bfold_other h3 _ h
theorem IV.amn (h : IV s) : IV (amin s) := by
  unfold amin
  exact (h.bfl _ h.n.2).u_mi trivial
theorem nO_amin (s : Nat → Int32) : nO (amin s) = nO s := by
  unfold nO
  rw [amin_other (by omega) (by omega) (fun b _ => ⟨by omega, by omega⟩)]
theorem kO_amin (s : Nat → Int32) (b : Nat) : kO (amin s) b = kO s b := by
  unfold kO
  rw [amin_other (by omega) (by omega) (fun b _ => ⟨by omega, by omega⟩)]
theorem wO_amin (s : Nat → Int32) (b : Nat) : wO (amin s) b = wO s b := by
  unfold wO
  rw [amin_other (by omega) (by omega) (fun b _ => ⟨by omega, by omega⟩)]
theorem qO_amin (s : Nat → Int32) {c : Nat} (hc : c < 48) : qO (amin s) c = qO s c := by
  unfold qO
  rw [amin_other (by omega) (by omega) (fun b _ => ⟨by omega, by omega⟩)]
theorem sc8_amin (s : Nat → Int32) {c : Nat} (hc : c < 48) : sc8 (amin s) c = sc8 s c :=
  sc8_ext (amin_other (by omega) (by omega) (fun b _ => ⟨by omega, by omega⟩)) (fun j h1 h2 => amin_other (by omega) (by omega) (fun b _ => ⟨by omega, by omega⟩)) hc
theorem amin_at (h : IV s) {b : Nat} (hb : b < nO s) : aO (amin s) b = pa (kO s b) (aO s b) (wO s b) (qO s (aO s b)) (sc8 s) ∧ rO (amin s) b = pw (kO s b) (aO s b) (wO s b) (rO s b) := by
  have hn := h.n.2
  obtain ⟨h1, h2⟩ := bfold_at h hb hn
  have ha := pa_ok (k := kO s b) (q := qO s (aO s b)) (sn := sc8 s) (h.w_ (show b < 8 by omega)).2 (h.a (show b < 8 by omega)).2
  have hr := pw_ok (k := kO s b) (a := aO s b) (w := wO s b) (h.r (show b < 8 by omega)).2
  constructor
  · show (amin s (106 + 5 * b)).toNatClampNeg = _
    unfold amin
    rw [pk_un (by omega), h1, cln (by omega)]
  · show (amin s (108 + 5 * b)).toNatClampNeg = _
    unfold amin
    rw [pk_un (by omega), h2, cln (by omega)]
/-- so many minutes -/
def ami (s : Nat → Int32) : Nat → (Nat → Int32)
  | 0 => s
  | n + 1 => amin (ami s n)
def pan (k w : Nat) (q : Nat → Nat) (sn : Nat → Bool) (a : Nat) : Nat → Nat
  | 0 => a
  | n + 1 => pa k (pan k w q sn a n) w (q (pan k w q sn a n)) sn
def pwn (k w : Nat) (q : Nat → Nat) (sn : Nat → Bool) (a r : Nat) : Nat → Nat
  | 0 => r
  | n + 1 => pw k (pan k w q sn a n) w (pwn k w q sn a r n)
theorem pan_ok {k a w : Nat} {q : Nat → Nat} {sn : Nat → Bool} (hw : w < 2) (ha : a < 48 ∨ a = 100 ∨ a = 101) : ∀ n, pan k w q sn a n < 48 ∨ pan k w q sn a n = 100 ∨ pan k w q sn a n = 101
  | 0 => ha
  | n + 1 => pa_ok hw (pan_ok hw ha n)
theorem pwn_ok {k a w r : Nat} {q : Nat → Nat} {sn : Nat → Bool} (hr : r ≤ 99) : ∀ n, pwn k w q sn a r n ≤ 99
  | 0 => hr
  | n + 1 => pw_ok (pwn_ok hr n)
theorem pan_cong {k a w : Nat} {q q2 : Nat → Nat} {sn sn2 : Nat → Bool} (hw : w < 2) (hq : ∀ c, c < 48 → q c = q2 c) (hs : ∀ c, c < 48 → sn c = sn2 c) : ∀ n, pan k w q sn a n = pan k w q2 sn2 a n
  | 0 => rfl
  | n + 1 => by
    show pa k (pan k w q sn a n) w (q (pan k w q sn a n)) sn = pa k (pan k w q2 sn2 a n) w (q2 (pan k w q2 sn2 a n)) sn2
    rw [pan_cong hw hq hs n]
    unfold pa
    split
    · rename_i h
      rw [hq _ h, tg_cong h hw hs]
    · rfl
theorem pwn_cong {k a w r : Nat} {q q2 : Nat → Nat} {sn sn2 : Nat → Bool} (hw : w < 2) (hq : ∀ c, c < 48 → q c = q2 c) (hs : ∀ c, c < 48 → sn c = sn2 c) : ∀ n, pwn k w q sn a r n = pwn k w q2 sn2 a r n
  | 0 => rfl
  | n + 1 => by
    show pw k (pan k w q sn a n) w (pwn k w q sn a r n) = pw k (pan k w q2 sn2 a n) w (pwn k w q2 sn2 a r n)
    rw [pan_cong hw hq hs n, pwn_cong hw hq hs n]
theorem IV.ami (h : IV s) : ∀ n, IV (ami s n)
  | 0 => h
  | n + 1 => (IV.ami h n).amn
theorem nO_ami (s : Nat → Int32) : ∀ n, nO (ami s n) = nO s
  | 0 => rfl
  | n + 1 => (nO_amin _).trans (nO_ami s n)
theorem kO_ami (s : Nat → Int32) (b : Nat) : ∀ n, kO (ami s n) b = kO s b
  | 0 => rfl
  | n + 1 => (kO_amin _ b).trans (kO_ami s b n)
theorem wO_ami (s : Nat → Int32) (b : Nat) : ∀ n, wO (ami s n) b = wO s b
  | 0 => rfl
  | n + 1 => (wO_amin _ b).trans (wO_ami s b n)
theorem qO_ami (s : Nat → Int32) {c : Nat} (hc : c < 48) : ∀ n, qO (ami s n) c = qO s c
  | 0 => rfl
  | n + 1 => (qO_amin _ hc).trans (qO_ami s hc n)
theorem sc8_ami (s : Nat → Int32) {c : Nat} (hc : c < 48) : ∀ n, sc8 (ami s n) c = sc8 s c
  | 0 => rfl
  | n + 1 => (sc8_amin _ hc).trans (sc8_ami s hc n)
theorem ami_at (h : IV s) {b : Nat} (hb : b < nO s) : ∀ n, aO (ami s n) b = pan (kO s b) (wO s b) (qO s) (sc8 s) (aO s b) n ∧ rO (ami s n) b = pwn (kO s b) (wO s b) (qO s) (sc8 s) (aO s b) (rO s b) n
  | 0 => ⟨rfl, rfl⟩
  | n + 1 => by
    obtain ⟨i1, i2⟩ := ami_at h hb n
    have hv := h.ami n
    obtain ⟨h1, h2⟩ := amin_at hv (b := b) (by rw [nO_ami]; exact hb)
    rw [kO_ami, wO_ami, i1] at h1 h2
    rw [i2] at h2
    refine ⟨h1.trans ?_, h2⟩
    show _ = pa (kO s b) (pan (kO s b) (wO s b) (qO s) (sc8 s) (aO s b) n) (wO s b) (qO s (pan (kO s b) (wO s b) (qO s) (sc8 s) (aO s b) n)) (sc8 s)
    unfold pa
    split
    · rename_i ha
      have hn := h.n.2
      rw [qO_ami s ha, tg_cong ha (h.w_ (show b < 8 by omega)).2 (fun c hc => sc8_ami s hc n)]
    · rfl
end AM
