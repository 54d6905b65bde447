/-! THE CLAIM OUT OF ONE WALK OF THE LAW'S BODY. Your part is whole_start (and what it stands on); all else here is the same for every law, but numbers. -/
def R_law : String := "BathBorderLaw"
def lw_P (b : Addr) (xs : List Int32) (args : Array Value) (s : State) : Prop := args = #[.ref b] ∧ s.IntsAt b xs ∧ xs.length ≤ 3072 ∧ (Jvm.Cond.and given_1 narrow_1).before args s = true
def lw_Q (_ : Array Value) (s : State) (o : Outcome) (t : State) : Prop := o = .returned (some (.int 1)) ∧ Framed s o t [] 600000 7302250
def lw_Z (below : List Frame) (a : Array Value) (s : State) : State → Prop := fun t => ∃ o, t.status = .running ∧ Ended t below o ∧ lw_Q a s o t
/-- the law's own end, with 1 on the stack, nothing written that was there before, its room as the claim has it -/
theorem lw_ret {p : Program} {l : Launch} {e : Env} {s : State} {m : MethodId} {below : List Frame} {meth : Method} {c : Code} {b : Nat} (hx : p.tables.exec = Jvm.exec) (hb : c.code = code) (hr : meth.sig.returnType = ret) (hlocks : meth.locks = false) {pc : Nat} {H : Heap} {ls : Array Slot} (hdg : decode code pc = .ok (.ireturn, 1)) : W p l e room_1 s m #[Value.ref b] below meth c H [] 600000 7302250 (lw_Z below #[Value.ref b] s) (F0 m pc ls [.int 1]) := by
  intro T hT X
  obtain ⟨fs, hret, hrun, hended, hW, hframe⟩ := X.leave (v := some (.int 1)) (hlocks := hlocks) (fun h => by rw [hr] at h; cases h)
  have hmeth' : T.vm.method? m = some meth := X.method'
  refine ⟨T.setFrames fs, ?_, .returned (some (.int 1)), hrun, hended, rfl, ⟨_, rfl⟩, hW, hframe⟩
  jvm_step X.here [X.here.top, hx, hb, hdg, hmeth', hr, ret, narrow_b1]
  (try refine ⟨rfl, ?_⟩); (try refine ⟨rfl, ?_⟩)
  first | (intro acts; rw [hret _ acts rfl rfl rfl]) | rw [hret _ _ rfl rfl rfl]
  exact Steps.refl _
/-- what holds at the law's entry: the machine, the code, the tables' words (any of lw_tbl by 'hts w (by decide +kernel)'), the script of L ints xs at the cell b, what the Statement gives of the start (any of its parts by flat_of_before) -/
def lw_At (p : Program) (s : State) (m : MethodId) (meth : Method) (c : Code) (b L : Nat) (xs : Nat → Int32) : Prop :=
  p.tables.exec = Jvm.exec ∧ c.code = code ∧ meth.sig.returnType = ret ∧ c.maxLocals = 4 ∧ s.vm.findClass R_law = some m.cls ∧ (∀ w ∈ lw_tbl, w.before #[Value.ref b] s = true) ∧ va_X b L xs s s.heap ∧ b < s.heap.size ∧ meth.locks = false ∧ (Jvm.Cond.and given_1 narrow_1).before #[Value.ref b] s = true
/-! ===== the law: the two objects' cells, and what ties them ===== -/
abbrev WLs (cy : Nat → ClassId) (u : Nat → Nat → Nat) (v : Nat → Nat) (ik si ba mi ev z b1 b2 b3 b4 b5 a1 a2 a3 a4 a5 k0 a0 w0 r0 j0 j1 j2 j3 tk tq te rn b0 m0 fr to_ wg tl ik8 tl8 : Int32) (fo st cu ga ki at_ wi wr ke sp g1 g2 g3 g4 g5 g6 g7 g8 g9 t1 t2 t3 t4 t5 t6 t7 t8 t9 su tb tc Bs Ls s kt as_ fa pr is_ tp bo so nu mv fo8 : Nat → Int32) (bg he rb : Nat → Int64) (Ns : Nat → Nat → Int32) : va_W := [(u 0 0, oX7 (u 0) (u 1) (u 2) (u 3) (u 4) (u 5) (u 6) (u 7) (u 8) ik), (u 0 11, .inl (cy 0, 7, .inl fo)), (u 0 12, .inl (cy 1, 4, .inr (.inl bg))), (u 0 13, .inl (cy 1, 41, .inr (.inl he))), (u 0 10, .inl (cy 3, 4, .inr (.inr (.inr (.inr (bb_sh (u 9) (u 10) (u 11) (u 12))))))), (u 1 0, oX6 (u 1) si ba mi ev z), (u 1 1, .inl (cy 0, 48, .inl st)), (u 1 2, .inl (cy 0, 48, .inl cu)), (u 1 3, .inl (cy 0, 4, .inl ga)), (u 1 4, .inl (cy 0, 8, .inl ki)), (u 1 5, .inl (cy 0, 8, .inl at_)), (u 1 6, .inl (cy 0, 8, .inl wi)), (u 1 7, .inl (cy 0, 8, .inl wr)), (u 1 8, .inl (cy 0, 8, .inl ke)), (u 1 9, .inl (cy 0, 10, .inl sp)), (u 2 0, oX6 (u 2) b1 b2 b3 b4 b5), (u 2 1, .inl (cy 0, 48, .inl g7)), (u 2 2, .inl (cy 0, 48, .inl g2)), (u 2 3, .inl (cy 0, 4, .inl g3)), (u 2 4, .inl (cy 0, 8, .inl g5)), (u 2 5, .inl (cy 0, 8, .inl g1)), (u 2 6, .inl (cy 0, 8, .inl g8)), (u 2 7, .inl (cy 0, 8, .inl g9)), (u 2 8, .inl (cy 0, 8, .inl g4)), (u 2 9, .inl (cy 0, 10, .inl g6)), (u 3 0, oX6 (u 3) a1 a2 a3 a4 a5), (u 3 1, .inl (cy 0, 48, .inl t7)), (u 3 2, .inl (cy 0, 48, .inl t2)), (u 3 3, .inl (cy 0, 4, .inl t3)), (u 3 4, .inl (cy 0, 8, .inl t5)), (u 3 5, .inl (cy 0, 8, .inl t1)), (u 3 6, .inl (cy 0, 8, .inl t8)), (u 3 7, .inl (cy 0, 8, .inl t9)), (u 3 8, .inl (cy 0, 8, .inl t4)), (u 3 9, .inl (cy 0, 10, .inl t6)), (u 4 0, oX4 (u 4) (u 1) k0 a0 w0 r0), (u 5 0, oX4 (u 5) (u 1) j0 j1 j2 j3), (u 6 0, oX5 (u 6) (u 1)), (u 6 2, .inl (cy 0, 48, .inl su)), (u 7 0, oX2 (u 7) tl tk tq te), (u 7 1, .inl (cy 0, 120, .inl tb)), (u 7 2, .inl (cy 0, 120, .inl tc)), (u 8 0, oX3 (u 8) (u 7) (u 3) rn), (u 9 0, oX1 (u 9) (Bs 0) (Ls 0)), (u 9 1, .inl (cy 0, 40, .inl (Ns 0))), (u 10 0, oX1 (u 10) (Bs 1) (Ls 1)), (u 10 1, .inl (cy 0, 40, .inl (Ns 1))), (u 11 0, oX1 (u 11) (Bs 2) (Ls 2)), (u 11 1, .inl (cy 0, 40, .inl (Ns 2))), (u 12 0, oX1 (u 12) (Bs 3) (Ls 3)), (u 12 1, .inl (cy 0, 40, .inl (Ns 3))), (v 0, oX8 (v) ik8 b0 m0 tl8 fr to_ wg), (v 1, .inl (cy 0, 155, .inl s)), (v 2, .inl (cy 0, 155, .inl kt)), (v 3, .inl (cy 0, 155, .inl as_)), (v 5, .inl (cy 0, 7, .inl fo8)), (v 6, .inl (cy 0, 48, .inl fa)), (v 7, .inl (cy 0, 48, .inl pr)), (v 8, .inl (cy 2, 48, .inl is_)), (v 11, .inl (cy 1, 41, .inr (.inl rb))), (v 12, .inl (cy 0, 120, .inl tp)), (v 17, .inl (cy 0, 4, .inl bo)), (v 18, .inl (cy 0, 4, .inl so)), (v 19, .inl (cy 0, 160, .inl nu)), (v 20, .inl (cy 0, 40, .inl mv))]
def LI (dC : Nat → ClassId) (dI : Nat → Nat → Nat) (cy : Nat → ClassId) (u : Nat → Nat → Nat) (v : Nat → Nat) (A : Nat → Prop) (H : Heap) : Prop := ∃ (ik si ba mi ev z b1 b2 b3 b4 b5 a1 a2 a3 a4 a5 k0 a0 w0 r0 j0 j1 j2 j3 tk tq te rn b0 m0 fr to_ wg : Int32) (fo st cu ga ki at_ wi wr ke sp g1 g2 g3 g4 g5 g6 g7 g8 g9 t1 t2 t3 t4 t5 t6 t7 t8 t9 su tb tc Bs Ls s kt as_ fa pr is_ tp bo so nu mv : Nat → Int32) (bg he rb : Nat → Int64) (tn : Nat) (Ns : Nat → Nat → Int32), va_P (dC, dI) vwCl (WLs cy u v ik si ba mi ev z b1 b2 b3 b4 b5 a1 a2 a3 a4 a5 k0 a0 w0 r0 j0 j1 j2 j3 tk tq te rn b0 m0 fr to_ wg (nI tn) ik (nI tn) fo st cu ga ki at_ wi wr ke sp g1 g2 g3 g4 g5 g6 g7 g8 g9 t1 t2 t3 t4 t5 t6 t7 t8 t9 su tb tc Bs Ls s kt as_ fa pr is_ tp bo so nu mv fo bg he rb Ns) H ∧ va_D A (WLs cy u v ik si ba mi ev z b1 b2 b3 b4 b5 a1 a2 a3 a4 a5 k0 a0 w0 r0 j0 j1 j2 j3 tk tq te rn b0 m0 fr to_ wg (nI tn) ik (nI tn) fo st cu ga ki at_ wi wr ke sp g1 g2 g3 g4 g5 g6 g7 g8 g9 t1 t2 t3 t4 t5 t6 t7 t8 t9 su tb tc Bs Ls s kt as_ fa pr is_ tp bo so nu mv fo bg he rb Ns) ∧ RW s ga st cu ki at_ wi wr ke sp mi ba si ev z ∧ IW s ∧ (¬ ik = 0 → RW kt g3 g7 g2 g5 g1 g8 g9 g4 g6 b3 b2 b1 b4 b5 ∧ IW kt) ∧ SHF bo so nu Bs Ls Ns ∧ tn ≤ 120 ∧ TPn tn tb tc tp
theorem LI.elim {dC : Nat → ClassId} {dI : Nat → Nat → Nat} {cy : Nat → ClassId} {u : Nat → Nat → Nat} {v : Nat → Nat} {A : Nat → Prop} {H : Heap} {C : Prop} (h : LI dC dI cy u v A H) (k : ∀ (ik si ba mi ev z b1 b2 b3 b4 b5 a1 a2 a3 a4 a5 k0 a0 w0 r0 j0 j1 j2 j3 tk tq te rn b0 m0 fr to_ wg : Int32) (fo st cu ga ki at_ wi wr ke sp g1 g2 g3 g4 g5 g6 g7 g8 g9 t1 t2 t3 t4 t5 t6 t7 t8 t9 su tb tc Bs Ls s kt as_ fa pr is_ tp bo so nu mv : Nat → Int32) (bg he rb : Nat → Int64) (tn : Nat) (Ns : Nat → Nat → Int32), va_P (dC, dI) vwCl (WLs cy u v ik si ba mi ev z b1 b2 b3 b4 b5 a1 a2 a3 a4 a5 k0 a0 w0 r0 j0 j1 j2 j3 tk tq te rn b0 m0 fr to_ wg (nI tn) ik (nI tn) fo st cu ga ki at_ wi wr ke sp g1 g2 g3 g4 g5 g6 g7 g8 g9 t1 t2 t3 t4 t5 t6 t7 t8 t9 su tb tc Bs Ls s kt as_ fa pr is_ tp bo so nu mv fo bg he rb Ns) H → va_D A (WLs cy u v ik si ba mi ev z b1 b2 b3 b4 b5 a1 a2 a3 a4 a5 k0 a0 w0 r0 j0 j1 j2 j3 tk tq te rn b0 m0 fr to_ wg (nI tn) ik (nI tn) fo st cu ga ki at_ wi wr ke sp g1 g2 g3 g4 g5 g6 g7 g8 g9 t1 t2 t3 t4 t5 t6 t7 t8 t9 su tb tc Bs Ls s kt as_ fa pr is_ tp bo so nu mv fo bg he rb Ns) → RW s ga st cu ki at_ wi wr ke sp mi ba si ev z → IW s → (¬ ik = 0 → RW kt g3 g7 g2 g5 g1 g8 g9 g4 g6 b3 b2 b1 b4 b5 ∧ IW kt) → SHF bo so nu Bs Ls Ns → tn ≤ 120 → TPn tn tb tc tp → C) : C := by
  unfold LI at h
  refine Exists.elim h (fun ik h => ?_)
  refine Exists.elim h (fun si h => ?_)
  refine Exists.elim h (fun ba h => ?_)
  refine Exists.elim h (fun mi h => ?_)
  refine Exists.elim h (fun ev h => ?_)
  refine Exists.elim h (fun z h => ?_)
  refine Exists.elim h (fun b1 h => ?_)
  refine Exists.elim h (fun b2 h => ?_)
  refine Exists.elim h (fun b3 h => ?_)
  refine Exists.elim h (fun b4 h => ?_)
  refine Exists.elim h (fun b5 h => ?_)
  refine Exists.elim h (fun a1 h => ?_)
  refine Exists.elim h (fun a2 h => ?_)
  refine Exists.elim h (fun a3 h => ?_)
  refine Exists.elim h (fun a4 h => ?_)
  refine Exists.elim h (fun a5 h => ?_)
  refine Exists.elim h (fun k0 h => ?_)
  refine Exists.elim h (fun a0 h => ?_)
  refine Exists.elim h (fun w0 h => ?_)
  refine Exists.elim h (fun r0 h => ?_)
  refine Exists.elim h (fun j0 h => ?_)
  refine Exists.elim h (fun j1 h => ?_)
  refine Exists.elim h (fun j2 h => ?_)
  refine Exists.elim h (fun j3 h => ?_)
  refine Exists.elim h (fun tk h => ?_)
  refine Exists.elim h (fun tq h => ?_)
  refine Exists.elim h (fun te h => ?_)
  refine Exists.elim h (fun rn h => ?_)
  refine Exists.elim h (fun b0 h => ?_)
  refine Exists.elim h (fun m0 h => ?_)
  refine Exists.elim h (fun fr h => ?_)
  refine Exists.elim h (fun to_ h => ?_)
  refine Exists.elim h (fun wg h => ?_)
  refine Exists.elim h (fun fo h => ?_)
  refine Exists.elim h (fun st h => ?_)
  refine Exists.elim h (fun cu h => ?_)
  refine Exists.elim h (fun ga h => ?_)
  refine Exists.elim h (fun ki h => ?_)
  refine Exists.elim h (fun at_ h => ?_)
  refine Exists.elim h (fun wi h => ?_)
  refine Exists.elim h (fun wr h => ?_)
  refine Exists.elim h (fun ke h => ?_)
  refine Exists.elim h (fun sp h => ?_)
  refine Exists.elim h (fun g1 h => ?_)
  refine Exists.elim h (fun g2 h => ?_)
  refine Exists.elim h (fun g3 h => ?_)
  refine Exists.elim h (fun g4 h => ?_)
  refine Exists.elim h (fun g5 h => ?_)
  refine Exists.elim h (fun g6 h => ?_)
  refine Exists.elim h (fun g7 h => ?_)
  refine Exists.elim h (fun g8 h => ?_)
  refine Exists.elim h (fun g9 h => ?_)
  refine Exists.elim h (fun t1 h => ?_)
  refine Exists.elim h (fun t2 h => ?_)
  refine Exists.elim h (fun t3 h => ?_)
  refine Exists.elim h (fun t4 h => ?_)
  refine Exists.elim h (fun t5 h => ?_)
  refine Exists.elim h (fun t6 h => ?_)
  refine Exists.elim h (fun t7 h => ?_)
  refine Exists.elim h (fun t8 h => ?_)
  refine Exists.elim h (fun t9 h => ?_)
  refine Exists.elim h (fun su h => ?_)
  refine Exists.elim h (fun tb h => ?_)
  refine Exists.elim h (fun tc h => ?_)
  refine Exists.elim h (fun Bs h => ?_)
  refine Exists.elim h (fun Ls h => ?_)
  refine Exists.elim h (fun s h => ?_)
  refine Exists.elim h (fun kt h => ?_)
  refine Exists.elim h (fun as_ h => ?_)
  refine Exists.elim h (fun fa h => ?_)
  refine Exists.elim h (fun pr h => ?_)
  refine Exists.elim h (fun is_ h => ?_)
  refine Exists.elim h (fun tp h => ?_)
  refine Exists.elim h (fun bo h => ?_)
  refine Exists.elim h (fun so h => ?_)
  refine Exists.elim h (fun nu h => ?_)
  refine Exists.elim h (fun mv h => ?_)
  refine Exists.elim h (fun bg h => ?_)
  refine Exists.elim h (fun he h => ?_)
  refine Exists.elim h (fun rb h => ?_)
  refine Exists.elim h (fun tn h => ?_)
  refine Exists.elim h (fun Ns h => ?_)
  exact k ik si ba mi ev z b1 b2 b3 b4 b5 a1 a2 a3 a4 a5 k0 a0 w0 r0 j0 j1 j2 j3 tk tq te rn b0 m0 fr to_ wg fo st cu ga ki at_ wi wr ke sp g1 g2 g3 g4 g5 g6 g7 g8 g9 t1 t2 t3 t4 t5 t6 t7 t8 t9 su tb tc Bs Ls s kt as_ fa pr is_ tp bo so nu mv bg he rb tn Ns h.1 h.2.1 h.2.2.1 h.2.2.2.1 h.2.2.2.2.1 h.2.2.2.2.2.1 h.2.2.2.2.2.2.1 h.2.2.2.2.2.2.2
def pick (ws : va_W) (is : List Nat) : va_W := is.filterMap (fun i => ws[i]?)
section LAWARG
variable {p : Program} {l : Launch} {e : Env} {sg : State} {m : MethodId} {below : List Frame} {meth : Method} {c : Code} {b LN : Nat} {xs : Nat → Int32} {H : Heap} {locs : List Loc} {ls : Array Slot} {cells slots : Nat} {Q : State → Prop} {rest : List Value}
theorem lw_arg {i k pc : Nat} {kv : Int} {q1 q2 : Nat} (hx : p.tables.exec = Jvm.exec) (hb : c.code = code) (hX : va_X b LN xs sg sg.heap) (hbl : b < sg.heap.size) (hS : va_S (fun q : Nat => sg.heap.size ≤ q) sg.heap H locs) (hl : lv_has ls 4 [(0, .ref b), (1, .ref q1), (2, .ref q2), (3, .int (nI i))]) (hik : i + k < LN) (hLN : LN ≤ 3072) (hkv : Int32.ofInt kv = nI k)
    (d0 : decode code pc = .ok (.aload_n 0, 1)) (d1 : decode code (pc + 1) = .ok (.iload_n 3, 1)) (d2 : decode code (pc + 2) = .ok (.iconst kv, 1)) (d3 : decode code (pc + 3) = .ok (.iadd, 1)) (d4 : decode code (pc + 4) = .ok (.iaload, 1))
    (kk : W p l e room_1 sg m #[Value.ref b] below meth c H locs cells slots Q (F0 m (pc + 5) ls (.int (xs (i + k)) :: rest))) : W p l e room_1 sg m #[Value.ref b] below meth c H locs cells slots Q (F0 m pc ls rest) := by
  have hbA : ¬ (fun q : Nat => sg.heap.size ≤ q) b := Nat.not_le.mpr hbl
  refine lv_aload_n hx hb d0 rfl (lv_at hl 0 rfl) ?_
  refine lv_iload_n hx hb d1 rfl (lv_at hl 3 rfl) ?_
  refine lv_iconst (v := nI k) hx hb d2 hkv ?_
  refine lv_iadd hx hb d3 ?_
  rw [nAdd]
  refine va_sld hx hb hX hbl hbA hS (vp_in_nI hik (by omega)) d4 ?_
  rw [nI_clamp (by omega)]
  exact kk
end LAWARG
theorem lw_gt {LN i : Nat} (hLN : LN ≤ 3072) (hi : i ≤ 10000) (h : LN < i + 6) : Int32.ofNat LN - nI 6 < nI i := by
  show nI LN - nI 6 < nI i
  rw [i_lt, nI_toInt (by omega), pk_sub_toInt (by omega) (by omega)]
  omega
