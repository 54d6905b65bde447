/-! ===== texts and statics: what lies outside the worlds ===== -/
def bb_strs : List (List Int32) := [[115, 112, 121], [102, 108, 111, 97, 116, 101, 114], [108, 111, 118, 101, 114], [115, 116, 97, 121, 101, 114], [99, 104, 105, 108, 100], [103, 101, 110, 101, 114, 97, 108], [98, 97, 116, 104, 101, 114], [97, 116], [119, 105, 115, 104], [119, 114, 105, 110, 107, 108, 101, 115], [115, 116, 101, 97, 109], [99, 117, 114, 114, 101, 110, 116], [103, 117, 97, 114, 100], [115, 105, 103, 104, 116], [59]]
def bb_len (i : Nat) : Nat := (bb_strs.getD i []).length
def bb_byt (i j : Nat) : Int32 := (bb_strs.getD i []).getD j 0
def bb_above (j : Nat) : Int32 := ([-1, 0, 0, 2, 3, 0, 1] : List Int32).getD j 0
def bb_consts : List (String × Nat × String × Nat) := [("BathBorder$TextReader", 82, "spy", 0), ("BathBorder$TextReader", 84, "floater", 1), ("BathBorder$TextReader", 86, "lover", 2), ("BathBorder$TextReader", 88, "stayer", 3), ("BathBorder$TextReader", 90, "child", 4), ("BathBorder$TextReader", 92, "general", 5), ("BathBorder$TextReader", 94, "bather", 6), ("BathBorder$TextReader", 103, "at", 7), ("BathBorder$TextReader", 113, "wish", 8), ("BathBorder$TextReader", 117, "wrinkles", 9), ("BathBorder$TextReader", 46, "steam", 10), ("BathBorder$TextReader", 61, "current", 11), ("BathBorder$TextReader", 65, "guard", 12), ("BathBorder$TextReader", 70, "sight", 13), ("BathBorderModel", 300, "bather", 6), ("BathBorderModel", 302, "spy", 0), ("BathBorderModel", 304, "floater", 1), ("BathBorderModel", 306, "lover", 2), ("BathBorderModel", 308, "stayer", 3), ("BathBorderModel", 310, "child", 4), ("BathBorderModel", 312, "general", 5), ("BathBorderModel", 313, "at", 7), ("BathBorderModel", 321, "wish", 8), ("BathBorderModel", 323, "wrinkles", 9), ("BathBorderModel", 331, "steam", 10), ("BathBorderModel", 337, "current", 11), ("BathBorderModel", 339, "guard", 12), ("BathBorderModel", 344, "sight", 13), ("BathBorderModel", 349, ";", 14)]
def EV (aK aV : Nat → Nat) (aT : Nat) (A : Nat → Prop) (U : State) (H : Heap) : Prop :=
  (∀ i : Nat, i < 15 → va_O "java/lang/String" (aK i) A U H ∧ va_OF "java/lang/String" "coder" "B" (.int 0) (aK i) A U H ∧ va_OF "java/lang/String" "value" "[B" (.ref (aV i)) (aK i) A U H ∧ va_T .byte (aV i) (bb_len i) (fun j => .int (bb_byt i j)) A U H) ∧
  va_Z "java/lang/String" "COMPACT_STRINGS" "Z" (.int 1) A U H ∧ va_Zq "jdk/internal/util/Preconditions" "SIOOBE_FORMATTER" "Ljava/util/function/BiFunction;" A U H ∧
  (va_Z "BathBorder$Walker" "ABOVE" "[I" (.ref aT) A U H ∧ va_T .int aT 7 (fun j => .int (bb_above j)) A U H) ∧ ∀ q ∈ bb_consts, vk_R q.1 q.2.1 q.2.2.1 (aK q.2.2.2) U
section EVL
variable {aK aV : Nat → Nat} {aT : Nat} {A B : Nat → Prop} {U s : State} {H H1 : Heap} {locs : List Loc}
theorem EV.kept (h : EV aK aV aT A U H) (hq : ∀ a : Nat, a < H.size → ¬ A a → H1[a]? = H[a]?) : EV aK aV aT A U H1 :=
  ⟨fun i hi => ⟨(h.1 i hi).1.kept hq, (h.1 i hi).2.1.kept hq, (h.1 i hi).2.2.1.kept hq, (h.1 i hi).2.2.2.kept hq⟩, h.2.1.kept hq, h.2.2.1.kept hq, ⟨h.2.2.2.1.1.kept hq, h.2.2.2.1.2.kept hq⟩, h.2.2.2.2⟩
theorem EV.narrow (h : EV aK aV aT A U H) (hAB : ∀ q, B q → A q) : EV aK aV aT B U H :=
  ⟨fun i hi => ⟨(h.1 i hi).1.narrow hAB, (h.1 i hi).2.1.narrow hAB, (h.1 i hi).2.2.1.narrow hAB, (h.1 i hi).2.2.2.narrow hAB⟩, h.2.1.narrow hAB, h.2.2.1.narrow hAB, ⟨h.2.2.2.1.1.narrow hAB, h.2.2.2.1.2.narrow hAB⟩, h.2.2.2.2⟩
theorem EV.warm (hW : s.WarmedH U.vm) (h : EV aK aV aT A s H) : EV aK aV aT A U H :=
  ⟨fun i hi => ⟨(h.1 i hi).1.moved hW.alike, (h.1 i hi).2.1.moved hW.alike, (h.1 i hi).2.2.1.moved hW.alike, (h.1 i hi).2.2.2.moved hW.alike⟩, h.2.1.moved hW.alike, h.2.2.1.moved hW.alike, ⟨h.2.2.2.1.1.moved hW.alike, h.2.2.2.1.2.moved hW.alike⟩, fun q hq => (h.2.2.2.2 q hq).warm hW⟩
theorem EV.same {V : State} (hv : V.vm = U.vm) (h : EV aK aV aT A U H) : EV aK aV aT A V H :=
  have ha : U.vm.Alike V.vm := by rw [hv]; exact Vm.Alike.refl U.vm
  ⟨fun i hi => ⟨(h.1 i hi).1.moved ha, (h.1 i hi).2.1.moved ha, (h.1 i hi).2.2.1.moved ha, (h.1 i hi).2.2.2.moved ha⟩, h.2.1.moved ha, h.2.2.1.moved ha, ⟨h.2.2.2.1.1.moved ha, h.2.2.2.1.2.moved ha⟩, fun q hq => (h.2.2.2.2 q hq).same hv⟩
theorem EV.cod (h : EV aK aV aT A U H) (i : Nat) (hi : i < 15) : va_OF "java/lang/String" "coder" "B" (.int 0) (aK i) A U H := (h.1 i hi).2.1
theorem EV.val (h : EV aK aV aT A U H) (i : Nat) (hi : i < 15) : va_OF "java/lang/String" "value" "[B" (.ref (aV i)) (aK i) A U H := (h.1 i hi).2.2.1
theorem EV.byt (h : EV aK aV aT A U H) (i : Nat) (hi : i < 15) : va_T .byte (aV i) (bb_len i) (fun j => .int (bb_byt i j)) A U H := (h.1 i hi).2.2.2
theorem EV.cs (h : EV aK aV aT A U H) : va_Z "java/lang/String" "COMPACT_STRINGS" "Z" (.int 1) A U H := h.2.1
theorem EV.sio (h : EV aK aV aT A U H) : va_Zq "jdk/internal/util/Preconditions" "SIOOBE_FORMATTER" "Ljava/util/function/BiFunction;" A U H := h.2.2.1
theorem EV.ab (h : EV aK aV aT A U H) : va_Z "BathBorder$Walker" "ABOVE" "[I" (.ref aT) A U H := h.2.2.2.1.1
theorem EV.abt (h : EV aK aV aT A U H) : va_T .int aT 7 (fun j => .int (bb_above j)) A U H := h.2.2.2.1.2
theorem EV.con (h : EV aK aV aT A U H) (q : String × Nat × String × Nat) (hq : q ∈ bb_consts) : vk_R q.1 q.2.1 q.2.2.1 (aK q.2.2.2) U := h.2.2.2.2 q hq
theorem EV.recv (h : EV aK aV aT A s s.heap) (i : Nat) (hi : i < 15) (hS : va_S A s.heap H locs) : ∃ cell : Cell, H[aK i]? = some cell ∧ cell.vm.isStatics = false ∧ s.vm.findClass "java/lang/String" = some cell.cls := by
  obtain ⟨cell, h1, h2, h3, -⟩ := (h.1 i hi).1.kept hS.2.1
  exact ⟨cell, h1, h2, h3⟩
variable {D : va_G} {cl : List vw_C} {ws : va_W} {tys : List (ClassId × FieldType)} {As : List Value}
theorem EV.down (hE : EV aK aV aT A s s.heap) (hS : va_S A s.heap H locs) (hAB : ∀ q, B q → A q) (hU : U.heap = H) (hW : s.WarmedH U.vm) : EV aK aV aT B U U.heap := by
  rw [hU]
  exact ((hE.kept hS.2.1).narrow hAB).warm hW
theorem bb_preSe (hP : va_P D cl ws H) (hK : va_K D cl tys s) (hE : EV aK aV aT A s s.heap) (hS : va_S A s.heap H locs) : PreS s H (va_Pc As (fun U => va_P D cl ws U.heap ∧ va_K D cl tys U ∧ EV aK aV aT (fun _ => False) U U.heap)) As :=
  ⟨fun a U g mk q => ⟨q.1, q.2.1, va_K.moved (u := U) (U := U.calling g mk a) (Vm.Alike.refl U.vm) q.2.2.1, EV.same (U := U) (V := U.calling g mk a) rfl q.2.2.2⟩, fun U hU hW => ⟨rfl, by rw [hU]; exact hP, va_K.moved hW.alike hK, hE.down hS (fun _ h => h.elim) hU hW⟩⟩
theorem bb_preVe {C : String} {b : Addr} (hr : ∃ cellB : Cell, H[b]? = some cellB ∧ cellB.vm.isStatics = false ∧ s.vm.findClass C = some cellB.cls) (hP : va_P D cl ws H) (hK : va_K D cl tys s) (hE : EV aK aV aT A s s.heap) (hS : va_S A s.heap H locs) : PreV s H C b (va_Pc (.ref b :: As) (fun U => va_P D cl ws U.heap ∧ va_K D cl tys U ∧ EV aK aV aT (fun _ => False) U U.heap)) As :=
  ⟨fun a U g mk q => ⟨q.1, q.2.1, va_K.moved (u := U) (U := U.calling g mk a) (Vm.Alike.refl U.vm) q.2.2.1, EV.same (U := U) (V := U.calling g mk a) rfl q.2.2.2⟩, hr, fun U hU hW => ⟨rfl, by rw [hU]; exact hP, va_K.moved hW.alike hK, hE.down hS (fun _ h => h.elim) hU hW⟩⟩
theorem bb_preVwe {C : String} {b : Addr} {A1 : Nat → Prop} (hr : ∃ cellB : Cell, H[b]? = some cellB ∧ cellB.vm.isStatics = false ∧ s.vm.findClass C = some cellB.cls) (hP : va_P D cl ws H) (hK : va_K D cl tys s) (hD : va_D A1 ws) (hE : EV aK aV aT A s s.heap) (hS : va_S A s.heap H locs) (hF : ∀ q, va_A ws H.size q → A q) : PreV s H C b (va_Pc (.ref b :: As) (fun U => U.heap.size = H.size ∧ va_P D cl ws U.heap ∧ va_K D cl tys U ∧ va_D (fun _ => True) ws ∧ EV aK aV aT (va_A ws H.size) U U.heap)) As :=
  ⟨fun a U g mk q => ⟨q.1, q.2.1, q.2.2.1, va_K.moved (u := U) (U := U.calling g mk a) (Vm.Alike.refl U.vm) q.2.2.2.1, q.2.2.2.2.1, EV.same (U := U) (V := U.calling g mk a) rfl q.2.2.2.2.2⟩, hr, fun U hU hW => ⟨rfl, by rw [hU], by rw [hU]; exact hP, va_K.moved hW.alike hK, hD.weaken (fun _ _ _ _ => trivial), hE.down hS hF hU hW⟩⟩
end EVL
def bb_st {α : Type} (i : Nat) (k : Option α) : Option α := if i < 15 then k else none
theorem bb_st_o {α : Type} {i : Nat} {k : Option α} {r : α} (h : bb_st i k = some r) : i < 15 ∧ k = some r := by
  unfold bb_st at h
  by_cases hc : i < 15
  · rw [if_pos hc] at h; exact ⟨hc, h⟩
  · rw [if_neg hc] at h; cases h
theorem bb_ldcwX {p : Program} {l : Launch} {e : Env} {R : Room} {s : State} {m : MethodId} {args : Array Value} {below : List Frame} {meth : Method} {c : Code} {T : State} {locs : List Loc} {cells slots : Nat}
    (X : Stand p l e R s m args below meth c T locs cells slots) (hexec : p.tables.exec = Jvm.exec) {own text : String} {index : Nat} {a : Addr} (hown : s.vm.findClass own = some m.cls)
    (hconst : (Cond.stringRef own index text).before args s = true) (hev : (Term.string own index).eval args s none [] s = some (.ref a)) {g : JFrame} (hg : g.method = m) (hdg : decode c.code g.pc = .ok (.ldc_w index, 3)) :
    ∀ target, Steps p.tables e below (T.setTop { g with pc := g.pc + 3, stack := .ref a :: g.stack }) target → Steps p.tables e below (T.setTop g) target := by
  obtain ⟨k, cf, i, b, hk, hcf, hcp, -, hr, hev2⟩ := Cond.stringRef_spec hown hconst
  cases hev.symm.trans hev2
  obtain ⟨k2, hk2, he⟩ := X.warmed.alike.2.2 _ _ hk
  have hr2 : k2.resolved[index]? = some (some (.string a)) := by
    rcases X.warmed.entry hk hk2 index with h | ⟨h, -⟩
    · rw [h]; exact hr
    · rw [hr] at h; cases h
  intro target hrest
  subst hg
  jvm_step X.here [hexec, hdg, ldc_w.wp_string (e := e) (s := T) (f := g) X.here.top hk2 (by rw [he]; exact hcf) hcp hr2]
  exact hrest
theorem bb_ldcwS {p : Program} {l : Launch} {e : Env} {R : Room} {s : State} {m : MethodId} {args : Array Value} {below : List Frame} {meth : Method} {c : Code} {H : Heap} {locs : List Loc} {cells slots : Nat} {Q : State → Prop} {cc : ByteArray} {pc : Nat} {ls : Array Slot} {rest : List Value} (hexec : p.tables.exec = Jvm.exec) (hb : c.code = cc) {own tx : String} {index q : Nat} (hown : s.vm.findClass own = some m.cls) (hZ : vk_R own index tx q s) (hdg : decode cc pc = .ok (.ldc_w index, 3))
    (k : W p l e R s m args below meth c H locs cells slots Q (F0 m (pc + 3) ls (.ref q :: rest))) : W p l e R s m args below meth c H locs cells slots Q (F0 m pc ls rest) := by
  intro T hT X
  obtain ⟨t, a1, b1⟩ := k T hT X
  exact ⟨t, bb_ldcwX X hexec hown (text := tx) (a := q) hZ.1 hZ.2 (g := F0 m pc ls rest) rfl (by rw [hb]; exact hdg) t a1, b1⟩
