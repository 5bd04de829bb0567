abbrev vwCl : List vw_C := [(RX0, TX0, 7), (RX1, TX1, 5), (RX2, TX2, 19), (RX3, TX3, 1), (RX4, TX4, 2), (RX5, TX5, 5), (RX6, TX6, 8), (RX7, TX7, 7), (RX8, TX8, 14), (RX9, TX9, 8)]
/-! THE LIBRARY OF THIS PROOF: a walk over abstract states. A state is: the place in the code, the locals as a list, the stack, the world as a list of groups of cells. -/
section WWa
abbrev Ex : Type := Launch × va_G × (ClassId × ClassId × ClassId × ClassId) × ((Nat → Nat) × (Nat → Nat)) × (Nat × Nat × (Nat → Int32))
def eL (E : Ex) : Launch := E.1
def eD (E : Ex) : va_G := E.2.1
def eI (E : Ex) : ClassId := E.2.2.1.1
def eJ (E : Ex) : ClassId := E.2.2.1.2.1
def eH (E : Ex) : ClassId := E.2.2.1.2.2.1
def eS (E : Ex) : ClassId := E.2.2.1.2.2.2
def eK (E : Ex) : Nat → Nat := E.2.2.2.1.1
def eV (E : Ex) : Nat → Nat := E.2.2.2.1.2
def eB (E : Ex) : Nat := E.2.2.2.2.1
def eN (E : Ex) : Nat := E.2.2.2.2.2.1
def eX (E : Ex) : Nat → Int32 := E.2.2.2.2.2.2
def eT (E : Ex) : List (ClassId × FieldType) := [(eI E, .int), (eJ E, .long), (eH E, .object "GuardWalks$House"), (eS E, .array .int)]
/-- the links to private members of nest mates -/
def nwAll : List Cond := [.methodLinkNest RX8 9 yX2_init RX8, .methodLinkNest RX1 17 yX2_init RX8, .methodLinkNest RX8 28 yX6_init RX8, .methodLinkNest RX8 38 yX0_init RX8, .methodLinkNest RX0 30 yX2_init RX8, .methodLinkNest RX0 37 yX6_init RX8, .methodLinkNest RX8 45 yX4_init RX8, .methodLinkNest RX8 52 yX7_init RX8, .methodLinkNest RX2 86 yX8_has RX8, .methodLinkNest RX2 127 yX8_leastMultiple RX8, .methodLinkNest RX4 34 yX8_has RX8, .methodLinkNest RL 22 yX9_init RL, .methodLinkNest RL 48 yX9_walkBy RL, .methodLinkNest RX9 94 yL_most RL, .methodLinkNest RL 159 yX9_pass RL, .methodLinkNest RL 129 yX9_lates RL, .methodLinkNest RL 166 yX9_best RL, .methodLinkNest RX0 66 yX8_leastMultiple RX8, .methodLinkNest RL 143 yX9_through RL, .methodLinkNest RL 173 yX9_open RL, .methodLinkNest RL 135 yX9_opens RL, .methodLinkNest RL 120 yX9_cycle RL, .methodLinkNest RL 126 yX9_worst RL, .fieldLinkNest RL 31 RX9 "rooms" "I" RL, .fieldLinkNest RL 42 RX9 "doors" "I" RL, .fieldLinkNest RL 56 RX9 "guards" "I" RL, .fieldLinkNest RL 39 RX9 "door" "[[I" RL, .fieldLinkNest RL 35 RX9 "room" "[[I" RL, .fieldLinkNest RL 45 RX9 "walk" "[[I" RL, .fieldLinkNest RL 52 RX9 "phase" "[I" RL, .castable "[I" "java/lang/Cloneable"]
/-- the String constants: whose, which entry, what text, its bytes -/
def stTab : List (String × Nat × String) := [(RX8, 156, "no such number of the house"), (RX8, 178, "no such property of a door"), (RX8, 207, "no such property of a room"), (RX8, 230, "no such property of a guard"), (RX8, 336, "no such room"), (RX8, 341, "no such door"), (RX8, 346, "no such guard"), (RX8, 350, "out of range"), (RX8, 353, "negative"), (RX3, 15, "house"), (RX3, 52, "walk"), (RX3, 61, "door"), (RX3, 69, "guard"), (RX3, 74, "limit"), (RX3, 86, "closed"), (RX3, 120, "phase"), (RL, 84, "house "), (RL, 86, "door "), (RL, 76, " "), (RL, 88, ";"), (RL, 90, " closed;"), (RL, 92, "guard"), (RL, 82, " phase "), (RL, 98, "limit "), (RL, 182, "walk "), (RL, 256, "house 3;door 0 1;door 1 2;limit 2 1;guard 0 1 2 1;guard 2 1 phase 1;")]
def stBy (t : String) : List Int32 := t.toList.map (fun ch => Int32.ofNat ch.toNat)
/-- arrays of int[] stand -/
def va_AOA (U : State) : Prop := (Cond.arrayOver (.array .int)).before #[] U = true
theorem va_AOA.moved {u U : State} (hvm : u.vm.Alike U.vm) (h : va_AOA u) : va_AOA U := over_moved hvm h
def XA (U : State) : Prop := va_AO "GuardWalks$House" U ∧ va_AOA U
theorem XA.warm {s U : State} (hW : s.WarmedH U.vm) (h : XA s) : XA U := ⟨va_AO.moved hW.alike h.1, va_AOA.moved hW.alike h.2⟩
theorem XA.same {s U : State} (hv : s.vm = U.vm) (h : XA s) : XA U := by
  have hal : s.vm.Alike U.vm := by rw [hv]; exact Vm.Alike.refl U.vm
  exact ⟨va_AO.moved hal h.1, va_AOA.moved hal h.2⟩
/-- the script lies outside -/
def XS (E : Ex) (A : Nat → Prop) (U : State) (H : Heap) : Prop := va_X (eB E) (eN E) (eX E) U H ∧ ¬ A (eB E)
theorem va_X_lt {b L : Nat} {xs : Nat → Int32} {U : State} {H : Heap} (h : va_X b L xs U H) : b < H.size := by
  obtain ⟨scr, h1, -⟩ := h
  exact (Array.getElem?_eq_some_iff.mp h1).1
theorem XS.kept {E : Ex} {A : Nat → Prop} {U : State} {H H1 : Heap} (h : XS E A U H) (hq : ∀ a : Nat, a < H.size → ¬ A a → H1[a]? = H[a]?) : XS E A U H1 := ⟨h.1.kept (hq _ (va_X_lt h.1) h.2), h.2⟩
theorem XS.narrow {E : Ex} {A B : Nat → Prop} {U : State} {H : Heap} (h : XS E A U H) (hAB : ∀ q, B q → A q) : XS E B U H := ⟨h.1, fun q => h.2 (hAB _ q)⟩
theorem XS.moved {E : Ex} {A : Nat → Prop} {u U : State} {H : Heap} (hvm : u.vm.Alike U.vm) (h : XS E A u H) : XS E A U H := ⟨h.1.moved hvm, h.2⟩
/-- what never changes: links, String constants, two statics of Throwable -/
def Xw (E : Ex) (A : Nat → Prop) (U : State) (H : Heap) : Prop :=
  (∀ w ∈ nwAll, va_Nw w U) ∧
  (∀ i q, stTab[i]? = some q → vk_R q.1 q.2.1 q.2.2 (eK E i) U ∧ va_O "java/lang/String" (eK E i) A U H ∧ va_OF "java/lang/String" "coder" "B" (.int 0) (eK E i) A U H ∧ va_OF "java/lang/String" "value" "[B" (.ref (eV E i)) (eK E i) A U H ∧ va_T .byte (eV E i) (stBy q.2.2).length (fun j => .int ((stBy q.2.2).getD j 0)) A U H) ∧
  vx_Zq Bundle.tN "UNASSIGNED_STACK" Bundle.steD A U H ∧ vx_Zq Bundle.tN "SUPPRESSED_SENTINEL" Bundle.listD A U H ∧ va_Z "java/lang/String" "COMPACT_STRINGS" "Z" (.int 1) A U H ∧ va_Zq "jdk/internal/util/Preconditions" "SIOOBE_FORMATTER" "Ljava/util/function/BiFunction;" A U H ∧ XA U ∧ XS E A U H
theorem Xw.nw {E : Ex} {A : Nat → Prop} {U : State} {H : Heap} (h : Xw E A U H) {w : Cond} (hw : w ∈ nwAll) : va_Nw w U := h.1 w hw
theorem nwAll_warm {w : Cond} (hw : w ∈ nwAll) {s U : State} (hW : s.WarmedH U.vm) (h : va_Nw w s) : va_Nw w U := by
  simp only [nwAll, List.mem_cons, List.not_mem_nil, or_false] at hw
  rcases hw with rfl | rfl | rfl | rfl | rfl | rfl | rfl | rfl | rfl | rfl | rfl | rfl | rfl | rfl | rfl | rfl | rfl | rfl | rfl | rfl | rfl | rfl | rfl | rfl | rfl | rfl | rfl | rfl | rfl | rfl | rfl <;> first | exact va_Nw.warmM hW h | exact va_Nw.warmF hW h | exact va_Nw.warmC hW h
theorem nwAll_same {w : Cond} (hw : w ∈ nwAll) {s U : State} (hv : s.vm = U.vm) (h : va_Nw w s) : va_Nw w U := by
  simp only [nwAll, List.mem_cons, List.not_mem_nil, or_false] at hw
  rcases hw with rfl | rfl | rfl | rfl | rfl | rfl | rfl | rfl | rfl | rfl | rfl | rfl | rfl | rfl | rfl | rfl | rfl | rfl | rfl | rfl | rfl | rfl | rfl | rfl | rfl | rfl | rfl | rfl | rfl | rfl | rfl <;> exact va_Nw.same rfl hv h
theorem Xw.kept {E : Ex} {A : Nat → Prop} {U : State} {H H1 : Heap} (h : Xw E A U H) (hq : ∀ a : Nat, a < H.size → ¬ A a → H1[a]? = H[a]?) : Xw E A U H1 :=
  ⟨h.1, fun i q hi => ⟨(h.2.1 i q hi).1, (h.2.1 i q hi).2.1.kept hq, (h.2.1 i q hi).2.2.1.kept hq, (h.2.1 i q hi).2.2.2.1.kept hq, (h.2.1 i q hi).2.2.2.2.kept hq⟩, h.2.2.1.kept hq, h.2.2.2.1.kept hq, h.2.2.2.2.1.kept hq, h.2.2.2.2.2.1.kept hq, h.2.2.2.2.2.2.1, h.2.2.2.2.2.2.2.kept hq⟩
theorem Xw.narrow {E : Ex} {A B : Nat → Prop} {U : State} {H : Heap} (h : Xw E A U H) (hAB : ∀ q, B q → A q) : Xw E B U H :=
  ⟨h.1, fun i q hi => ⟨(h.2.1 i q hi).1, (h.2.1 i q hi).2.1.narrow hAB, (h.2.1 i q hi).2.2.1.narrow hAB, (h.2.1 i q hi).2.2.2.1.narrow hAB, (h.2.1 i q hi).2.2.2.2.narrow hAB⟩, h.2.2.1.narrow hAB, h.2.2.2.1.narrow hAB, h.2.2.2.2.1.narrow hAB, h.2.2.2.2.2.1.narrow hAB, h.2.2.2.2.2.2.1, h.2.2.2.2.2.2.2.narrow hAB⟩
theorem Xw.warm {E : Ex} {A : Nat → Prop} {s U : State} {H : Heap} (hW : s.WarmedH U.vm) (h : Xw E A s H) : Xw E A U H :=
  ⟨fun w hw => nwAll_warm hw hW (h.1 w hw), fun i q hi => ⟨(h.2.1 i q hi).1.warm hW, (h.2.1 i q hi).2.1.moved hW.alike, (h.2.1 i q hi).2.2.1.moved hW.alike, (h.2.1 i q hi).2.2.2.1.moved hW.alike, (h.2.1 i q hi).2.2.2.2.moved hW.alike⟩, h.2.2.1.moved hW.alike, h.2.2.2.1.moved hW.alike, h.2.2.2.2.1.moved hW.alike, h.2.2.2.2.2.1.moved hW.alike, h.2.2.2.2.2.2.1.warm hW, h.2.2.2.2.2.2.2.moved hW.alike⟩
theorem Xw.same {E : Ex} {A : Nat → Prop} {s U : State} {H : Heap} (hv : s.vm = U.vm) (h : Xw E A s H) : Xw E A U H := by
  have hal : s.vm.Alike U.vm := by rw [hv]; exact Vm.Alike.refl U.vm
  exact ⟨fun w hw => nwAll_same hw hv (h.1 w hw), fun i q hi => ⟨(h.2.1 i q hi).1.same hv.symm, (h.2.1 i q hi).2.1.moved hal, (h.2.1 i q hi).2.2.1.moved hal, (h.2.1 i q hi).2.2.2.1.moved hal, (h.2.1 i q hi).2.2.2.2.moved hal⟩, h.2.2.1.moved hal, h.2.2.2.1.moved hal, h.2.2.2.2.1.moved hal, h.2.2.2.2.2.1.moved hal, h.2.2.2.2.2.2.1.same hv, h.2.2.2.2.2.2.2.moved hal⟩
/-- a run of a method: the program, the platform, the room, the start, the method, its arguments, what lies below, its body, the cells that it may change -/
abbrev Kx : Type := Program × Env × Room × State × MethodId × Array Value × List Frame × Method × Code × (Nat → Prop)
def Cx (E : Ex) : Kx → ByteArray → Nat → Option FieldType → String → List Cond → Room → Prop
  | (p, _, R, s, m, args, _, meth, c, A), cc, nL, ret, own, Ts, rm => (p.tables.exec = Jvm.exec ∧ c.code = cc ∧ c.maxLocals = nL ∧ meth.sig.returnType = ret ∧ s.vm.findClass own = some m.cls) ∧ (∀ w ∈ Ts, w.before args s = true) ∧ meth.locks = false ∧ va_K (eD E) vwCl (eT E) s ∧ (∀ q, s.heap.size ≤ q → A q) ∧ Xw E A s s.heap ∧ R = rm
def WW (E : Ex) : Kx → Nat → Nat → (State → Prop) → Nat → List (Nat × Value) → List Value → List va_W → Prop
  | (p, e, R, s, m, args, below, meth, c, A), cells, slots, Q, pc, lv, st, gs => ∀ (H : Heap) (locs : List Loc) (ls : Array Slot), va_P (eD E) vwCl gs.flatten H → va_D A gs.flatten → va_S A s.heap H locs → lv_has ls c.maxLocals lv → W p (eL E) e R s m args below meth c H locs cells slots Q (F0 m pc ls st)
end WWa
