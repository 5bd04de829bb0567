section WWx
/-- the House rows of the history: an array of references, and the houses -/
def hsF (ah : Nat → Nat → Nat) : Nat → Option Nat := fun i => some (ah i 0)
def wHs (E : Ex) (q : Nat) (ah : Nat → Nat → Nat) (vh : Nat → HouseV) : va_W := (q, .inl (eH E, 10, .inr (.inr (.inr (.inr (hsF ah)))))) :: ((List.range 10).flatMap fun j => wHouse E (ah j) (vh j))
def wHsA (E : Ex) (q : Nat) (ah : Nat → Nat → Nat) (vh : Nat → HouseV) (i : Nat) : va_W := (q, .inl (eH E, 10, .inr (.inr (.inr (.inr (hsF ah)))))) :: ((List.range i).flatMap fun j => wHouse E (ah j) (vh j))
def wHsB (E : Ex) (ah : Nat → Nat → Nat) (vh : Nat → HouseV) (i : Nat) : va_W := (List.range' (i + 1) (9 - i)).flatMap fun j => wHouse E (ah j) (vh j)
def updH (vh : Nat → HouseV) (i : Nat) (x : HouseV) : Nat → HouseV := fun j => if j = i then x else vh j
theorem hs_range : ∀ i, i < 10 → List.range 10 = List.range i ++ i :: List.range' (i + 1) (9 - i) := by decide
theorem inB_lt {i : Int32} {n : Nat} (h : inB i n = true) : i.toNatClampNeg < n := by
  simp only [inB, Bool.not_eq_true', Bool.or_eq_false_iff, decide_eq_false_iff_not] at h
  omega
theorem hs_cut {E : Ex} {q : Nat} {ah : Nat → Nat → Nat} {vh : Nat → HouseV} {i : Int32} (h : inB i 10 = true) : wHs E q ah vh = wHsA E q ah vh i.toNatClampNeg ++ (wHouse E (ah i.toNatClampNeg) (vh i.toNatClampNeg) ++ wHsB E ah vh i.toNatClampNeg) := by
  unfold wHs wHsA wHsB
  rw [hs_range _ (inB_lt h), List.flatMap_append, List.flatMap_cons, List.cons_append]
theorem hs_join {E : Ex} {q : Nat} {ah : Nat → Nat → Nat} {vh : Nat → HouseV} {i : Int32} {x : HouseV} (h : inB i 10 = true) : wHs E q ah (updH vh i.toNatClampNeg x) = wHsA E q ah vh i.toNatClampNeg ++ (wHouse E (ah i.toNatClampNeg) x ++ wHsB E ah vh i.toNatClampNeg) := by
  rw [hs_cut h]
  unfold wHsA wHsB
  have e0 : updH vh i.toNatClampNeg x i.toNatClampNeg = x := if_pos rfl
  have e1 : (List.range i.toNatClampNeg).flatMap (fun j => wHouse E (ah j) (updH vh i.toNatClampNeg x j)) = (List.range i.toNatClampNeg).flatMap (fun j => wHouse E (ah j) (vh j)) := by
    rw [List.flatMap_def, List.flatMap_def]
    congr 1
    refine List.map_congr_left (fun j hj => ?_)
    rw [List.mem_range] at hj
    rw [updH, if_neg (by omega)]
  have e2 : (List.range' (i.toNatClampNeg + 1) (9 - i.toNatClampNeg)).flatMap (fun j => wHouse E (ah j) (updH vh i.toNatClampNeg x j)) = (List.range' (i.toNatClampNeg + 1) (9 - i.toNatClampNeg)).flatMap (fun j => wHouse E (ah j) (vh j)) := by
    rw [List.flatMap_def, List.flatMap_def]
    congr 1
    refine List.map_congr_left (fun j hj => ?_)
    rw [List.mem_range'] at hj
    obtain ⟨k, hk, rfl⟩ := hj
    rw [updH, if_neg (by omega)]
  rw [e0, e1, e2]
theorem q_Hs {E : Ex} {q : Nat} {ah : Nat → Nat → Nat} {vh : Nat → HouseV} : (wHs E q ah vh)[0]? = some (q, .inl (eH E, 10, .inr (.inr (.inr (.inr (hsF ah)))))) := rfl
/-! methods that throw -/
def xn (b : Bool) : String := match b with | false => "java/util/NoSuchElementException" | true => "java/lang/IllegalArgumentException"
def exK {α β : Type} (o : Except Bool α) (k : α → Option (Except Bool β)) : Option (Except Bool β) := match o with | .error b => some (.error b) | .ok v => k v
theorem exKe {α β : Type} {o : Except Bool α} {b : Bool} {k : α → Option (Except Bool β)} {r : Except Bool β} (e : o = .error b) (h : exK o k = some r) : r = .error b := by subst e; exact (Option.some.inj h).symm
theorem exKo {α β : Type} {o : Except Bool α} {v : α} {k : α → Option (Except Bool β)} {r : Except Bool β} (e : o = .ok v) (h : exK o k = some r) : k v = some r := by subst e; exact h
/-- the words of a throw that a change of the machine keeps by another way -/
def xtB : List Cond := [.declares (Bundle.initS "java/lang/RuntimeException"), .declares (Bundle.initS "java/lang/Exception"), .declares (Bundle.initS Bundle.tN), .castable "java/util/NoSuchElementException" "java/util/NoSuchElementException", .castable "java/lang/IllegalArgumentException" "java/lang/IllegalArgumentException"]
def XT (U : State) : Prop := ∀ (args : Array Value), ∀ w ∈ xtB, w.before args U = true
theorem XT.warm {s U : State} (hW : s.WarmedH U.vm) (h : XT s) : XT U := by
  intro args w hw
  have hk : w.onTables = true ∧ w.keepsFace = true := by
    simp only [xtB, List.mem_cons, List.not_mem_nil, or_false] at hw
    rcases hw with rfl | rfl | rfl | rfl | rfl <;> exact ⟨rfl, rfl⟩
  have h2 := Cond.before_shiftedFace (State.Shifted.of_warmed hW) w hk.2 (h args w hw)
  rw [Cond.onTables_vm (A' := args) (U' := U) U.vm _ hk.1] at h2
  exact h2
theorem XT.same {s U : State} (hv : s.vm = U.vm) (h : XT s) : XT U := by
  refine XT.warm (s := s) ?_ h
  rw [← hv]; exact State.WarmedH.refl s
def CtPX (E : Ex) (av : List Value) (gs : List va_W) (sz : Nat) : Array Value → State → Prop := fun a U => CtP E av gs sz a U ∧ XT U
theorem CtPX.blind {E : Ex} {av : List Value} {gs : List va_W} {sz : Nat} : FrameBlind (CtPX E av gs sz) := by
  intro a U g mk q
  exact ⟨CtP.blind _ _ _ _ q.1, XT.same (s := U) rfl q.2⟩
def CtXC {α : Type} (E : Ex) (A : Nat → Prop) (r : Except Bool α) (gs0 : List va_W) : String → State → State → Prop := fun X st t => (∃ b, r = .error b ∧ X = xn b ∧ va_P (eD E) vwCl gs0.flatten t.heap ∧ va_D A gs0.flatten) ∧ va_F A st t
def CtXQ {α : Type} (r : Except Bool α) (G : α → Option Value → List va_W → Prop) : Option Value → List va_W → Prop := fun rv g => ∃ v, r = .ok v ∧ G v rv g
theorem xq {α : Type} {G : α → Option Value → List va_W → Prop} {v : α} {rv : Option Value} {g : List va_W} (h : G v rv g) : CtXQ (.ok v) G rv g := ⟨v, rfl, h⟩
/-- the contract of a method that may throw: then its groups are as they were -/
def CtX {α : Type} (E : Ex) (y : MethodName) (ws : List Cond) (rm : Room) (av : List Value) (gs : List va_W) (r : Except Bool α) (G : α → Option Value → List va_W → Prop) : Prop :=
  (eL E).stackTraces = false → ∀ sz : Nat, vx_Met (eL E) y ws rm (CtPX E av gs sz) (fun _ => CtR E (va_A gs.flatten sz) (CtXQ r G)) (CtXC E (va_A gs.flatten sz) r gs) rm.cells rm.slots (va_A gs.flatten sz)
def QQX {α : Type} (E : Ex) : Kx → Except Bool α → (α → Option Value → List va_W → Prop) → List va_W → Nat → Nat → State → Prop
  | (_, _, _, s, _, args, below, _, _, A), r, G, gs0, mc, ms => vx_MQ below (fun _ => CtR E A (CtXQ r G)) (CtXC E A r gs0) args s mc ms A
theorem QQX_eq {α : Type} {E : Ex} {p : Program} {e : Env} {R : Room} {s : State} {m : MethodId} {args : Array Value} {below : List Frame} {meth : Method} {c : Code} {A : Nat → Prop} {r : Except Bool α} {G : α → Option Value → List va_W → Prop} {gs0 : List va_W} {mc ms : Nat} : QQX E (p, e, R, s, m, args, below, meth, c, A) r G gs0 mc ms = vx_MQ below (fun _ => CtR E A (CtXQ r G)) (CtXC E A r gs0) args s mc ms A := rfl
/-- no handlers, no traces -/
def TX (E : Ex) : Kx → Prop
  | (_, _, _, s, _, _, _, _, c, _) => (∀ x ∈ c.exceptionTable.toList, False) ∧ (eL E).stackTraces = false ∧ XT s
theorem ctx_of {α : Type} {E : Ex} {y : MethodName} {ws ws' : List Cond} {rm : Room} {cc : ByteArray} {nL : Nat} {ret : Option FieldType} {own : String} {av : List Value} {gs : List va_W} {r : Except Bool α} {G : α → Option Value → List va_W → Prop} (hy : plainName y.cls = true) (hw : ws = Cond.code y cc nL ret :: ws') (hown : y.cls = own) (hlen : (lg_sl av).length ≤ nL)
    (body : ∀ K : Kx, Cx E K cc nL ret own ws rm → TX E K → WW E K 0 0 (QQX E K r G gs rm.cells rm.slots) 0 (lv_args 0 av) [] gs) : CtX E y ws rm av gs r G := by
  intro htr sz
  refine vx_ofW hy hw ?_
  intro p e s m args below meth c s₁ B hml htab hv
  obtain ⟨⟨rfl, hsz, hP, hK, hD0, hX⟩, hXT⟩ := hv
  subst hown
  subst hsz
  have h := body (p, e, (headSpec ws rm).room, s, m, av.toArray, below, meth, c, va_A gs.flatten s.heap.size) ⟨⟨B.exec, B.bytes, hml, B.returns, findClass_of_methodNamed B.named⟩, atoms_spec (ws := ws) B.pre, B.notSynchronized, hK, (fun q h => Or.inr h), hX, rfl⟩ ⟨htab, htr, hXT⟩
  rw [lg_entry_eq]
  exact h s.heap [] _ hP hD0.self va_S.rf (by rw [hml]; exact lv_entry av hlen)
section
variable {α : Type} {E : Ex} {K : Kx} {cc : ByteArray} {nL : Nat} {ret : Option FieldType} {own : String} {Ts : List Cond} {rm : Room} {cells slots : Nat} {pc : Nat} {lv : List (Nat × Value)} {st : List Value} {gs gs0 : List va_W} {r0 : Except Bool α} {G0 : α → Option Value → List va_W → Prop} {mc0 ms0 : Nat}
/-- an ordinary end -/
theorem ww_xret {v : α} (kk : WW E K cells slots (QQ E K (CtXQ (.ok v) G0) mc0 ms0) pc lv st gs) : WW E K cells slots (QQX E K (.ok v) G0 gs0 mc0 ms0) pc lv st gs := by
  obtain ⟨p, e, R, s, m, args, below, meth, c, A⟩ := K
  intro H locs ls hP hD hS hl
  rw [QQX_eq]
  have h := kk H locs ls hP hD hS hl
  rw [QQ_eq] at h
  exact vx_ret h
/-- behind a call that may throw -/
theorem ww_backX {β : Type} {r : Except Bool β} {G : β → Option Value → List va_W → Prop} {p : Program} {e : Env} {R : Room} {s : State} {m : MethodId} {args : Array Value} {below : List Frame} {meth : Method} {c : Code} {A : Nat → Prop} {H : Heap} {locs : List Loc} {ls : Array Slot} {st0 : List Value} {gsc gr : List va_W} {mc ms : Nat}
    (hrun : vx_Run p (eL E) e R s m args below meth c H locs cells slots mc ms (F0 m pc ls st0) st (CtR E (va_A gsc.flatten H.size) (CtXQ r G)) (CtXC E (va_A gsc.flatten H.size) r gsc) (va_A gsc.flatten H.size)) (hP : va_P (eD E) vwCl gs.flatten H) (hD : va_D A gs.flatten) (hS : va_S A s.heap H locs) (hl : lv_has ls c.maxLocals lv)
    (isC isR : List Nat) (hper : (isC ++ isR).Perm (List.range gs.length)) (hC : isC.filterMap (fun i => gs[i]?) = gsc) (hRr : isR.filterMap (fun i => gs[i]?) = gr) (hF : ∀ q, va_A gsc.flatten H.size q → A q)
    (htab : ∀ x ∈ c.exceptionTable.toList, False) (hlk : meth.locks = false) (hgs : gs = gs0) (hmc : cells + mc ≤ mc0) (hms : slots + ms ≤ ms0) (kx : ∀ b, r = .error b → r0 = .error b)
    (kk : ∀ v, r = .ok v → ∀ rv gs1, G v rv gs1 → WW E (p, e, R, s, m, args, below, meth, c, A) (cells + mc) (slots + ms) (QQX E (p, e, R, s, m, args, below, meth, c, A) r0 G0 gs0 mc0 ms0) (pc + 3) lv (rv.toList ++ st) (gs1 ++ gr)) : W p (eL E) e R s m args below meth c H locs cells slots (QQX E (p, e, R, s, m, args, below, meth, c, A) r0 G0 gs0 mc0 ms0) (F0 m pc ls st0) := by
  intro T hT X
  have front : ∀ {st₀ t T' : State} {L : List Loc}, st₀.heap = H → T'.heap = t.heap → (∀ q ∈ L, va_A gsc.flatten H.size q.base) → va_F (va_A gsc.flatten H.size) st₀ t → (∀ q : Nat, q < H.size → ¬ va_A gsc.flatten H.size q → T'.heap[q]? = H[q]?) ∧ va_S A s.heap T'.heap (locs ++ L) := by
    intro st₀ t T' L h0 e1 hL hF'
    obtain ⟨hz, hk⟩ := hF'
    rw [h0] at hz hk
    have hk' : ∀ q : Nat, q < H.size → ¬ va_A gsc.flatten H.size q → T'.heap[q]? = H[q]? := fun q h1 h2 => by rw [e1]; exact hk q h1 h2
    refine ⟨hk', Nat.le_trans hS.1 (by rw [e1]; exact hz), fun q h1 h2 => ?_, fun q hq => ?_⟩
    · rw [hk' q (Nat.lt_of_lt_of_le h1 hS.1) (fun z => h2 (hF q z))]
      exact hS.2.1 q h1 h2
    · rcases List.mem_append.mp hq with h | h
      · exact hS.2.2 q h
      · exact hF _ (hL q h)
  rcases hrun T hT X with ⟨v, st₀, t, T', L, h0, X', hL, e1, e2, ⟨⟨rv, gs1, hv, ⟨u, hu, hGv⟩, hP1, hD1⟩, hFF⟩, stp⟩ | ⟨q, st₀, t, T', L, X9, ce, h0, X', hL, e1, e2, ⟨⟨b, hb, hXn, hP1, hD1⟩, hFF⟩, hce, hcv, hcl, stp⟩
  · have ev := Outcome.returned.inj hv
    subst ev
    obtain ⟨hk', hS1⟩ := front h0 e1 hL hFF
    obtain ⟨hP2, hD2⟩ := gs_call hP hD isC isR hper hC hRr hk' hF (by rw [e1]; exact hP1) hD1
    obtain ⟨t2, a1, b1⟩ := kk u hu v gs1 hGv T'.heap (locs ++ L) ls hP2 hD2 hS1 hl T' rfl X'
    exact ⟨t2, stp t2 a1, b1⟩
  · obtain ⟨hk', hS1⟩ := front h0 e1 hL hFF
    obtain ⟨hP2, hD2⟩ := gs_call hP hD isC isR hper hC hRr hk' hF (by rw [e1]; exact hP1) hD1
    have hpp : (gsc ++ gr).flatten.Perm gs.flatten := by
      rw [← hC, ← hRr, ← List.filterMap_append]
      exact (pick_perm hper).flatten
    have hP3 := va_P_perm hpp hP2
    have hD3 := va_D_perm hpp hD2
    subst hgs
    subst hXn
    have hout := vx_out (p := p) (l := eL E) (e := e) (R := R) (s := s) (m := m) (args := args) (below := below) (meth := meth) (c := c) (H := T'.heap) (locs := locs ++ L) (cells := cells + mc) (slots := slots + ms) (free := A) (ls := ls) (rest := st) (Qc := fun _ => CtR E A (CtXQ r0 G0)) (XC := CtXC E A r0 gs) (pc := pc) (q := q) (mc := mc0) (ms := ms0) (fun x hx => absurd (htab x hx) id) hlk (by rw [e1]; exact hce) hcv hcl
      (fun t9 ht9 hW9 => ⟨⟨b, kx b hb, rfl, by rw [ht9]; exact hP3, hD3⟩, hS1.F ht9⟩) hS1.2.2 hmc hms
    obtain ⟨t2, a1, b1⟩ := hout T' rfl X'
    exact ⟨t2, stp.trans a1, b1⟩
theorem ww_callVX {β : Type} {r : Except Bool β} {G : β → Option Value → List va_W → Prop} (C : Cx E K cc nL ret own Ts rm) (X0 : TX E K) {y : MethodName} {ws ws' : List Cond} {rmc : Room} {As : List Value} {b : Nat} {gsc gr : List va_W} {bytes : ByteArray} {maxL index ci N : Nat} {rt : Option FieldType} {Cn : String} {T : u_T} {ty0 : Nat → FieldType} {w : va_W} {fs : List Value} (ct : CtX E y ws rmc (.ref b :: As) gsc r G) (hG : GoodIn Ts (wsV own index Cn y ws)) (hw : ws = Cond.code y bytes maxL rt :: ws')
    (hy : y.cls = Cn ∧ y.cls ≠ "java/lang/invoke/MethodHandle" ∧ y.cls ≠ "java/lang/invoke/VarHandle" ∧ (parseMethodDescriptor y.desc).map (fun d => d.parameters.length) = some As.length) (hR : rmc.frames + 1 ≤ rm.frames ∧ 8 + (maxL + 11) + rmc.locals ≤ rm.locals) (hroom : cells + rmc.cells ≤ rm.cells ∧ slots + rmc.slots ≤ rm.slots)
    (hc : ClOK ci Cn T N ty0) (g k : Nat) (hg : gsc[g]? = some w) (hq : w[k]? = some (b, .inr (ci, fs))) (isC isR : List Nat) (ng : Nat) (hng : gs.length = ng) (hper : (isC ++ isR).Perm (List.range ng)) (hC : isC.filterMap (fun i => gs[i]?) = gsc) (hRr : isR.filterMap (fun i => gs[i]?) = gr) (hst : (st.map fun v => v.category).sum ≤ 8) (hd : decode cc pc = .ok (.invokevirtual index, 3))
    (hgs : gs = gs0) (hmc : cells + rmc.cells ≤ mc0 ∧ slots + rmc.slots ≤ ms0) (kx : ∀ b, r = .error b → r0 = .error b)
    (kk : ∀ v, r = .ok v → ∀ rv gs1, G v rv gs1 → WW E K (cells + rmc.cells) (slots + rmc.slots) (QQX E K r0 G0 gs0 mc0 ms0) (pc + 3) lv (rv.toList ++ st) (gs1 ++ gr)) : WW E K cells slots (QQX E K r0 G0 gs0 mc0 ms0) pc lv (As.reverse ++ .ref b :: st) gs := by
  obtain ⟨p, e, R, s, m, args, below, meth, c, A⟩ := K
  obtain ⟨⟨hx, hb, hml, hr, hown⟩, hts, hlk', hK, hA, hX, rfl⟩ := C
  obtain ⟨htab, htr, hXT⟩ := X0
  intro H locs ls hP hD hS hl
  subst hng
  obtain ⟨hPc, hDc, hAc⟩ := gs_cut hP hD isC isR hper hC
  have hF : ∀ q, va_A gsc.flatten H.size q → A q := fun q h => by
    rcases h with ⟨k, e, h⟩ | h
    · exact hAc k (q, e) h
    · exact hA q (Nat.le_trans hS.1 h)
  have hXc : Xw E (va_A gsc.flatten H.size) s H := (hX.kept hS.2.1).narrow hF
  obtain ⟨n, hn, -⟩ := gs_at gsc g w k _ hg hq
  exact ww_backX (vx_runV (As := As) (rest := st) ⟨hx, hb, hml, hown, hts⟩ (ct htr H.size) (cwV As.length hts hG hw rfl rfl hy hR) ⟨CtPX.blind, va_recv hK hPc hc.1 hn, fun U hU hW => ⟨⟨rfl, by rw [hU], by rw [hU]; exact hPc, va_K.moved hW.alike hK, hDc, by rw [hU]; exact hXc.warm hW⟩, hXT.warm hW⟩⟩ rfl rfl (by rw [← hml]; exact hl.1) rfl (lv_room hst) hd hroom) hP hD hS hl isC isR hper hC hRr hF htab hlk' hgs hmc.1 hmc.2 kx kk
theorem ww_callSX {β : Type} {r : Except Bool β} {G : β → Option Value → List va_W → Prop} (C : Cx E K cc nL ret own Ts rm) (X0 : TX E K) {y : MethodName} {ws ws' : List Cond} {rmc : Room} {As : List Value} {gsc gr : List va_W} {bytes : ByteArray} {maxL index : Nat} {rt : Option FieldType} (ct : CtX E y ws rmc As gsc r G) (hG : GoodIn Ts (va_wsS own index y ws)) (hw : ws = Cond.code y bytes maxL rt :: ws')
    (hy : y.cls ≠ "java/lang/invoke/MethodHandle" ∧ y.cls ≠ "java/lang/invoke/VarHandle" ∧ (parseMethodDescriptor y.desc).map (fun d => d.parameters.length) = some As.length) (hR : rmc.frames + 1 ≤ rm.frames ∧ 8 + (maxL + 11) + rmc.locals ≤ rm.locals) (hroom : cells + rmc.cells ≤ rm.cells ∧ slots + rmc.slots ≤ rm.slots)
    (isC isR : List Nat) (ng : Nat) (hng : gs.length = ng) (hper : (isC ++ isR).Perm (List.range ng)) (hC : isC.filterMap (fun i => gs[i]?) = gsc) (hRr : isR.filterMap (fun i => gs[i]?) = gr) (hst : (st.map fun v => v.category).sum ≤ 8) (hd : decode cc pc = .ok (.invokestatic index, 3))
    (hgs : gs = gs0) (hmc : cells + rmc.cells ≤ mc0 ∧ slots + rmc.slots ≤ ms0) (kx : ∀ b, r = .error b → r0 = .error b)
    (kk : ∀ v, r = .ok v → ∀ rv gs1, G v rv gs1 → WW E K (cells + rmc.cells) (slots + rmc.slots) (QQX E K r0 G0 gs0 mc0 ms0) (pc + 3) lv (rv.toList ++ st) (gs1 ++ gr)) : WW E K cells slots (QQX E K r0 G0 gs0 mc0 ms0) pc lv (As.reverse ++ st) gs := by
  obtain ⟨p, e, R, s, m, args, below, meth, c, A⟩ := K
  obtain ⟨⟨hx, hb, hml, hr, hown⟩, hts, hlk', hK, hA, hX, rfl⟩ := C
  obtain ⟨htab, htr, hXT⟩ := X0
  intro H locs ls hP hD hS hl
  subst hng
  obtain ⟨hPc, hDc, hAc⟩ := gs_cut hP hD isC isR hper hC
  have hF : ∀ q, va_A gsc.flatten H.size q → A q := fun q h => by
    rcases h with ⟨k, e, h⟩ | h
    · exact hAc k (q, e) h
    · exact hA q (Nat.le_trans hS.1 h)
  have hXc : Xw E (va_A gsc.flatten H.size) s H := (hX.kept hS.2.1).narrow hF
  exact ww_backX (vx_runS (As := As) (rest := st) ⟨hx, hb, hml, hown, hts⟩ (ct htr H.size) (va_cwS As.length hts hG hw rfl rfl hy hR) ⟨CtPX.blind, fun U hU hW => ⟨⟨rfl, by rw [hU], by rw [hU]; exact hPc, va_K.moved hW.alike hK, hDc, by rw [hU]; exact hXc.warm hW⟩, hXT.warm hW⟩⟩ rfl rfl (by rw [← hml]; exact hl.1) rfl (lv_room hst) hd hroom) hP hD hS hl isC isR hper hC hRr hF htab hlk' hgs hmc.1 hmc.2 kx kk
/-- what a throw of the class asks of the method's words -/
def ThOK (Ts : List Cond) (own : String) (ik ic : Nat) (b : Bool) : Prop :=
  Cond.classLink own ik (xn b) ∈ Ts ∧ Cond.initialized (xn b) ∈ Ts ∧ (∀ w ∈ (vx_atS own ic (xn b) ["java/lang/RuntimeException", "java/lang/Exception"]).filter goodWord, w ∈ Ts) ∧ (∀ w ∈ (vx_atS own ic (xn b) ["java/lang/RuntimeException", "java/lang/Exception"]).filter (fun w => !goodWord w), w ∈ xtB) ∧ (∀ w ∈ Cond.classLink own ik (xn b) :: Cond.initialized (xn b) :: vx_atS own ic (xn b) ["java/lang/RuntimeException", "java/lang/Exception"], vx_ot w = true)
theorem fit_xn (b : Bool) : Bundle.fit (xn b) = true := by cases b <;> decide +kernel
theorem fit_up : ∀ n ∈ ["java/lang/RuntimeException", "java/lang/Exception"], Bundle.fit n = true := by decide +kernel
theorem ww_thr {b : Bool} (C : Cx E K cc nL ret own Ts rm) (X0 : TX E K) {ik ic is i : Nat} {text : String} (hst : stTab[i]? = some (own, is, text)) (ht : ThOK Ts own ik ic b)
    (d0 : decode cc pc = .ok (.new ik, 3)) (d3 : decode cc (pc + 3) = .ok (.dup, 1)) (d4 : decode cc (pc + 4) = .ok (.ldc is, 2)) (d6 : decode cc (pc + 6) = .ok (.invokespecial ic, 3)) (d9 : decode cc (pc + 9) = .ok (.athrow, 1))
    (hf : 6 ≤ rm.frames) (hlo : (st.map fun v => v.category).sum + 82 ≤ rm.locals) (hce : cells + 1 ≤ rm.cells ∧ slots + 6 ≤ rm.slots) (hgs : gs = gs0) (hmc : cells + 1 ≤ mc0 ∧ slots + 6 ≤ ms0) : WW E K cells slots (QQX E K (.error b) G0 gs0 mc0 ms0) pc lv st gs := by
  obtain ⟨p, e, R, s, m, args, below, meth, c, A⟩ := K
  obtain ⟨⟨hx, hb, hml, hr, hown⟩, hts, hlk', hK, hA, hX, rfl⟩ := C
  obtain ⟨htab, htr, hXT⟩ := X0
  intro H locs ls hP hD hS hl
  subst hgs
  rw [QQX_eq]
  refine vx_throwS (A := A) (names := ["java/lang/RuntimeException", "java/lang/Exception"]) (cls := xn b) (text := text) (sa := eK E i) hx hb htr hown (fit_xn b) fit_up (hts _ ht.1) (hts _ ht.2.1) ((hX.2.1 i _ hst).1) (vx_hat (fun w hw => hts w (ht.2.2.1 w hw)) ht.2.2.2.1 (hXT args)) ht.2.2.2.2 hX.2.2.1 hX.2.2.2.1 hS hl.1 d0 d3 d4 d6 d9 (fun x hx => absurd (htab x hx) id) (by show 2 + 3 < _; omega) (by show _ + (13 * 3 + 43) ≤ _; omega) hce.1 hce.2 hlk' (fun t ht9 hz hk => ?_) hS.2.2 hmc.1 hmc.2
  have hP1 : va_P (eD E) vwCl gs.flatten t.heap := va_P_iff.mpr fun q hq => by
    have h1 := va_P_iff.mp hP q hq
    exact h1.kept (hk q.1 h1.lt)
  exact ⟨⟨b, rfl, rfl, hP1, hD⟩, ⟨Nat.le_trans hS.1 hz, fun q h1 h2 => by rw [hk q (Nat.lt_of_lt_of_le h1 hS.1)]; exact hS.2.1 q h1 h2⟩⟩
theorem ww_thrw {b : Bool} (C : Cx E K cc nL ret own Ts rm) (X0 : TX E K) {ik ic is i : Nat} {text : String} (hst : stTab[i]? = some (own, is, text)) (ht : ThOK Ts own ik ic b)
    (d0 : decode cc pc = .ok (.new ik, 3)) (d3 : decode cc (pc + 3) = .ok (.dup, 1)) (d4 : decode cc (pc + 4) = .ok (.ldc_w is, 3)) (d6 : decode cc (pc + 7) = .ok (.invokespecial ic, 3)) (d9 : decode cc (pc + 10) = .ok (.athrow, 1))
    (hf : 6 ≤ rm.frames) (hlo : (st.map fun v => v.category).sum + 82 ≤ rm.locals) (hce : cells + 1 ≤ rm.cells ∧ slots + 6 ≤ rm.slots) (hgs : gs = gs0) (hmc : cells + 1 ≤ mc0 ∧ slots + 6 ≤ ms0) : WW E K cells slots (QQX E K (.error b) G0 gs0 mc0 ms0) pc lv st gs := by
  obtain ⟨p, e, R, s, m, args, below, meth, c, A⟩ := K
  obtain ⟨⟨hx, hb, hml, hr, hown⟩, hts, hlk', hK, hA, hX, rfl⟩ := C
  obtain ⟨htab, htr, hXT⟩ := X0
  intro H locs ls hP hD hS hl
  subst hgs
  rw [QQX_eq]
  refine vx_throwSW (A := A) (names := ["java/lang/RuntimeException", "java/lang/Exception"]) (cls := xn b) (text := text) (sa := eK E i) hx hb htr hown (fit_xn b) fit_up (hts _ ht.1) (hts _ ht.2.1) ((hX.2.1 i _ hst).1) (vx_hat (fun w hw => hts w (ht.2.2.1 w hw)) ht.2.2.2.1 (hXT args)) ht.2.2.2.2 hX.2.2.1 hX.2.2.2.1 hS hl.1 d0 d3 d4 d6 d9 (fun x hx => absurd (htab x hx) id) (by show 2 + 3 < _; omega) (by show _ + (13 * 3 + 43) ≤ _; omega) hce.1 hce.2 hlk' (fun t ht9 hz hk => ?_) hS.2.2 hmc.1 hmc.2
  have hP1 : va_P (eD E) vwCl gs.flatten t.heap := va_P_iff.mpr fun q hq => by
    have h1 := va_P_iff.mp hP q hq
    exact h1.kept (hk q.1 h1.lt)
  exact ⟨⟨b, rfl, rfl, hP1, hD⟩, ⟨Nat.le_trans hS.1 hz, fun q h1 h2 => by rw [hk q (Nat.lt_of_lt_of_le h1 hS.1)]; exact hS.2.1 q h1 h2⟩⟩
end
end WWx
