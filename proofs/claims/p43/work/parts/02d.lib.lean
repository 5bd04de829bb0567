section WWd
/-- a method's end: what it answers, its groups behind it, nothing else changed -/
def CtR (E : Ex) (A : Nat → Prop) (G : Option Value → List va_W → Prop) : State → Outcome → State → Prop := fun st oc t => (∃ (rv : Option Value) (gs' : List va_W), oc = .returned rv ∧ G rv gs' ∧ va_P (eD E) vwCl gs'.flatten t.heap ∧ va_D A gs'.flatten) ∧ va_F A st t
abbrev CtQ (E : Ex) (gs : List va_W) (sz : Nat) (G : Option Value → List va_W → Prop) : State → Outcome → State → Prop := CtR E (va_A gs.flatten sz) G
def CtP (E : Ex) (av : List Value) (gs : List va_W) (sz : Nat) : Array Value → State → Prop := va_Pc av (fun U => U.heap.size = sz ∧ va_P (eD E) vwCl gs.flatten U.heap ∧ va_K (eD E) vwCl (eT E) U ∧ va_D (fun _ => True) gs.flatten ∧ Xw E (va_A gs.flatten sz) U U.heap)
/-- a method's contract: from the arguments av and the groups gs it returns rv and leaves the groups gs', where G rv gs' -/
def Ct (E : Ex) (y : MethodName) (ws : List Cond) (rm : Room) (av : List Value) (gs : List va_W) (G : Option Value → List va_W → Prop) : Prop :=
  ∀ sz : Nat, Met (eL E) y ws rm (CtP E av gs sz) (fun _ => CtQ E gs sz G) rm.cells rm.slots (va_A gs.flatten sz)
theorem CtP.blind {E : Ex} {av : List Value} {gs : List va_W} {sz : Nat} : FrameBlind (CtP E av gs sz) := by
  intro a U g mk q
  obtain ⟨q0, q1, qP, qK, qD, qX⟩ := q
  exact ⟨q0, q1, qP, va_K.moved (u := U) (U := U.calling g mk a) (Vm.Alike.refl U.vm) qK, qD, Xw.same (s := U) rfl qX⟩
def QQ (E : Ex) : Kx → (Option Value → List va_W → Prop) → Nat → Nat → State → Prop
  | (_, _, _, s, _, args, below, _, _, A), G, mc, ms => MQ below (fun _ => CtR E A G) args s mc ms A
theorem QQ_eq {E : Ex} {p : Program} {e : Env} {R : Room} {s : State} {m : MethodId} {args : Array Value} {below : List Frame} {meth : Method} {c : Code} {A : Nat → Prop} {G : Option Value → List va_W → Prop} {mc ms : Nat} : QQ E (p, e, R, s, m, args, below, meth, c, A) G mc ms = MQ below (fun _ => CtR E A G) args s mc ms A := rfl
theorem ct_of {E : Ex} {y : MethodName} {ws ws' : List Cond} {rm : Room} {cc : ByteArray} {nL : Nat} {ret : Option FieldType} {own : String} {av : List Value} {gs : List va_W} {G : Option Value → List va_W → Prop} (hy : plainName y.cls = true) (hw : ws = Cond.code y cc nL ret :: ws') (hown : y.cls = own) (hlen : (lg_sl av).length ≤ nL)
    (body : ∀ K : Kx, Cx E K cc nL ret own ws rm → WW E K 0 0 (QQ E K G rm.cells rm.slots) 0 (lv_args 0 av) [] gs) : Ct E y ws rm av gs G := by
  intro sz
  refine Met.ofW hy hw ?_
  intro p e s m args below meth c s₁ B hml hv
  obtain ⟨rfl, hsz, hP, hK, hD0, hX⟩ := hv
  subst hown
  subst hsz
  have h := body (p, e, (headSpec ws rm).room, s, m, av.toArray, below, meth, c, va_A gs.flatten s.heap.size) ⟨⟨B.exec, B.bytes, hml, B.returns, findClass_of_methodNamed B.named⟩, atoms_spec (ws := ws) B.pre, B.notSynchronized, hK, (fun q h => Or.inr h), hX, rfl⟩
  rw [lg_entry_eq]
  exact h s.heap [] _ hP hD0.self va_S.rf (by rw [hml]; exact lv_entry av hlen)
variable {E : Ex} {K : Kx} {cc : ByteArray} {nL : Nat} {ret : Option FieldType} {own : String} {Ts : List Cond} {rm : Room} {cells slots : Nat} {Q : State → Prop} {pc : Nat} {lv : List (Nat × Value)} {st : List Value} {gs : List va_W} {G : Option Value → List va_W → Prop}
theorem ww_iret (C : Cx E K cc nL (some .int) own Ts rm) {v : Int32} (hG : G (some (.int v)) gs) (hd : decode cc pc = .ok (.ireturn, 1)) : WW E K cells slots (QQ E K G cells slots) pc lv [.int v] gs := by
  obtain ⟨p, e, R, s, m, args, below, meth, c, A⟩ := K
  obtain ⟨⟨hx, hb, hml, hr, hown⟩, hts, hlk', hK, hA, hX, hR⟩ := C
  intro H locs ls hP hD hS hl
  rw [QQ_eq]
  exact W.iret (Qc := fun _ => CtR E A G) hx hb hr (fun t ht hW => ⟨⟨_, gs, rfl, hG, by rw [ht]; exact hP, hD⟩, hS.F ht⟩) hS.2.2 hd hlk'
theorem ww_zret (C : Cx E K cc nL (some .boolean) own Ts rm) {v : Int32} (hn : narrow .boolean (.int v) = .int v) (hG : G (some (.int v)) gs) (hd : decode cc pc = .ok (.ireturn, 1)) : WW E K cells slots (QQ E K G cells slots) pc lv [.int v] gs := by
  obtain ⟨p, e, R, s, m, args, below, meth, c, A⟩ := K
  obtain ⟨⟨hx, hb, hml, hr, hown⟩, hts, hlk', hK, hA, hX, hR⟩ := C
  intro H locs ls hP hD hS hl
  rw [QQ_eq]
  exact W.zret (Qc := fun _ => CtR E A G) hx hb hr hn (fun t ht hW => ⟨⟨_, gs, rfl, hG, by rw [ht]; exact hP, hD⟩, hS.F ht⟩) hS.2.2 hd hlk'
theorem ww_vret (C : Cx E K cc nL none own Ts rm) (hG : G none gs) (hd : decode cc pc = .ok (.return_, 1)) : WW E K cells slots (QQ E K G cells slots) pc lv [] gs := by
  obtain ⟨p, e, R, s, m, args, below, meth, c, A⟩ := K
  obtain ⟨⟨hx, hb, hml, hr, hown⟩, hts, hlk', hK, hA, hX, hR⟩ := C
  intro H locs ls hP hD hS hl
  rw [QQ_eq]
  exact W.vret (Qc := fun _ => CtR E A G) hx hb hr (fun t ht hW => ⟨⟨_, gs, rfl, hG, by rw [ht]; exact hP, hD⟩, hS.F ht⟩) hS.2.2 hd hlk'
theorem ww_aret {rt : FieldType} (C : Cx E K cc nL (some rt) own Ts rm) {a : Nat} (hrt : (∃ n, rt = .object n) ∨ ∃ t, rt = .array t) (hG : G (some (.ref a)) gs) (hd : decode cc pc = .ok (.areturn, 1)) : WW E K cells slots (QQ E K G cells slots) pc lv [.ref a] gs := by
  obtain ⟨p, e, R, s, m, args, below, meth, c, A⟩ := K
  obtain ⟨⟨hx, hb, hml, hr, hown⟩, hts, hlk', hK, hA, hX, hR⟩ := C
  intro H locs ls hP hD hS hl
  rw [QQ_eq]
  exact W.aret (Qc := fun _ => CtR E A G) hx hb hr hrt (Or.inr ⟨a, rfl⟩) (fun t ht hW => ⟨⟨_, gs, rfl, hG, by rw [ht]; exact hP, hD⟩, hS.F ht⟩) hS.2.2 hd hlk'
/-- behind a call -/
theorem ww_back {p : Program} {e : Env} {R : Room} {s : State} {m : MethodId} {args : Array Value} {below : List Frame} {meth : Method} {c : Code} {A : Nat → Prop} {H : Heap} {locs : List Loc} {ls : Array Slot} {st0 : List Value} {gsc gr : List va_W} {mc ms : Nat}
    (hrun : va_Run p (eL E) e R s m args below meth c H locs cells slots mc ms (F0 m pc ls st0) st (CtQ E gsc H.size G) (va_A gsc.flatten H.size)) (hP : va_P (eD E) vwCl gs.flatten H) (hD : va_D A gs.flatten) (hS : va_S A s.heap H locs) (hl : lv_has ls c.maxLocals lv)
    (isC isR : List Nat) (hper : (isC ++ isR).Perm (List.range gs.length)) (hC : isC.filterMap (fun i => gs[i]?) = gsc) (hRr : isR.filterMap (fun i => gs[i]?) = gr) (hF : ∀ q, va_A gsc.flatten H.size q → A q)
    (kk : ∀ rv gs1, G rv gs1 → WW E (p, e, R, s, m, args, below, meth, c, A) (cells + mc) (slots + ms) Q (pc + 3) lv (rv.toList ++ st) (gs1 ++ gr)) : W p (eL E) e R s m args below meth c H locs cells slots Q (F0 m pc ls st0) := by
  intro T hT X
  obtain ⟨v, st₀, t, T', L, h0, X', hL, e1, e2, ⟨⟨rv, gs1, hv, hGv, hP1, hD1⟩, hz, hk⟩, stp⟩ := hrun T hT X
  have ev := Outcome.returned.inj hv
  subst ev
  rw [h0] at hz hk
  have hk' : ∀ q : Nat, q < H.size → ¬ va_A gsc.flatten H.size q → T'.heap[q]? = H[q]? := fun q h1 h2 => by rw [e1]; exact hk q h1 h2
  have hS1 : va_S A s.heap T'.heap (locs ++ L) := by
    refine ⟨Nat.le_trans hS.1 (by rw [e1]; exact hz), fun q h1 h2 => ?_, fun q hq => ?_⟩
    · rw [hk' q (Nat.lt_of_lt_of_le h1 hS.1) (fun z => h2 (hF q z))]
      exact hS.2.1 q h1 h2
    · rcases List.mem_append.mp hq with h | h
      · exact hS.2.2 q h
      · exact hF _ (hL q h)
  obtain ⟨hP2, hD2⟩ := gs_call hP hD isC isR hper hC hRr hk' hF (by rw [e1]; exact hP1) hD1
  obtain ⟨t2, a1, b1⟩ := kk v gs1 hGv T'.heap (locs ++ L) ls hP2 hD2 hS1 hl T' rfl X'
  exact ⟨t2, stp t2 a1, b1⟩
theorem ww_callV (C : Cx E K cc nL ret own Ts rm) {y : MethodName} {ws ws' : List Cond} {rmc : Room} {As : List Value} {b : Nat} {gsc gr : List va_W} {bytes : ByteArray} {maxL index ci N : Nat} {rt : Option FieldType} {Cn : String} {T : u_T} {ty0 : Nat → FieldType} {w : va_W} {fs : List Value} (ct : Ct E y ws rmc (.ref b :: As) gsc G) (hG : GoodIn Ts (wsV own index Cn y ws)) (hw : ws = Cond.code y bytes maxL rt :: ws')
    (hy : y.cls = Cn ∧ y.cls ≠ "java/lang/invoke/MethodHandle" ∧ y.cls ≠ "java/lang/invoke/VarHandle" ∧ (parseMethodDescriptor y.desc).map (fun d => d.parameters.length) = some As.length) (hR : rmc.frames + 1 ≤ rm.frames ∧ 8 + (maxL + 11) + rmc.locals ≤ rm.locals) (hroom : cells + rmc.cells ≤ rm.cells ∧ slots + rmc.slots ≤ rm.slots)
    (hc : ClOK ci Cn T N ty0) (g k : Nat) (hg : gsc[g]? = some w) (hq : w[k]? = some (b, .inr (ci, fs))) (isC isR : List Nat) (ng : Nat) (hng : gs.length = ng) (hper : (isC ++ isR).Perm (List.range ng)) (hC : isC.filterMap (fun i => gs[i]?) = gsc) (hRr : isR.filterMap (fun i => gs[i]?) = gr) (hst : (st.map fun v => v.category).sum ≤ 8) (hd : decode cc pc = .ok (.invokevirtual index, 3))
    (kk : ∀ rv gs1, G rv gs1 → WW E K (cells + rmc.cells) (slots + rmc.slots) Q (pc + 3) lv (rv.toList ++ st) (gs1 ++ gr)) : WW E K cells slots Q pc lv (As.reverse ++ .ref b :: st) gs := by
  obtain ⟨p, e, R, s, m, args, below, meth, c, A⟩ := K
  obtain ⟨⟨hx, hb, hml, hr, hown⟩, hts, hlk', hK, hA, hX, rfl⟩ := C
  intro H locs ls hP hD hS hl
  subst hng
  obtain ⟨hPc, hDc, hAc⟩ := gs_cut hP hD isC isR hper hC
  have hF : ∀ q, va_A gsc.flatten H.size q → A q := fun q h => by
    rcases h with ⟨k, e, h⟩ | h
    · exact hAc k (q, e) h
    · exact hA q (Nat.le_trans hS.1 h)
  have hXc : Xw E (va_A gsc.flatten H.size) s H := (hX.kept hS.2.1).narrow hF
  obtain ⟨n, hn, -⟩ := gs_at gsc g w k _ hg hq
  refine ww_back (va_runV (As := As) (rest := st) ⟨hx, hb, hml, hown, hts⟩ (ct H.size) (cwV As.length hts hG hw rfl rfl hy hR) ⟨CtP.blind, va_recv hK hPc hc.1 hn, fun U hU hW => ⟨rfl, by rw [hU], by rw [hU]; exact hPc, va_K.moved hW.alike hK, hDc, by rw [hU]; exact hXc.warm hW⟩⟩ rfl rfl (by rw [← hml]; exact hl.1) rfl (lv_room hst) hd hroom) hP hD hS hl isC isR hper hC hRr hF kk
theorem ww_callS (C : Cx E K cc nL ret own Ts rm) {y : MethodName} {ws ws' : List Cond} {rmc : Room} {As : List Value} {gsc gr : List va_W} {bytes : ByteArray} {maxL index : Nat} {rt : Option FieldType} (ct : Ct E y ws rmc As gsc G) (hG : GoodIn Ts (va_wsS own index y ws)) (hw : ws = Cond.code y bytes maxL rt :: ws')
    (hy : y.cls ≠ "java/lang/invoke/MethodHandle" ∧ y.cls ≠ "java/lang/invoke/VarHandle" ∧ (parseMethodDescriptor y.desc).map (fun d => d.parameters.length) = some As.length) (hR : rmc.frames + 1 ≤ rm.frames ∧ 8 + (maxL + 11) + rmc.locals ≤ rm.locals) (hroom : cells + rmc.cells ≤ rm.cells ∧ slots + rmc.slots ≤ rm.slots)
    (isC isR : List Nat) (ng : Nat) (hng : gs.length = ng) (hper : (isC ++ isR).Perm (List.range ng)) (hC : isC.filterMap (fun i => gs[i]?) = gsc) (hRr : isR.filterMap (fun i => gs[i]?) = gr) (hst : (st.map fun v => v.category).sum ≤ 8) (hd : decode cc pc = .ok (.invokestatic index, 3))
    (kk : ∀ rv gs1, G rv gs1 → WW E K (cells + rmc.cells) (slots + rmc.slots) Q (pc + 3) lv (rv.toList ++ st) (gs1 ++ gr)) : WW E K cells slots Q pc lv (As.reverse ++ st) gs := by
  obtain ⟨p, e, R, s, m, args, below, meth, c, A⟩ := K
  obtain ⟨⟨hx, hb, hml, hr, hown⟩, hts, hlk', hK, hA, hX, rfl⟩ := C
  intro H locs ls hP hD hS hl
  subst hng
  obtain ⟨hPc, hDc, hAc⟩ := gs_cut hP hD isC isR hper hC
  have hF : ∀ q, va_A gsc.flatten H.size q → A q := fun q h => by
    rcases h with ⟨k, e, h⟩ | h
    · exact hAc k (q, e) h
    · exact hA q (Nat.le_trans hS.1 h)
  have hXc : Xw E (va_A gsc.flatten H.size) s H := (hX.kept hS.2.1).narrow hF
  refine ww_back (va_runS (As := As) (rest := st) ⟨hx, hb, hml, hown, hts⟩ (ct H.size) (va_cwS As.length hts hG hw rfl rfl hy hR) ⟨CtP.blind, fun U hU hW => ⟨rfl, by rw [hU], by rw [hU]; exact hPc, va_K.moved hW.alike hK, hDc, by rw [hU]; exact hXc.warm hW⟩⟩ rfl rfl (by rw [← hml]; exact hl.1) rfl (lv_room hst) hd hroom) hP hD hS hl isC isR hper hC hRr hF kk
theorem ww_callSN (C : Cx E K cc nL ret own Ts rm) {y : MethodName} {ws ws' : List Cond} {rmc : Room} {As : List Value} {gsc gr : List va_W} {bytes : ByteArray} {maxL index : Nat} {rt : Option FieldType} {host : String} (ct : Ct E y ws rmc As gsc G) (hG : GoodIn Ts ws) (hw : ws = Cond.code y bytes maxL rt :: ws') (hnw : Cond.methodLinkNest own index y host ∈ nwAll) (hini : Cond.initialized y.cls ∈ Ts) (hstat : Cond.static y ∈ Ts)
    (hy : y.cls ≠ "java/lang/invoke/MethodHandle" ∧ y.cls ≠ "java/lang/invoke/VarHandle" ∧ (parseMethodDescriptor y.desc).map (fun d => d.parameters.length) = some As.length) (hR : rmc.frames + 1 ≤ rm.frames ∧ 8 + (maxL + 11) + rmc.locals ≤ rm.locals) (hroom : cells + rmc.cells ≤ rm.cells ∧ slots + rmc.slots ≤ rm.slots)
    (isC isR : List Nat) (ng : Nat) (hng : gs.length = ng) (hper : (isC ++ isR).Perm (List.range ng)) (hC : isC.filterMap (fun i => gs[i]?) = gsc) (hRr : isR.filterMap (fun i => gs[i]?) = gr) (hst : (st.map fun v => v.category).sum ≤ 8) (hd : decode cc pc = .ok (.invokestatic index, 3))
    (kk : ∀ rv gs1, G rv gs1 → WW E K (cells + rmc.cells) (slots + rmc.slots) Q (pc + 3) lv (rv.toList ++ st) (gs1 ++ gr)) : WW E K cells slots Q pc lv (As.reverse ++ st) gs := by
  obtain ⟨p, e, R, s, m, args, below, meth, c, A⟩ := K
  obtain ⟨⟨hx, hb, hml, hr, hown⟩, hts, hlk', hK, hA, hX, rfl⟩ := C
  intro H locs ls hP hD hS hl
  subst hng
  obtain ⟨hPc, hDc, hAc⟩ := gs_cut hP hD isC isR hper hC
  have hF : ∀ q, va_A gsc.flatten H.size q → A q := fun q h => by
    rcases h with ⟨k, e, h⟩ | h
    · exact hAc k (q, e) h
    · exact hA q (Nat.le_trans hS.1 h)
  have hXc : Xw E (va_A gsc.flatten H.size) s H := (hX.kept hS.2.1).narrow hF
  refine ww_back (va_runSN (As := As) (rest := st) ⟨hx, hb, hml, hown, hts⟩ (ct H.size) ⟨va_cnB As.length hts hG hw rfl rfl (hX.nw hnw) (hts _ hini) hy hR, hts _ hstat, trivial⟩ ⟨CtP.blind, fun U hU hW => ⟨rfl, by rw [hU], by rw [hU]; exact hPc, va_K.moved hW.alike hK, hDc, by rw [hU]; exact hXc.warm hW⟩⟩ rfl rfl (by rw [← hml]; exact hl.1) rfl (lv_room hst) hd hroom) hP hD hS hl isC isR hper hC hRr hF kk
end WWd
