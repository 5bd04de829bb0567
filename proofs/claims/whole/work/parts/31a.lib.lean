section WWl
theorem met_ofWH {l : Launch} {y : MethodName} {ws ws' : List Cond} {rm : Room} {Pc : Array Value → State → Prop} {Qc : Array Value → State → Outcome → State → Prop} {mc ms : Nat} {free : Addr → Prop} {cc : ByteArray} {maxL : Nat} {ret : Option FieldType} {hh : List (Nat × Nat × Nat × Nat)}
    (hy : plainName y.cls = true) (hw : ws = Cond.codeWith y cc maxL ret hh :: ws')
    (body : ∀ p e s m args below meth c s₁, BodyLoose p l y (headSpec ws rm) cc maxL ret e s m args below meth c s₁ → c.maxLocals = maxL → Pc args s →
      W p l e (headSpec ws rm).room s m args below meth c s.heap [] 0 0 (MQ below Qc args s mc ms free) (entryFrame m args maxL)) : Met l y ws rm Pc Qc mc ms free := by
  refine MetFree.of_bodyS (code := cc) (maxLocals := maxL) (ret := ret) hy ?_ ?_
  · intro args s m h hn
    obtain ⟨m9, meth, c, hn9, h1, h2, h3, h4, -, h5, h6, -⟩ := Cond.codeWith_spec (atoms_spec (ws := ws) h _ (by rw [hw]; exact List.mem_cons_self))
    cases hn.symm.trans hn9
    exact ⟨meth, c, h1, h2, h3, h4, h5, h6⟩
  · intro p e s m args below meth c s₁ B hml hP _
    have hh0 : s₁.heap = s.heap := by rw [B.state]; rfl
    obtain ⟨t, a1, o, b1, b2, b3⟩ := body p e s m args below meth c s₁ B hml hP s₁ hh0 (Stand.of_body B)
    exact ⟨t, o, a1, b1, b2, b3⟩
/-- what the law's handlers stand on -/
def NI (U : State) : Prop := va_Nc "java/lang/IllegalArgumentException" "java/util/NoSuchElementException" U
def CtPL (E : Ex) (av : List Value) (gs : List va_W) (sz : Nat) : Array Value → State → Prop := fun a U => CtP E av gs sz a U ∧ XT U ∧ NI U
theorem CtPL.blind {E : Ex} {av : List Value} {gs : List va_W} {sz : Nat} : FrameBlind (CtPL E av gs sz) := by
  intro a U g mk q
  exact ⟨CtP.blind _ _ _ _ q.1, XT.same (s := U) rfl q.2.1, va_Nc.moved (u := U) (Vm.Alike.refl U.vm) q.2.2⟩
/-- a method that catches all that its calls throw -/
def CtL (E : Ex) (y : MethodName) (ws : List Cond) (rm : Room) (av : List Value) (gs : List va_W) (G : Option Value → List va_W → Prop) : Prop :=
  (eL E).stackTraces = false → ∀ sz : Nat, Met (eL E) y ws rm (CtPL E av gs sz) (fun _ => CtQ E gs sz G) rm.cells rm.slots (va_A gs.flatten sz)
def LX (E : Ex) (hh : List (Nat × Nat × Nat × Nat)) : Kx → Prop
  | (_, _, _, s, _, _, _, _, c, _) => c.exceptionTable.toList = tableOf hh ∧ (eL E).stackTraces = false ∧ XT s ∧ NI s
theorem ctl_of {E : Ex} {y : MethodName} {ws ws' : List Cond} {rm : Room} {cc : ByteArray} {nL : Nat} {ret : Option FieldType} {hh : List (Nat × Nat × Nat × Nat)} {own : String} {av : List Value} {gs : List va_W} {G : Option Value → List va_W → Prop} (hy : plainName y.cls = true) (hw : ws = Cond.codeWith y cc nL ret hh :: ws') (hown : y.cls = own) (hlen : (lg_sl av).length ≤ nL)
    (body : ∀ K : Kx, Cx E K cc nL ret own ws rm → LX E hh K → WW E K 0 0 (QQ E K G rm.cells rm.slots) 0 (lv_args 0 av) [] gs) : CtL E y ws rm av gs G := by
  intro htr sz
  refine met_ofWH hy hw ?_
  intro p e s m args below meth c s₁ B hml hv
  obtain ⟨⟨rfl, hsz, hP, hK, hD0, hX⟩, hXT, hNI⟩ := hv
  subst hown
  subst hsz
  have hts := atoms_spec (ws := ws) B.pre
  have htab := vx_table (x := y) B (hts _ (by rw [hw]; exact List.mem_cons_self))
  have h := body (p, e, (headSpec ws rm).room, s, m, av.toArray, below, meth, c, va_A gs.flatten s.heap.size) ⟨⟨B.exec, B.bytes, hml, B.returns, findClass_of_methodNamed B.named⟩, hts, B.notSynchronized, hK, (fun q h => Or.inr h), hX, rfl⟩ ⟨htab, htr, hXT, hNI⟩
  rw [lg_entry_eq]
  exact h s.heap [] _ hP hD0.self va_S.rf (by rw [hml]; exact lv_entry av hlen)
def wLon (E : Ex) (q : Nat) (f : Nat → Int64) : va_W := [(q, .inl (eJ E, 1, .inr (.inl f)))]
theorem q_Lon {E : Ex} {q : Nat} {f : Nat → Int64} : (wLon E q f)[0]? = some (q, .inl (eJ E, 1, .inr (.inl f))) := rfl
theorem s_Lon {E : Ex} {q : Nat} {f x : Nat → Int64} : (wLon E q f).set 0 (q, .inl (eJ E, 1, .inr (.inl x))) = wLon E q x := rfl
section
variable {E : Ex} {K : Kx} {cc : ByteArray} {nL : Nat} {ret : Option FieldType} {own : String} {Ts : List Cond} {rm : Room} {cells slots : Nat} {Q : State → Prop} {pc : Nat} {lv : List (Nat × Value)} {st : List Value} {gs : List va_W} {G : Option Value → List va_W → Prop} {hh : List (Nat × Nat × Nat × Nat)}
/-- an exception of class X, the cell q, thrown at pc -/
def WX (E : Ex) : Kx → Nat → Nat → (State → Prop) → Nat → List (Nat × Value) → List Value → List va_W → String → Nat → Prop
  | (p, e, R, s, m, args, below, meth, c, A), cells, slots, Q, pc, lv, st, gs, X, q => ∀ (H : Heap) (locs : List Loc) (ls : Array Slot) (ce : Cell), va_P (eD E) vwCl gs.flatten H → va_D A gs.flatten → va_S A s.heap H locs → lv_has ls c.maxLocals lv → H[q]? = some ce → ce.vm = .none → s.vm.findClass X = some ce.cls → vx_W p (eL E) e R s m args below meth c H locs cells slots Q (F0 m pc ls st) q
theorem ww_catch0 (C : Cx E K cc nL ret own Ts rm) {f t h ty : Nat} {hs : List (Nat × Nat × Nat × Nat)} (L0 : LX E ((f, t, h, ty) :: hs) K) {b : Bool} {q : Nat} (hcov : covers ⟨f, t, h, ty⟩ pc = true) (hty : ty ≠ 0) (hlink : Cond.classLink own ty (xn b) ∈ Ts) (kk : WW E K cells slots Q h lv [.ref q] gs) : WX E K cells slots Q pc lv st gs (xn b) q := by
  obtain ⟨p, e, R, s, m, args, below, meth, c, A⟩ := K
  obtain ⟨⟨hx, hb, hml, hr, hown⟩, hts, hlk, hK, hA, hX, rfl⟩ := C
  obtain ⟨htab, htr, hXT, hNI⟩ := L0
  intro H locs ls ce hP hD hS hl hce hcv hcl
  have hcast : (Cond.castable (xn b) (xn b)).before args s = true := by
    cases b
    · exact hXT args _ (by simp [xtB, xn])
    · exact hXT args _ (by simp [xtB, xn])
  exact vx_catch hown [] ⟨f, t, h, ty⟩ (tableOf hs) htab (fun z hz => nomatch hz) hcov hty (hts _ hlink) hcast hce hcv hcl (kk H locs ls hP hD hS hl)
theorem ww_catch1 (C : Cx E K cc nL ret own Ts rm) {f0 t0 h0 ty0 f t h ty : Nat} {hs : List (Nat × Nat × Nat × Nat)} (L0 : LX E ((f0, t0, h0, ty0) :: (f, t, h, ty) :: hs) K) {q : Nat} (hty0 : ty0 ≠ 0) (hlink0 : Cond.classLink own ty0 "java/util/NoSuchElementException" ∈ Ts) (hcov : covers ⟨f, t, h, ty⟩ pc = true) (hty : ty ≠ 0) (hlink : Cond.classLink own ty (xn true) ∈ Ts) (kk : WW E K cells slots Q h lv [.ref q] gs) : WX E K cells slots Q pc lv st gs (xn true) q := by
  obtain ⟨p, e, R, s, m, args, below, meth, c, A⟩ := K
  obtain ⟨⟨hx, hb, hml, hr, hown⟩, hts, hlk, hK, hA, hX, rfl⟩ := C
  obtain ⟨htab, htr, hXT, hNI⟩ := L0
  intro H locs ls ce hP hD hS hl hce hcv hcl
  have hcast : (Cond.castable (xn true) (xn true)).before args s = true := hXT args _ (by simp [xtB, xn])
  refine vx_catch hown [⟨f0, t0, h0, ty0⟩] ⟨f, t, h, ty⟩ (tableOf hs) htab (fun z hz => ?_) hcov hty (hts _ hlink) hcast hce hcv hcl (kk H locs ls hP hD hS hl)
  rw [List.mem_singleton] at hz
  subst hz
  exact Or.inr ⟨hty0, _, hts _ hlink0, hNI⟩
/-- a call that may throw, in a method with handlers -/
theorem ww_callVC {β : Type} {r : Except Bool β} {Gc : β → Option Value → List va_W → Prop} (C : Cx E K cc nL ret own Ts rm) (L0 : LX E hh K) {y : MethodName} {ws ws' : List Cond} {rmc : Room} {As : List Value} {b : Nat} {gsc gr : List va_W} {bytes : ByteArray} {maxL index ci N : Nat} {rt : Option FieldType} {Cn : String} {T : u_T} {ty0 : Nat → FieldType} {w : va_W} {fs : List Value} (ct : CtX E y ws rmc (.ref b :: As) gsc r Gc) (hG : GoodIn Ts (wsV own index Cn y ws)) (hw : ws = Cond.code y bytes maxL rt :: ws')
    (hy : y.cls = Cn ∧ y.cls ≠ "java/lang/invoke/MethodHandle" ∧ y.cls ≠ "java/lang/invoke/VarHandle" ∧ (parseMethodDescriptor y.desc).map (fun d => d.parameters.length) = some As.length) (hR : rmc.frames + 1 ≤ rm.frames ∧ 8 + (maxL + 11) + rmc.locals ≤ rm.locals) (hroom : cells + rmc.cells ≤ rm.cells ∧ slots + rmc.slots ≤ rm.slots)
    (hc : ClOK ci Cn T N ty0) (g k : Nat) (hg : gsc[g]? = some w) (hq : w[k]? = some (b, .inr (ci, fs))) (isC isR : List Nat) (ng : Nat) (hng : gs.length = ng) (hper : (isC ++ isR).Perm (List.range ng)) (hC : isC.filterMap (fun i => gs[i]?) = gsc) (hRr : isR.filterMap (fun i => gs[i]?) = gr) (hst : (st.map fun v => v.category).sum ≤ 8) (hd : decode cc pc = .ok (.invokevirtual index, 3))
    (kx : ∀ b, r = .error b → ∀ q, WX E K (cells + rmc.cells) (slots + rmc.slots) Q pc lv st gs (xn b) q)
    (kk : ∀ v, r = .ok v → ∀ rv gs1, Gc v rv gs1 → WW E K (cells + rmc.cells) (slots + rmc.slots) Q (pc + 3) lv (rv.toList ++ st) (gs1 ++ gr)) : WW E K cells slots Q pc lv (As.reverse ++ .ref b :: st) gs := by
  obtain ⟨p, e, R, s, m, args, below, meth, c, A⟩ := K
  obtain ⟨⟨hx, hb, hml, hr, hown⟩, hts, hlk', hK, hA, hX, rfl⟩ := C
  obtain ⟨htab, htr, hXT, hNI⟩ := L0
  intro H locs ls hP hD hS hl
  subst hng
  obtain ⟨hPc, hDc, hAc⟩ := gs_cut hP hD isC isR hper hC
  have hF : ∀ q, va_A gsc.flatten H.size q → A q := fun q h => by
    rcases h with ⟨k, e, h⟩ | h
    · exact hAc k (q, e) h
    · exact hA q (Nat.le_trans hS.1 h)
  have hXc : Xw E (va_A gsc.flatten H.size) s H := (hX.kept hS.2.1).narrow hF
  obtain ⟨n, hn, -⟩ := gs_at gsc g w k _ hg hq
  have hrun := vx_runV (e := e) (As := As) (rest := st) (g := F0 m pc ls (As.reverse ++ .ref b :: st)) (locs := locs) (cells := cells) (slots := slots) (below := below) (meth := meth) ⟨hx, hb, hml, hown, hts⟩ (ct htr H.size) (cwV As.length hts hG hw rfl rfl hy hR) ⟨CtPX.blind, va_recv hK hPc hc.1 hn, fun U hU hW => ⟨⟨rfl, by rw [hU], by rw [hU]; exact hPc, va_K.moved hW.alike hK, hDc, by rw [hU]; exact hXc.warm hW⟩, hXT.warm hW⟩⟩ rfl rfl (by rw [← hml]; exact hl.1) rfl (lv_room hst) hd hroom
  intro T hT X
  have front : ∀ {st₀ t T' : State} {L : List Loc}, st₀.heap = H → T'.heap = t.heap → (∀ q ∈ L, va_A gsc.flatten H.size q.base) → va_F (va_A gsc.flatten H.size) st₀ t → (∀ q : Nat, q < H.size → ¬ va_A gsc.flatten H.size q → T'.heap[q]? = H[q]?) ∧ va_S A s.heap T'.heap (locs ++ L) := by
    intro st₀ t T' L h0 e1 hL hF'
    obtain ⟨hz, hk⟩ := hF'
    rw [h0] at hz hk
    have hk' : ∀ q : Nat, q < H.size → ¬ va_A gsc.flatten H.size q → T'.heap[q]? = H[q]? := fun q h1 h2 => by rw [e1]; exact hk q h1 h2
    refine ⟨hk', Nat.le_trans hS.1 (by rw [e1]; exact hz), fun q h1 h2 => ?_, fun q hq => ?_⟩
    · rw [hk' q (Nat.lt_of_lt_of_le h1 hS.1) (fun z => h2 (hF q z))]
      exact hS.2.1 q h1 h2
    · rcases List.mem_append.mp hq with h | h
      · exact hS.2.2 q h
      · exact hF _ (hL q h)
  rcases hrun T hT X with ⟨v, st₀, t, T', L, h0, X', hL, e1, e2, ⟨⟨rv, gs1, hv, ⟨u, hu, hGv⟩, hP1, hD1⟩, hFF⟩, stp⟩ | ⟨q, st₀, t, T', L, X9, ce, h0, X', hL, e1, e2, ⟨⟨b, hb9, hXn, hP1, hD1⟩, hFF⟩, hce, hcv, hcl, stp⟩
  · have ev := Outcome.returned.inj hv
    subst ev
    obtain ⟨hk', hS1⟩ := front h0 e1 hL hFF
    obtain ⟨hP2, hD2⟩ := gs_call hP hD isC isR hper hC hRr hk' hF (by rw [e1]; exact hP1) hD1
    obtain ⟨t2, a1, b1⟩ := kk u hu v gs1 hGv T'.heap (locs ++ L) ls hP2 hD2 hS1 hl T' rfl X'
    exact ⟨t2, stp t2 a1, b1⟩
  · obtain ⟨hk', hS1⟩ := front h0 e1 hL hFF
    obtain ⟨hP2, hD2⟩ := gs_call hP hD isC isR hper hC hRr hk' hF (by rw [e1]; exact hP1) hD1
    have hpp : (gsc ++ gr).flatten.Perm gs.flatten := by
      rw [← hC, ← hRr, ← List.filterMap_append]
      exact (pick_perm hper).flatten
    have hP3 := va_P_perm hpp hP2
    have hD3 := va_D_perm hpp hD2
    subst hXn
    obtain ⟨t2, a1, b1⟩ := kx b hb9 q T'.heap (locs ++ L) ls ce hP3 hD3 hS1 hl (by rw [e1]; exact hce) hcv hcl T' rfl X'
    exact ⟨t2, stp.trans a1, b1⟩
/-- what the law's own frame stands on -/
def TL (E : Ex) : Kx → Prop
  | (_, _, _, s, _, _, _, _, _, _) => (eL E).stackTraces = false ∧ XT s ∧ NI s
/-- the law calls one of its own methods, which catches -/
theorem ww_callSL (C : Cx E K cc nL ret own Ts rm) (T0 : TL E K) {y : MethodName} {ws ws' : List Cond} {rmc : Room} {As : List Value} {gsc gr : List va_W} {bytes : ByteArray} {maxL index : Nat} {rt : Option FieldType} {hy9 : List (Nat × Nat × Nat × Nat)} (ct : CtL E y ws rmc As gsc G) (hG : GoodIn Ts (va_wsS own index y ws)) (hw : ws = Cond.codeWith y bytes maxL rt hy9 :: ws')
    (hy : y.cls ≠ "java/lang/invoke/MethodHandle" ∧ y.cls ≠ "java/lang/invoke/VarHandle" ∧ (parseMethodDescriptor y.desc).map (fun d => d.parameters.length) = some As.length) (hR : rmc.frames + 1 ≤ rm.frames ∧ 8 + (maxL + 11) + rmc.locals ≤ rm.locals) (hroom : cells + rmc.cells ≤ rm.cells ∧ slots + rmc.slots ≤ rm.slots)
    (isC isR : List Nat) (ng : Nat) (hng : gs.length = ng) (hper : (isC ++ isR).Perm (List.range ng)) (hC : isC.filterMap (fun i => gs[i]?) = gsc) (hRr : isR.filterMap (fun i => gs[i]?) = gr) (hst : (st.map fun v => v.category).sum ≤ 8) (hd : decode cc pc = .ok (.invokestatic index, 3))
    (kk : ∀ rv gs1, G rv gs1 → WW E K (cells + rmc.cells) (slots + rmc.slots) Q (pc + 3) lv (rv.toList ++ st) (gs1 ++ gr)) : WW E K cells slots Q pc lv (As.reverse ++ st) gs := by
  obtain ⟨p, e, R, s, m, args, below, meth, c, A⟩ := K
  obtain ⟨⟨hx, hb, hml, hr, hown⟩, hts, hlk', hK, hA, hX, rfl⟩ := C
  obtain ⟨htr, hXT, hNI⟩ := T0
  intro H locs ls hP hD hS hl
  subst hng
  obtain ⟨hPc, hDc, hAc⟩ := gs_cut hP hD isC isR hper hC
  have hF : ∀ q, va_A gsc.flatten H.size q → A q := fun q h => by
    rcases h with ⟨k, e, h⟩ | h
    · exact hAc k (q, e) h
    · exact hA q (Nat.le_trans hS.1 h)
  have hXc : Xw E (va_A gsc.flatten H.size) s H := (hX.kept hS.2.1).narrow hF
  exact ww_back (vx_runSW (As := As) (rest := st) ⟨hx, hb, hml, hown, hts⟩ (ct htr H.size) (vx_cwSW As.length hts hG hw rfl rfl hy hR) ⟨CtPL.blind, fun U hU hW => ⟨⟨rfl, by rw [hU], by rw [hU]; exact hPc, va_K.moved hW.alike hK, hDc, by rw [hU]; exact hXc.warm hW⟩, hXT.warm hW, va_Nc.moved hW.alike hNI⟩⟩ rfl rfl (by rw [← hml]; exact hl.1) rfl (lv_room hst) hd hroom) hP hD hS hl isC isR hper hC hRr hF kk
/-- the script, which lies outside -/
def SX (b L : Nat) (xs : Nat → Int32) : Kx → Prop
  | (_, _, _, s, _, _, _, _, _, A) => va_X b L xs s s.heap ∧ b < s.heap.size ∧ ¬ A b
theorem ww_sld (C : Cx E K cc nL ret own Ts rm) {b L : Nat} {xs : Nat → Int32} (S0 : SX b L xs K) {i : Int32} (hi : vp_in i L) (hd : decode cc pc = .ok (.iaload, 1)) (kk : WW E K cells slots Q (pc + 1) lv (.int (xs i.toNatClampNeg) :: st) gs) : WW E K cells slots Q pc lv (.int i :: .ref b :: st) gs := by
  obtain ⟨p, e, R, s, m, args, below, meth, c, A⟩ := K
  obtain ⟨⟨hx, hb, hml, hr, hown⟩, hts, hlk', hK, hA, hX, rfl⟩ := C
  intro H locs ls hP hD hS hl
  exact va_sld hx hb S0.1 S0.2.1 S0.2.2 hS hi hd (kk H locs ls hP hD hS hl)
theorem ww_slen (C : Cx E K cc nL ret own Ts rm) {b L : Nat} {xs : Nat → Int32} (S0 : SX b L xs K) (hd : decode cc pc = .ok (.arraylength, 1)) (kk : WW E K cells slots Q (pc + 1) lv (.int (Int32.ofNat L) :: st) gs) : WW E K cells slots Q pc lv (.ref b :: st) gs := by
  obtain ⟨p, e, R, s, m, args, below, meth, c, A⟩ := K
  obtain ⟨⟨hx, hb, hml, hr, hown⟩, hts, hlk', hK, hA, hX, rfl⟩ := C
  intro H locs ls hP hD hS hl
  exact va_slen hx hb S0.1 S0.2.1 S0.2.2 hS hd (kk H locs ls hP hD hS hl)
end
end WWl
