section WWn
/-- addresses in a row -/
def lf (l : List Nat) : Nat → Nat := fun n => l.getD n 0
def CtPN (E : Ex) (av : List Value) (gs : List va_W) (sz : Nat) : Array Value → State → Prop := fun a U => CtP E av gs sz a U ∧ XA U
theorem CtPN.blind {E : Ex} {av : List Value} {gs : List va_W} {sz : Nat} : FrameBlind (CtPN E av gs sz) := by
  intro a U g mk q
  exact ⟨CtP.blind _ _ _ _ q.1, XA.same (s := U) rfl q.2⟩
/-- the contract of a constructor that makes rows of references -/
def CtN (E : Ex) (y : MethodName) (ws : List Cond) (rm : Room) (av : List Value) (gs : List va_W) (G : Option Value → List va_W → Prop) : Prop :=
  ∀ sz : Nat, Met (eL E) y ws rm (CtPN E av gs sz) (fun _ => CtQ E gs sz G) rm.cells rm.slots (va_A gs.flatten sz)
def AOK : Kx → Prop
  | (_, _, _, s, _, _, _, _, _, _) => XA s
def INK : Kx → Prop
  | (_, _, _, _, _, _, _, meth, _, _) => meth.name = "<init>"
theorem cti_of {E : Ex} {y : MethodName} {ws ws' : List Cond} {rm : Room} {cc : ByteArray} {nL : Nat} {ret : Option FieldType} {own : String} {av : List Value} {gs : List va_W} {G : Option Value → List va_W → Prop} (hy : plainName y.cls = true) (hw : ws = Cond.code y cc nL ret :: ws') (hown : y.cls = own) (hlen : (lg_sl av).length ≤ nL) (hinit : y.name = "<init>")
    (body : ∀ K : Kx, Cx E K cc nL ret own ws rm → INK K → WW E K 0 0 (QQ E K G rm.cells rm.slots) 0 (lv_args 0 av) [] gs) : Ct E y ws rm av gs G := by
  intro sz
  refine Met.ofW hy hw ?_
  intro p e s m args below meth c s₁ B hml hv
  obtain ⟨rfl, hsz, hP, hK, hD0, hX⟩ := hv
  subst hown
  subst hsz
  have h := body (p, e, (headSpec ws rm).room, s, m, av.toArray, below, meth, c, va_A gs.flatten s.heap.size) ⟨⟨B.exec, B.bytes, hml, B.returns, findClass_of_methodNamed B.named⟩, atoms_spec (ws := ws) B.pre, B.notSynchronized, hK, (fun q h => Or.inr h), hX, rfl⟩ ((name_of_methodNamed B.named B.method).1.trans hinit)
  rw [lg_entry_eq]
  exact h s.heap [] _ hP hD0.self va_S.rf (by rw [hml]; exact lv_entry av hlen)
theorem ctn_of {E : Ex} {y : MethodName} {ws ws' : List Cond} {rm : Room} {cc : ByteArray} {nL : Nat} {ret : Option FieldType} {own : String} {av : List Value} {gs : List va_W} {G : Option Value → List va_W → Prop} (hy : plainName y.cls = true) (hw : ws = Cond.code y cc nL ret :: ws') (hown : y.cls = own) (hlen : (lg_sl av).length ≤ nL) (hinit : y.name = "<init>")
    (body : ∀ K : Kx, Cx E K cc nL ret own ws rm → INK K → AOK K → WW E K 0 0 (QQ E K G rm.cells rm.slots) 0 (lv_args 0 av) [] gs) : CtN E y ws rm av gs G := by
  intro sz
  refine Met.ofW hy hw ?_
  intro p e s m args below meth c s₁ B hml hv
  obtain ⟨⟨rfl, hsz, hP, hK, hD0, hX⟩, hXA⟩ := hv
  subst hown
  subst hsz
  have h := body (p, e, (headSpec ws rm).room, s, m, av.toArray, below, meth, c, va_A gs.flatten s.heap.size) ⟨⟨B.exec, B.bytes, hml, B.returns, findClass_of_methodNamed B.named⟩, atoms_spec (ws := ws) B.pre, B.notSynchronized, hK, (fun q h => Or.inr h), hX, rfl⟩ ((name_of_methodNamed B.named B.method).1.trans hinit) hXA
  rw [lg_entry_eq]
  exact h s.heap [] _ hP hD0.self va_S.rf (by rw [hml]; exact lv_entry av hlen)
section
variable {E : Ex} {K : Kx} {cc : ByteArray} {nL : Nat} {ret : Option FieldType} {own : String} {Ts : List Cond} {rm : Room} {cells slots : Nat} {Q : State → Prop} {pc : Nat} {lv : List (Nat × Value)} {st : List Value} {gs : List va_W} {G : Option Value → List va_W → Prop}
theorem ww_objInit (C : Cx E K cc nL ret own Ts rm) {idx a : Nat} (hl : Cond.methodLink own idx Lib.objectInit ∈ Ts) (hi : Cond.instanceMethod Lib.objectInit ∈ Ts) (hc : Cond.code Lib.objectInit ⟨#[0xb1]⟩ 1 none ∈ Ts) (hr1 : 1 ≤ rm.frames) (hr2 : (st.map fun v => v.category).sum + 12 ≤ rm.locals) (hd : decode cc pc = .ok (.invokespecial idx, 3)) (kk : WW E K cells slots Q (pc + 3) lv st gs) : WW E K cells slots Q pc lv (.ref a :: st) gs := by
  obtain ⟨p, e, R, s, m, args, below, meth, c, A⟩ := K
  obtain ⟨⟨hx, hb, hml, hr, hown⟩, hts, hlk, hK, hA, hX, rfl⟩ := C
  intro H locs ls hP hD hS hl'
  exact W.objInit hx hb hown (hts _ hl) (hts _ hi) (hts _ hc) (g := F0 m pc ls (.ref a :: st)) rfl hl'.1 rfl hd hr1 (by show 2 * 0 + _ + 12 ≤ _; omega) (kk H locs ls hP hD hS hl')
theorem gs_app {gs : List va_W} {w : va_W} : (gs ++ [w]).flatten = gs.flatten ++ w := by rw [List.flatten_append, List.flatten_cons, List.flatten_nil, List.append_nil]
theorem ww_new (C : Cx E K cc nL ret own Ts rm) {Cn : String} {T : u_T} {N ci index : Nat} {ty0 : Nat → FieldType} (fs : List Value) (hc : ClOK ci Cn T N ty0) (hin : ∀ w ∈ u_ws Cn T N, w ∈ Ts) (hcl : Cond.classLink own index Cn ∈ Ts) (hinst : Cond.instantiable Cn N ∈ Ts) (hini : Cond.initialized Cn ∈ Ts) (hfs : ∀ j, j < N → defaultValue (ty0 j) = vp_V fs j) (hroom : cells + 1 ≤ rm.cells ∧ slots + N ≤ rm.slots) (hd : decode cc pc = .ok (.new index, 3))
    (kk : ∀ q, WW E K (cells + 1) (slots + N) Q (pc + 3) lv (.ref q :: st) (gs ++ [[(q, .inr (ci, fs))]])) : WW E K cells slots Q pc lv st gs := by
  obtain ⟨p, e, R, s, m, args, below, meth, c, A⟩ := K
  obtain ⟨⟨hx, hb, hml, hr, hown⟩, hts, hlk, hK, hA, hX, rfl⟩ := C
  intro H locs ls hP hD hS hl'
  refine va_new hx hb hts hin ty0 hc.2.1 hown (hts _ hcl) (hts _ hinst) (hts _ hini) hK hP hD hS hA hc.1 hfs hroom.1 hroom.2 hd (fun q H1 hP1 hD1 hS1 => ?_)
  rw [← gs_app] at hP1 hD1
  exact kk q H1 locs ls hP1 hD1 hS1 hl'
theorem ww_putF (C : Cx E K cc nL ret own Ts rm) (I0 : INK K) {Cn : String} {T : u_T} {N ci a index : Nat} {ty0 : Nat → FieldType} {w : va_W} {fs : List Value} {v : Value} {gs' : List va_W} {ty : FieldType} (hc : ClOK ci Cn T N ty0) (hin : ∀ w ∈ u_ws Cn T N, w ∈ Ts) (g k f : Nat) (hg : gs[g]? = some w) (hq : w[k]? = some (a, .inr (ci, fs))) (hf : f < N) (hlk : Cond.fieldLink own index (T f).1 (T f).2.1 (T f).2.2.1 ∈ Ts) (hfin : (T f).2.2.2 = true) (hdecl : (T f).1 = own) (hdp : ty0 f = ty) (hn : narrow ty v = v) (hfit : fits ty v = true) {w' : va_W} (hl : fs.length = N) (hw' : w.set k (a, .inr (ci, fs.set f v)) = w') (hgs : gs.set g w' = gs') (hd : decode cc pc = .ok (.putfield index, 3))
    (kk : WW E K cells slots Q (pc + 3) lv st gs') : WW E K cells slots Q pc lv (v :: .ref a :: st) gs := by
  obtain ⟨p, e, R, s, m, args, below, meth, c, A⟩ := K
  obtain ⟨⟨hx, hb, hml, hr, hown⟩, hts, hlk', hK, hA, hX, hR⟩ := C
  intro H locs ls hP hD hS hl'
  obtain ⟨n, h1, h2⟩ := gs_at gs g w k _ hg hq
  subst hw'
  subst hgs
  exact va_putF hx hb hts hin ty0 hc.2.1 hc.2.2 hown hK hP hD hS n h1 hc.1 f hf (hts _ hlk) (fun _ h => h) hfin I0 hdecl (by rw [hc.2.1 f hf, hdp]) hn hfit (by rw [hl]; exact hf) hd (fun H1 locs1 hP1 hD1 hS1 => kk H1 locs1 ls (by rw [← h2]; exact hP1) (by rw [← h2]; exact hD1) hS1 hl')
theorem ww_newi (C : Cx E K cc nL ret own Ts rm) (harr : Cond.arrayClass .int ∈ Ts) {n : Int32} (N : Nat) (hn : ¬ n < 0) (hN : n.toNatClampNeg = N) (hby : N * 4 ≤ 536870912) (hroom : cells + 1 ≤ rm.cells ∧ slots + N ≤ rm.slots) (hd : decode cc pc = .ok (.newarray .int, 2))
    (kk : ∀ q, WW E K (cells + 1) (slots + N) Q (pc + 2) lv (.ref q :: st) (gs ++ [wArr E q N (fun _ => 0)])) : WW E K cells slots Q pc lv (.int n :: st) gs := by
  obtain ⟨p, e, R, s, m, args, below, meth, c, A⟩ := K
  obtain ⟨⟨hx, hb, hml, hr, hown⟩, hts, hlk, hK, hA, hX, rfl⟩ := C
  intro H locs ls hP hD hS hl'
  refine va_newa (atype := .int) hx hb (hts _ harr) (ty := .int) rfl hK hP hD hS hA (N' := N) (a0 := (N, .inl (fun _ => 0))) (fun cA => rfl) hn hN hby hroom.1 hroom.2 hd (fun q cA H1 hK1 hP1 hD1 hS1 => ?_)
  have h0 := va_nm_int (hK.2 0 (eI E, .int) rfl).2
  have h1 := va_nm_int (hK1.2 4 (cA, .int) rfl).2
  cases Option.some.inj (h0.symm.trans h1)
  rw [← gs_app] at hP1 hD1
  exact kk q H1 locs ls hP1 hD1 hS1 hl'
theorem ww_newl (C : Cx E K cc nL ret own Ts rm) (harr : Cond.arrayClass .long ∈ Ts) {n : Int32} (N : Nat) (hn : ¬ n < 0) (hN : n.toNatClampNeg = N) (hby : N * 8 ≤ 536870912) (hroom : cells + 1 ≤ rm.cells ∧ slots + N ≤ rm.slots) (hd : decode cc pc = .ok (.newarray .long, 2))
    (kk : ∀ q, WW E K (cells + 1) (slots + N) Q (pc + 2) lv (.ref q :: st) (gs ++ [[(q, .inl (eJ E, N, .inr (.inl fun _ => 0)))]])) : WW E K cells slots Q pc lv (.int n :: st) gs := by
  obtain ⟨p, e, R, s, m, args, below, meth, c, A⟩ := K
  obtain ⟨⟨hx, hb, hml, hr, hown⟩, hts, hlk, hK, hA, hX, rfl⟩ := C
  intro H locs ls hP hD hS hl'
  refine va_newa (atype := .long) hx hb (hts _ harr) (ty := .long) rfl hK hP hD hS hA (N' := N) (a0 := (N, .inr (.inl fun _ => 0))) (fun cA => rfl) hn hN hby hroom.1 hroom.2 hd (fun q cA H1 hK1 hP1 hD1 hS1 => ?_)
  have h0 := va_nm_long (hK.2 1 (eJ E, .long) rfl).2
  have h1 := va_nm_long (hK1.2 4 (cA, .long) rfl).2
  cases Option.some.inj (h0.symm.trans h1)
  rw [← gs_app] at hP1 hD1
  exact kk q H1 locs ls hP1 hD1 hS1 hl'
theorem nm_obj {s : State} {a b : ClassId} {X : String} (h0 : va_RA s a (.object X)) (h1 : va_RA s b (.object X)) : a = b := by
  obtain ⟨_, _, _, _, _, f0⟩ := h0
  obtain ⟨_, _, _, _, _, f1⟩ := h1
  exact Option.some.inj (f0.symm.trans f1)
theorem ww_newH (C : Cx E K cc nL ret own Ts rm) (AO : AOK K) {index : Nat} (hcl : Cond.classLink own index "GuardWalks$House" ∈ Ts) {n : Int32} (N : Nat) (hn : ¬ n < 0) (hN : n.toNatClampNeg = N) (hby : N * 4 ≤ 536870912) (hroom : cells + 1 ≤ rm.cells ∧ slots + N ≤ rm.slots) (hd : decode cc pc = .ok (.anewarray index, 3))
    (kk : ∀ q, WW E K (cells + 1) (slots + N) Q (pc + 3) lv (.ref q :: st) (gs ++ [[(q, .inl (eH E, N, .inr (.inr (.inr (.inr fun _ => none)))))]])) : WW E K cells slots Q pc lv (.int n :: st) gs := by
  obtain ⟨p, e, R, s, m, args, below, meth, c, A⟩ := K
  obtain ⟨⟨hx, hb, hml, hr, hown⟩, hts, hlk, hK, hA, hX, rfl⟩ := C
  intro H locs ls hP hD hS hl'
  refine va_newq hx hb hown (hts _ hcl) AO.1 hK hP hD hS hA hn hN hby hroom.1 hroom.2 hd (fun q cA H1 hK1 hP1 hD1 hS1 => ?_)
  cases nm_obj (hK.2 2 (eH E, .object "GuardWalks$House") rfl).2 (hK1.2 4 (cA, .object "GuardWalks$House") rfl).2
  rw [← gs_app] at hP1 hD1
  exact kk q H1 locs ls hP1 hD1 hS1 hl'
/-- a house into a row of houses -/
theorem ww_astH (C : Cx E K cc nL ret own Ts rm) {a n b : Nat} {f : Nat → Option Nat} {vs : List Value} {w w2 : va_W} {i : Int32} {gs' : List va_W} (g k g2 : Nat) (hg : gs[g]? = some w) (hq : w[k]? = some (a, .inl (eH E, n, .inr (.inr (.inr (.inr f)))))) (hg2 : gs[g2]? = some w2) (hq2 : w2[0]? = some (b, .inr (2, vs))) (hi : vp_in i n) {w' : va_W} (hw' : w.set k (a, .inl (eH E, n, .inr (.inr (.inr (.inr (va_up f i.toNatClampNeg (some b))))))) = w') (hgs : gs.set g w' = gs') (hd : decode cc pc = .ok (.aastore, 1))
    (kk : WW E K cells slots Q (pc + 1) lv st gs') : WW E K cells slots Q pc lv (.ref b :: .int i :: .ref a :: st) gs := by
  obtain ⟨p, e, R, s, m, args, below, meth, c, A⟩ := K
  obtain ⟨⟨hx, hb, hml, hr, hown⟩, hts, hlk, hK, hA, hX, rfl⟩ := C
  intro H locs ls hP hD hS hl'
  obtain ⟨n1, h1, h2⟩ := gs_at gs g w k _ hg hq
  obtain ⟨n2, h3, -⟩ := gs_at gs g2 w2 0 _ hg2 hq2
  subst hw'
  subst hgs
  exact va_astq hx hb hK hP hD hS n1 2 n2 2 (r := (RX2, TX2, 19)) h1 rfl h3 rfl hi hd (fun H1 locs1 hP1 hD1 hS1 => kk H1 locs1 ls (by rw [← h2]; exact hP1) (by rw [← h2]; exact hD1) hS1 hl')
/-- the call of a constructor -/
theorem ww_callI (C : Cx E K cc nL ret own Ts rm) {y : MethodName} {ws ws' : List Cond} {rmc : Room} {As : List Value} {b : Nat} {gsc gr : List va_W} {bytes : ByteArray} {maxL index : Nat} (ct : Ct E y ws rmc (.ref b :: As) gsc G) (hG : GoodIn Ts ws) (hw : ws = Cond.code y bytes maxL none :: ws') (hlk : Cond.methodLink own index y ∈ Ts) (hin : Cond.instanceMethod y ∈ Ts) (hini : Cond.initialized y.cls ∈ Ts)
    (hy : y.name = "<init>" ∧ y.cls ≠ "java/lang/invoke/MethodHandle" ∧ y.cls ≠ "java/lang/invoke/VarHandle" ∧ (parseMethodDescriptor y.desc).map (fun d => d.parameters.length) = some As.length) (hR : rmc.frames + 1 ≤ rm.frames ∧ 8 + (maxL + 11) + rmc.locals ≤ rm.locals) (hroom : cells + rmc.cells ≤ rm.cells ∧ slots + rmc.slots ≤ rm.slots)
    (isC isR : List Nat) (ng : Nat) (hng : gs.length = ng) (hper : (isC ++ isR).Perm (List.range ng)) (hC : isC.filterMap (fun i => gs[i]?) = gsc) (hRr : isR.filterMap (fun i => gs[i]?) = gr) (hst : (st.map fun v => v.category).sum ≤ 8) (hd : decode cc pc = .ok (.invokespecial index, 3))
    (kk : ∀ rv gs1, G rv gs1 → WW E K (cells + rmc.cells) (slots + rmc.slots) Q (pc + 3) lv (rv.toList ++ st) (gs1 ++ gr)) : WW E K cells slots Q pc lv (As.reverse ++ .ref b :: st) gs := by
  obtain ⟨p, e, R, s, m, args, below, meth, c, A⟩ := K
  obtain ⟨⟨hx, hb, hml, hr, hown⟩, hts, hlk', hK, hA, hX, rfl⟩ := C
  intro H locs ls hP hD hS hl
  subst hng
  obtain ⟨hPc, hDc, hAc⟩ := gs_cut hP hD isC isR hper hC
  have hF : ∀ q, va_A gsc.flatten H.size q → A q := fun q h => by
    rcases h with ⟨k, e, h⟩ | h
    · exact hAc k (q, e) h
    · exact hA q (Nat.le_trans hS.1 h)
  have hXc : Xw E (va_A gsc.flatten H.size) s H := (hX.kept hS.2.1).narrow hF
  exact ww_back (va_runI (As := As) (rest := st) ⟨hx, hb, hml, hown, hts⟩ (ct H.size) (cwI As.length hts hG hw rfl rfl (hts _ hini) (hts _ hlk) (hts _ hin) hy.1 hy.2 hR) ⟨CtP.blind, fun U hU hW => ⟨rfl, by rw [hU], by rw [hU]; exact hPc, va_K.moved hW.alike hK, hDc, by rw [hU]; exact hXc.warm hW⟩⟩ rfl rfl (by rw [← hml]; exact hl.1) rfl (lv_room hst) hd hroom) hP hD hS hl isC isR hper hC hRr hF kk
theorem ww_callIA (C : Cx E K cc nL ret own Ts rm) (AO : AOK K) {y : MethodName} {ws ws' : List Cond} {rmc : Room} {As : List Value} {b : Nat} {gsc gr : List va_W} {bytes : ByteArray} {maxL index : Nat} (ct : CtN E y ws rmc (.ref b :: As) gsc G) (hG : GoodIn Ts ws) (hw : ws = Cond.code y bytes maxL none :: ws') (hlk : Cond.methodLink own index y ∈ Ts) (hin : Cond.instanceMethod y ∈ Ts) (hini : Cond.initialized y.cls ∈ Ts)
    (hy : y.name = "<init>" ∧ y.cls ≠ "java/lang/invoke/MethodHandle" ∧ y.cls ≠ "java/lang/invoke/VarHandle" ∧ (parseMethodDescriptor y.desc).map (fun d => d.parameters.length) = some As.length) (hR : rmc.frames + 1 ≤ rm.frames ∧ 8 + (maxL + 11) + rmc.locals ≤ rm.locals) (hroom : cells + rmc.cells ≤ rm.cells ∧ slots + rmc.slots ≤ rm.slots)
    (isC isR : List Nat) (ng : Nat) (hng : gs.length = ng) (hper : (isC ++ isR).Perm (List.range ng)) (hC : isC.filterMap (fun i => gs[i]?) = gsc) (hRr : isR.filterMap (fun i => gs[i]?) = gr) (hst : (st.map fun v => v.category).sum ≤ 8) (hd : decode cc pc = .ok (.invokespecial index, 3))
    (kk : ∀ rv gs1, G rv gs1 → WW E K (cells + rmc.cells) (slots + rmc.slots) Q (pc + 3) lv (rv.toList ++ st) (gs1 ++ gr)) : WW E K cells slots Q pc lv (As.reverse ++ .ref b :: st) gs := by
  obtain ⟨p, e, R, s, m, args, below, meth, c, A⟩ := K
  obtain ⟨⟨hx, hb, hml, hr, hown⟩, hts, hlk', hK, hA, hX, rfl⟩ := C
  intro H locs ls hP hD hS hl
  subst hng
  obtain ⟨hPc, hDc, hAc⟩ := gs_cut hP hD isC isR hper hC
  have hF : ∀ q, va_A gsc.flatten H.size q → A q := fun q h => by
    rcases h with ⟨k, e, h⟩ | h
    · exact hAc k (q, e) h
    · exact hA q (Nat.le_trans hS.1 h)
  have hXc : Xw E (va_A gsc.flatten H.size) s H := (hX.kept hS.2.1).narrow hF
  exact ww_back (va_runI (As := As) (rest := st) ⟨hx, hb, hml, hown, hts⟩ (ct H.size) (cwI As.length hts hG hw rfl rfl (hts _ hini) (hts _ hlk) (hts _ hin) hy.1 hy.2 hR) ⟨CtPN.blind, fun U hU hW => ⟨⟨rfl, by rw [hU], by rw [hU]; exact hPc, va_K.moved hW.alike hK, hDc, by rw [hU]; exact hXc.warm hW⟩, XA.warm hW AO⟩⟩ rfl rfl (by rw [← hml]; exact hl.1) rfl (lv_room hst) hd hroom) hP hD hS hl isC isR hper hC hRr hF kk
theorem ww_callIN (C : Cx E K cc nL ret own Ts rm) {y : MethodName} {ws ws' : List Cond} {rmc : Room} {As : List Value} {b : Nat} {gsc gr : List va_W} {bytes : ByteArray} {maxL index : Nat} {host : String} (ct : Ct E y ws rmc (.ref b :: As) gsc G) (hG : GoodIn Ts ws) (hw : ws = Cond.code y bytes maxL none :: ws') (hnw : Cond.methodLinkNest own index y host ∈ nwAll) (hin : Cond.instanceMethod y ∈ Ts) (hini : Cond.initialized y.cls ∈ Ts)
    (hy : y.name = "<init>" ∧ y.cls ≠ "java/lang/invoke/MethodHandle" ∧ y.cls ≠ "java/lang/invoke/VarHandle" ∧ (parseMethodDescriptor y.desc).map (fun d => d.parameters.length) = some As.length) (hR : rmc.frames + 1 ≤ rm.frames ∧ 8 + (maxL + 11) + rmc.locals ≤ rm.locals) (hroom : cells + rmc.cells ≤ rm.cells ∧ slots + rmc.slots ≤ rm.slots)
    (isC isR : List Nat) (ng : Nat) (hng : gs.length = ng) (hper : (isC ++ isR).Perm (List.range ng)) (hC : isC.filterMap (fun i => gs[i]?) = gsc) (hRr : isR.filterMap (fun i => gs[i]?) = gr) (hst : (st.map fun v => v.category).sum ≤ 8) (hd : decode cc pc = .ok (.invokespecial index, 3))
    (kk : ∀ rv gs1, G rv gs1 → WW E K (cells + rmc.cells) (slots + rmc.slots) Q (pc + 3) lv (rv.toList ++ st) (gs1 ++ gr)) : WW E K cells slots Q pc lv (As.reverse ++ .ref b :: st) gs := by
  obtain ⟨p, e, R, s, m, args, below, meth, c, A⟩ := K
  obtain ⟨⟨hx, hb, hml, hr, hown⟩, hts, hlk', hK, hA, hX, rfl⟩ := C
  intro H locs ls hP hD hS hl
  subst hng
  obtain ⟨hPc, hDc, hAc⟩ := gs_cut hP hD isC isR hper hC
  have hF : ∀ q, va_A gsc.flatten H.size q → A q := fun q h => by
    rcases h with ⟨k, e, h⟩ | h
    · exact hAc k (q, e) h
    · exact hA q (Nat.le_trans hS.1 h)
  have hXc : Xw E (va_A gsc.flatten H.size) s H := (hX.kept hS.2.1).narrow hF
  exact ww_back (va_runIN (As := As) (rest := st) ⟨hx, hb, hml, hown, hts⟩ (ct H.size) ⟨va_cnB As.length hts hG hw rfl rfl (hX.nw hnw) (hts _ hini) hy.2 hR, hy.1, hts _ hin⟩ ⟨CtP.blind, fun U hU hW => ⟨rfl, by rw [hU], by rw [hU]; exact hPc, va_K.moved hW.alike hK, hDc, by rw [hU]; exact hXc.warm hW⟩⟩ rfl rfl (by rw [← hml]; exact hl.1) rfl (lv_room hst) hd hroom) hP hD hS hl isC isR hper hC hRr hF kk
/-- a row of references, by its places alone -/
theorem ww_rowq {q n : Nat} {cA : ClassId} {f f' : Nat → Option Nat} {gs' : List va_W} (g : Nat) (hg : gs[g]? = some [(q, .inl (cA, n, .inr (.inr (.inr (.inr f)))))]) (hf : ∀ j, j < n → f j = f' j) (hgs : gs.set g [(q, .inl (cA, n, .inr (.inr (.inr (.inr f')))))] = gs') (kk : WW E K cells slots Q pc lv st gs') : WW E K cells slots Q pc lv st gs := by
  have e : (vp_cell cA (n, .inr (.inr (.inr (.inr f)))) : Cell) = vp_cell cA (n, .inr (.inr (.inr (.inr f')))) := by
    rw [vp_cell_q, vp_cell_q]
    unfold arrV
    congr 1
    apply Array.ext
    · simp
    · intro i h1 h2
      simp only [Array.size_ofFn] at h1
      simp only [Array.getElem_ofFn]
      rw [hf i h1]
  obtain ⟨p, e0, R, s, m, args, below, meth, c, A⟩ := K
  intro H locs ls hP hD hS hl
  obtain ⟨n1, h1, h2⟩ := gs_at gs g _ 0 _ hg rfl
  have h3 := h2 (q, .inl (cA, n, .inr (.inr (.inr (.inr f')))))
  rw [List.set_cons_zero, hgs] at h3
  refine kk H locs ls ?_ ?_ hS hl
  · rw [← h3]
    intro k x hk
    by_cases hkn : k = n1
    · subst hkn
      have hlt : k < gs.flatten.length := (List.getElem?_eq_some_iff.mp h1).1
      rw [List.getElem?_set_self hlt] at hk
      cases hk
      have hh := hP k _ h1
      show H[q]? = some (vp_cell _ _)
      rw [← e]
      exact hh
    · rw [List.getElem?_set_ne (Ne.symm hkn)] at hk
      exact hP k x hk
  · rw [← h3]
    exact hD.set h1
end
end WWn
