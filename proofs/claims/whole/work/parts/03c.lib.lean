section WWy
def n64 (r : UInt64) : Bool := decide (r &&& 0x7fffffffffffffff ≤ 0x7ff0000000000000)
def n32 (r : UInt32) : Bool := decide (r &&& 0x7fffffff ≤ 0x7f800000)
theorem n64_vf {r : UInt64} (h : n64 r = true) : vf_n64 r := by unfold vf_n64; exact of_decide_eq_true h
theorem n32_vf {r : UInt32} (h : n32 r = true) : vf_n32 r := by unfold vf_n32; exact of_decide_eq_true h
variable {E : Ex} {K : Kx} {cc : ByteArray} {nL : Nat} {ret : Option FieldType} {own : String} {Ts : List Cond} {rm : Room} {cells slots : Nat} {Q : State → Prop} {pc : Nat} {lv : List (Nat × Value)} {st : List Value} {gs : List va_W} {G : Option Value → List va_W → Prop}
theorem ww_i2d (C : Cx E K cc nL ret own Ts rm) {x : Int32} (hd : decode cc pc = .ok (.i2d, 1)) (kk : WW E K cells slots Q (pc + 1) lv (.double (FP.i2d x) :: st) gs) : WW E K cells slots Q pc lv (.int x :: st) gs := by
  obtain ⟨p, e, R, s, m, args, below, meth, c, A⟩ := K
  obtain ⟨⟨hx, hb, hml, hr, hown⟩, hts, hlk, hK, hA, hX, hR⟩ := C
  intro H locs ls hP hD hS hl
  exact lv_i2d hx hb hd (kk H locs ls hP hD hS hl)
theorem ww_i2f (C : Cx E K cc nL ret own Ts rm) {x : Int32} (hd : decode cc pc = .ok (.i2f, 1)) (kk : WW E K cells slots Q (pc + 1) lv (.float (FP.i2f x) :: st) gs) : WW E K cells slots Q pc lv (.int x :: st) gs := by
  obtain ⟨p, e, R, s, m, args, below, meth, c, A⟩ := K
  obtain ⟨⟨hx, hb, hml, hr, hown⟩, hts, hlk, hK, hA, hX, hR⟩ := C
  intro H locs ls hP hD hS hl
  exact lv_i2f hx hb hd (kk H locs ls hP hD hS hl)
theorem ww_ddiv (C : Cx E K cc nL ret own Ts rm) {x y : UInt64} (h : n64 (FP.ddiv x y) = true) (hd : decode cc pc = .ok (.ddiv, 1)) (kk : WW E K cells slots Q (pc + 1) lv (.double (FP.ddiv x y) :: st) gs) : WW E K cells slots Q pc lv (.double y :: .double x :: st) gs := by
  obtain ⟨p, e, R, s, m, args, below, meth, c, A⟩ := K
  obtain ⟨⟨hx, hb, hml, hr, hown⟩, hts, hlk, hK, hA, hX, hR⟩ := C
  intro H locs ls hP hD hS hl
  exact lv_ddiv hx hb hd (n64_vf h) (kk H locs ls hP hD hS hl)
theorem ww_fdiv (C : Cx E K cc nL ret own Ts rm) {x y : UInt32} (h : n32 (FP.fdiv x y) = true) (hd : decode cc pc = .ok (.fdiv, 1)) (kk : WW E K cells slots Q (pc + 1) lv (.float (FP.fdiv x y) :: st) gs) : WW E K cells slots Q pc lv (.float y :: .float x :: st) gs := by
  obtain ⟨p, e, R, s, m, args, below, meth, c, A⟩ := K
  obtain ⟨⟨hx, hb, hml, hr, hown⟩, hts, hlk, hK, hA, hX, hR⟩ := C
  intro H locs ls hP hD hS hl
  exact lv_fdiv hx hb hd (n32_vf h) (kk H locs ls hP hD hS hl)
theorem ww_f2d (C : Cx E K cc nL ret own Ts rm) {x : UInt32} (h : n64 (FP.f2d x) = true) (hd : decode cc pc = .ok (.f2d, 1)) (kk : WW E K cells slots Q (pc + 1) lv (.double (FP.f2d x) :: st) gs) : WW E K cells slots Q pc lv (.float x :: st) gs := by
  obtain ⟨p, e, R, s, m, args, below, meth, c, A⟩ := K
  obtain ⟨⟨hx, hb, hml, hr, hown⟩, hts, hlk, hK, hA, hX, hR⟩ := C
  intro H locs ls hP hD hS hl
  exact lv_f2d hx hb hd (n64_vf h) (kk H locs ls hP hD hS hl)
theorem ww_dcmp (C : Cx E K cc nL ret own Ts rm) {x y : UInt64} {op : CmpOp} (hd : decode cc pc = .ok (.dcmp op, 1)) (kk : WW E K cells slots Q (pc + 1) lv (.int (Op.cmpValue (FP.dcmp x y) op) :: st) gs) : WW E K cells slots Q pc lv (.double y :: .double x :: st) gs := by
  obtain ⟨p, e, R, s, m, args, below, meth, c, A⟩ := K
  obtain ⟨⟨hx, hb, hml, hr, hown⟩, hts, hlk, hK, hA, hX, hR⟩ := C
  intro H locs ls hP hD hS hl
  exact lv_dcmp hx hb hd (kk H locs ls hP hD hS hl)
theorem ww_dret (C : Cx E K cc nL (some .double) own Ts rm) {v : UInt64} (hG : G (some (.double v)) gs) (hd : decode cc pc = .ok (.dreturn, 1)) : WW E K cells slots (QQ E K G cells slots) pc lv [.double v] gs := by
  obtain ⟨p, e, R, s, m, args, below, meth, c, A⟩ := K
  obtain ⟨⟨hx, hb, hml, hr, hown⟩, hts, hlk', hK, hA, hX, hR⟩ := C
  intro H locs ls hP hD hS hl
  rw [QQ_eq]
  exact W.dret (Qc := fun _ => CtR E A G) hx hb hr (fun t ht hW => ⟨⟨_, gs, rfl, hG, by rw [ht]; exact hP, hD⟩, hS.F ht⟩) hS.2.2 hd hlk'
theorem ww_fret (C : Cx E K cc nL (some .float) own Ts rm) {v : UInt32} (hG : G (some (.float v)) gs) (hd : decode cc pc = .ok (.freturn, 1)) : WW E K cells slots (QQ E K G cells slots) pc lv [.float v] gs := by
  obtain ⟨p, e, R, s, m, args, below, meth, c, A⟩ := K
  obtain ⟨⟨hx, hb, hml, hr, hown⟩, hts, hlk', hK, hA, hX, hR⟩ := C
  intro H locs ls hP hD hS hl
  rw [QQ_eq]
  exact W.fret (Qc := fun _ => CtR E A G) hx hb hr (fun t ht hW => ⟨⟨_, gs, rfl, hG, by rw [ht]; exact hP, hD⟩, hS.F ht⟩) hS.2.2 hd hlk'
theorem ww_lret (C : Cx E K cc nL (some .long) own Ts rm) {v : Int64} (hG : G (some (.long v)) gs) (hd : decode cc pc = .ok (.lreturn, 1)) : WW E K cells slots (QQ E K G cells slots) pc lv [.long v] gs := by
  obtain ⟨p, e, R, s, m, args, below, meth, c, A⟩ := K
  obtain ⟨⟨hx, hb, hml, hr, hown⟩, hts, hlk', hK, hA, hX, hR⟩ := C
  intro H locs ls hP hD hS hl
  rw [QQ_eq]
  exact W.lret (Qc := fun _ => CtR E A G) hx hb hr (fun t ht hW => ⟨⟨_, gs, rfl, hG, by rw [ht]; exact hP, hD⟩, hS.F ht⟩) hS.2.2 hd hlk'
theorem ww_last (C : Cx E K cc nL ret own Ts rm) {a n : Nat} {f : Nat → Int64} {w : va_W} {i : Int32} {x : Int64} {gs' : List va_W} (g k : Nat) (hg : gs[g]? = some w) (hq : w[k]? = some (a, .inl (eJ E, n, .inr (.inl f)))) (hi : vp_in i n) {w' : va_W} (hw' : w.set k (a, .inl (eJ E, n, .inr (.inl (vp_updL f i.toNatClampNeg x)))) = w') (hgs : gs.set g w' = gs') (hd : decode cc pc = .ok (.lastore, 1))
    (kk : WW E K cells slots Q (pc + 1) lv st gs') : WW E K cells slots Q pc lv (.long x :: .int i :: .ref a :: st) gs := by
  obtain ⟨p, e, R, s, m, args, below, meth, c, A⟩ := K
  obtain ⟨⟨hx, hb, hml, hr, hown⟩, hts, hlk', hK, hA, hX, hR⟩ := C
  intro H locs ls hP hD hS hl
  obtain ⟨n, h1, h2⟩ := gs_at gs g w k _ hg hq
  subst hw'
  subst hgs
  exact va_last hx hb hK hP hD hS n 1 h1 rfl hi hd (fun H1 locs1 hP1 hD1 hS1 => kk H1 locs1 ls (by rw [← h2]; exact hP1) (by rw [← h2]; exact hD1) hS1 hl)
theorem ww_aldS (C : Cx E K cc nL ret own Ts rm) {a n b : Nat} {f : Nat → Option Nat} {w : va_W} {i : Int32} (g k : Nat) (hg : gs[g]? = some w) (hq : w[k]? = some (a, .inl (eS E, n, .inr (.inr (.inr (.inr f)))))) (hi : vp_in i n) (hf : f i.toNatClampNeg = some b) (hd : decode cc pc = .ok (.aaload, 1))
    (kk : WW E K cells slots Q (pc + 1) lv (.ref b :: st) gs) : WW E K cells slots Q pc lv (.int i :: .ref a :: st) gs := by
  obtain ⟨p, e, R, s, m, args, below, meth, c, A⟩ := K
  obtain ⟨⟨hx, hb, hml, hr, hown⟩, hts, hlk', hK, hA, hX, hR⟩ := C
  intro H locs ls hP hD hS hl
  obtain ⟨n, h1, -⟩ := gs_at gs g w k _ hg hq
  have kk' := kk H locs ls hP hD hS hl
  exact va_aldq hx hb hK hP n 3 h1 rfl hi hd (by rw [hf]; exact kk')
theorem ww_alenS (C : Cx E K cc nL ret own Ts rm) {a : Nat} {x : vp_A} {w : va_W} {v : Int32} (g k : Nat) (hg : gs[g]? = some w) (hq : w[k]? = some (a, .inl (eS E, x))) (hv : Int32.ofNat x.1 = v) (hd : decode cc pc = .ok (.arraylength, 1))
    (kk : WW E K cells slots Q (pc + 1) lv (.int v :: st) gs) : WW E K cells slots Q pc lv (.ref a :: st) gs := by
  obtain ⟨p, e, R, s, m, args, below, meth, c, A⟩ := K
  obtain ⟨⟨hx, hb, hml, hr, hown⟩, hts, hlk', hK, hA, hX, hR⟩ := C
  intro H locs ls hP hD hS hl
  obtain ⟨n, h1, -⟩ := gs_at gs g w k _ hg hq
  exact va_alen hx hb hK hP n 3 h1 (ty := .object "java/lang/String") rfl hv hd (kk H locs ls hP hD hS hl)
/-- the row of the names: its strings are the constants from 32 on -/
def nmF (E : Ex) : Nat → Option Nat := fun i => some (eK E (32 + i))
def wNm (E : Ex) (q : Nat) : va_W := [(q, .inl (eS E, 11, .inr (.inr (.inr (.inr (nmF E))))))]
theorem q_Nm {E : Ex} {q : Nat} : (wNm E q)[0]? = some (q, .inl (eS E, 11, .inr (.inr (.inr (.inr (nmF E)))))) := rfl
theorem ww_ldcSw (C : Cx E K cc nL ret own Ts rm) (i : Nat) {index : Nat} {tx : String} (hq : stTab[i]? = some (own, index, tx)) (hd : decode cc pc = .ok (.ldc_w index, 3)) (kk : WW E K cells slots Q (pc + 3) lv (.ref (eK E i) :: st) gs) : WW E K cells slots Q pc lv st gs := by
  obtain ⟨p, e, R, s, m, args, below, meth, c, A⟩ := K
  obtain ⟨⟨hx, hb, hml, hr, hown⟩, hts, hlk', hK, hA, hX, hR⟩ := C
  intro H locs ls hP hD hS hl T hT X
  obtain ⟨t, a1, b1⟩ := kk H locs ls hP hD hS hl T hT X
  have hZ := (hX.2.1 i _ hq).1
  exact ⟨t, X.ldcStringW hx hown (text := tx) (a := eK E i) hZ.1 hZ.2 (g := F0 m pc ls st) rfl (by rw [hb]; exact hd) t a1, b1⟩
def lmin (x y : Int64) : Int64 := if y < x then y else x
theorem ww_lmin (C : Cx E K cc nL ret own Ts rm) {index : Nat} {x y : Int64} (hl1 : Cond.methodLink own index Lib.MathLoose.min_long.x ∈ Ts) (hl2 : Cond.static Lib.MathLoose.min_long.x ∈ Ts) (hl3 : Cond.initialized "java/lang/Math" ∈ Ts) (hl4 : Cond.code Lib.MathLoose.min_long.x Lib.MathLoose.min_long.code 4 (some .long) ∈ Ts) (hr1 : 1 ≤ rm.frames) (hr2 : (st.map fun v => v.category).sum + 15 ≤ rm.locals) (hr3 : cells ≤ rm.cells) (hr4 : slots ≤ rm.slots) (hd : decode cc pc = .ok (.invokestatic index, 3))
    (kk : WW E K cells slots Q (pc + 3) lv (.long (lmin x y) :: st) gs) : WW E K cells slots Q pc lv (.long y :: .long x :: st) gs := by
  obtain ⟨p, e, R, s, m, args, below, meth, c, A⟩ := K
  obtain ⟨⟨hx, hb, hml, hr, hown⟩, hts, hlk', hK, hA, hX, rfl⟩ := C
  intro H locs ls hP hD hS hl
  exact va_mmin_long hx hb hl.1.symm hown (hts _ hl1) (hts _ hl2) (hts _ hl3) (hts _ hl4) hr1 hr2 hr3 hr4 hd (kk H locs ls hP hD hS hl)
end WWy
