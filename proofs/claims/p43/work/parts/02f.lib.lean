section WWf
variable {E : Ex} {K : Kx} {cc : ByteArray} {nL : Nat} {ret : Option FieldType} {own : String} {Ts : List Cond} {rm : Room} {cells slots : Nat} {Q : State → Prop} {pc : Nat} {lv : List (Nat × Value)} {st : List Value} {gs : List va_W}
def imax (x y : Int32) : Int32 := if x < y then y else x
def imin (x y : Int32) : Int32 := if y < x then y else x
theorem ww_max (C : Cx E K cc nL ret own Ts rm) {index : Nat} {x y : Int32} (hl1 : Cond.methodLink own index Lib.Math.max.name ∈ Ts) (hl2 : Cond.static Lib.Math.max.name ∈ Ts) (hl3 : Cond.initialized "java/lang/Math" ∈ Ts) (hl4 : Cond.code Lib.Math.max.name Lib.Math.max.code 2 (some .int) ∈ Ts) (hr1 : 1 ≤ rm.frames) (hr2 : (st.map fun v => v.category).sum + 13 ≤ rm.locals) (hr3 : cells ≤ rm.cells) (hr4 : slots ≤ rm.slots) (hd : decode cc pc = .ok (.invokestatic index, 3))
    (kk : WW E K cells slots Q (pc + 3) lv (.int (imax x y) :: st) gs) : WW E K cells slots Q pc lv (.int y :: .int x :: st) gs := by
  obtain ⟨p, e, R, s, m, args, below, meth, c, A⟩ := K
  obtain ⟨⟨hx, hb, hml, hr, hown⟩, hts, hlk', hK, hA, hX, rfl⟩ := C
  intro H locs ls hP hD hS hl
  exact va_mmax hx hb hl.1.symm hown (hts _ hl1) (hts _ hl2) (hts _ hl3) (hts _ hl4) hr1 hr2 hr3 hr4 hd (kk H locs ls hP hD hS hl)
theorem ww_min (C : Cx E K cc nL ret own Ts rm) {index : Nat} {x y : Int32} (hl1 : Cond.methodLink own index Lib.Math.min.name ∈ Ts) (hl2 : Cond.static Lib.Math.min.name ∈ Ts) (hl3 : Cond.initialized "java/lang/Math" ∈ Ts) (hl4 : Cond.code Lib.Math.min.name Lib.Math.min.code 2 (some .int) ∈ Ts) (hr1 : 1 ≤ rm.frames) (hr2 : (st.map fun v => v.category).sum + 13 ≤ rm.locals) (hr3 : cells ≤ rm.cells) (hr4 : slots ≤ rm.slots) (hd : decode cc pc = .ok (.invokestatic index, 3))
    (kk : WW E K cells slots Q (pc + 3) lv (.int (imin x y) :: st) gs) : WW E K cells slots Q pc lv (.int y :: .int x :: st) gs := by
  obtain ⟨p, e, R, s, m, args, below, meth, c, A⟩ := K
  obtain ⟨⟨hx, hb, hml, hr, hown⟩, hts, hlk', hK, hA, hX, rfl⟩ := C
  intro H locs ls hP hD hS hl
  exact va_mmin hx hb hl.1.symm hown (hts _ hl1) (hts _ hl2) (hts _ hl3) (hts _ hl4) hr1 hr2 hr3 hr4 hd (kk H locs ls hP hD hS hl)
/-- System.arraycopy(src, 0, dst, 0, n) of int arrays -/
theorem ww_copy (C : Cx E K cc nL ret own Ts rm) {index a0 a n0 n1 N : Nat} {f g : Nat → Int32} {w0 w1 : va_W} {n : Int32} {gs' : List va_W} (hl1 : Cond.methodLink own index arraycopyName ∈ Ts) (hl2 : Cond.native arraycopyName ∈ Ts) (hl3 : Cond.static arraycopyName ∈ Ts) (hl4 : Cond.initialized "java/lang/System" ∈ Ts)
    (g0 k0 g1 k1 : Nat) (hg0 : gs[g0]? = some w0) (hq0 : w0[k0]? = some (a0, .inl (eI E, n0, .inl f))) (hg1 : gs[g1]? = some w1) (hq1 : w1[k1]? = some (a, .inl (eI E, n1, .inl g))) (hn0 : ¬ n < 0) (hN : n.toNatClampNeg = N) (h4 : N ≤ n0) (h5 : N ≤ n1) {w' : va_W} (hw' : w1.set k1 (a, .inl (eI E, n1, .inl (va_cpy f g 0 0 N))) = w') (hgs : gs.set g1 w' = gs')
    (hr1 : 1 ≤ rm.frames) (hr2 : (st.map fun v => v.category).sum + (nativeFrameWords "java/lang/System" "arraycopy" 5 + 11) ≤ rm.locals) (hd : decode cc pc = .ok (.invokestatic index, 3))
    (kk : WW E K cells slots Q (pc + 3) lv st gs') : WW E K cells slots Q pc lv (.int n :: .int 0 :: .ref a :: .int 0 :: .ref a0 :: st) gs := by
  obtain ⟨p, e, R, s, m, args, below, meth, c, A⟩ := K
  obtain ⟨⟨hx, hb, hml, hr, hown⟩, hts, hlk', hK, hA, hX, rfl⟩ := C
  intro H locs ls hP hD hS hl
  obtain ⟨i0, h0, -⟩ := gs_at gs g0 w0 k0 _ hg0 hq0
  obtain ⟨i1, h1, h2⟩ := gs_at gs g1 w1 k1 _ hg1 hq1
  subst hw'
  subst hgs
  subst hN
  have z0 : (0 : Int32).toNatClampNeg = 0 := by decide
  refine va_copyi hx hb hl.1.symm hown (hts _ hl1) (hts _ hl2) (hts _ hl3) (hts _ hl4) hK hP hD hS i0 i1 0 0 h0 h1 (ty := .int) rfl rfl rfl (by decide) (by decide) hn0 (by rw [z0]; omega) (by rw [z0]; omega) (fun i _ => rfl) hr1 hr2 hd (fun H1 locs1 hP1 hD1 hS1 => ?_)
  rw [z0] at hP1 hD1
  exact kk H1 locs1 ls (by rw [← h2]; exact hP1) (by rw [← h2]; exact hD1) hS1 hl
end WWf
