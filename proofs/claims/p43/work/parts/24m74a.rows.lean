section WWr
variable {E : Ex} {K : Kx} {cc : ByteArray} {nL : Nat} {ret : Option FieldType} {own : String} {Ts : List Cond} {rm : Room} {cells slots : Nat} {Q : State → Prop} {pc : Nat} {lv : List (Nat × Value)} {st : List Value} {gs : List va_W} {G : Option Value → List va_W → Prop}
/-- the addresses of rows: those below n -/
def roF (ar : Nat → Nat) (n : Nat) : Nat → Option Nat := fun k => if k < n then some (ar k) else none
def upA (ar : Nat → Nat) (k q : Nat) : Nat → Nat := fun j => if j = k then q else ar j
def wRO (E : Ex) (q N : Nat) (ar : Nat → Nat) (n : Nat) : va_W := [(q, .inl (eS E, N, .inr (.inr (.inr (.inr (roF ar n))))))]
def wRow (E : Ex) (ar : Nat → Nat) (v : RowsT) (k : Nat) : Nat × va_E := (ar k, .inl (eI E, v.2.1 k, .inl (v.2.2 k)))
def wRR (E : Ex) (ar : Nat → Nat) (v : RowsT) : va_W := (List.range v.1).map (wRow E ar v)
def wRRa (E : Ex) (ar : Nat → Nat) (v : RowsT) (k : Nat) : va_W := (List.range k).map (wRow E ar v)
def wRRb (E : Ex) (ar : Nat → Nat) (v : RowsT) (k : Nat) : va_W := (List.range' (k + 1) (v.1 - (k + 1))).map (wRow E ar v)
def wLng (E : Ex) (q n : Nat) (f : Nat → Int64) : va_W := [(q, .inl (eJ E, n, .inr (.inl f)))]
theorem q_Lng {E : Ex} {q n : Nat} {f : Nat → Int64} : (wLng E q n f)[0]? = some (q, .inl (eJ E, n, .inr (.inl f))) := rfl
theorem s_Lng {E : Ex} {q n : Nat} {f x : Nat → Int64} : (wLng E q n f).set 0 (q, .inl (eJ E, n, .inr (.inl x))) = wLng E q n x := rfl
theorem q_RO {E : Ex} {q N : Nat} {ar : Nat → Nat} {n : Nat} : (wRO E q N ar n)[0]? = some (q, .inl (eS E, N, .inr (.inr (.inr (.inr (roF ar n)))))) := rfl
theorem roF_at {ar : Nat → Nat} {n k : Nat} (h : k < n) : roF ar n k = some (ar k) := if_pos h
theorem q_RR {E : Ex} {ar : Nat → Nat} {v : RowsT} {k : Nat} (h : k < v.1) : (wRR E ar v)[k]? = some (ar k, .inl (eI E, v.2.1 k, .inl (v.2.2 k))) := by
  unfold wRR
  rw [List.getElem?_map, List.getElem?_range h]
  rfl
theorem s_RR {E : Ex} {ar : Nat → Nat} {v : RowsT} {k : Nat} {x : Nat → Int32} (h : k < v.1) : (wRR E ar v).set k (ar k, .inl (eI E, v.2.1 k, .inl x)) = wRR E ar (rrSet v k x) := by
  apply List.ext_getElem?
  intro j
  by_cases hj : j < v.1
  · rw [q_RR (v := rrSet v k x) (by exact hj)]
    by_cases e : j = k
    · subst e
      rw [List.getElem?_set_self (by unfold wRR; rw [List.length_map, List.length_range]; exact h)]
      show _ = some (ar j, Sum.inl (eI E, v.2.1 j, Sum.inl (if j = j then x else v.2.2 j)))
      rw [if_pos rfl]
    · rw [List.getElem?_set_ne (fun h' => e h'.symm), q_RR hj]
      show _ = some (ar j, Sum.inl (eI E, v.2.1 j, Sum.inl (if j = k then x else v.2.2 j)))
      rw [if_neg e]
  · rw [List.getElem?_eq_none (by rw [List.length_set]; unfold wRR; rw [List.length_map, List.length_range]; omega), List.getElem?_eq_none (by unfold wRR; rw [List.length_map, List.length_range]; show v.1 ≤ j; omega)]
theorem rr_cut {E : Ex} {ar : Nat → Nat} {v : RowsT} {k : Nat} (h : k < v.1) : wRR E ar v = wRRa E ar v k ++ (wArr E (ar k) (v.2.1 k) (v.2.2 k) ++ wRRb E ar v k) := by
  unfold wRR wRRa wRRb wArr
  rw [List.range_eq_range', List.range_eq_range', show v.1 = k + (1 + (v.1 - (k + 1))) by omega, ← List.range'_append_1, ← List.range'_append_1, List.map_append, List.map_append, show k + (1 + (v.1 - (k + 1))) - (k + 1) = v.1 - (k + 1) by omega]
  simp [wRow]
theorem map_row_congr {E : Ex} {ar br : Nat → Nat} {v u : RowsT} : ∀ (l : List Nat), (∀ j ∈ l, ar j = br j ∧ v.2.1 j = u.2.1 j ∧ v.2.2 j = u.2.2 j) → l.map (wRow E ar v) = l.map (wRow E br u) := by
  intro l h
  apply List.map_congr_left
  intro j hj
  obtain ⟨h1, h2, h3⟩ := h j hj
  unfold wRow
  rw [h1, h2, h3]
theorem rr_put {E : Ex} {ar : Nat → Nat} {v : RowsT} {k q n : Nat} {x : Nat → Int32} (h : k < v.1) : wRR E (upA ar k q) (rrPut v k n x) = wRRa E ar v k ++ (wArr E q n x ++ wRRb E ar v k) := by
  rw [rr_cut (v := rrPut v k n x) (k := k) (by exact h)]
  have e1 : wRRa E (upA ar k q) (rrPut v k n x) k = wRRa E ar v k := map_row_congr _ (fun j hj => by
    have hj := List.mem_range.mp hj
    refine ⟨if_neg (by omega), if_neg (by omega), if_neg (by omega)⟩)
  have e2 : wRRb E (upA ar k q) (rrPut v k n x) k = wRRb E ar v k := map_row_congr _ (fun j hj => by
    obtain ⟨i, hi, rfl⟩ := List.mem_range'.mp hj
    refine ⟨if_neg (by omega), if_neg (by omega), if_neg (by omega)⟩)
  have e3 : wArr E (upA ar k q k) ((rrPut v k n x).2.1 k) ((rrPut v k n x).2.2 k) = wArr E q n x := by
    have a1 : upA ar k q k = q := if_pos rfl
    have a2 : (rrPut v k n x).2.1 k = n := if_pos rfl
    have a3 : (rrPut v k n x).2.2 k = x := if_pos rfl
    rw [a1, a2, a3]
  rw [e1, e2, e3]
theorem rr_app {E : Ex} {ar : Nat → Nat} {v : RowsT} {m q n : Nat} {x : Nat → Int32} (h : m = v.1) : wRR E (upA ar m q) (rrApp v n x) = wRR E ar v ++ wArr E q n x := by
  subst h
  have e1 : (List.range v.1).map (wRow E (upA ar v.1 q) (rrApp v n x)) = wRR E ar v := map_row_congr _ (fun j hj => by
    have hj := List.mem_range.mp hj
    refine ⟨if_neg (by omega), if_neg (by omega), if_neg (by omega)⟩)
  have e2 : wRow E (upA ar v.1 q) (rrApp v n x) v.1 = (q, .inl (eI E, n, .inl x)) := by
    have a1 : upA ar v.1 q v.1 = q := if_pos rfl
    have a2 : (rrApp v n x).2.1 v.1 = n := if_pos rfl
    have a3 : (rrApp v n x).2.2 v.1 = x := if_pos rfl
    unfold wRow
    rw [a1, a2, a3]
  show (List.range (v.1 + 1)).map _ = _
  rw [List.range_succ, List.map_append, e1, List.map_cons, List.map_nil, e2]
  rfl
/-- what the store of a row into a row of rows leaves -/
theorem ro_eq {E : Ex} {q N : Nat} {f : Nat → Option Nat} {ar : Nat → Nat} {n k b : Nat} {g : Nat → Option Nat} (h : va_up g k (some b) = roF ar n) : ([(q, .inl (eS E, N, .inr (.inr (.inr (.inr f)))))] : va_W).set 0 (q, .inl (eS E, N, .inr (.inr (.inr (.inr (va_up g k (some b))))))) = wRO E q N ar n := by
  rw [h]
  rfl
theorem up_app {ar : Nat → Nat} {n b : Nat} : va_up (roF ar n) n (some b) = roF (upA ar n b) (n + 1) := by
  funext j
  unfold va_up roF upA
  by_cases e : j = n
  · subst e
    rw [if_pos rfl, if_pos (by omega), if_pos rfl]
  · rw [if_neg e]
    by_cases h : j < n
    · rw [if_pos h, if_pos (by omega), if_neg e]
    · rw [if_neg h, if_neg (by omega)]
theorem up_swap {ar : Nat → Nat} {n k b : Nat} (h : k < n) : va_up (roF ar n) k (some b) = roF (upA ar k b) n := by
  funext j
  unfold va_up roF upA
  by_cases e : j = k
  · subst e
    rw [if_pos rfl, if_pos h, if_pos rfl]
  · rw [if_neg e]
    by_cases h2 : j < n
    · rw [if_pos h2, if_pos h2, if_neg e]
    · rw [if_neg h2, if_neg h2]
theorem up_share {ar : Nat → Nat} {n : Nat} : va_up (roF ar n) n (some (ar n)) = roF ar (n + 1) := by
  rw [up_app]
  funext j
  unfold roF upA
  by_cases e : j = n
  · rw [if_pos e, e]
  · rw [if_neg e]
theorem ro_app {E : Ex} {q N : Nat} {ar : Nat → Nat} {n k b : Nat} (h : k = n) : (wRO E q N ar n).set 0 (q, .inl (eS E, N, .inr (.inr (.inr (.inr (va_up (roF ar n) k (some b))))))) = wRO E q N (upA ar n b) (n + 1) := by
  subst h
  exact ro_eq up_app
theorem ro_swap {E : Ex} {q N : Nat} {ar : Nat → Nat} {n k b : Nat} (h : k < n) : (wRO E q N ar n).set 0 (q, .inl (eS E, N, .inr (.inr (.inr (.inr (va_up (roF ar n) k (some b))))))) = wRO E q N (upA ar k b) n := ro_eq (up_swap h)
theorem ro_share {E : Ex} {q N : Nat} {ar : Nat → Nat} {n k : Nat} (h : k = n) : (wRO E q N ar n).set 0 (q, .inl (eS E, N, .inr (.inr (.inr (.inr (va_up (roF ar n) k (some (ar k)))))))) = wRO E q N ar (n + 1) := by
  subst h
  exact ro_eq up_share
theorem ro_zero {E : Ex} {q N : Nat} {ar br : Nat → Nat} : wRO E q N ar 0 = wRO E q N br 0 := by
  unfold wRO roF
  simp
theorem rr_zero {E : Ex} {ar : Nat → Nat} : wRR E ar rr0 = [] := rfl
/-- groups that nothing needs any more are let go -/
theorem ww_drop {gs' : List va_W} (is dr : List Nat) (ng : Nat) (hng : gs.length = ng) (hper : (is ++ dr).Perm (List.range ng)) (h : is.filterMap (fun i => gs[i]?) = gs') (kk : WW E K cells slots Q pc lv st gs') : WW E K cells slots Q pc lv st gs := by
  obtain ⟨p, e, R, s, m, args, below, meth, c, A⟩ := K
  intro H locs ls hP hD hS hl
  subst hng
  obtain ⟨hPc, hDc, hAc⟩ := gs_cut hP hD is dr hper h
  exact kk H locs ls hPc ⟨hDc.1, hAc⟩ hS hl
theorem aok (C : Cx E K cc nL ret own Ts rm) : AOK K := by
  obtain ⟨p, e, R, s, m, args, below, meth, c, A⟩ := K
  obtain ⟨⟨hx, hb, hml, hr, hown⟩, hts, hlk', hK, hA, hX, hR⟩ := C
  exact hX.2.2.2.2.2.2.1
def SXE (E : Ex) (L : Nat) (xs : Nat → Int32) : Prop := eN E = L ∧ eX E = xs
theorem ww_sldX (C : Cx E K cc nL ret own Ts rm) {L : Nat} {xs : Nat → Int32} (S0 : SXE E L xs) {i : Int32} (hi : vp_in i L) (hd : decode cc pc = .ok (.iaload, 1)) (kk : WW E K cells slots Q (pc + 1) lv (.int (xs i.toNatClampNeg) :: st) gs) : WW E K cells slots Q pc lv (.int i :: .ref (eB E) :: st) gs := by
  obtain ⟨p, e, R, s, m, args, below, meth, c, A⟩ := K
  obtain ⟨⟨hx, hb, hml, hr, hown⟩, hts, hlk', hK, hA, hX, rfl⟩ := C
  obtain ⟨rfl, rfl⟩ := S0
  intro H locs ls hP hD hS hl
  have hs := hX.2.2.2.2.2.2.2
  exact va_sld hx hb hs.1 (va_X_lt hs.1) hs.2 hS hi hd (kk H locs ls hP hD hS hl)
theorem ww_slenX (C : Cx E K cc nL ret own Ts rm) {L : Nat} {xs : Nat → Int32} (S0 : SXE E L xs) (hd : decode cc pc = .ok (.arraylength, 1)) (kk : WW E K cells slots Q (pc + 1) lv (.int (nI L) :: st) gs) : WW E K cells slots Q pc lv (.ref (eB E) :: st) gs := by
  obtain ⟨p, e, R, s, m, args, below, meth, c, A⟩ := K
  obtain ⟨⟨hx, hb, hml, hr, hown⟩, hts, hlk', hK, hA, hX, rfl⟩ := C
  obtain ⟨rfl, rfl⟩ := S0
  intro H locs ls hP hD hS hl
  have hs := hX.2.2.2.2.2.2.2
  exact va_slen hx hb hs.1 (va_X_lt hs.1) hs.2 hS hd (kk H locs ls hP hD hS hl)
theorem ww_anull (C : Cx E K cc nL ret own Ts rm) (hd : decode cc pc = .ok (.aconst_null, 1)) (kk : WW E K cells slots Q (pc + 1) lv (.null :: st) gs) : WW E K cells slots Q pc lv st gs := by
  obtain ⟨p, e, R, s, m, args, below, meth, c, A⟩ := K
  obtain ⟨⟨hx, hb, hml, hr, hown⟩, hts, hlk, hK, hA, hX, hR⟩ := C
  intro H locs ls hP hD hS hl
  exact lv_null hx hb hd (kk H locs ls hP hD hS hl)
theorem ww_nstore_n (C : Cx E K cc nL ret own Ts rm) {j : Fin 4} {i : Nat} {lv' : List (Nat × Value)} (hd : decode cc pc = .ok (.astore_n j, 1)) (hi : (j : Nat) = i) (hn : i < nL) (hl' : (i, Value.null) :: lv.filter (fun q => !(q.1 == i) && !(q.1 + 1 == i && q.2.category == 2)) = lv') (kk : WW E K cells slots Q (pc + 1) lv' st gs) : WW E K cells slots Q pc lv (.null :: st) gs := by
  obtain ⟨p, e, R, s, m, args, below, meth, c, A⟩ := K
  obtain ⟨⟨hx, hb, hml, hr, hown⟩, hts, hlk, hK, hA, hX, hR⟩ := C
  intro H locs ls hP hD hS hl
  exact lv_astore_nN hx hb hd hi hl (by rw [hml]; exact hn) hl' (fun ls' hl' => kk H locs ls' hP hD hS hl')
theorem ww_nload_n (C : Cx E K cc nL ret own Ts rm) {j : Fin 4} {i : Nat} (hd : decode cc pc = .ok (.aload_n j, 1)) (hi : (j : Nat) = i) (k : Nat) (hk : lv[k]? = some (i, .null)) (kk : WW E K cells slots Q (pc + 1) lv (.null :: st) gs) : WW E K cells slots Q pc lv st gs := by
  obtain ⟨p, e, R, s, m, args, below, meth, c, A⟩ := K
  obtain ⟨⟨hx, hb, hml, hr, hown⟩, hts, hlk, hK, hA, hX, hR⟩ := C
  intro H locs ls hP hD hS hl
  exact lv_aload_nN hx hb hd hi (lv_at hl k hk) (kk H locs ls hP hD hS hl)
theorem ww_isnull (C : Cx E K cc nL ret own Ts rm) {off : Int} {tgt : Nat} (hd : decode cc pc = .ok (.ifnull off, 3)) (ht : (pc : Int) + off = (tgt : Int)) (kk : WW E K cells slots Q tgt lv st gs) : WW E K cells slots Q pc lv (.null :: st) gs := by
  obtain ⟨p, e, R, s, m, args, below, meth, c, A⟩ := K
  obtain ⟨⟨hx, hb, hml, hr, hown⟩, hts, hlk, hK, hA, hX, hR⟩ := C
  intro H locs ls hP hD hS hl
  exact lv_ifnullN hx hb hd ht (kk H locs ls hP hD hS hl)
theorem ww_lrem (C : Cx E K cc nL ret own Ts rm) {x y : Int64} (hd : decode cc pc = .ok (.lrem, 1)) (hne : ¬ y = 0) (kk : WW E K cells slots Q (pc + 1) lv (.long (x - x / y * y) :: st) gs) : WW E K cells slots Q pc lv (.long y :: .long x :: st) gs := by
  obtain ⟨p, e, R, s, m, args, below, meth, c, A⟩ := K
  obtain ⟨⟨hx, hb, hml, hr, hown⟩, hts, hlk, hK, hA, hX, hR⟩ := C
  intro H locs ls hP hD hS hl
  exact lv_lrem hx hb hd hne (kk H locs ls hP hD hS hl)
theorem inB_pos {i : Int32} {n : Nat} (h : inB i n = true) : ¬ i < 0 := fun q => inB_vp h (Or.inl q)
theorem inB_by {i : Int32} (h : inB i 1001 = true) : i.toNatClampNeg * 4 ≤ 536870912 := by
  have := inB_lt h
  omega
/-- a field of a nest mate -/
theorem ww_getN (C : Cx E K cc nL ret own Ts rm) {Cn host : String} {T : u_T} {N ci a index : Nat} {ty0 : Nat → FieldType} {w : va_W} {fs : List Value} {v : Value} (hc : ClOK ci Cn T N ty0) (hin : ∀ w ∈ u_ws Cn T N, w ∈ Ts) (g k f : Nat) (hg : gs[g]? = some w) (hq : w[k]? = some (a, .inr (ci, fs))) (hf : f < N) (hlk : Cond.fieldLinkNest own index (T f).1 (T f).2.1 (T f).2.2.1 host ∈ nwAll) (hv : fs[f]? = some v) (hd : decode cc pc = .ok (.getfield index, 3))
    (kk : WW E K cells slots Q (pc + 3) lv (v :: st) gs) : WW E K cells slots Q pc lv (.ref a :: st) gs := by
  obtain ⟨p, e, R, s, m, args, below, meth, c, A⟩ := K
  obtain ⟨⟨hx, hb, hml, hr, hown⟩, hts, hlk', hK, hA, hX, hR⟩ := C
  intro H locs ls hP hD hS hl
  obtain ⟨n, h1, -⟩ := gs_at gs g w k _ hg hq
  exact va_getN hx hb hts hin hown hK hP n h1 hc.1 f hf (va_Nw.use rfl (hX.nw hlk)) (fun _ h => h) hv hd (kk H locs ls hP hD hS hl)
theorem ww_putN (C : Cx E K cc nL ret own Ts rm) {Cn host : String} {T : u_T} {N ci a index : Nat} {ty0 : Nat → FieldType} {w : va_W} {fs : List Value} {v : Value} {gs' : List va_W} {ty : FieldType} (hc : ClOK ci Cn T N ty0) (hin : ∀ w ∈ u_ws Cn T N, w ∈ Ts) (g k f : Nat) (hg : gs[g]? = some w) (hq : w[k]? = some (a, .inr (ci, fs))) (hf : f < N) (hlk : Cond.fieldLinkNest own index (T f).1 (T f).2.1 (T f).2.2.1 host ∈ nwAll) (hfin : (T f).2.2.2 = false) (hdp : ty0 f = ty) (hn : narrow ty v = v) (hfit : fits ty v = true) {w' : va_W} (hl : fs.length = N) (hw' : w.set k (a, .inr (ci, fs.set f v)) = w') (hgs : gs.set g w' = gs') (hd : decode cc pc = .ok (.putfield index, 3))
    (kk : WW E K cells slots Q (pc + 3) lv st gs') : WW E K cells slots Q pc lv (v :: .ref a :: st) gs := by
  obtain ⟨p, e, R, s, m, args, below, meth, c, A⟩ := K
  obtain ⟨⟨hx, hb, hml, hr, hown⟩, hts, hlk', hK, hA, hX, hR⟩ := C
  intro H locs ls hP hD hS hl'
  obtain ⟨n, h1, h2⟩ := gs_at gs g w k _ hg hq
  subst hw'
  subst hgs
  exact va_putN hx hb hts hin ty0 hc.2.1 hc.2.2 hown hK hP hD hS n h1 hc.1 f hf (va_Nw.use rfl (hX.nw hlk)) (fun _ h => h) hfin (by rw [hc.2.1 f hf, hdp]) hn hfit (by rw [hl]; exact hf) hd (fun H1 locs1 hP1 hD1 hS1 => kk H1 locs1 ls (by rw [← h2]; exact hP1) (by rw [← h2]; exact hD1) hS1 hl')
/-- a private method of a nest mate -/
theorem ww_callVN (C : Cx E K cc nL ret own Ts rm) {y : MethodName} {ws ws' : List Cond} {rmc : Room} {As : List Value} {b : Nat} {gsc gr : List va_W} {bytes : ByteArray} {maxL index ci N : Nat} {rt : Option FieldType} {Cn host : String} {T : u_T} {ty0 : Nat → FieldType} {w : va_W} {fs : List Value} (ct : Ct E y ws rmc (.ref b :: As) gsc G) (hG : GoodIn Ts ws) (hw : ws = Cond.code y bytes maxL rt :: ws') (hnw : Cond.methodLinkNest own index y host ∈ nwAll) (hini : Cond.initialized y.cls ∈ Ts) (hins : Cond.instanceMethod y ∈ Ts) (hsel : Cond.selects Cn y y ∈ Ts)
    (hy : y.cls = Cn ∧ y.cls ≠ "java/lang/invoke/MethodHandle" ∧ y.cls ≠ "java/lang/invoke/VarHandle" ∧ (parseMethodDescriptor y.desc).map (fun d => d.parameters.length) = some As.length) (hR : rmc.frames + 1 ≤ rm.frames ∧ 8 + (maxL + 11) + rmc.locals ≤ rm.locals) (hroom : cells + rmc.cells ≤ rm.cells ∧ slots + rmc.slots ≤ rm.slots)
    (hc : ClOK ci Cn T N ty0) (g k : Nat) (hg : gsc[g]? = some w) (hq : w[k]? = some (b, .inr (ci, fs))) (isC isR : List Nat) (ng : Nat) (hng : gs.length = ng) (hper : (isC ++ isR).Perm (List.range ng)) (hC : isC.filterMap (fun i => gs[i]?) = gsc) (hRr : isR.filterMap (fun i => gs[i]?) = gr) (hst : (st.map fun v => v.category).sum ≤ 8) (hd : decode cc pc = .ok (.invokevirtual index, 3))
    (kk : ∀ rv gs1, G rv gs1 → WW E K (cells + rmc.cells) (slots + rmc.slots) Q (pc + 3) lv (rv.toList ++ st) (gs1 ++ gr)) : WW E K cells slots Q pc lv (As.reverse ++ .ref b :: st) gs := by
  obtain ⟨p, e, R, s, m, args, below, meth, c, A⟩ := K
  obtain ⟨⟨hx, hb, hml, hr, hown⟩, hts, hlk', hK, hA, hX, rfl⟩ := C
  intro H locs ls hP hD hS hl
  subst hng
  obtain ⟨hPc, hDc, hAc⟩ := gs_cut hP hD isC isR hper hC
  have hF : ∀ q, va_A gsc.flatten H.size q → A q := fun q h => by
    rcases h with ⟨k, e, h⟩ | h
    · exact hAc k (q, e) h
    · exact hA q (Nat.le_trans hS.1 h)
  have hXc : Xw E (va_A gsc.flatten H.size) s H := (hX.kept hS.2.1).narrow hF
  obtain ⟨n, hn, -⟩ := gs_at gsc g w k _ hg hq
  refine ww_back (va_runVN (As := As) (rest := st) ⟨hx, hb, hml, hown, hts⟩ (ct H.size) ⟨va_cnB As.length hts hG hw rfl rfl (hX.nw hnw) (hts _ hini) hy.2 hR, hts _ hins, hts _ hsel⟩ ⟨CtP.blind, va_recv hK hPc hc.1 hn, fun U hU hW => ⟨rfl, by rw [hU], by rw [hU]; exact hPc, va_K.moved hW.alike hK, hDc, by rw [hU]; exact hXc.warm hW⟩⟩ rfl rfl (by rw [← hml]; exact hl.1) rfl (lv_room hst) hd hroom) hP hD hS hl isC isR hper hC hRr hF kk
/-- a row of a row of rows is read -/
theorem ww_aldR (C : Cx E K cc nL ret own Ts rm) {a n b : Nat} {f : Nat → Option Nat} {w : va_W} {i : Int32} (g k : Nat) (hg : gs[g]? = some w) (hq : w[k]? = some (a, .inl (eS E, n, .inr (.inr (.inr (.inr f)))))) (hi : vp_in i n) (hf : f i.toNatClampNeg = some b) (hd : decode cc pc = .ok (.aaload, 1))
    (kk : WW E K cells slots Q (pc + 1) lv (.ref b :: st) gs) : WW E K cells slots Q pc lv (.int i :: .ref a :: st) gs := by
  obtain ⟨p, e, R, s, m, args, below, meth, c, A⟩ := K
  obtain ⟨⟨hx, hb, hml, hr, hown⟩, hts, hlk', hK, hA, hX, hR⟩ := C
  intro H locs ls hP hD hS hl
  obtain ⟨n1, h1, -⟩ := gs_at gs g w k _ hg hq
  have kk' := kk H locs ls hP hD hS hl
  have hlt : i.toNatClampNeg < n := Nat.not_le.mp fun q => hi (Or.inr q)
  refine W.aald (v := va_rf (f i.toNatClampNeg)) (ty := .array .int) hx hb (hP n1 _ h1) ((hK.2 3 (eS E, .array .int) rfl).1 n (fun j => va_rf (f j))) rfl (fun q => by cases q) (by show ¬ (i < 0 ∨ (arrV _ _ _).slots.size ≤ _); rw [arrV_size]; exact hi) (by show (arrV _ _ _).slots[_]? = _; rw [arrV_read _ _ hlt]) rfl rfl hd ?_
  rw [hf]
  exact kk'
theorem comp_int {s : State} {E : Ex} (hK : va_K (eD E) vwCl (eT E) s) (h : va_AOA s) : ∃ kA : Class, s.vm.classes[eS E]? = some kA ∧ kA.kind = .array (eI E) (.array .int) := by
  obtain ⟨comp, c, k, f1, f2, f3, f4, f5⟩ := arrayOverA_spec h
  have e1 : s.vm.findClass "[I" = some (eI E) := va_nm_int (hK.2 0 (eI E, .int) rfl).2
  have e2 : (FieldType.array FieldType.int).toString = "[I" := by decide +kernel
  rw [e2] at f1 f5
  cases f1.symm.trans e1
  have e3 : s.vm.findClass ("[" ++ (FieldType.array FieldType.int).toString) = some (eS E) := (hK.2 3 (eS E, .array .int) rfl).2
  rw [e2] at e3
  cases f5.symm.trans e3
  exact ⟨k, f3, f4⟩
/-- a row into a row of rows -/
theorem ww_astR (C : Cx E K cc nL ret own Ts rm) {a n b n2 : Nat} {f : Nat → Option Nat} {f2 : Nat → Int32} {w wv : va_W} {i : Int32} {gs' : List va_W} (g k g2 k2 : Nat) (hg : gs[g]? = some w) (hq : w[k]? = some (a, .inl (eS E, n, .inr (.inr (.inr (.inr f)))))) (hg2 : gs[g2]? = some wv) (hq2 : wv[k2]? = some (b, .inl (eI E, n2, .inl f2))) (hi : vp_in i n) {w' : va_W} (hw' : w.set k (a, .inl (eS E, n, .inr (.inr (.inr (.inr (va_up f i.toNatClampNeg (some b))))))) = w') (hgs : gs.set g w' = gs') (hd : decode cc pc = .ok (.aastore, 1))
    (kk : WW E K cells slots Q (pc + 1) lv st gs') : WW E K cells slots Q pc lv (.ref b :: .int i :: .ref a :: st) gs := by
  have hao := aok C
  obtain ⟨p, e, R, s, m, args, below, meth, c, A⟩ := K
  obtain ⟨⟨hx, hb, hml, hr, hown⟩, hts, hlk', hK, hA, hX, rfl⟩ := C
  intro H locs ls hP hD hS hl'
  obtain ⟨n1, h1, h2⟩ := gs_at gs g w k _ hg hq
  obtain ⟨m2, h3, -⟩ := gs_at gs g2 wv k2 _ hg2 hq2
  subst hw'
  subst hgs
  have hlt : i.toNatClampNeg < n := Nat.not_le.mp fun q => hi (Or.inr q)
  have h0 : ¬ i < 0 := fun q => hi (Or.inl q)
  obtain ⟨kA, k1, k3⟩ := comp_int hK hao.2
  obtain ⟨-, kC, hkC, -⟩ := (hK.2 0 (eI E, .int) rfl).1 0 (fun _ => .null)
  refine W.aast hx hb (hP n1 _ h1) (fun q h => by cases h) (fun h => by cases h) k1 k3 rfl hkC ⟨h0, by show _ < (arrV _ _ _).slots.size; rw [arrV_size]; exact hlt⟩ (hP m2 _ h3) (fun q h => by cases h) hkC (va_asg _ _) rfl rfl hd fun H1 e1 z oq => ?_
  have hP1 : va_P (eD E) vwCl (gs.flatten.set n1 (a, .inl (eS E, n, .inr (.inr (.inr (.inr (va_up f i.toNatClampNeg (some b)))))))) H1 := hP.set hD h1 (by
    show H1[a]? = some (vp_cell _ _)
    rw [e1, vp_cell_q, vp_cell_q, arrV_store]
    congr 2
    funext q
    by_cases hq9 : q = i.toNatClampNeg
    · subst hq9
      simp [updV, va_up, va_rf]
    · simp [updV, va_up, hq9]) oq
  have hD1 := hD.set (e := .inl (eS E, n, .inr (.inr (.inr (.inr (va_up f i.toNatClampNeg (some b))))))) h1
  rw [h2] at hP1 hD1
  exact kk H1 _ ls hP1 hD1 (hS.put z oq (hD.2 n1 _ h1)) hl'
/-- a new row of rows -/
theorem ww_newR (C : Cx E K cc nL ret own Ts rm) {index : Nat} (hcl : Cond.classLink own index "[I" ∈ Ts) {n : Int32} (N : Nat) (hn : ¬ n < 0) (hN : n.toNatClampNeg = N) (hby : N * 4 ≤ 536870912) (hroom : cells + 1 ≤ rm.cells ∧ slots + N ≤ rm.slots) (hd : decode cc pc = .ok (.anewarray index, 3))
    (kk : ∀ q, WW E K (cells + 1) (slots + N) Q (pc + 3) lv (.ref q :: st) (gs ++ [[(q, .inl (eS E, N, .inr (.inr (.inr (.inr fun _ => none)))))]])) : WW E K cells slots Q pc lv (.int n :: st) gs := by
  have hao := aok C
  obtain ⟨p, e, R, s, m, args, below, meth, c, A⟩ := K
  obtain ⟨⟨hx, hb, hml, hr, hown⟩, hts, hlk, hK, hA, hX, rfl⟩ := C
  intro H locs ls hP hD hS hl'
  subst hN
  have e2 : (FieldType.array FieldType.int).toString = "[I" := by decide +kernel
  refine W.anewA (t := .int) hx hb hown (by rw [e2]; exact hts _ hcl) (show (Cond.arrayOver (.array .int)).before args s = true from hao.2) (g := F0 m pc ls (.int n :: st)) rfl hd rfl hn hby hroom.1 hroom.2 fun cA kA comp f1 f2 f3 f4 => ?_
  have e3 : s.vm.findClass ("[" ++ (FieldType.array FieldType.int).toString) = some (eS E) := (hK.2 3 (eS E, .array .int) rfl).2
  cases f1.symm.trans e3
  generalize hH1 : H.push ({ cls := eS E, slots := Array.replicate n.toNatClampNeg .null, vm := .none } : Cell) = H1
  have z1 : H1.size = H.size + 1 := by rw [← hH1, Array.size_push]
  have e1 : H1[H.size]? = some (arrV (eS E) n.toNatClampNeg (fun _ => .null)) := by rw [← hH1, Array.getElem?_push_size, ← arrV_new]
  have o1 : ∀ q : Nat, q < H.size → H1[q]? = H[q]? := fun q hq => by rw [← hH1, Array.getElem?_push, if_neg (Nat.ne_of_lt hq)]
  have hk : ∀ (k : Nat) (x : Nat × va_E), gs.flatten[k]? = some x → H1[x.1]? = H[x.1]? := fun k x hx => o1 x.1 ((hP k x hx).lt)
  have hP1 : va_P (eD E) vwCl (gs.flatten ++ [(H.size, .inl (eS E, n.toNatClampNeg, .inr (.inr (.inr (.inr fun _ => none)))))]) H1 := (hP.kept hk).app (fun k x hx => by
    have hz : k < 1 := (List.getElem?_eq_some_iff.mp hx).1
    rw [show k = 0 by omega] at hx
    cases hx
    exact e1)
  have hD1 : va_D A (gs.flatten ++ [(H.size, .inl (eS E, n.toNatClampNeg, .inr (.inr (.inr (.inr fun _ => none)))))]) := hD.push hP rfl (hA _ hS.1)
  rw [← gs_app] at hP1 hD1
  exact kk H.size H1 locs ls hP1 hD1 ⟨Nat.le_trans hS.1 (by omega), fun x h1 h2 => (o1 x (Nat.lt_of_lt_of_le h1 hS.1)).trans (hS.2.1 x h1 h2), hS.2.2⟩ hl'
/-- the copy of a row -/
theorem ww_clone (C : Cx E K cc nL ret own Ts rm) {index a n : Nat} {f : Nat → Int32} {w : va_W} (g k : Nat) (hg : gs[g]? = some w) (hq : w[k]? = some (a, .inl (eI E, n, .inl f))) (hlk : Cond.methodLink own index ⟨"[I", "clone", "()Ljava/lang/Object;"⟩ ∈ Ts) (hsm : Cond.sameMethod "[I" "java/lang/Object" "clone" "()Ljava/lang/Object;" ∈ Ts) (hna : Cond.native ⟨"java/lang/Object", "clone", "()Ljava/lang/Object;"⟩ ∈ Ts) (hin : Cond.instanceMethod ⟨"java/lang/Object", "clone", "()Ljava/lang/Object;"⟩ ∈ Ts) (hse : Cond.selects "[I" ⟨"[I", "clone", "()Ljava/lang/Object;"⟩ ⟨"java/lang/Object", "clone", "()Ljava/lang/Object;"⟩ ∈ Ts)
    (hfr : 1 ≤ rm.frames) (hlo : (st.map fun v => v.category).sum + 14 ≤ rm.locals) (hroom : cells + 1 ≤ rm.cells ∧ slots + n ≤ rm.slots) (hd : decode cc pc = .ok (.invokevirtual index, 3))
    (kk : ∀ q, WW E K (cells + 1) (slots + n) Q (pc + 3) lv (.ref q :: st) (gs ++ [wArr E q n f])) : WW E K cells slots Q pc lv (.ref a :: st) gs := by
  obtain ⟨p, e, R, s, m, args, below, meth, c, A⟩ := K
  obtain ⟨⟨hx, hb, hml, hr, hown⟩, hts, hlk', hK, hA, hX, rfl⟩ := C
  intro H locs ls hP hD hS hl'
  obtain ⟨n1, h1, -⟩ := gs_at gs g w k _ hg hq
  have hcl : va_Nw (.castable "[I" "java/lang/Cloneable") s := hX.nw (by decide +kernel)
  refine va_clone hx hb (hml.trans (by rw [← hml]; exact hl'.1.symm)) hown (hts _ hlk) (hts _ hsm) (hts _ hna) (hts _ hin) (hts _ hse) hcl hK hP hD hS hA n1 0 h1 rfl (va_nm_int (hK.2 0 (eI E, .int) rfl).2) (fun i v hv => va_fit (ty := .int) (fun i hi => rfl) i v hv) hfr hlo hroom.1 hroom.2 hd (fun q H1 hK1 hP1 hD1 hS1 => ?_)
  have hP2 : va_P (eD E) vwCl (gs ++ [wArr E q n f]).flatten H1 := by rw [gs_app]; exact hP1
  have hD2 : va_D A (gs ++ [wArr E q n f]).flatten := by rw [gs_app]; exact hD1
  exact kk q H1 locs ls hP2 hD2 hS1 hl'
theorem ww_castI (C : Cx E K cc nL ret own Ts rm) {index a n : Nat} {f : Nat → Int32} {w : va_W} (g k : Nat) (hg : gs[g]? = some w) (hq : w[k]? = some (a, .inl (eI E, n, .inl f))) (hlk : Cond.classLink own index "[I" ∈ Ts) (hd : decode cc pc = .ok (.checkcast index, 3)) (kk : WW E K cells slots Q (pc + 3) lv (.ref a :: st) gs) : WW E K cells slots Q pc lv (.ref a :: st) gs := by
  obtain ⟨p, e, R, s, m, args, below, meth, c, A⟩ := K
  obtain ⟨⟨hx, hb, hml, hr, hown⟩, hts, hlk', hK, hA, hX, hR⟩ := C
  intro H locs ls hP hD hS hl
  obtain ⟨n1, h1, -⟩ := gs_at gs g w k _ hg hq
  exact va_castA hx hb hown (hts _ hlk) hP n1 h1 (va_nm_int (hK.2 0 (eI E, .int) rfl).2) hd (kk H locs ls hP hD hS hl)
end WWr
/-- a reference field of an Own gets another row -/
theorem pr_Own_phase {E : Ex} {a : Nat → Nat} {x0 x1 x2 x3 x : Nat} {v : OwnV} : (wOwn E a (rf4 x0 x1 x2 x3) v).set 0 (a 0, .inr (9, (fsOwn a (rf4 x0 x1 x2 x3) v).set 7 (.ref x))) = wOwn E a (rf4 x0 x1 x2 x) v := rfl
