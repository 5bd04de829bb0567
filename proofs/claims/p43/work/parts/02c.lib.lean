section WWc
theorem gs_at : ∀ (gs : List va_W) (g : Nat) (w : va_W) (k : Nat) (q : Nat × va_E), gs[g]? = some w → w[k]? = some q → ∃ n, gs.flatten[n]? = some q ∧ ∀ q', gs.flatten.set n q' = (gs.set g (w.set k q')).flatten := by
  intro gs
  induction gs with
  | nil => intro g w k q hg; simp at hg
  | cons a gs ih =>
    intro g w k q hg hk
    cases g with
    | zero =>
      simp only [List.getElem?_cons_zero, Option.some.injEq] at hg
      subst hg
      have hl : k < a.length := (List.getElem?_eq_some_iff.mp hk).1
      exact ⟨k, by rw [List.flatten_cons, List.getElem?_append_left hl, hk], fun q' => by rw [List.flatten_cons, List.set_append_left _ _ hl, List.set_cons_zero, List.flatten_cons]⟩
    | succ g =>
      rw [List.getElem?_cons_succ] at hg
      obtain ⟨n, h1, h2⟩ := ih g w k q hg hk
      refine ⟨a.length + n, ?_, fun q' => ?_⟩
      · rw [List.flatten_cons, List.getElem?_append_right (by omega), show a.length + n - a.length = n by omega, h1]
      · rw [List.flatten_cons, List.set_append_right _ _ (by omega), show a.length + n - a.length = n by omega, h2, List.set_cons_succ, List.flatten_cons]
theorem va_D_iff {A : Nat → Prop} {ws : va_W} : va_D A ws ↔ (ws.map (fun q => q.1)).Nodup ∧ ∀ q ∈ ws, A q.1 := by
  constructor
  · rintro ⟨h1, h2⟩
    refine ⟨?_, fun q hq => ?_⟩
    · rw [List.nodup_iff_pairwise_ne, List.pairwise_iff_getElem]
      intro i j hi hj hij heq
      simp only [List.length_map] at hi hj
      simp only [List.getElem_map] at heq
      have := h1 i j ws[i] ws[j] (List.getElem?_eq_getElem hi) (List.getElem?_eq_getElem hj) heq
      omega
    · obtain ⟨k, hk⟩ := List.getElem?_of_mem hq
      exact h2 k q hk
  · rintro ⟨h1, h2⟩
    refine ⟨fun i j p q hi hj hpq => ?_, fun k q hk => h2 q (List.mem_of_getElem? hk)⟩
    obtain ⟨hi', ei⟩ := List.getElem?_eq_some_iff.mp hi
    obtain ⟨hj', ej⟩ := List.getElem?_eq_some_iff.mp hj
    rw [List.nodup_iff_pairwise_ne, List.pairwise_iff_getElem] at h1
    rcases Nat.lt_trichotomy i j with h | h | h
    · have hne := h1 i j (by simpa using hi') (by simpa using hj') h
      simp only [List.getElem_map, ne_eq] at hne
      exact absurd (by rw [ei, ej]; exact hpq) hne
    · exact h
    · have hne := h1 j i (by simpa using hj') (by simpa using hi') h
      simp only [List.getElem_map, ne_eq] at hne
      exact absurd (by rw [ei, ej]; exact hpq.symm) hne
theorem va_D_perm {A : Nat → Prop} {ws ws' : va_W} (hp : ws.Perm ws') (h : va_D A ws) : va_D A ws' := by
  rw [va_D_iff] at h ⊢
  exact ⟨(hp.map _).nodup_iff.mp h.1, fun q hq => h.2 q (hp.mem_iff.mpr hq)⟩
theorem va_P_iff {D : va_G} {cl : List vw_C} {ws : va_W} {H : Heap} : va_P D cl ws H ↔ ∀ q ∈ ws, va_at D cl q H :=
  ⟨fun h q hq => by obtain ⟨k, hk⟩ := List.getElem?_of_mem hq; exact h k q hk, fun h k q hk => h q (List.mem_of_getElem? hk)⟩
theorem va_P_perm {D : va_G} {cl : List vw_C} {H : Heap} {ws ws' : va_W} (hp : ws.Perm ws') (h : va_P D cl ws H) : va_P D cl ws' H := by
  rw [va_P_iff] at h ⊢
  exact fun q hq => h q (hp.mem_iff.mpr hq)
theorem pick_all : ∀ (pre gs : List va_W), (List.range' pre.length gs.length).filterMap (fun i => (pre ++ gs)[i]?) = gs := by
  intro pre gs
  induction gs generalizing pre with
  | nil => rfl
  | cons a gs ih =>
    rw [List.length_cons, List.range'_succ, List.filterMap_cons]
    have h0 : (pre ++ a :: gs)[pre.length]? = some a := by rw [List.getElem?_append_right (Nat.le_refl _), Nat.sub_self]; rfl
    rw [h0]
    have := ih (pre ++ [a])
    rw [List.length_append, List.length_singleton, List.append_assoc, List.singleton_append] at this
    simp only [this]
theorem pick_perm {gs : List va_W} {is : List Nat} (h : is.Perm (List.range gs.length)) : (is.filterMap (fun i => gs[i]?)).Perm gs := by
  have h1 := h.filterMap (fun i => gs[i]?)
  have h2 := pick_all [] gs
  rw [List.length_nil, List.nil_append] at h2
  rw [List.range_eq_range', h2] at h1
  exact h1
/-- a call's frame: the callee's groups come back changed, the others stay -/
theorem gs_call {A0 : Nat → Prop} {D : va_G} {cl : List vw_C} {gs gsc gr gs1 : List va_W} {H H1 : Heap} (hP : va_P D cl gs.flatten H) (hD : va_D A0 gs.flatten) (isC isR : List Nat) (hper : (isC ++ isR).Perm (List.range gs.length)) (hC : isC.filterMap (fun i => gs[i]?) = gsc) (hR : isR.filterMap (fun i => gs[i]?) = gr)
    (hk : ∀ q : Nat, q < H.size → ¬ va_A gsc.flatten H.size q → H1[q]? = H[q]?) (hF : ∀ q, va_A gsc.flatten H.size q → A0 q) (hP1 : va_P D cl gs1.flatten H1) (hD1 : va_D (va_A gsc.flatten H.size) gs1.flatten) : va_P D cl (gs1 ++ gr).flatten H1 ∧ va_D A0 (gs1 ++ gr).flatten := by
  have hpp : (gsc ++ gr).flatten.Perm gs.flatten := by
    rw [← hC, ← hR, ← List.filterMap_append]
    exact (pick_perm hper).flatten
  have hP' := va_P_perm hpp.symm hP
  have hD' := va_D_perm hpp.symm hD
  rw [List.flatten_append] at hP' hD' ⊢
  rw [va_P_iff] at hP' hP1 ⊢
  rw [va_D_iff] at hD' hD1 ⊢
  rw [List.map_append, List.nodup_append] at hD'
  have apart : ∀ q ∈ gr.flatten, q.1 < H.size ∧ ¬ va_A gsc.flatten H.size q.1 := by
    intro q hq
    have hl := (hP' q (List.mem_append_right _ hq)).lt
    refine ⟨hl, fun h => ?_⟩
    rcases h with ⟨k, e, h⟩ | h
    · exact hD'.1.2.2 q.1 (List.mem_map.mpr ⟨(q.1, e), List.mem_of_getElem? h, rfl⟩) q.1 (List.mem_map.mpr ⟨q, hq, rfl⟩) rfl
    · omega
  refine ⟨fun q hq => ?_, ?_, fun q hq => ?_⟩
  · rcases List.mem_append.mp hq with h | h
    · exact hP1 q h
    · exact (hP' q (List.mem_append_right _ h)).kept (hk q.1 (apart q h).1 (apart q h).2)
  · rw [List.map_append, List.nodup_append]
    refine ⟨hD1.1, hD'.1.2.1, fun a ha b hb hab => ?_⟩
    obtain ⟨x, hx, rfl⟩ := List.mem_map.mp ha
    obtain ⟨y, hy, rfl⟩ := List.mem_map.mp hb
    exact (apart y hy).2 (hab ▸ hD1.2 x hx)
  · rcases List.mem_append.mp hq with h | h
    · exact hF q.1 (hD1.2 q h)
    · exact hD'.2 q (List.mem_append_right _ h)
theorem gs_cut {A0 : Nat → Prop} {D : va_G} {cl : List vw_C} {gs gsc : List va_W} {H : Heap} (hP : va_P D cl gs.flatten H) (hD : va_D A0 gs.flatten) (isC isR : List Nat) (hper : (isC ++ isR).Perm (List.range gs.length)) (hC : isC.filterMap (fun i => gs[i]?) = gsc) : va_P D cl gsc.flatten H ∧ va_D (fun _ => True) gsc.flatten ∧ ∀ (k : Nat) (e : Nat × va_E), gsc.flatten[k]? = some e → A0 e.1 := by
  have hpp : (gsc ++ isR.filterMap (fun i => gs[i]?)).flatten.Perm gs.flatten := by
    rw [← hC, ← List.filterMap_append]
    exact (pick_perm hper).flatten
  have hP' := va_P_perm hpp.symm hP
  have hD' := va_D_perm hpp.symm hD
  rw [List.flatten_append] at hP' hD'
  rw [va_P_iff] at hP'
  rw [va_D_iff, List.map_append, List.nodup_append] at hD'
  refine ⟨va_P_iff.mpr fun q hq => hP' q (List.mem_append_left _ hq), va_D_iff.mpr ⟨hD'.1.1, fun _ _ => trivial⟩, fun k e h => hD'.2 e (List.mem_append_left _ (List.mem_of_getElem? h))⟩
def ClOK (ci : Nat) (Cn : String) (T : u_T) (N : Nat) (ty0 : Nat → FieldType) : Prop := vwCl[ci]? = some (Cn, T, N) ∧ (∀ k, k < N → parseFieldDescriptor (T k).2.2.1 = some (ty0 k)) ∧ (∀ a, a < N → ∀ b, b < N → a ≠ b → (T a).2.1 ≠ (T b).2.1)
theorem clOK0 : ClOK 0 RX0 TX0 7 tyX0 := ⟨rfl, tyX0_ok, nmX0⟩
theorem clOK1 : ClOK 1 RX1 TX1 5 tyX1 := ⟨rfl, tyX1_ok, nmX1⟩
theorem clOK2 : ClOK 2 RX2 TX2 19 tyX2 := ⟨rfl, tyX2_ok, nmX2⟩
theorem clOK3 : ClOK 3 RX3 TX3 1 tyX3 := ⟨rfl, tyX3_ok, nmX3⟩
theorem clOK4 : ClOK 4 RX4 TX4 2 tyX4 := ⟨rfl, tyX4_ok, nmX4⟩
theorem clOK5 : ClOK 5 RX5 TX5 5 tyX5 := ⟨rfl, tyX5_ok, nmX5⟩
theorem clOK6 : ClOK 6 RX6 TX6 8 tyX6 := ⟨rfl, tyX6_ok, nmX6⟩
theorem clOK7 : ClOK 7 RX7 TX7 7 tyX7 := ⟨rfl, tyX7_ok, nmX7⟩
theorem clOK8 : ClOK 8 RX8 TX8 14 tyX8 := ⟨rfl, tyX8_ok, nmX8⟩
theorem clOK9 : ClOK 9 RX9 TX9 8 tyX9 := ⟨rfl, tyX9_ok, nmX9⟩
variable {E : Ex} {K : Kx} {cc : ByteArray} {nL : Nat} {ret : Option FieldType} {own : String} {Ts : List Cond} {rm : Room} {cells slots : Nat} {Q : State → Prop} {pc : Nat} {lv : List (Nat × Value)} {st : List Value} {gs : List va_W}
theorem ww_get (C : Cx E K cc nL ret own Ts rm) {Cn : String} {T : u_T} {N ci a index : Nat} {ty0 : Nat → FieldType} {w : va_W} {fs : List Value} {v : Value} (hc : ClOK ci Cn T N ty0) (hin : ∀ w ∈ u_ws Cn T N, w ∈ Ts) (g k f : Nat) (hg : gs[g]? = some w) (hq : w[k]? = some (a, .inr (ci, fs))) (hf : f < N) (hlk : Cond.fieldLink own index (T f).1 (T f).2.1 (T f).2.2.1 ∈ Ts) (hv : fs[f]? = some v) (hd : decode cc pc = .ok (.getfield index, 3))
    (kk : WW E K cells slots Q (pc + 3) lv (v :: st) gs) : WW E K cells slots Q pc lv (.ref a :: st) gs := by
  obtain ⟨p, e, R, s, m, args, below, meth, c, A⟩ := K
  obtain ⟨⟨hx, hb, hml, hr, hown⟩, hts, hlk', hK, hA, hX, hR⟩ := C
  intro H locs ls hP hD hS hl
  obtain ⟨n, h1, -⟩ := gs_at gs g w k _ hg hq
  exact va_get hx hb hts hin hown hK hP n h1 hc.1 f hf (hts _ hlk) (fun _ h => h) hv hd (kk H locs ls hP hD hS hl)
theorem ww_put (C : Cx E K cc nL ret own Ts rm) {Cn : String} {T : u_T} {N ci a index : Nat} {ty0 : Nat → FieldType} {w : va_W} {fs : List Value} {v : Value} {gs' : List va_W} {ty : FieldType} (hc : ClOK ci Cn T N ty0) (hin : ∀ w ∈ u_ws Cn T N, w ∈ Ts) (g k f : Nat) (hg : gs[g]? = some w) (hq : w[k]? = some (a, .inr (ci, fs))) (hf : f < N) (hlk : Cond.fieldLink own index (T f).1 (T f).2.1 (T f).2.2.1 ∈ Ts) (hfin : (T f).2.2.2 = false) (hdp : ty0 f = ty) (hn : narrow ty v = v) (hfit : fits ty v = true) {w' : va_W} (hl : fs.length = N) (hw' : w.set k (a, .inr (ci, fs.set f v)) = w') (hgs : gs.set g w' = gs') (hd : decode cc pc = .ok (.putfield index, 3))
    (kk : WW E K cells slots Q (pc + 3) lv st gs') : WW E K cells slots Q pc lv (v :: .ref a :: st) gs := by
  obtain ⟨p, e, R, s, m, args, below, meth, c, A⟩ := K
  obtain ⟨⟨hx, hb, hml, hr, hown⟩, hts, hlk', hK, hA, hX, hR⟩ := C
  intro H locs ls hP hD hS hl'
  obtain ⟨n, h1, h2⟩ := gs_at gs g w k _ hg hq
  subst hw'
  subst hgs
  exact va_put hx hb hts hin ty0 hc.2.1 hc.2.2 hown hK hP hD hS n h1 hc.1 f hf (hts _ hlk) (fun _ h => h) hfin (by rw [hc.2.1 f hf, hdp]) hn hfit (by rw [hl]; exact hf) hd (fun H1 locs1 hP1 hD1 hS1 => kk H1 locs1 ls (by rw [← h2]; exact hP1) (by rw [← h2]; exact hD1) hS1 hl')
theorem ww_iald (C : Cx E K cc nL ret own Ts rm) {a n : Nat} {f : Nat → Int32} {w : va_W} {i : Int32} (g k : Nat) (hg : gs[g]? = some w) (hq : w[k]? = some (a, .inl (eI E, n, .inl f))) (hi : vp_in i n) (hd : decode cc pc = .ok (.iaload, 1))
    (kk : WW E K cells slots Q (pc + 1) lv (.int (f i.toNatClampNeg) :: st) gs) : WW E K cells slots Q pc lv (.int i :: .ref a :: st) gs := by
  obtain ⟨p, e, R, s, m, args, below, meth, c, A⟩ := K
  obtain ⟨⟨hx, hb, hml, hr, hown⟩, hts, hlk', hK, hA, hX, hR⟩ := C
  intro H locs ls hP hD hS hl
  obtain ⟨n, h1, -⟩ := gs_at gs g w k _ hg hq
  exact va_iald hx hb hK hP n 0 h1 rfl hi hd (kk H locs ls hP hD hS hl)
theorem ww_iast (C : Cx E K cc nL ret own Ts rm) {a n : Nat} {f : Nat → Int32} {w : va_W} {i x : Int32} {gs' : List va_W} (g k : Nat) (hg : gs[g]? = some w) (hq : w[k]? = some (a, .inl (eI E, n, .inl f))) (hi : vp_in i n) {w' : va_W} (hw' : w.set k (a, .inl (eI E, n, .inl (upd f i.toNatClampNeg x))) = w') (hgs : gs.set g w' = gs') (hd : decode cc pc = .ok (.iastore, 1))
    (kk : WW E K cells slots Q (pc + 1) lv st gs') : WW E K cells slots Q pc lv (.int x :: .int i :: .ref a :: st) gs := by
  obtain ⟨p, e, R, s, m, args, below, meth, c, A⟩ := K
  obtain ⟨⟨hx, hb, hml, hr, hown⟩, hts, hlk', hK, hA, hX, hR⟩ := C
  intro H locs ls hP hD hS hl
  obtain ⟨n, h1, h2⟩ := gs_at gs g w k _ hg hq
  subst hw'
  subst hgs
  exact va_iast hx hb hK hP hD hS n 0 h1 rfl hi hd (fun H1 locs1 hP1 hD1 hS1 => kk H1 locs1 ls (by rw [← h2]; exact hP1) (by rw [← h2]; exact hD1) hS1 hl)
theorem ww_lald (C : Cx E K cc nL ret own Ts rm) {a n : Nat} {f : Nat → Int64} {w : va_W} {i : Int32} (g k : Nat) (hg : gs[g]? = some w) (hq : w[k]? = some (a, .inl (eJ E, n, .inr (.inl f)))) (hi : vp_in i n) (hd : decode cc pc = .ok (.laload, 1))
    (kk : WW E K cells slots Q (pc + 1) lv (.long (f i.toNatClampNeg) :: st) gs) : WW E K cells slots Q pc lv (.int i :: .ref a :: st) gs := by
  obtain ⟨p, e, R, s, m, args, below, meth, c, A⟩ := K
  obtain ⟨⟨hx, hb, hml, hr, hown⟩, hts, hlk', hK, hA, hX, hR⟩ := C
  intro H locs ls hP hD hS hl
  obtain ⟨n, h1, -⟩ := gs_at gs g w k _ hg hq
  exact va_lald hx hb hK hP n 1 h1 rfl hi hd (kk H locs ls hP hD hS hl)
theorem ww_alen (C : Cx E K cc nL ret own Ts rm) {a : Nat} {x : vp_A} {w : va_W} {v : Int32} (g k : Nat) (hg : gs[g]? = some w) (hq : w[k]? = some (a, .inl (eI E, x))) (hv : Int32.ofNat x.1 = v) (hd : decode cc pc = .ok (.arraylength, 1))
    (kk : WW E K cells slots Q (pc + 1) lv (.int v :: st) gs) : WW E K cells slots Q pc lv (.ref a :: st) gs := by
  obtain ⟨p, e, R, s, m, args, below, meth, c, A⟩ := K
  obtain ⟨⟨hx, hb, hml, hr, hown⟩, hts, hlk', hK, hA, hX, hR⟩ := C
  intro H locs ls hP hD hS hl
  obtain ⟨n, h1, -⟩ := gs_at gs g w k _ hg hq
  exact va_alen hx hb hK hP n 0 h1 (ty := .int) rfl hv hd (kk H locs ls hP hD hS hl)
theorem ww_aldH (C : Cx E K cc nL ret own Ts rm) {a n b : Nat} {f : Nat → Option Nat} {w : va_W} {i : Int32} (g k : Nat) (hg : gs[g]? = some w) (hq : w[k]? = some (a, .inl (eH E, n, .inr (.inr (.inr (.inr f)))))) (hi : vp_in i n) (hf : f i.toNatClampNeg = some b) (hd : decode cc pc = .ok (.aaload, 1))
    (kk : WW E K cells slots Q (pc + 1) lv (.ref b :: st) gs) : WW E K cells slots Q pc lv (.int i :: .ref a :: st) gs := by
  obtain ⟨p, e, R, s, m, args, below, meth, c, A⟩ := K
  obtain ⟨⟨hx, hb, hml, hr, hown⟩, hts, hlk', hK, hA, hX, hR⟩ := C
  intro H locs ls hP hD hS hl
  obtain ⟨n, h1, -⟩ := gs_at gs g w k _ hg hq
  have kk' := kk H locs ls hP hD hS hl
  exact va_aldq hx hb hK hP n 2 h1 rfl hi hd (by rw [hf]; exact kk')
theorem ww_perm {gs' : List va_W} (is : List Nat) (ng : Nat) (hng : gs.length = ng) (hper : is.Perm (List.range ng)) (h : is.filterMap (fun i => gs[i]?) = gs') (kk : WW E K cells slots Q pc lv st gs') : WW E K cells slots Q pc lv st gs := by
  obtain ⟨p, e, R, s, m, args, below, meth, c, A⟩ := K
  intro H locs ls hP hD hS hl
  subst h
  subst hng
  exact kk H locs ls (va_P_perm (pick_perm hper).flatten.symm hP) (va_D_perm (pick_perm hper).flatten.symm hD) hS hl
theorem ww_eq {gs' : List va_W} (h : gs = gs') (kk : WW E K cells slots Q pc lv st gs') : WW E K cells slots Q pc lv st gs := h ▸ kk
end WWc
