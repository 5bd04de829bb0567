section WWg
variable {E : Ex} {K : Kx} {cc : ByteArray} {nL : Nat} {ret : Option FieldType} {own : String} {Ts : List Cond} {rm : Room} {cells slots : Nat} {Q : State → Prop} {pc : Nat} {lv : List (Nat × Value)} {st : List Value} {gs : List va_W} {G : Option Value → List va_W → Prop}
theorem ww_nret {ty : FieldType} (C : Cx E K cc nL (some ty) own Ts rm) {v : Int32} (hn : narrow ty (.int v) = .int v) (hG : G (some (.int v)) gs) (hd : decode cc pc = .ok (.ireturn, 1)) : WW E K cells slots (QQ E K G cells slots) pc lv [.int v] gs := by
  obtain ⟨p, e, R, s, m, args, below, meth, c, A⟩ := K
  obtain ⟨⟨hx, hb, hml, hr, hown⟩, hts, hlk', hK, hA, hX, hR⟩ := C
  intro H locs ls hP hD hS hl
  rw [QQ_eq]
  exact W.zret (Qc := fun _ => CtR E A G) hx hb hr hn (fun t ht hW => ⟨⟨_, gs, rfl, hG, by rw [ht]; exact hP, hD⟩, hS.F ht⟩) hS.2.2 hd hlk'
theorem ww_getCS (C : Cx E K cc nL ret own Ts rm) {index : Nat} (hl : Cond.fieldLink own index "java/lang/String" "COMPACT_STRINGS" "Z" ∈ Ts) (hd : decode cc pc = .ok (.getstatic index, 3)) (kk : WW E K cells slots Q (pc + 3) lv (.int 1 :: st) gs) : WW E K cells slots Q pc lv st gs := by
  obtain ⟨p, e, R, s, m, args, below, meth, c, A⟩ := K
  obtain ⟨⟨hx, hb, hml, hr, hown⟩, hts, hlk', hK, hA, hX, hR⟩ := C
  intro H locs ls hP hD hS hl2
  exact va_gets hx hb hX.2.2.2.2.1 hS hown (hts _ hl) (fun _ h => h) hd (kk H locs ls hP hD hS hl2)
theorem ww_getSF (C : Cx E K cc nL ret own Ts rm) {index : Nat} (hl : Cond.fieldLink own index "jdk/internal/util/Preconditions" "SIOOBE_FORMATTER" "Ljava/util/function/BiFunction;" ∈ Ts) (hd : decode cc pc = .ok (.getstatic index, 3)) (kk : ∀ v : Value, (v = .null ∨ ∃ t, v = .ref t) → WW E K cells slots Q (pc + 3) lv (v :: st) gs) : WW E K cells slots Q pc lv st gs := by
  obtain ⟨p, e, R, s, m, args, below, meth, c, A⟩ := K
  obtain ⟨⟨hx, hb, hml, hr, hown⟩, hts, hlk', hK, hA, hX, hR⟩ := C
  intro H locs ls hP hD hS hl2
  rcases hX.2.2.2.2.2.1 with h | ⟨t, h⟩
  · exact va_gets hx hb h hS hown (hts _ hl) (fun _ h => h) hd (kk _ (Or.inl rfl) H locs ls hP hD hS hl2)
  · exact va_gets hx hb h hS hown (hts _ hl) (fun _ h => h) hd (kk _ (Or.inr ⟨t, rfl⟩) H locs ls hP hD hS hl2)
theorem ww_strV (C : Cx E K cc nL ret own Ts rm) {i : Nat} {q : String × Nat × String} (hq : stTab[i]? = some q) {index : Nat} (hl : Cond.fieldLink own index "java/lang/String" "value" "[B" ∈ Ts) (hd : decode cc pc = .ok (.getfield index, 3)) (kk : WW E K cells slots Q (pc + 3) lv (.ref (eV E i) :: st) gs) : WW E K cells slots Q pc lv (.ref (eK E i) :: st) gs := by
  obtain ⟨p, e, R, s, m, args, below, meth, c, A⟩ := K
  obtain ⟨⟨hx, hb, hml, hr, hown⟩, hts, hlk', hK, hA, hX, hR⟩ := C
  intro H locs ls hP hD hS hl2
  exact vk_getf hx hb (hX.2.1 i q hq).2.2.2.1 hS hown (hts _ hl) (fun _ h => h) hd (kk H locs ls hP hD hS hl2)
theorem ww_strC (C : Cx E K cc nL ret own Ts rm) {i : Nat} {q : String × Nat × String} (hq : stTab[i]? = some q) {index : Nat} (hl : Cond.fieldLink own index "java/lang/String" "coder" "B" ∈ Ts) (hd : decode cc pc = .ok (.getfield index, 3)) (kk : WW E K cells slots Q (pc + 3) lv (.int 0 :: st) gs) : WW E K cells slots Q pc lv (.ref (eK E i) :: st) gs := by
  obtain ⟨p, e, R, s, m, args, below, meth, c, A⟩ := K
  obtain ⟨⟨hx, hb, hml, hr, hown⟩, hts, hlk', hK, hA, hX, hR⟩ := C
  intro H locs ls hP hD hS hl2
  exact vk_getf hx hb (hX.2.1 i q hq).2.2.1 hS hown (hts _ hl) (fun _ h => h) hd (kk H locs ls hP hD hS hl2)
theorem ww_strAl (C : Cx E K cc nL ret own Ts rm) {i : Nat} {q : String × Nat × String} (hq : stTab[i]? = some q) {v : Int32} (hv : Int32.ofNat (stBy q.2.2).length = v) (hd : decode cc pc = .ok (.arraylength, 1)) (kk : WW E K cells slots Q (pc + 1) lv (.int v :: st) gs) : WW E K cells slots Q pc lv (.ref (eV E i) :: st) gs := by
  obtain ⟨p, e, R, s, m, args, below, meth, c, A⟩ := K
  obtain ⟨⟨hx, hb, hml, hr, hown⟩, hts, hlk', hK, hA, hX, hR⟩ := C
  intro H locs ls hP hD hS hl2
  exact va_tlen hx hb (hX.2.1 i q hq).2.2.2.2 hS hv hd (kk H locs ls hP hD hS hl2)
theorem ww_strBl (C : Cx E K cc nL ret own Ts rm) {i : Nat} {q : String × Nat × String} (hq : stTab[i]? = some q) {k : Int32} (hin : vp_in k (stBy q.2.2).length) (hd : decode cc pc = .ok (.baload, 1)) (kk : WW E K cells slots Q (pc + 1) lv (.int ((stBy q.2.2).getD k.toNatClampNeg 0) :: st) gs) : WW E K cells slots Q pc lv (.int k :: .ref (eV E i) :: st) gs := by
  obtain ⟨p, e, R, s, m, args, below, meth, c, A⟩ := K
  obtain ⟨⟨hx, hb, hml, hr, hown⟩, hts, hlk', hK, hA, hX, hR⟩ := C
  intro H locs ls hP hD hS hl2
  exact va_tb hx hb (hX.2.1 i q hq).2.2.2.2 hS hin rfl hd (kk H locs ls hP hD hS hl2)
theorem ww_ldcS (C : Cx E K cc nL ret own Ts rm) (i : Nat) {index : Nat} {tx : String} (hq : stTab[i]? = some (own, index, tx)) (hd : decode cc pc = .ok (.ldc index, 2)) (kk : WW E K cells slots Q (pc + 2) lv (.ref (eK E i) :: st) gs) : WW E K cells slots Q pc lv st gs := by
  obtain ⟨p, e, R, s, m, args, below, meth, c, A⟩ := K
  obtain ⟨⟨hx, hb, hml, hr, hown⟩, hts, hlk', hK, hA, hX, hR⟩ := C
  intro H locs ls hP hD hS hl2
  exact va_ldcS hx hb hown (hX.2.1 i _ hq).1 hd (kk H locs ls hP hD hS hl2)
/-- a call on a String constant -/
theorem ww_callVs (C : Cx E K cc nL ret own Ts rm) {i : Nat} {q : String × Nat × String} (hqs : stTab[i]? = some q) {y : MethodName} {ws ws' : List Cond} {rmc : Room} {As : List Value} {bytes : ByteArray} {maxL index : Nat} {rt : Option FieldType} (ct : Ct E y ws rmc (.ref (eK E i) :: As) [] G) (hG : GoodIn Ts (wsV own index "java/lang/String" y ws)) (hw : ws = Cond.code y bytes maxL rt :: ws')
    (hy : y.cls = "java/lang/String" ∧ y.cls ≠ "java/lang/invoke/MethodHandle" ∧ y.cls ≠ "java/lang/invoke/VarHandle" ∧ (parseMethodDescriptor y.desc).map (fun d => d.parameters.length) = some As.length) (hR : rmc.frames + 1 ≤ rm.frames ∧ 8 + (maxL + 11) + rmc.locals ≤ rm.locals) (hroom : cells + rmc.cells ≤ rm.cells ∧ slots + rmc.slots ≤ rm.slots)
    (hst : (st.map fun v => v.category).sum ≤ 8) (hd : decode cc pc = .ok (.invokevirtual index, 3))
    (kk : ∀ rv gs1, G rv gs1 → WW E K (cells + rmc.cells) (slots + rmc.slots) Q (pc + 3) lv (rv.toList ++ st) (gs1 ++ gs)) : WW E K cells slots Q pc lv (As.reverse ++ .ref (eK E i) :: st) gs := by
  obtain ⟨p, e, R, s, m, args, below, meth, c, A⟩ := K
  obtain ⟨⟨hx, hb, hml, hr, hown⟩, hts, hlk', hK, hA, hX, rfl⟩ := C
  intro H locs ls hP hD hS hl
  have hper : (([] : List Nat) ++ List.range gs.length).Perm (List.range gs.length) := List.Perm.refl _
  have hRr : (List.range gs.length).filterMap (fun i => gs[i]?) = gs := by
    have := pick_all [] gs
    rw [List.length_nil, List.nil_append] at this
    rw [List.range_eq_range']
    exact this
  obtain ⟨hPc, hDc, hAc⟩ := gs_cut (gsc := []) hP hD [] (List.range gs.length) hper rfl
  have hF : ∀ q, va_A (([] : List va_W).flatten) H.size q → A q := fun q h => by
    rcases h with ⟨k, e, h⟩ | h
    · exact hAc k (q, e) h
    · exact hA q (Nat.le_trans hS.1 h)
  have hXc : Xw E (va_A (([] : List va_W).flatten) H.size) s H := (hX.kept hS.2.1).narrow hF
  have hrv : ∃ cell : Cell, H[eK E i]? = some cell ∧ cell.vm.isStatics = false ∧ s.vm.findClass "java/lang/String" = some cell.cls := by
    obtain ⟨cell, h1, h2, h3, h4⟩ := (hX.2.1 i q hqs).2.1.kept hS.2.1
    exact ⟨cell, h1, h2, h3⟩
  refine ww_back (va_runV (As := As) (rest := st) ⟨hx, hb, hml, hown, hts⟩ (ct H.size) (cwV As.length hts hG hw rfl rfl hy hR) ⟨CtP.blind, hrv, fun U hU hW => ⟨rfl, by rw [hU], by rw [hU]; exact hPc, va_K.moved hW.alike hK, hDc, by rw [hU]; exact hXc.warm hW⟩⟩ rfl rfl (by rw [← hml]; exact hl.1) rfl (lv_room hst) hd hroom) hP hD hS hl [] (List.range gs.length) hper rfl hRr hF kk
end WWg
section WWh
abbrev rmJ0_coder_7d493 : Room := { frames := 0, cells := 0, slots := 0, locals := 0 }
abbrev rmJ3_checkIndex : Room := { frames := 0, cells := 0, slots := 0, locals := 0 }
abbrev rmJ0_length : Room := { frames := 1, cells := 0, slots := 0, locals := 20 }
abbrev rmJ0_checkIndex : Room := { frames := 1, cells := 0, slots := 0, locals := 22 }
abbrev rmJ1_charAt : Room := { frames := 2, cells := 0, slots := 0, locals := 43 }
abbrev rmJ0_charAt : Room := { frames := 3, cells := 0, slots := 0, locals := 64 }
theorem c_J0_coder_7d493 {E : Ex} {i : Nat} {q : String × Nat × String} (hq : stTab[i]? = some q) : Ct E yJ0_coder_7d493 wsJ0_coder_7d493 rmJ0_coder_7d493 [.ref (eK E i)] [] (fun rv g => rv = some (.int 0) ∧ g = []) := by
  refine ct_of (own := RJ0) (by decide +kernel) rfl rfl (Nat.le_of_ble_eq_true rfl) (fun K C => ?_)
  refine ww_sub C (lv' := [(0, .ref (eK E i))]) [0] rfl ?_
  refine ww_getCS C (by decide +kernel) dJ0_coder_7d493_0 ?_
  refine ww_if_eq (tgt := 13) C dJ0_coder_7d493_3 (by decide) (fun h => absurd h (by decide)) (fun _ => ?_)
  refine ww_aload_n C dJ0_coder_7d493_6 rfl 0 rfl ?_
  refine ww_strC C hq (by decide +kernel) dJ0_coder_7d493_7 ?_
  refine ww_goto (tgt := 14) C dJ0_coder_7d493_10 (by decide) ?_
  exact ww_nret C (by decide) ⟨rfl, rfl⟩ dJ0_coder_7d493_14
theorem c_J0_isLatin1_aae02 {E : Ex} {i : Nat} {q : String × Nat × String} (hq : stTab[i]? = some q) : Ct E yJ0_isLatin1_aae02 wsJ0_isLatin1_aae02 rmJ0_coder_7d493 [.ref (eK E i)] [] (fun rv g => rv = some (.int 1) ∧ g = []) := by
  refine ct_of (own := RJ0) (by decide +kernel) rfl rfl (Nat.le_of_ble_eq_true rfl) (fun K C => ?_)
  refine ww_sub C (lv' := [(0, .ref (eK E i))]) [0] rfl ?_
  refine ww_getCS C (by decide +kernel) dJ0_isLatin1_aae02_0 ?_
  refine ww_if_eq (tgt := 17) C dJ0_isLatin1_aae02_3 (by decide) (fun h => absurd h (by decide)) (fun _ => ?_)
  refine ww_aload_n C dJ0_isLatin1_aae02_6 rfl 0 rfl ?_
  refine ww_strC C hq (by decide +kernel) dJ0_isLatin1_aae02_7 ?_
  refine ww_if_ne (tgt := 17) C dJ0_isLatin1_aae02_10 (by decide) (fun h => absurd rfl h) (fun _ => ?_)
  refine ww_iconst (v := 1) C dJ0_isLatin1_aae02_13 (by decide) ?_
  refine ww_goto (tgt := 18) C dJ0_isLatin1_aae02_14 (by decide) ?_
  exact ww_nret C (by decide) ⟨rfl, rfl⟩ dJ0_isLatin1_aae02_18
theorem yk_J0_coder : yJ0_coder_7d493.cls = "java/lang/String" ∧ yJ0_coder_7d493.cls ≠ "java/lang/invoke/MethodHandle" ∧ yJ0_coder_7d493.cls ≠ "java/lang/invoke/VarHandle" ∧ (parseMethodDescriptor yJ0_coder_7d493.desc).map (fun d => d.parameters.length) = some 0 := by decide +kernel
theorem yk_J0_isLatin1 : yJ0_isLatin1_aae02.cls = "java/lang/String" ∧ yJ0_isLatin1_aae02.cls ≠ "java/lang/invoke/MethodHandle" ∧ yJ0_isLatin1_aae02.cls ≠ "java/lang/invoke/VarHandle" ∧ (parseMethodDescriptor yJ0_isLatin1_aae02.desc).map (fun d => d.parameters.length) = some 0 := by decide +kernel
theorem yk_J0_length : yJ0_length_8abf5.cls = "java/lang/String" ∧ yJ0_length_8abf5.cls ≠ "java/lang/invoke/MethodHandle" ∧ yJ0_length_8abf5.cls ≠ "java/lang/invoke/VarHandle" ∧ (parseMethodDescriptor yJ0_length_8abf5.desc).map (fun d => d.parameters.length) = some 0 := by decide +kernel
theorem yk_J0_charAt : yJ0_charAt_5068e.cls = "java/lang/String" ∧ yJ0_charAt_5068e.cls ≠ "java/lang/invoke/MethodHandle" ∧ yJ0_charAt_5068e.cls ≠ "java/lang/invoke/VarHandle" ∧ (parseMethodDescriptor yJ0_charAt_5068e.desc).map (fun d => d.parameters.length) = some 1 := by decide +kernel
theorem ysk_J3_checkIndex : yJ3_checkIndex_8e157.cls ≠ "java/lang/invoke/MethodHandle" ∧ yJ3_checkIndex_8e157.cls ≠ "java/lang/invoke/VarHandle" ∧ (parseMethodDescriptor yJ3_checkIndex_8e157.desc).map (fun d => d.parameters.length) = some 3 := by decide +kernel
theorem ysk_J0_checkIndex : yJ0_checkIndex_df160.cls ≠ "java/lang/invoke/MethodHandle" ∧ yJ0_checkIndex_df160.cls ≠ "java/lang/invoke/VarHandle" ∧ (parseMethodDescriptor yJ0_checkIndex_df160.desc).map (fun d => d.parameters.length) = some 2 := by decide +kernel
theorem ysk_J1_charAt : yJ1_charAt_3b067.cls ≠ "java/lang/invoke/MethodHandle" ∧ yJ1_charAt_3b067.cls ≠ "java/lang/invoke/VarHandle" ∧ (parseMethodDescriptor yJ1_charAt_3b067.desc).map (fun d => d.parameters.length) = some 2 := by decide +kernel
theorem c_J0_length {E : Ex} {i : Nat} {q : String × Nat × String} (hq : stTab[i]? = some q) : Ct E yJ0_length_8abf5 wsJ0_length_8abf5 rmJ0_length [.ref (eK E i)] [] (fun rv g => rv = some (.int (nI (stBy q.2.2).length)) ∧ g = []) := by
  refine ct_of (own := RJ0) (by decide +kernel) rfl rfl (Nat.le_of_ble_eq_true rfl) (fun K C => ?_)
  refine ww_sub C (lv' := [(0, .ref (eK E i))]) [0] rfl ?_
  refine ww_aload_n C dJ0_length_8abf5_0 rfl 0 rfl ?_
  refine ww_strV C hq (by decide +kernel) dJ0_length_8abf5_1 ?_
  refine ww_strAl C hq rfl dJ0_length_8abf5_4 ?_
  refine ww_aload_n C dJ0_length_8abf5_5 rfl 0 rfl ?_
  refine ww_callVs C (As := []) (st := [.int (Int32.ofNat (stBy q.2.2).length)]) hq (c_J0_coder_7d493 (E := E) hq) gJ0_length_8abf5_J0_coder_7d493 rfl yk_J0_coder ⟨by decide, by decide⟩ ⟨by decide, by decide⟩ (Nat.le_of_ble_eq_true rfl) dJ0_length_8abf5_6 ?_
  rintro _ _ ⟨rfl, rfl⟩
  refine ww_ishr C dJ0_length_8abf5_9 ?_
  rw [sb_shr0]
  exact ww_iret C ⟨rfl, rfl⟩ dJ0_length_8abf5_10
theorem c_J3_checkIndex {E : Ex} {i n : Int32} {v : Value} (hv : v = .null ∨ ∃ t, v = .ref t) (h0 : ¬ i < 0) (h1 : i < n) : Ct E yJ3_checkIndex_8e157 wsJ3_checkIndex_8e157 rmJ3_checkIndex [.int i, .int n, v] [] (fun rv g => rv = some (.int i) ∧ g = []) := by
  have hlen : (lg_sl [.int i, .int n, v]).length ≤ 3 := by rcases hv with rfl | ⟨t, rfl⟩ <;> exact Nat.le_of_ble_eq_true rfl
  have hla : lv_pick (lv_args 0 [.int i, .int n, v]) [0, 1] = [(0, .int i), (1, .int n)] := rfl
  refine ct_of (own := RJ3) (by decide +kernel) rfl rfl hlen (fun K C => ?_)
  refine ww_sub C (lv' := [(0, .int i), (1, .int n)]) [0, 1] hla ?_
  refine ww_iload_n C dJ3_checkIndex_8e157_0 rfl 0 rfl ?_
  refine ww_if_lt (tgt := 9) C dJ3_checkIndex_8e157_1 (by decide) (fun h => absurd h h0) (fun _ => ?_)
  refine ww_iload_n C dJ3_checkIndex_8e157_4 rfl 0 rfl ?_
  refine ww_iload_n C dJ3_checkIndex_8e157_5 rfl 1 rfl ?_
  refine ww_icmp_lt (tgt := 16) C dJ3_checkIndex_8e157_6 (by decide) (fun _ => ?_) (fun h => absurd h1 h)
  refine ww_iload_n C dJ3_checkIndex_8e157_16 rfl 0 rfl ?_
  exact ww_iret C ⟨rfl, rfl⟩ dJ3_checkIndex_8e157_17
theorem c_J0_checkIndex {E : Ex} {i n : Int32} (h0 : ¬ i < 0) (h1 : i < n) : Ct E yJ0_checkIndex_df160 wsJ0_checkIndex_df160 rmJ0_checkIndex [.int i, .int n] [] (fun rv g => rv = none ∧ g = []) := by
  refine ct_of (own := RJ0) (by decide +kernel) rfl rfl (Nat.le_of_ble_eq_true rfl) (fun K C => ?_)
  refine ww_sub C (lv' := [(0, .int i), (1, .int n)]) [0, 1] rfl ?_
  refine ww_iload_n C dJ0_checkIndex_df160_0 rfl 0 rfl ?_
  refine ww_iload_n C dJ0_checkIndex_df160_1 rfl 1 rfl ?_
  refine ww_getSF C (by decide +kernel) dJ0_checkIndex_df160_2 (fun v hv => ?_)
  refine ww_callS C (As := [.int i, .int n, v]) (st := []) (gr := []) (c_J3_checkIndex (E := E) hv h0 h1) gJ0_checkIndex_df160_J3_checkIndex_8e157 rfl ysk_J3_checkIndex ⟨by decide, by decide⟩ ⟨by decide, by decide⟩ [] [] 0 rfl (by decide) rfl rfl (Nat.le_of_ble_eq_true rfl) dJ0_checkIndex_df160_5 ?_
  rintro _ _ ⟨rfl, rfl⟩
  refine ww_pop C dJ0_checkIndex_df160_8 rfl ?_
  exact ww_vret C ⟨rfl, rfl⟩ dJ0_checkIndex_df160_9
theorem c_J1_charAt {E : Ex} {i : Nat} {q : String × Nat × String} (hq : stTab[i]? = some q) {k : Int32} (hk : inB k (stBy q.2.2).length = true) : Ct E yJ1_charAt_3b067 wsJ1_charAt_3b067 rmJ1_charAt [.ref (eV E i), .int k] [] (fun rv g => rv = some (.int ((stBy q.2.2).getD k.toNatClampNeg 0)) ∧ g = []) := by
  have hlt := (st_all q (List.mem_of_getElem? hq)).1
  have hvp := inB_vp hk
  have h0 : ¬ k < 0 := fun h => hvp (Or.inl h)
  have h1 : k < Int32.ofNat (stBy q.2.2).length := by
    have h2 : ¬ (stBy q.2.2).length ≤ k.toNatClampNeg := fun h => hvp (Or.inr h)
    rw [Int32.lt_iff_toInt_lt, Int32.toInt_ofNat_of_lt (by omega)]
    rw [Int32.lt_iff_toInt_lt] at h0
    have e0 : (0 : Int32).toInt = 0 := rfl
    rw [e0] at h0
    have e1 : k.toNatClampNeg = k.toInt.toNat := rfl
    omega
  have hb : (stBy q.2.2).getD k.toNatClampNeg 0 &&& 255 = (stBy q.2.2).getD k.toNatClampNeg 0 := by
    have := st_byte i k.toNatClampNeg
    unfold stL at this
    rw [hq] at this
    exact this
  refine ct_of (own := RJ1) (by decide +kernel) rfl rfl (Nat.le_of_ble_eq_true rfl) (fun K C => ?_)
  refine ww_sub C (lv' := [(0, .ref (eV E i)), (1, .int k)]) [0, 1] rfl ?_
  refine ww_iload_n C dJ1_charAt_3b067_0 rfl 1 rfl ?_
  refine ww_aload_n C dJ1_charAt_3b067_1 rfl 0 rfl ?_
  refine ww_strAl C hq rfl dJ1_charAt_3b067_2 ?_
  refine ww_callS C (As := [.int k, .int (Int32.ofNat (stBy q.2.2).length)]) (st := []) (gr := []) (c_J0_checkIndex (E := E) h0 h1) gJ1_charAt_3b067_J0_checkIndex_df160 rfl ysk_J0_checkIndex ⟨by decide, by decide⟩ ⟨by decide, by decide⟩ [] [] 0 rfl (by decide) rfl rfl (Nat.le_of_ble_eq_true rfl) dJ1_charAt_3b067_3 ?_
  rintro _ _ ⟨rfl, rfl⟩
  refine ww_aload_n C dJ1_charAt_3b067_6 rfl 0 rfl ?_
  refine ww_iload_n C dJ1_charAt_3b067_7 rfl 1 rfl ?_
  refine ww_strBl C hq hvp dJ1_charAt_3b067_8 ?_
  refine ww_sipush (v := 255) C dJ1_charAt_3b067_9 (by decide) ?_
  refine ww_iand C dJ1_charAt_3b067_12 ?_
  refine ww_i2c C dJ1_charAt_3b067_13 ?_
  rw [sc_c2, hb]
  refine ww_nret C ?_ ⟨rfl, rfl⟩ dJ1_charAt_3b067_14
  rw [← hb]
  exact sc_nar _
theorem c_J0_charAt {E : Ex} {i : Nat} {q : String × Nat × String} (hq : stTab[i]? = some q) {k : Int32} (hk : inB k (stBy q.2.2).length = true) : Ct E yJ0_charAt_5068e wsJ0_charAt_5068e rmJ0_charAt [.ref (eK E i), .int k] [] (fun rv g => rv = some (.int ((stBy q.2.2).getD k.toNatClampNeg 0)) ∧ g = []) := by
  have hb : (stBy q.2.2).getD k.toNatClampNeg 0 &&& 255 = (stBy q.2.2).getD k.toNatClampNeg 0 := by
    have := st_byte i k.toNatClampNeg
    unfold stL at this
    rw [hq] at this
    exact this
  refine ct_of (own := RJ0) (by decide +kernel) rfl rfl (Nat.le_of_ble_eq_true rfl) (fun K C => ?_)
  refine ww_sub C (lv' := [(0, .ref (eK E i)), (1, .int k)]) [0, 1] rfl ?_
  refine ww_aload_n C dJ0_charAt_5068e_0 rfl 0 rfl ?_
  refine ww_callVs C (As := []) (st := []) hq (c_J0_isLatin1_aae02 (E := E) hq) gJ0_charAt_5068e_J0_isLatin1_aae02 rfl yk_J0_isLatin1 ⟨by decide, by decide⟩ ⟨by decide, by decide⟩ (Nat.le_of_ble_eq_true rfl) dJ0_charAt_5068e_1 ?_
  rintro _ _ ⟨rfl, rfl⟩
  refine ww_if_eq (tgt := 16) C dJ0_charAt_5068e_4 (by decide) (fun h => absurd h (by decide)) (fun _ => ?_)
  refine ww_aload_n C dJ0_charAt_5068e_7 rfl 0 rfl ?_
  refine ww_strV C hq (by decide +kernel) dJ0_charAt_5068e_8 ?_
  refine ww_iload_n C dJ0_charAt_5068e_11 rfl 1 rfl ?_
  refine ww_callS C (As := [.ref (eV E i), .int k]) (st := []) (gr := []) (c_J1_charAt (E := E) hq hk) gJ0_charAt_5068e_J1_charAt_3b067 rfl ysk_J1_charAt ⟨by decide, by decide⟩ ⟨by decide, by decide⟩ [] [] 0 rfl (by decide) rfl rfl (Nat.le_of_ble_eq_true rfl) dJ0_charAt_5068e_12 ?_
  rintro _ _ ⟨rfl, rfl⟩
  refine ww_nret C ?_ ⟨rfl, rfl⟩ dJ0_charAt_5068e_15
  rw [← hb]
  exact sc_nar _
variable {E : Ex} {K : Kx} {cc : ByteArray} {nL : Nat} {ret : Option FieldType} {own : String} {Ts : List Cond} {rm : Room} {cells slots : Nat} {Q : State → Prop} {pc : Nat} {lv : List (Nat × Value)} {st : List Value} {gs : List va_W}
theorem ww_strlen (C : Cx E K cc nL ret own Ts rm) {i : Nat} (h : stOK i = true) {index : Nat} (hG : GoodIn Ts (wsV own index "java/lang/String" yJ0_length_8abf5 wsJ0_length_8abf5)) (hf : 2 ≤ rm.frames) (hlo : 60 ≤ rm.locals) (hroom : cells ≤ rm.cells ∧ slots ≤ rm.slots) (hst : (st.map fun v => v.category).sum ≤ 8) (hd : decode cc pc = .ok (.invokevirtual index, 3)) (kk : WW E K cells slots Q (pc + 3) lv (.int (stLen i) :: st) gs) : WW E K cells slots Q pc lv (.ref (eK E i) :: st) gs := by
  obtain ⟨q, hq, hL⟩ := stOK_q h
  refine ww_callVs C (As := []) (st := st) hq (c_J0_length (E := E) hq) hG rfl yk_J0_length ⟨hf, by show 8 + (1 + 11) + 20 ≤ rm.locals; omega⟩ hroom hst hd ?_
  rintro _ _ ⟨rfl, rfl⟩
  rw [← hL]
  exact kk
theorem ww_strchar (C : Cx E K cc nL ret own Ts rm) {i : Nat} {k : Int32} (h : stOK i = true) (hk : inB k (stL i).length = true) {index : Nat} (hG : GoodIn Ts (wsV own index "java/lang/String" yJ0_charAt_5068e wsJ0_charAt_5068e)) (hf : 4 ≤ rm.frames) (hlo : 100 ≤ rm.locals) (hroom : cells ≤ rm.cells ∧ slots ≤ rm.slots) (hst : (st.map fun v => v.category).sum ≤ 8) (hd : decode cc pc = .ok (.invokevirtual index, 3)) (kk : WW E K cells slots Q (pc + 3) lv (.int (stCh i k) :: st) gs) : WW E K cells slots Q pc lv (.int k :: .ref (eK E i) :: st) gs := by
  obtain ⟨q, hq, hL⟩ := stOK_q h
  rw [hL] at hk
  refine ww_callVs C (As := [.int k]) (st := st) hq (c_J0_charAt (E := E) hq hk) hG rfl yk_J0_charAt ⟨hf, by show 8 + (2 + 11) + 64 ≤ rm.locals; omega⟩ hroom hst hd ?_
  rintro _ _ ⟨rfl, rfl⟩
  rw [← hL]
  exact kk
end WWh
