section WWq
variable {E : Ex} {K : Kx} {cc : ByteArray} {nL : Nat} {ret : Option FieldType} {own : String} {Ts : List Cond} {rm : Room} {cells slots : Nat} {Q : State → Prop} {pc : Nat} {lv : List (Nat × Value)} {st : List Value} {gs : List va_W} {G : Option Value → List va_W → Prop}
theorem ww_lret (C : Cx E K cc nL (some .long) own Ts rm) {v : Int64} (hG : G (some (.long v)) gs) (hd : decode cc pc = .ok (.lreturn, 1)) : WW E K cells slots (QQ E K G cells slots) pc lv [.long v] gs := by
  obtain ⟨p, e, R, s, m, args, below, meth, c, A⟩ := K
  obtain ⟨⟨hx, hb, hml, hr, hown⟩, hts, hlk', hK, hA, hX, hR⟩ := C
  intro H locs ls hP hD hS hl
  rw [QQ_eq]
  exact W.lret (Qc := fun _ => CtR E A G) hx hb hr (fun t ht hW => ⟨⟨_, gs, rfl, hG, by rw [ht]; exact hP, hD⟩, hS.F ht⟩) hS.2.2 hd hlk'
theorem ww_last (C : Cx E K cc nL ret own Ts rm) {a n : Nat} {f : Nat → Int64} {w : va_W} {i : Int32} {x : Int64} {gs' : List va_W} (g k : Nat) (hg : gs[g]? = some w) (hq : w[k]? = some (a, .inl (eJ E, n, .inr (.inl f)))) (hi : vp_in i n) {w' : va_W} (hw' : w.set k (a, .inl (eJ E, n, .inr (.inl (vp_updL f i.toNatClampNeg x)))) = w') (hgs : gs.set g w' = gs') (hd : decode cc pc = .ok (.lastore, 1))
    (kk : WW E K cells slots Q (pc + 1) lv st gs') : WW E K cells slots Q pc lv (.long x :: .int i :: .ref a :: st) gs := by
  obtain ⟨p, e, R, s, m, args, below, meth, c, A⟩ := K
  obtain ⟨⟨hx, hb, hml, hr, hown⟩, hts, hlk', hK, hA, hX, hR⟩ := C
  intro H locs ls hP hD hS hl
  obtain ⟨n, h1, h2⟩ := gs_at gs g w k _ hg hq
  subst hw'
  subst hgs
  exact va_last hx hb hK hP hD hS n 1 h1 rfl hi hd (fun H1 locs1 hP1 hD1 hS1 => kk H1 locs1 ls (by rw [← h2]; exact hP1) (by rw [← h2]; exact hD1) hS1 hl)
theorem ww_ldcSw (C : Cx E K cc nL ret own Ts rm) (i : Nat) {index : Nat} {tx : String} (hq : stTab[i]? = some (own, index, tx)) (hd : decode cc pc = .ok (.ldc_w index, 3)) (kk : WW E K cells slots Q (pc + 3) lv (.ref (eK E i) :: st) gs) : WW E K cells slots Q pc lv st gs := by
  obtain ⟨p, e, R, s, m, args, below, meth, c, A⟩ := K
  obtain ⟨⟨hx, hb, hml, hr, hown⟩, hts, hlk', hK, hA, hX, hR⟩ := C
  intro H locs ls hP hD hS hl T hT X
  obtain ⟨t, a1, b1⟩ := kk H locs ls hP hD hS hl T hT X
  have hZ := (hX.2.1 i _ hq).1
  exact ⟨t, X.ldcStringW hx hown (text := tx) (a := eK E i) hZ.1 hZ.2 (g := F0 m pc ls st) rfl (by rw [hb]; exact hd) t a1, b1⟩
end WWq
abbrev rmL_add : Room := { frames := 2, cells := 0, slots := 0, locals := 47 }
set_option maxHeartbeats 4000000 in
set_option maxRecDepth 100000 in
theorem w_L_add_65 {E : Ex} {K : Kx} (C : Cx E K cL_add 4 none RL wsL_add rmL_add) {a0 : Nat → Nat} {a1 : Nat → Nat} {q2 : Nat} {h0_0 h0_1 h0_2 h0_3 h0_4 h0_5 h0_6 h0_8 h0_9 : Nat} {x2 : Int32} {v0 : GWV}  {r : (ToksV × (Nat → Int32))} : ∀ (n : Nat)  (x3 : Int32) (v1 : ToksV) (v2 : Nat → Int32), L_add_65 x2 v0 n x3 v1 v2 = some r → WW E K 0 0 (QQ E K (fun rv g => rv = none ∧ g = [wGW E a0 (rf10 h0_0 h0_1 h0_2 h0_3 h0_4 h0_5 h0_6 (a1 0) h0_8 h0_9) v0, wToks E a1 r.1, wArr E q2 6 r.2]) 0 0) 65 [(1, .ref q2), (3, .int x3)] [] [wGW E a0 (rf10 h0_0 h0_1 h0_2 h0_3 h0_4 h0_5 h0_6 (a1 0) h0_8 h0_9) v0, wToks E a1 v1, wArr E q2 6 v2] := by
  intro n
  induction n with
  | zero =>
    intro  x3 v1 v2 hf
    simp [L_add_65] at hf
  | succ n ih =>
    intro  x3 v1 v2 hf
    rw [L_add_65] at hf
    refine ww_iload_n C dL_add_65 rfl 1 rfl ?_
    refine ww_iconst (v := 5) C dL_add_66 (by decide) ?_
    refine ww_icmp_ge (tgt := 80) C dL_add_67 (by decide) (fun c_11 => ?_) (fun c_11 => ?_)
    · replace hf := ifT c_11 hf
      obtain rfl := Option.some.inj hf
      exact ww_vret C ⟨rfl, rfl⟩ dL_add_80
    · replace hf := ifF c_11 hf
      refine ww_aload_n C dL_add_70 rfl 0 rfl ?_
      refine ww_iload_n C dL_add_71 rfl 1 rfl ?_
      refine ww_iconst (v := 0) C dL_add_72 (by decide) ?_
      obtain ⟨g_12, hf⟩ := gdE hf
      obtain ⟨v2_73, e_v2_73⟩ : ∃ y : Nat → Int32, y = upd v2 (Int32.toNatClampNeg x3) 0 := ⟨_, rfl⟩
      replace hf := ltE e_v2_73 hf
      refine ww_iast C (f := v2) (w := wArr E q2 6 v2) (w' := wArr E q2 6 v2_73) (gs' := [wGW E a0 (rf10 h0_0 h0_1 h0_2 h0_3 h0_4 h0_5 h0_6 (a1 0) h0_8 h0_9) v0, wToks E a1 v1, wArr E q2 6 v2_73]) 2 0 rfl q_Arr (inB_vp g_12) (by rw [e_v2_73]; exact s_Arr) rfl dL_add_73 ?_
      obtain ⟨x3_74, e_x3_74⟩ : ∃ y : Int32, y = x3 + 1 := ⟨_, rfl⟩
      replace hf := ltE e_x3_74 hf
      refine ww_iinc (v := x3_74) (lv' := [(3, .int x3_74), (1, .ref q2)]) C dL_add_74 1 rfl (by rw [e_x3_74]; rfl) (by decide) rfl ?_
      refine ww_goto (tgt := 65) C dL_add_77 (by decide) ?_
      refine ww_sub C (lv' := [(1, .ref q2), (3, .int x3_74)]) [1, 0] rfl ?_
      exact ih _ _ _ hf

set_option maxHeartbeats 4000000 in
set_option maxRecDepth 100000 in
theorem c_L_add {E : Ex} {a0 : Nat → Nat} {a1 : Nat → Nat} {q2 : Nat} {h0_0 h0_1 h0_2 h0_3 h0_4 h0_5 h0_6 h0_8 h0_9 : Nat} {x2 : Int32} {v0 : GWV} {v1 : ToksV} {v2 : Nat → Int32} {r : (ToksV × (Nat → Int32))} (hf : L_add x2 v0 v1 v2 = some r) : Ct E yL_add wsL_add rmL_add [.ref (a0 0), .ref q2, .int x2] [wGW E a0 (rf10 h0_0 h0_1 h0_2 h0_3 h0_4 h0_5 h0_6 (a1 0) h0_8 h0_9) v0, wToks E a1 v1, wArr E q2 6 v2] (fun rv g => rv = none ∧ g = [wGW E a0 (rf10 h0_0 h0_1 h0_2 h0_3 h0_4 h0_5 h0_6 (a1 0) h0_8 h0_9) v0, wToks E a1 r.1, wArr E q2 6 r.2]) := by
  refine ct_of (own := RL) (by decide +kernel) rfl rfl (Nat.le_of_ble_eq_true rfl) (fun K C => ?_)
  refine ww_sub C (lv' := [(0, .ref (a0 0)), (1, .ref q2), (2, .int x2)]) [0, 1, 2] rfl ?_
  rw [L_add] at hf
  refine ww_aload_n C dL_add_0 rfl 1 rfl ?_
  refine ww_aload_n C dL_add_1 rfl 1 rfl ?_
  refine ww_iconst (v := 5) C dL_add_2 (by decide) ?_
  obtain ⟨g_1, hf⟩ := gdE hf
  refine ww_iald C (f := v2) (w := wArr E q2 6 v2) 2 0 rfl q_Arr (inB_vp g_1) dL_add_3 ?_
  refine ww_bipush (v := 20) C dL_add_4 (by decide) ?_
  obtain ⟨g_2, hf⟩ := gdE hf
  refine ww_irem C dL_add_6 (nz_ne g_2) ?_
  refine ww_iconst (v := 4) C dL_add_7 (by decide) ?_
  obtain ⟨g_3, hf⟩ := gdE hf
  refine ww_idiv C dL_add_8 (nz_ne g_3) ?_
  refine ww_dup2 C dL_add_9 rfl rfl ?_
  obtain ⟨g_4, hf⟩ := gdE hf
  refine ww_iald C (f := v2) (w := wArr E q2 6 v2) 2 0 rfl q_Arr (inB_vp g_4) dL_add_10 ?_
  refine ww_iload_n C dL_add_11 rfl 2 rfl ?_
  refine ww_bipush (v := 24) C dL_add_12 (by decide) ?_
  refine ww_bipush (v := 8) C dL_add_14 (by decide) ?_
  refine ww_aload_n C dL_add_16 rfl 1 rfl ?_
  refine ww_iconst (v := 5) C dL_add_17 (by decide) ?_
  refine ww_iald C (f := v2) (w := wArr E q2 6 v2) 2 0 rfl q_Arr (inB_vp g_1) dL_add_18 ?_
  refine ww_iconst (v := 4) C dL_add_19 (by decide) ?_
  refine ww_irem C dL_add_20 (nz_ne g_3) ?_
  refine ww_imul C dL_add_21 ?_
  refine ww_isub C dL_add_22 ?_
  refine ww_ishl C dL_add_23 ?_
  refine ww_ior C dL_add_24 ?_
  obtain ⟨v2_25, e_v2_25⟩ : ∃ y : Nat → Int32, y = upd v2 (Int32.toNatClampNeg (((v2 (Int32.toNatClampNeg 5)) - (v2 (Int32.toNatClampNeg 5)) / 20 * 20) / 4)) ((v2 (Int32.toNatClampNeg (((v2 (Int32.toNatClampNeg 5)) - (v2 (Int32.toNatClampNeg 5)) / 20 * 20) / 4))) ||| (x2 <<< ((24 - (8 * ((v2 (Int32.toNatClampNeg 5)) - (v2 (Int32.toNatClampNeg 5)) / 4 * 4))) &&& 31))) := ⟨_, rfl⟩
  replace hf := ltE e_v2_25 hf
  refine ww_iast C (f := v2) (w := wArr E q2 6 v2) (w' := wArr E q2 6 v2_25) (gs' := [wGW E a0 (rf10 h0_0 h0_1 h0_2 h0_3 h0_4 h0_5 h0_6 (a1 0) h0_8 h0_9) v0, wToks E a1 v1, wArr E q2 6 v2_25]) 2 0 rfl q_Arr (inB_vp g_4) (by rw [e_v2_25]; exact s_Arr) rfl dL_add_25 ?_
  refine ww_aload_n C dL_add_26 rfl 1 rfl ?_
  refine ww_iconst (v := 5) C dL_add_27 (by decide) ?_
  refine ww_dup2 C dL_add_28 rfl rfl ?_
  refine ww_iald C (f := v2_25) (w := wArr E q2 6 v2_25) 2 0 rfl q_Arr (inB_vp g_1) dL_add_29 ?_
  refine ww_iconst (v := 1) C dL_add_30 (by decide) ?_
  refine ww_iadd C dL_add_31 ?_
  obtain ⟨v2_32, e_v2_32⟩ : ∃ y : Nat → Int32, y = upd v2_25 (Int32.toNatClampNeg 5) ((v2_25 (Int32.toNatClampNeg 5)) + 1) := ⟨_, rfl⟩
  replace hf := ltE e_v2_32 hf
  refine ww_iast C (f := v2_25) (w := wArr E q2 6 v2_25) (w' := wArr E q2 6 v2_32) (gs' := [wGW E a0 (rf10 h0_0 h0_1 h0_2 h0_3 h0_4 h0_5 h0_6 (a1 0) h0_8 h0_9) v0, wToks E a1 v1, wArr E q2 6 v2_32]) 2 0 rfl q_Arr (inB_vp g_1) (by rw [e_v2_32]; exact s_Arr) rfl dL_add_32 ?_
  refine ww_aload_n C dL_add_33 rfl 1 rfl ?_
  refine ww_iconst (v := 5) C dL_add_34 (by decide) ?_
  refine ww_iald C (f := v2_32) (w := wArr E q2 6 v2_32) 2 0 rfl q_Arr (inB_vp g_1) dL_add_35 ?_
  refine ww_bipush (v := 20) C dL_add_36 (by decide) ?_
  refine ww_irem C dL_add_38 (nz_ne g_2) ?_
  refine ww_if_eq (tgt := 43) C dL_add_39 (by decide) (fun c_5 => ?_) (fun c_5 => ?_)
  · replace hf := ifT c_5 hf
    refine ww_aload_n C dL_add_43 rfl 0 rfl ?_
    refine ww_aload_n C dL_add_44 rfl 1 rfl ?_
    refine ww_iconst (v := 0) C dL_add_45 (by decide) ?_
    obtain ⟨g_6, hf⟩ := gdE hf
    refine ww_iald C (f := v2_32) (w := wArr E q2 6 v2_32) 2 0 rfl q_Arr (inB_vp g_6) dL_add_46 ?_
    refine ww_aload_n C dL_add_47 rfl 1 rfl ?_
    refine ww_iconst (v := 1) C dL_add_48 (by decide) ?_
    obtain ⟨g_7, hf⟩ := gdE hf
    refine ww_iald C (f := v2_32) (w := wArr E q2 6 v2_32) 2 0 rfl q_Arr (inB_vp g_7) dL_add_49 ?_
    refine ww_aload_n C dL_add_50 rfl 1 rfl ?_
    refine ww_iconst (v := 2) C dL_add_51 (by decide) ?_
    obtain ⟨g_8, hf⟩ := gdE hf
    refine ww_iald C (f := v2_32) (w := wArr E q2 6 v2_32) 2 0 rfl q_Arr (inB_vp g_8) dL_add_52 ?_
    refine ww_aload_n C dL_add_53 rfl 1 rfl ?_
    refine ww_iconst (v := 3) C dL_add_54 (by decide) ?_
    obtain ⟨g_9, hf⟩ := gdE hf
    refine ww_iald C (f := v2_32) (w := wArr E q2 6 v2_32) 2 0 rfl q_Arr (inB_vp g_9) dL_add_55 ?_
    refine ww_aload_n C dL_add_56 rfl 1 rfl ?_
    refine ww_iconst (v := 4) C dL_add_57 (by decide) ?_
    obtain ⟨g_10, hf⟩ := gdE hf
    refine ww_iald C (f := v2_32) (w := wArr E q2 6 v2_32) 2 0 rfl q_Arr (inB_vp g_10) dL_add_58 ?_
    obtain ⟨p59, hp59, hf⟩ := bdE hf
    refine ww_callV C (As := [.int (v2_32 (Int32.toNatClampNeg 0)), .int (v2_32 (Int32.toNatClampNeg 1)), .int (v2_32 (Int32.toNatClampNeg 2)), .int (v2_32 (Int32.toNatClampNeg 3)), .int (v2_32 (Int32.toNatClampNeg 4))]) (st := []) (gr := [wArr E q2 6 v2_32]) (c_X8_feed (E := E) (a0 := a0) (h0_0 := h0_0) (h0_1 := h0_1) (h0_2 := h0_2) (h0_3 := h0_3) (h0_4 := h0_4) (h0_5 := h0_5) (h0_6 := h0_6) (h0_8 := h0_8) (h0_9 := h0_9) (a1 := a1) hp59) gL_add_X8_feed rfl yk_X8_feed ⟨by decide, Nat.le_of_ble_eq_true rfl⟩ ⟨by decide, by decide⟩ clOK8 0 0 rfl rfl [0, 1] [2] 3 rfl (by decide) rfl rfl (Nat.le_of_ble_eq_true rfl) dL_add_59 ?_
    rintro _ _ ⟨rfl, rfl⟩
    refine ww_perm (gs' := [wGW E a0 (rf10 h0_0 h0_1 h0_2 h0_3 h0_4 h0_5 h0_6 (a1 0) h0_8 h0_9) v0, wToks E a1 p59.2, wArr E q2 6 v2_32]) [0, 1, 2] 3 rfl (by decide) rfl ?_
    refine ww_pop C dL_add_62 rfl ?_
    refine ww_iconst (v := 0) C dL_add_63 (by decide) ?_
    refine ww_istore_n (lv' := [(3, .int 0), (0, .ref (a0 0)), (1, .ref q2), (2, .int x2)]) C dL_add_64 rfl (by decide) rfl ?_
    refine ww_sub C (lv' := [(1, .ref q2), (3, .int 0)]) [2, 0] rfl ?_
    exact w_L_add_65 C FU _ _ _ hf
  · replace hf := ifF c_5 hf
    obtain rfl := Option.some.inj hf
    exact ww_vret C ⟨rfl, rfl⟩ dL_add_42

theorem ysk_L_add : yL_add.cls ≠ "java/lang/invoke/MethodHandle" ∧ yL_add.cls ≠ "java/lang/invoke/VarHandle" ∧ (parseMethodDescriptor yL_add.desc).map (fun d => d.parameters.length) = some 3 := by decide +kernel
abbrev rmL_number : Room := { frames := 3, cells := 0, slots := 0, locals := 70 }
set_option maxHeartbeats 4000000 in
set_option maxRecDepth 100000 in
theorem w_L_number_18 {E : Ex} {K : Kx} (C : Cx E K cL_number 4 none RL wsL_number rmL_number) {a0 : Nat → Nat} {a1 : Nat → Nat} {q2 : Nat} {h0_0 h0_1 h0_2 h0_3 h0_4 h0_5 h0_6 h0_8 h0_9 : Nat} {x2 : Int32} {v0 : GWV}  {r : (ToksV × (Nat → Int32))} : ∀ (n : Nat)  (x3 : Int32) (v1 : ToksV) (v2 : Nat → Int32), L_number_18 x2 v0 n x3 v1 v2 = some r → WW E K 0 0 (QQ E K (fun rv g => rv = none ∧ g = [wGW E a0 (rf10 h0_0 h0_1 h0_2 h0_3 h0_4 h0_5 h0_6 (a1 0) h0_8 h0_9) v0, wToks E a1 r.1, wArr E q2 6 r.2]) 0 0) 18 [(0, .ref (a0 0)), (1, .ref q2), (2, .int x2), (3, .int x3)] [] [wGW E a0 (rf10 h0_0 h0_1 h0_2 h0_3 h0_4 h0_5 h0_6 (a1 0) h0_8 h0_9) v0, wToks E a1 v1, wArr E q2 6 v2] := by
  intro n
  induction n with
  | zero =>
    intro  x3 v1 v2 hf
    simp [L_number_18] at hf
  | succ n ih =>
    intro  x3 v1 v2 hf
    rw [L_number_18] at hf
    refine ww_iload_n C dL_number_18 rfl 3 rfl ?_
    refine ww_if_le (tgt := 44) C dL_number_19 (by decide) (fun c_4 => ?_) (fun c_4 => ?_)
    · replace hf := ifT c_4 hf
      obtain rfl := Option.some.inj hf
      exact ww_vret C ⟨rfl, rfl⟩ dL_number_44
    · replace hf := ifF c_4 hf
      refine ww_aload_n C dL_number_22 rfl 0 rfl ?_
      refine ww_aload_n C dL_number_23 rfl 1 rfl ?_
      refine ww_bipush (v := 48) C dL_number_24 (by decide) ?_
      refine ww_iload_n C dL_number_26 rfl 2 rfl ?_
      refine ww_iload_n C dL_number_27 rfl 3 rfl ?_
      obtain ⟨g_5, hf⟩ := gdE hf
      refine ww_idiv C dL_number_28 (nz_ne g_5) ?_
      refine ww_bipush (v := 10) C dL_number_29 (by decide) ?_
      obtain ⟨g_6, hf⟩ := gdE hf
      refine ww_irem C dL_number_31 (nz_ne g_6) ?_
      refine ww_iadd C dL_number_32 ?_
      obtain ⟨p33, hp33, hf⟩ := bdE hf
      refine ww_callS C (As := [.ref (a0 0), .ref q2, .int (48 + ((x2 / x3) - (x2 / x3) / 10 * 10))]) (st := []) (gr := []) (c_L_add (E := E) (a0 := a0) (h0_0 := h0_0) (h0_1 := h0_1) (h0_2 := h0_2) (h0_3 := h0_3) (h0_4 := h0_4) (h0_5 := h0_5) (h0_6 := h0_6) (h0_8 := h0_8) (h0_9 := h0_9) (a1 := a1) (q2 := q2) hp33) gL_number_L_add rfl ysk_L_add ⟨by decide, Nat.le_of_ble_eq_true rfl⟩ ⟨by decide, by decide⟩ [0, 1, 2] [] 3 rfl (by decide) rfl rfl (Nat.le_of_ble_eq_true rfl) dL_number_33 ?_
      rintro _ _ ⟨rfl, rfl⟩
      refine ww_perm (gs' := [wGW E a0 (rf10 h0_0 h0_1 h0_2 h0_3 h0_4 h0_5 h0_6 (a1 0) h0_8 h0_9) v0, wToks E a1 p33.1, wArr E q2 6 p33.2]) [0, 1, 2] 3 rfl (by decide) rfl ?_
      refine ww_iload_n C dL_number_36 rfl 3 rfl ?_
      refine ww_bipush (v := 10) C dL_number_37 (by decide) ?_
      refine ww_idiv C dL_number_39 (nz_ne g_6) ?_
      refine ww_topi (fun x3_40 e_x3_40 => ?_)
      replace hf := ltE e_x3_40 hf
      refine ww_istore_n (lv' := [(3, .int x3_40), (0, .ref (a0 0)), (1, .ref q2), (2, .int x2)]) C dL_number_40 rfl (by decide) rfl ?_
      refine ww_goto (tgt := 18) C dL_number_41 (by decide) ?_
      refine ww_sub C (lv' := [(0, .ref (a0 0)), (1, .ref q2), (2, .int x2), (3, .int x3_40)]) [1, 2, 3, 0] rfl ?_
      exact ih _ _ _ hf

set_option maxHeartbeats 4000000 in
set_option maxRecDepth 100000 in
theorem w_L_number_2 {E : Ex} {K : Kx} (C : Cx E K cL_number 4 none RL wsL_number rmL_number) {a0 : Nat → Nat} {a1 : Nat → Nat} {q2 : Nat} {h0_0 h0_1 h0_2 h0_3 h0_4 h0_5 h0_6 h0_8 h0_9 : Nat} {x2 : Int32} {v0 : GWV}  {r : (ToksV × (Nat → Int32))} : ∀ (n : Nat)  (x3 : Int32) (v1 : ToksV) (v2 : Nat → Int32), L_number_2 x2 v0 n x3 v1 v2 = some r → WW E K 0 0 (QQ E K (fun rv g => rv = none ∧ g = [wGW E a0 (rf10 h0_0 h0_1 h0_2 h0_3 h0_4 h0_5 h0_6 (a1 0) h0_8 h0_9) v0, wToks E a1 r.1, wArr E q2 6 r.2]) 0 0) 2 [(0, .ref (a0 0)), (1, .ref q2), (2, .int x2), (3, .int x3)] [] [wGW E a0 (rf10 h0_0 h0_1 h0_2 h0_3 h0_4 h0_5 h0_6 (a1 0) h0_8 h0_9) v0, wToks E a1 v1, wArr E q2 6 v2] := by
  intro n
  induction n with
  | zero =>
    intro  x3 v1 v2 hf
    simp [L_number_2] at hf
  | succ n ih =>
    intro  x3 v1 v2 hf
    rw [L_number_2] at hf
    refine ww_iload_n C dL_number_2 rfl 3 rfl ?_
    refine ww_iload_n C dL_number_3 rfl 2 rfl ?_
    refine ww_bipush (v := 10) C dL_number_4 (by decide) ?_
    obtain ⟨g_1, hf⟩ := gdE hf
    refine ww_idiv C dL_number_6 (nz_ne g_1) ?_
    refine ww_icmp_gt (tgt := 18) C dL_number_7 (by decide) (fun c_2 => ?_) (fun c_2 => ?_)
    · replace hf := ifT c_2 hf
      refine ww_sub C (lv' := [(0, .ref (a0 0)), (1, .ref q2), (2, .int x2), (3, .int x3)]) [0, 1, 2, 3] rfl ?_
      exact w_L_number_18 C FU _ _ _ hf
    · replace hf := ifF c_2 hf
      refine ww_iload_n C dL_number_10 rfl 3 rfl ?_
      refine ww_bipush (v := 10) C dL_number_11 (by decide) ?_
      refine ww_imul C dL_number_13 ?_
      refine ww_topi (fun x3_14 e_x3_14 => ?_)
      replace hf := ltE e_x3_14 hf
      refine ww_istore_n (lv' := [(3, .int x3_14), (0, .ref (a0 0)), (1, .ref q2), (2, .int x2)]) C dL_number_14 rfl (by decide) rfl ?_
      refine ww_goto (tgt := 2) C dL_number_15 (by decide) ?_
      refine ww_sub C (lv' := [(0, .ref (a0 0)), (1, .ref q2), (2, .int x2), (3, .int x3_14)]) [1, 2, 3, 0] rfl ?_
      exact ih _ _ _ hf

set_option maxHeartbeats 4000000 in
set_option maxRecDepth 100000 in
theorem c_L_number {E : Ex} {a0 : Nat → Nat} {a1 : Nat → Nat} {q2 : Nat} {h0_0 h0_1 h0_2 h0_3 h0_4 h0_5 h0_6 h0_8 h0_9 : Nat} {x2 : Int32} {v0 : GWV} {v1 : ToksV} {v2 : Nat → Int32} {r : (ToksV × (Nat → Int32))} (hf : L_number x2 v0 v1 v2 = some r) : Ct E yL_number wsL_number rmL_number [.ref (a0 0), .ref q2, .int x2] [wGW E a0 (rf10 h0_0 h0_1 h0_2 h0_3 h0_4 h0_5 h0_6 (a1 0) h0_8 h0_9) v0, wToks E a1 v1, wArr E q2 6 v2] (fun rv g => rv = none ∧ g = [wGW E a0 (rf10 h0_0 h0_1 h0_2 h0_3 h0_4 h0_5 h0_6 (a1 0) h0_8 h0_9) v0, wToks E a1 r.1, wArr E q2 6 r.2]) := by
  refine ct_of (own := RL) (by decide +kernel) rfl rfl (Nat.le_of_ble_eq_true rfl) (fun K C => ?_)
  refine ww_sub C (lv' := [(0, .ref (a0 0)), (1, .ref q2), (2, .int x2)]) [0, 1, 2] rfl ?_
  rw [L_number] at hf
  refine ww_iconst (v := 1) C dL_number_0 (by decide) ?_
  refine ww_istore_n (lv' := [(3, .int 1), (0, .ref (a0 0)), (1, .ref q2), (2, .int x2)]) C dL_number_1 rfl (by decide) rfl ?_
  refine ww_sub C (lv' := [(0, .ref (a0 0)), (1, .ref q2), (2, .int x2), (3, .int 1)]) [1, 2, 3, 0] rfl ?_
  exact w_L_number_2 C FU _ _ _ hf

theorem ysk_L_number : yL_number.cls ≠ "java/lang/invoke/MethodHandle" ∧ yL_number.cls ≠ "java/lang/invoke/VarHandle" ∧ (parseMethodDescriptor yL_number.desc).map (fun d => d.parameters.length) = some 3 := by decide +kernel
abbrev rmL_end : Room := { frames := 3, cells := 0, slots := 0, locals := 70 }
set_option maxHeartbeats 4000000 in
set_option maxRecDepth 100000 in
theorem w_L_end_4 {E : Ex} {K : Kx} (C : Cx E K cL_end 3 (some .int) RL wsL_end rmL_end) {a0 : Nat → Nat} {a1 : Nat → Nat} {q2 : Nat} {h0_0 h0_1 h0_2 h0_3 h0_4 h0_5 h0_6 h0_8 h0_9 : Nat} {v0 : GWV} {x2 : Int32} {r : (Int32 × ToksV × (Nat → Int32))} : ∀ (n : Nat)  (v1 : ToksV) (v2 : Nat → Int32), L_end_4 v0 x2 n v1 v2 = some r → WW E K 0 0 (QQ E K (fun rv g => rv = some (.int r.1) ∧ g = [wGW E a0 (rf10 h0_0 h0_1 h0_2 h0_3 h0_4 h0_5 h0_6 (a1 0) h0_8 h0_9) v0, wToks E a1 r.2.1, wArr E q2 6 r.2.2]) 0 0) 4 [(0, .ref (a0 0)), (1, .ref q2), (2, .int x2)] [] [wGW E a0 (rf10 h0_0 h0_1 h0_2 h0_3 h0_4 h0_5 h0_6 (a1 0) h0_8 h0_9) v0, wToks E a1 v1, wArr E q2 6 v2] := by
  intro n
  induction n with
  | zero =>
    intro  v1 v2 hf
    simp [L_end_4] at hf
  | succ n ih =>
    intro  v1 v2 hf
    rw [L_end_4] at hf
    refine ww_aload_n C dL_end_4 rfl 1 rfl ?_
    refine ww_iconst (v := 5) C dL_end_5 (by decide) ?_
    obtain ⟨g_3, hf⟩ := gdE hf
    refine ww_iald C (f := v2) (w := wArr E q2 6 v2) 2 0 rfl q_Arr (inB_vp g_3) dL_end_6 ?_
    refine ww_bipush (v := 20) C dL_end_7 (by decide) ?_
    obtain ⟨g_4, hf⟩ := gdE hf
    refine ww_irem C dL_end_9 (nz_ne g_4) ?_
    refine ww_if_eq (tgt := 23) C dL_end_10 (by decide) (fun c_5 => ?_) (fun c_5 => ?_)
    · replace hf := ifT c_5 hf
      refine ww_aload_n C dL_end_23 rfl 1 rfl ?_
      refine ww_iconst (v := 5) C dL_end_24 (by decide) ?_
      refine ww_iconst (v := 0) C dL_end_25 (by decide) ?_
      obtain ⟨v2_26, e_v2_26⟩ : ∃ y : Nat → Int32, y = upd v2 (Int32.toNatClampNeg 5) 0 := ⟨_, rfl⟩
      replace hf := ltE e_v2_26 hf
      refine ww_iast C (f := v2) (w := wArr E q2 6 v2) (w' := wArr E q2 6 v2_26) (gs' := [wGW E a0 (rf10 h0_0 h0_1 h0_2 h0_3 h0_4 h0_5 h0_6 (a1 0) h0_8 h0_9) v0, wToks E a1 v1, wArr E q2 6 v2_26]) 2 0 rfl q_Arr (inB_vp g_3) (by rw [e_v2_26]; exact s_Arr) rfl dL_end_26 ?_
      refine ww_iload_n C dL_end_27 rfl 2 rfl ?_
      obtain rfl := Option.some.inj hf
      exact ww_iret C ⟨rfl, rfl⟩ dL_end_28
    · replace hf := ifF c_5 hf
      refine ww_aload_n C dL_end_13 rfl 0 rfl ?_
      refine ww_aload_n C dL_end_14 rfl 1 rfl ?_
      refine ww_bipush (v := 32) C dL_end_15 (by decide) ?_
      obtain ⟨p17, hp17, hf⟩ := bdE hf
      refine ww_callS C (As := [.ref (a0 0), .ref q2, .int 32]) (st := []) (gr := []) (c_L_add (E := E) (a0 := a0) (h0_0 := h0_0) (h0_1 := h0_1) (h0_2 := h0_2) (h0_3 := h0_3) (h0_4 := h0_4) (h0_5 := h0_5) (h0_6 := h0_6) (h0_8 := h0_8) (h0_9 := h0_9) (a1 := a1) (q2 := q2) hp17) gL_end_L_add rfl ysk_L_add ⟨by decide, Nat.le_of_ble_eq_true rfl⟩ ⟨by decide, by decide⟩ [0, 1, 2] [] 3 rfl (by decide) rfl rfl (Nat.le_of_ble_eq_true rfl) dL_end_17 ?_
      rintro _ _ ⟨rfl, rfl⟩
      refine ww_perm (gs' := [wGW E a0 (rf10 h0_0 h0_1 h0_2 h0_3 h0_4 h0_5 h0_6 (a1 0) h0_8 h0_9) v0, wToks E a1 p17.1, wArr E q2 6 p17.2]) [0, 1, 2] 3 rfl (by decide) rfl ?_
      refine ww_goto (tgt := 4) C dL_end_20 (by decide) ?_
      refine ww_sub C (lv' := [(0, .ref (a0 0)), (1, .ref q2), (2, .int x2)]) [0, 1, 2] rfl ?_
      exact ih _ _ hf

set_option maxHeartbeats 4000000 in
set_option maxRecDepth 100000 in
theorem c_L_end {E : Ex} {a0 : Nat → Nat} {a1 : Nat → Nat} {q2 : Nat} {h0_0 h0_1 h0_2 h0_3 h0_4 h0_5 h0_6 h0_8 h0_9 : Nat} {v0 : GWV} {v1 : ToksV} {v2 : Nat → Int32} {r : (Int32 × ToksV × (Nat → Int32))} (hf : L_end v0 v1 v2 = some r) : Ct E yL_end wsL_end rmL_end [.ref (a0 0), .ref q2] [wGW E a0 (rf10 h0_0 h0_1 h0_2 h0_3 h0_4 h0_5 h0_6 (a1 0) h0_8 h0_9) v0, wToks E a1 v1, wArr E q2 6 v2] (fun rv g => rv = some (.int r.1) ∧ g = [wGW E a0 (rf10 h0_0 h0_1 h0_2 h0_3 h0_4 h0_5 h0_6 (a1 0) h0_8 h0_9) v0, wToks E a1 r.2.1, wArr E q2 6 r.2.2]) := by
  refine ct_of (own := RL) (by decide +kernel) rfl rfl (Nat.le_of_ble_eq_true rfl) (fun K C => ?_)
  refine ww_sub C (lv' := [(0, .ref (a0 0)), (1, .ref q2)]) [0, 1] rfl ?_
  rw [L_end] at hf
  refine ww_aload_n C dL_end_0 rfl 1 rfl ?_
  refine ww_iconst (v := 5) C dL_end_1 (by decide) ?_
  obtain ⟨g_1, hf⟩ := gdE hf
  refine ww_iald C (f := v2) (w := wArr E q2 6 v2) 2 0 rfl q_Arr (inB_vp g_1) dL_end_2 ?_
  refine ww_topi (fun x2_3 e_x2_3 => ?_)
  replace hf := ltE e_x2_3 hf
  refine ww_istore_n (lv' := [(2, .int x2_3), (0, .ref (a0 0)), (1, .ref q2)]) C dL_end_3 rfl (by decide) rfl ?_
  refine ww_sub C (lv' := [(0, .ref (a0 0)), (1, .ref q2), (2, .int x2_3)]) [1, 2, 0] rfl ?_
  exact w_L_end_4 C FU _ _ hf

theorem ysk_L_end : yL_end.cls ≠ "java/lang/invoke/MethodHandle" ∧ yL_end.cls ≠ "java/lang/invoke/VarHandle" ∧ (parseMethodDescriptor yL_end.desc).map (fun d => d.parameters.length) = some 2 := by decide +kernel
abbrev rmL_word : Room := { frames := 5, cells := 0, slots := 0, locals := 200 }
set_option maxHeartbeats 4000000 in
set_option maxRecDepth 100000 in
theorem w_L_word_2 {E : Ex} {K : Kx} (C : Cx E K cL_word 4 none RL wsL_word rmL_word) {a0 : Nat → Nat} {a1 : Nat → Nat} {q2 : Nat} {h0_0 h0_1 h0_2 h0_3 h0_4 h0_5 h0_6 h0_8 h0_9 : Nat} {x2 : Nat} {v0 : GWV}  {r : (ToksV × (Nat → Int32))} : ∀ (n : Nat)  (x3 : Int32) (v1 : ToksV) (v2 : Nat → Int32), L_word_2 x2 v0 n x3 v1 v2 = some r → WW E K 0 0 (QQ E K (fun rv g => rv = none ∧ g = [wGW E a0 (rf10 h0_0 h0_1 h0_2 h0_3 h0_4 h0_5 h0_6 (a1 0) h0_8 h0_9) v0, wToks E a1 r.1, wArr E q2 6 r.2]) 0 0) 2 [(0, .ref (a0 0)), (1, .ref q2), (2, .ref (eK E x2)), (3, .int x3)] [] [wGW E a0 (rf10 h0_0 h0_1 h0_2 h0_3 h0_4 h0_5 h0_6 (a1 0) h0_8 h0_9) v0, wToks E a1 v1, wArr E q2 6 v2] := by
  intro n
  induction n with
  | zero =>
    intro  x3 v1 v2 hf
    simp [L_word_2] at hf
  | succ n ih =>
    intro  x3 v1 v2 hf
    rw [L_word_2] at hf
    refine ww_iload_n C dL_word_2 rfl 3 rfl ?_
    refine ww_aload_n C dL_word_3 rfl 2 rfl ?_
    obtain ⟨g_1, hf⟩ := gdE hf
    refine ww_strlen C g_1 gL_word_J0_length_8abf5 (by decide) (by decide) ⟨by decide, by decide⟩ (Nat.le_of_ble_eq_true rfl) dL_word_4 ?_
    refine ww_icmp_ge (tgt := 26) C dL_word_7 (by decide) (fun c_2 => ?_) (fun c_2 => ?_)
    · replace hf := ifT c_2 hf
      obtain rfl := Option.some.inj hf
      exact ww_vret C ⟨rfl, rfl⟩ dL_word_26
    · replace hf := ifF c_2 hf
      refine ww_aload_n C dL_word_10 rfl 0 rfl ?_
      refine ww_aload_n C dL_word_11 rfl 1 rfl ?_
      refine ww_aload_n C dL_word_12 rfl 2 rfl ?_
      refine ww_iload_n C dL_word_13 rfl 3 rfl ?_
      obtain ⟨g_3, hf⟩ := gdE hf
      refine ww_strchar C g_1 g_3 gL_word_J0_charAt_5068e (by decide) (by decide) ⟨by decide, by decide⟩ (Nat.le_of_ble_eq_true rfl) dL_word_14 ?_
      obtain ⟨p17, hp17, hf⟩ := bdE hf
      refine ww_callS C (As := [.ref (a0 0), .ref q2, .int (stCh x2 x3)]) (st := []) (gr := []) (c_L_add (E := E) (a0 := a0) (h0_0 := h0_0) (h0_1 := h0_1) (h0_2 := h0_2) (h0_3 := h0_3) (h0_4 := h0_4) (h0_5 := h0_5) (h0_6 := h0_6) (h0_8 := h0_8) (h0_9 := h0_9) (a1 := a1) (q2 := q2) hp17) gL_word_L_add rfl ysk_L_add ⟨by decide, Nat.le_of_ble_eq_true rfl⟩ ⟨by decide, by decide⟩ [0, 1, 2] [] 3 rfl (by decide) rfl rfl (Nat.le_of_ble_eq_true rfl) dL_word_17 ?_
      rintro _ _ ⟨rfl, rfl⟩
      refine ww_perm (gs' := [wGW E a0 (rf10 h0_0 h0_1 h0_2 h0_3 h0_4 h0_5 h0_6 (a1 0) h0_8 h0_9) v0, wToks E a1 p17.1, wArr E q2 6 p17.2]) [0, 1, 2] 3 rfl (by decide) rfl ?_
      obtain ⟨x3_20, e_x3_20⟩ : ∃ y : Int32, y = x3 + 1 := ⟨_, rfl⟩
      replace hf := ltE e_x3_20 hf
      refine ww_iinc (v := x3_20) (lv' := [(3, .int x3_20), (0, .ref (a0 0)), (1, .ref q2), (2, .ref (eK E x2))]) C dL_word_20 3 rfl (by rw [e_x3_20]; rfl) (by decide) rfl ?_
      refine ww_goto (tgt := 2) C dL_word_23 (by decide) ?_
      refine ww_sub C (lv' := [(0, .ref (a0 0)), (1, .ref q2), (2, .ref (eK E x2)), (3, .int x3_20)]) [1, 2, 3, 0] rfl ?_
      exact ih _ _ _ hf

set_option maxHeartbeats 4000000 in
set_option maxRecDepth 100000 in
theorem c_L_word {E : Ex} {a0 : Nat → Nat} {a1 : Nat → Nat} {q2 : Nat} {h0_0 h0_1 h0_2 h0_3 h0_4 h0_5 h0_6 h0_8 h0_9 : Nat} {x2 : Nat} {v0 : GWV} {v1 : ToksV} {v2 : Nat → Int32} {r : (ToksV × (Nat → Int32))} (hf : L_word x2 v0 v1 v2 = some r) : Ct E yL_word wsL_word rmL_word [.ref (a0 0), .ref q2, .ref (eK E x2)] [wGW E a0 (rf10 h0_0 h0_1 h0_2 h0_3 h0_4 h0_5 h0_6 (a1 0) h0_8 h0_9) v0, wToks E a1 v1, wArr E q2 6 v2] (fun rv g => rv = none ∧ g = [wGW E a0 (rf10 h0_0 h0_1 h0_2 h0_3 h0_4 h0_5 h0_6 (a1 0) h0_8 h0_9) v0, wToks E a1 r.1, wArr E q2 6 r.2]) := by
  refine ct_of (own := RL) (by decide +kernel) rfl rfl (Nat.le_of_ble_eq_true rfl) (fun K C => ?_)
  refine ww_sub C (lv' := [(0, .ref (a0 0)), (1, .ref q2), (2, .ref (eK E x2))]) [0, 1, 2] rfl ?_
  rw [L_word] at hf
  refine ww_iconst (v := 0) C dL_word_0 (by decide) ?_
  refine ww_istore_n (lv' := [(3, .int 0), (0, .ref (a0 0)), (1, .ref q2), (2, .ref (eK E x2))]) C dL_word_1 rfl (by decide) rfl ?_
  refine ww_sub C (lv' := [(0, .ref (a0 0)), (1, .ref q2), (2, .ref (eK E x2)), (3, .int 0)]) [1, 2, 3, 0] rfl ?_
  exact w_L_word_2 C FU _ _ _ hf

theorem ysk_L_word : yL_word.cls ≠ "java/lang/invoke/MethodHandle" ∧ yL_word.cls ≠ "java/lang/invoke/VarHandle" ∧ (parseMethodDescriptor yL_word.desc).map (fun d => d.parameters.length) = some 3 := by decide +kernel
abbrev rmL_with : Room := { frames := 6, cells := 0, slots := 0, locals := 223 }
set_option maxHeartbeats 4000000 in
set_option maxRecDepth 100000 in
theorem c_L_with {E : Ex} {a0 : Nat → Nat} {a1 : Nat → Nat} {q2 : Nat} {h0_0 h0_1 h0_2 h0_3 h0_4 h0_5 h0_6 h0_8 h0_9 : Nat} {x2 : Nat} {x3 : Int32} {v0 : GWV} {v1 : ToksV} {v2 : Nat → Int32} {r : (ToksV × (Nat → Int32))} (hf : L_with x2 x3 v0 v1 v2 = some r) : Ct E yL_with wsL_with rmL_with [.ref (a0 0), .ref q2, .ref (eK E x2), .int x3] [wGW E a0 (rf10 h0_0 h0_1 h0_2 h0_3 h0_4 h0_5 h0_6 (a1 0) h0_8 h0_9) v0, wToks E a1 v1, wArr E q2 6 v2] (fun rv g => rv = none ∧ g = [wGW E a0 (rf10 h0_0 h0_1 h0_2 h0_3 h0_4 h0_5 h0_6 (a1 0) h0_8 h0_9) v0, wToks E a1 r.1, wArr E q2 6 r.2]) := by
  refine ct_of (own := RL) (by decide +kernel) rfl rfl (Nat.le_of_ble_eq_true rfl) (fun K C => ?_)
  refine ww_sub C (lv' := [(0, .ref (a0 0)), (1, .ref q2), (2, .ref (eK E x2)), (3, .int x3)]) [0, 1, 2, 3] rfl ?_
  rw [L_with] at hf
  refine ww_aload_n C dL_with_0 rfl 0 rfl ?_
  refine ww_aload_n C dL_with_1 rfl 1 rfl ?_
  refine ww_aload_n C dL_with_2 rfl 2 rfl ?_
  obtain ⟨p3, hp3, hf⟩ := bdE hf
  refine ww_callS C (As := [.ref (a0 0), .ref q2, .ref (eK E x2)]) (st := []) (gr := []) (c_L_word (E := E) (a0 := a0) (h0_0 := h0_0) (h0_1 := h0_1) (h0_2 := h0_2) (h0_3 := h0_3) (h0_4 := h0_4) (h0_5 := h0_5) (h0_6 := h0_6) (h0_8 := h0_8) (h0_9 := h0_9) (a1 := a1) (q2 := q2) hp3) gL_with_L_word rfl ysk_L_word ⟨by decide, Nat.le_of_ble_eq_true rfl⟩ ⟨by decide, by decide⟩ [0, 1, 2] [] 3 rfl (by decide) rfl rfl (Nat.le_of_ble_eq_true rfl) dL_with_3 ?_
  rintro _ _ ⟨rfl, rfl⟩
  refine ww_perm (gs' := [wGW E a0 (rf10 h0_0 h0_1 h0_2 h0_3 h0_4 h0_5 h0_6 (a1 0) h0_8 h0_9) v0, wToks E a1 p3.1, wArr E q2 6 p3.2]) [0, 1, 2] 3 rfl (by decide) rfl ?_
  refine ww_aload_n C dL_with_6 rfl 0 rfl ?_
  refine ww_aload_n C dL_with_7 rfl 1 rfl ?_
  refine ww_iload_n C dL_with_8 rfl 3 rfl ?_
  obtain ⟨p9, hp9, hf⟩ := bdE hf
  refine ww_callS C (As := [.ref (a0 0), .ref q2, .int x3]) (st := []) (gr := []) (c_L_number (E := E) (a0 := a0) (h0_0 := h0_0) (h0_1 := h0_1) (h0_2 := h0_2) (h0_3 := h0_3) (h0_4 := h0_4) (h0_5 := h0_5) (h0_6 := h0_6) (h0_8 := h0_8) (h0_9 := h0_9) (a1 := a1) (q2 := q2) hp9) gL_with_L_number rfl ysk_L_number ⟨by decide, Nat.le_of_ble_eq_true rfl⟩ ⟨by decide, by decide⟩ [0, 1, 2] [] 3 rfl (by decide) rfl rfl (Nat.le_of_ble_eq_true rfl) dL_with_9 ?_
  rintro _ _ ⟨rfl, rfl⟩
  refine ww_perm (gs' := [wGW E a0 (rf10 h0_0 h0_1 h0_2 h0_3 h0_4 h0_5 h0_6 (a1 0) h0_8 h0_9) v0, wToks E a1 p9.1, wArr E q2 6 p9.2]) [0, 1, 2] 3 rfl (by decide) rfl ?_
  obtain rfl := Option.some.inj hf
  exact ww_vret C ⟨rfl, rfl⟩ dL_with_12

theorem ysk_L_with : yL_with.cls ≠ "java/lang/invoke/MethodHandle" ∧ yL_with.cls ≠ "java/lang/invoke/VarHandle" ∧ (parseMethodDescriptor yL_with.desc).map (fun d => d.parameters.length) = some 4 := by decide +kernel
abbrev rmL_walkOf : Room := { frames := 7, cells := 0, slots := 0, locals := 246 }
set_option maxHeartbeats 4000000 in
set_option maxRecDepth 100000 in
theorem w_L_walkOf_11 {E : Ex} {K : Kx} (C : Cx E K cL_walkOf 8 none RL wsL_walkOf rmL_walkOf) {a0 : Nat → Nat} {a1 : Nat → Nat} {q2 : Nat} {q3 : Nat} {h0_0 h0_1 h0_2 h0_3 h0_4 h0_5 h0_6 h0_8 h0_9 : Nat} {x3 : Int32} {v0 : GWV} {v3 : Nat → Int32} {n3 : Nat} {x5 : Int32} {r : (ToksV × (Nat → Int32))} : ∀ (n : Nat)  (x6 : Int32) (v1 : ToksV) (v2 : Nat → Int32), L_walkOf_11 x3 v0 v3 n3 x5 n x6 v1 v2 = some r → WW E K 0 0 (QQ E K (fun rv g => rv = none ∧ g = [wGW E a0 (rf10 h0_0 h0_1 h0_2 h0_3 h0_4 h0_5 h0_6 (a1 0) h0_8 h0_9) v0, wToks E a1 r.1, wArr E q2 6 r.2, wArr E q3 n3 v3]) 0 0) 11 [(0, .ref (a0 0)), (1, .ref q2), (3, .int x3), (4, .ref q3), (5, .int x5), (6, .int x6)] [] [wGW E a0 (rf10 h0_0 h0_1 h0_2 h0_3 h0_4 h0_5 h0_6 (a1 0) h0_8 h0_9) v0, wToks E a1 v1, wArr E q2 6 v2, wArr E q3 n3 v3] := by
  intro n
  induction n with
  | zero =>
    intro  x6 v1 v2 hf
    simp [L_walkOf_11] at hf
  | succ n ih =>
    intro  x6 v1 v2 hf
    rw [L_walkOf_11] at hf
    refine ww_iload C dL_walkOf_11 5 rfl ?_
    refine ww_iload C dL_walkOf_13 4 rfl ?_
    refine ww_icmp_ge (tgt := 40) C dL_walkOf_15 (by decide) (fun c_2 => ?_) (fun c_2 => ?_)
    · replace hf := ifT c_2 hf
      refine ww_iload_n C dL_walkOf_40 rfl 2 rfl ?_
      refine ww_if_le (tgt := 52) C dL_walkOf_41 (by decide) (fun c_3 => ?_) (fun c_3 => ?_)
      · replace hf := ifT c_3 hf
        obtain rfl := Option.some.inj hf
        exact ww_vret C ⟨rfl, rfl⟩ dL_walkOf_52
      · replace hf := ifF c_3 hf
        refine ww_aload_n C dL_walkOf_44 rfl 0 rfl ?_
        refine ww_aload_n C dL_walkOf_45 rfl 1 rfl ?_
        refine ww_ldcS C (i := 22) rfl dL_walkOf_46 ?_
        refine ww_iload_n C dL_walkOf_48 rfl 2 rfl ?_
        obtain ⟨p49, hp49, hf⟩ := bdE hf
        refine ww_callS C (As := [.ref (a0 0), .ref q2, .ref (eK E 22), .int x3]) (st := []) (gr := [wArr E q3 n3 v3]) (c_L_with (E := E) (a0 := a0) (h0_0 := h0_0) (h0_1 := h0_1) (h0_2 := h0_2) (h0_3 := h0_3) (h0_4 := h0_4) (h0_5 := h0_5) (h0_6 := h0_6) (h0_8 := h0_8) (h0_9 := h0_9) (a1 := a1) (q2 := q2) hp49) gL_walkOf_L_with rfl ysk_L_with ⟨by decide, Nat.le_of_ble_eq_true rfl⟩ ⟨by decide, by decide⟩ [0, 1, 2] [3] 4 rfl (by decide) rfl rfl (Nat.le_of_ble_eq_true rfl) dL_walkOf_49 ?_
        rintro _ _ ⟨rfl, rfl⟩
        refine ww_perm (gs' := [wGW E a0 (rf10 h0_0 h0_1 h0_2 h0_3 h0_4 h0_5 h0_6 (a1 0) h0_8 h0_9) v0, wToks E a1 p49.1, wArr E q2 6 p49.2, wArr E q3 n3 v3]) [0, 1, 2, 3] 4 rfl (by decide) rfl ?_
        obtain rfl := Option.some.inj hf
        exact ww_vret C ⟨rfl, rfl⟩ dL_walkOf_52
    · replace hf := ifF c_2 hf
      refine ww_aload C dL_walkOf_18 3 rfl ?_
      refine ww_iload C dL_walkOf_20 5 rfl ?_
      obtain ⟨g_4, hf⟩ := gdE hf
      refine ww_iald C (f := v3) (w := wArr E q3 n3 v3) 3 0 rfl q_Arr (inB_vp g_4) dL_walkOf_22 ?_
      refine ww_topi (fun x7_23 e_x7_23 => ?_)
      replace hf := ltE e_x7_23 hf
      refine ww_istore (lv' := [(7, .int x7_23), (0, .ref (a0 0)), (1, .ref q2), (3, .int x3), (4, .ref q3), (5, .int x5), (6, .int x6)]) C dL_walkOf_23 (by decide) rfl ?_
      refine ww_aload_n C dL_walkOf_25 rfl 1 rfl ?_
      refine ww_aload_n C dL_walkOf_26 rfl 2 rfl ?_
      refine ww_ldcS C (i := 18) rfl dL_walkOf_27 ?_
      refine ww_iload C dL_walkOf_29 0 rfl ?_
      obtain ⟨p31, hp31, hf⟩ := bdE hf
      refine ww_callS C (As := [.ref (a0 0), .ref q2, .ref (eK E 18), .int x7_23]) (st := []) (gr := [wArr E q3 n3 v3]) (c_L_with (E := E) (a0 := a0) (h0_0 := h0_0) (h0_1 := h0_1) (h0_2 := h0_2) (h0_3 := h0_3) (h0_4 := h0_4) (h0_5 := h0_5) (h0_6 := h0_6) (h0_8 := h0_8) (h0_9 := h0_9) (a1 := a1) (q2 := q2) hp31) gL_walkOf_L_with rfl ysk_L_with ⟨by decide, Nat.le_of_ble_eq_true rfl⟩ ⟨by decide, by decide⟩ [0, 1, 2] [3] 4 rfl (by decide) rfl rfl (Nat.le_of_ble_eq_true rfl) dL_walkOf_31 ?_
      rintro _ _ ⟨rfl, rfl⟩
      refine ww_perm (gs' := [wGW E a0 (rf10 h0_0 h0_1 h0_2 h0_3 h0_4 h0_5 h0_6 (a1 0) h0_8 h0_9) v0, wToks E a1 p31.1, wArr E q2 6 p31.2, wArr E q3 n3 v3]) [0, 1, 2, 3] 4 rfl (by decide) rfl ?_
      obtain ⟨x6_34, e_x6_34⟩ : ∃ y : Int32, y = x6 + 1 := ⟨_, rfl⟩
      replace hf := ltE e_x6_34 hf
      refine ww_iinc (v := x6_34) (lv' := [(6, .int x6_34), (7, .int x7_23), (0, .ref (a0 0)), (1, .ref q2), (3, .int x3), (4, .ref q3), (5, .int x5)]) C dL_walkOf_34 6 rfl (by rw [e_x6_34]; rfl) (by decide) rfl ?_
      refine ww_goto (tgt := 11) C dL_walkOf_37 (by decide) ?_
      refine ww_sub C (lv' := [(0, .ref (a0 0)), (1, .ref q2), (3, .int x3), (4, .ref q3), (5, .int x5), (6, .int x6_34)]) [2, 3, 4, 5, 6, 0] rfl ?_
      exact ih _ _ _ hf

set_option maxHeartbeats 4000000 in
set_option maxRecDepth 100000 in
theorem c_L_walkOf {E : Ex} {a0 : Nat → Nat} {a1 : Nat → Nat} {q2 : Nat} {q3 : Nat} {h0_0 h0_1 h0_2 h0_3 h0_4 h0_5 h0_6 h0_8 h0_9 : Nat} {x3 : Int32} {v0 : GWV} {v1 : ToksV} {v2 : Nat → Int32} {n3 : Nat} {v3 : Nat → Int32} {r : (ToksV × (Nat → Int32))} (hf : L_walkOf x3 v0 v1 v2 n3 v3 = some r) : Ct E yL_walkOf wsL_walkOf rmL_walkOf [.ref (a0 0), .ref q2, .ref q3, .int x3] [wGW E a0 (rf10 h0_0 h0_1 h0_2 h0_3 h0_4 h0_5 h0_6 (a1 0) h0_8 h0_9) v0, wToks E a1 v1, wArr E q2 6 v2, wArr E q3 n3 v3] (fun rv g => rv = none ∧ g = [wGW E a0 (rf10 h0_0 h0_1 h0_2 h0_3 h0_4 h0_5 h0_6 (a1 0) h0_8 h0_9) v0, wToks E a1 r.1, wArr E q2 6 r.2, wArr E q3 n3 v3]) := by
  refine ct_of (own := RL) (by decide +kernel) rfl rfl (Nat.le_of_ble_eq_true rfl) (fun K C => ?_)
  refine ww_sub C (lv' := [(0, .ref (a0 0)), (1, .ref q2), (2, .ref q3), (3, .int x3)]) [0, 1, 2, 3] rfl ?_
  rw [L_walkOf] at hf
  refine ww_aload_n C dL_walkOf_0 rfl 2 rfl ?_
  refine ww_astore (lv' := [(4, .ref q3), (0, .ref (a0 0)), (1, .ref q2), (2, .ref q3), (3, .int x3)]) C dL_walkOf_1 (by decide) rfl ?_
  refine ww_aload C dL_walkOf_3 0 rfl ?_
  refine ww_alen C (v := nI n3) (w := wArr E q3 n3 v3) 3 0 rfl q_Arr rfl dL_walkOf_5 ?_
  refine ww_topi (fun x5_6 e_x5_6 => ?_)
  replace hf := ltE e_x5_6 hf
  refine ww_istore (lv' := [(5, .int x5_6), (4, .ref q3), (0, .ref (a0 0)), (1, .ref q2), (2, .ref q3), (3, .int x3)]) C dL_walkOf_6 (by decide) rfl ?_
  refine ww_iconst (v := 0) C dL_walkOf_8 (by decide) ?_
  refine ww_istore (lv' := [(6, .int 0), (5, .int x5_6), (4, .ref q3), (0, .ref (a0 0)), (1, .ref q2), (2, .ref q3), (3, .int x3)]) C dL_walkOf_9 (by decide) rfl ?_
  refine ww_sub C (lv' := [(0, .ref (a0 0)), (1, .ref q2), (3, .int x3), (4, .ref q3), (5, .int x5_6), (6, .int 0)]) [3, 4, 6, 2, 1, 0] rfl ?_
  exact w_L_walkOf_11 C FU _ _ _ hf

theorem ysk_L_walkOf : yL_walkOf.cls ≠ "java/lang/invoke/MethodHandle" ∧ yL_walkOf.cls ≠ "java/lang/invoke/VarHandle" ∧ (parseMethodDescriptor yL_walkOf.desc).map (fun d => d.parameters.length) = some 4 := by decide +kernel
