set_option maxRecDepth 20000 in
theorem in_X9_init_X9 : ∀ w ∈ u_ws RX9 TX9 8, w ∈ wsX9_init := by decide +kernel
abbrev rmX9_init : Room := { frames := 1, cells := 4, slots := 40, locals := 20 }
theorem yi_X9_init : yX9_init.name = "<init>" ∧ yX9_init.cls ≠ "java/lang/invoke/MethodHandle" ∧ yX9_init.cls ≠ "java/lang/invoke/VarHandle" ∧ (parseMethodDescriptor yX9_init.desc).map (fun d => d.parameters.length) = some 0 := by decide +kernel
set_option maxHeartbeats 4000000 in
set_option maxRecDepth 100000 in
theorem c_X9_init {E : Ex} {b0 : Nat} {da ra wa : Nat → Nat} : Ct E yX9_init wsX9_init rmX9_init [.ref b0] [[(b0, .inr (9, [.int 0, .int 0, .int 0, .int 0, .null, .null, .null, .null]))]] (fun rv g => rv = none ∧ ∃ (a : Nat → Nat) (d r w f : Nat), a 0 = b0 ∧ g = [wOwn E a (rf4 d r w f) Own0, wRO E d 20 da 0, wRO E r 12 ra 0, wRO E w 4 wa 0, wArr E f 4 (fun _ => 0)]) := by
  refine cti_of (own := RX9) (by decide +kernel) rfl rfl (Nat.le_of_ble_eq_true rfl) rfl (fun K C I0 => ?_)
  refine ww_sub C (lv' := [(0, .ref b0)]) [0] rfl ?_
  refine ww_aload_n C dX9_init_0 rfl 0 rfl ?_
  refine ww_objInit C (by decide +kernel) (by decide +kernel) (by decide +kernel) (by decide) (Nat.le_of_ble_eq_true rfl) dX9_init_1 ?_
  refine ww_aload_n C dX9_init_4 rfl 0 rfl ?_
  refine ww_iconst (v := 1) C dX9_init_5 (by decide) ?_
  refine ww_put C clOK9 in_X9_init_X9 (w := [(b0, .inr (9, [.int 0, .int 0, .int 0, .int 0, .null, .null, .null, .null]))]) (fs := [.int 0, .int 0, .int 0, .int 0, .null, .null, .null, .null]) (w' := [(b0, .inr (9, [.int 1, .int 0, .int 0, .int 0, .null, .null, .null, .null]))]) (gs' := [[(b0, .inr (9, [.int 1, .int 0, .int 0, .int 0, .null, .null, .null, .null]))]]) 0 0 0 rfl rfl (by decide) (by decide +kernel) rfl rfl rfl rfl rfl rfl rfl dX9_init_6 ?_
  refine ww_aload_n C dX9_init_9 rfl 0 rfl ?_
  refine ww_bipush (v := 20) C dX9_init_10 (by decide) ?_
  refine ww_newR C (by decide +kernel) 20 (by decide) (by decide) (by decide) ⟨by decide, by decide⟩ dX9_init_12 (fun d => ?_)
  refine ww_put C clOK9 in_X9_init_X9 (w := [(b0, .inr (9, [.int 1, .int 0, .int 0, .int 0, .null, .null, .null, .null]))]) (fs := [.int 1, .int 0, .int 0, .int 0, .null, .null, .null, .null]) (w' := [(b0, .inr (9, [.int 1, .int 0, .int 0, .int 0, .ref d, .null, .null, .null]))]) (gs' := [[(b0, .inr (9, [.int 1, .int 0, .int 0, .int 0, .ref d, .null, .null, .null]))], [(d, .inl (eS E, 20, .inr (.inr (.inr (.inr fun _ => none)))))]]) 0 0 4 rfl rfl (by decide) (by decide +kernel) rfl rfl rfl rfl rfl rfl rfl dX9_init_15 ?_
  refine ww_aload_n C dX9_init_18 rfl 0 rfl ?_
  refine ww_bipush (v := 12) C dX9_init_19 (by decide) ?_
  refine ww_newR C (by decide +kernel) 12 (by decide) (by decide) (by decide) ⟨by decide, by decide⟩ dX9_init_21 (fun r => ?_)
  refine ww_put C clOK9 in_X9_init_X9 (w := [(b0, .inr (9, [.int 1, .int 0, .int 0, .int 0, .ref d, .null, .null, .null]))]) (fs := [.int 1, .int 0, .int 0, .int 0, .ref d, .null, .null, .null]) (w' := [(b0, .inr (9, [.int 1, .int 0, .int 0, .int 0, .ref d, .ref r, .null, .null]))]) (gs' := [[(b0, .inr (9, [.int 1, .int 0, .int 0, .int 0, .ref d, .ref r, .null, .null]))], [(d, .inl (eS E, 20, .inr (.inr (.inr (.inr fun _ => none)))))], [(r, .inl (eS E, 12, .inr (.inr (.inr (.inr fun _ => none)))))]]) 0 0 5 rfl rfl (by decide) (by decide +kernel) rfl rfl rfl rfl rfl rfl rfl dX9_init_24 ?_
  refine ww_aload_n C dX9_init_27 rfl 0 rfl ?_
  refine ww_iconst (v := 4) C dX9_init_28 (by decide) ?_
  refine ww_newR C (by decide +kernel) 4 (by decide) (by decide) (by decide) ⟨by decide, by decide⟩ dX9_init_29 (fun w => ?_)
  refine ww_put C clOK9 in_X9_init_X9 (w := [(b0, .inr (9, [.int 1, .int 0, .int 0, .int 0, .ref d, .ref r, .null, .null]))]) (fs := [.int 1, .int 0, .int 0, .int 0, .ref d, .ref r, .null, .null]) (w' := [(b0, .inr (9, [.int 1, .int 0, .int 0, .int 0, .ref d, .ref r, .ref w, .null]))]) (gs' := [[(b0, .inr (9, [.int 1, .int 0, .int 0, .int 0, .ref d, .ref r, .ref w, .null]))], [(d, .inl (eS E, 20, .inr (.inr (.inr (.inr fun _ => none)))))], [(r, .inl (eS E, 12, .inr (.inr (.inr (.inr fun _ => none)))))], [(w, .inl (eS E, 4, .inr (.inr (.inr (.inr fun _ => none)))))]]) 0 0 6 rfl rfl (by decide) (by decide +kernel) rfl rfl rfl rfl rfl rfl rfl dX9_init_32 ?_
  refine ww_aload_n C dX9_init_35 rfl 0 rfl ?_
  refine ww_iconst (v := 4) C dX9_init_36 (by decide) ?_
  refine ww_newi C (by decide +kernel) 4 (by decide) (by decide) (by decide) ⟨by decide, by decide⟩ dX9_init_37 (fun f => ?_)
  refine ww_put C clOK9 in_X9_init_X9 (w := [(b0, .inr (9, [.int 1, .int 0, .int 0, .int 0, .ref d, .ref r, .ref w, .null]))]) (fs := [.int 1, .int 0, .int 0, .int 0, .ref d, .ref r, .ref w, .null]) (w' := [(b0, .inr (9, [.int 1, .int 0, .int 0, .int 0, .ref d, .ref r, .ref w, .ref f]))]) (gs' := [[(b0, .inr (9, [.int 1, .int 0, .int 0, .int 0, .ref d, .ref r, .ref w, .ref f]))], [(d, .inl (eS E, 20, .inr (.inr (.inr (.inr fun _ => none)))))], [(r, .inl (eS E, 12, .inr (.inr (.inr (.inr fun _ => none)))))], [(w, .inl (eS E, 4, .inr (.inr (.inr (.inr fun _ => none)))))], wArr E f 4 (fun _ => 0)]) 0 0 7 rfl rfl (by decide) (by decide +kernel) rfl rfl rfl rfl rfl rfl rfl dX9_init_39 ?_
  have e : ∀ q N (ar : Nat → Nat), wRO E q N ar 0 = [(q, .inl (eS E, N, .inr (.inr (.inr (.inr fun _ => none)))))] := fun q N ar => by
    unfold wRO roF
    simp
  refine ww_eq (gs' := [wOwn E (fun _ => b0) (rf4 d r w f) Own0, wRO E d 20 da 0, wRO E r 12 ra 0, wRO E w 4 wa 0, wArr E f 4 (fun _ => 0)]) (by rw [e, e, e]; rfl) ?_
  exact ww_vret C ⟨rfl, fun _ => b0, d, r, w, f, rfl, rfl⟩ dX9_init_42
