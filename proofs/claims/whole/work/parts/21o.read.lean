section READ
variable {K : KT} {T : TT} {t : ToksV} {M : ModelV} {l f e k : Nat} {v : HouseV} {m : Nat → Int32}
/-- how the two read a clause -/
def RC (K : KT) (T : TT) (l f : Nat) (cls : Option (Int32 × ToksV × HouseV)) (mod : Option ModelV) : Prop :=
  (∃ (c : Nat) (t' : ToksV) (v' : HouseV) (M' : ModelV), 1 ≤ c ∧ c ≤ 4 ∧ cls = some (I (c : Int), t', v') ∧ mod = some M' ∧ EE K T t' M' c) ∨
  (∃ (t' : ToksV) (v' : HouseV) (M' : ModelV) (f' e' k' : Nat), cls = some (0, t', v') ∧ mod = some M' ∧ SS K T t' M' l f' e' k' ∧ f < f' ∧ HOK v' ∧ RelM (Model_draft M') v')
theorem RC.mono {f0 : Nat} {cls : Option (Int32 × ToksV × HouseV)} {mod : Option ModelV} (h : RC K T l f cls mod) (hf : f0 ≤ f) : RC K T l f0 cls mod := by
  cases h with
  | inl h => exact Or.inl h
  | inr h =>
    obtain ⟨t', v', M', f', e', k', a1, a2, a3, a4, a5⟩ := h
    exact Or.inr ⟨t', v', M', f', e', k', a1, a2, a3, by omega, a5⟩
/-- the semicolon behind a clause -/
theorem semi_rc (h : SS K T t M l f e k) (hv : HOK v) (hr : RelM (Model_draft M) v) : RC K T l f (Option.bind (HRead_readSemicolon t) fun p => some (p.1, p.2, v)) (Mod_expect 59 M) := by
  rcases semi_ss h with ⟨M', a1, a2, a3⟩ | ⟨t', M', f', e', k', a1, a2, a3, a4, a5, a6⟩
  · left
    rw [a1, a2, bind_s]
    exact ⟨1, t, v, M', by omega, by omega, rfl, rfl, a3⟩
  · right
    rw [a1, a2, bind_s]
    exact ⟨t', v, M', f', e', k', rfl, rfl, a3, by omega, hv, by rw [a6.1]; exact hr⟩
theorem roomsD_e (M : ModelV) : ∃ x, Mod_roomsD M = some x := by
  unfold Mod_roomsD
  rw [gd_t (show inB (0 : Int32) 172 = true from rfl)]
  exact ⟨_, rfl⟩
theorem da0 (d : Nat) : Mod_doorAt (I (d : Int)) 0 = some (I ((64 + 3 * d : Nat) : Int)) := by
  rw [I0, doorAt_m]
  congr 2
theorem da1 (d : Nat) : Mod_doorAt (I (d : Int)) 1 = some (I ((65 + 3 * d : Nat) : Int)) := by
  rw [I1, doorAt_m]
  congr 2
  omega
theorem da2 (d : Nat) : Mod_doorAt (I (d : Int)) 2 = some (I ((66 + 3 * d : Nat) : Int)) := by
  rw [I2, doorAt_m]
  congr 2
  omega
theorem ra0 (r : Nat) : Mod_roomAt (I (r : Int)) 0 = some (I ((4 + 5 * r : Nat) : Int)) := by
  rw [I0, roomAt_m]
  congr 2
theorem ra2 (r : Nat) : Mod_roomAt (I (r : Int)) 2 = some (I ((6 + 5 * r : Nat) : Int)) := by
  rw [I2, roomAt_m]
  congr 2
  omega
theorem st13 : stL 13 = stL 34 := by decide
theorem st14 : stL 14 = stL 43 := by decide
theorem st11 : stL 11 = stL 46 := by decide
theorem st12 : stL 12 = stL 47 := by decide
theorem st9 : stL 9 = stL 45 := by decide
theorem st10 : stL 10 = stL 48 := by decide
/-! behind an error -/
theorem rd139_e (h : ¬ Model_error M = 0) (x y z : Int32) : Mod_readDoor_139 x y z M = some M := by
  unfold Mod_readDoor_139
  rw [if_neg h]
theorem rd106_e (h : ¬ Model_error M = 0) (hv : ∃ x, Mod_value M = some x) (x : Int32) : Mod_readDoor_106 x M = some M := by
  obtain ⟨y, hy⟩ := hv
  unfold Mod_readDoor_106 Mod_readDoor_111
  rw [asB_1, check_e h, bind_s, hy, bind_s, advance_e h, bind_s, accept_e h, bind_s, bif_f, rd139_e h]
theorem rd81_e (h : ¬ Model_error M = 0) (hv : ∃ x, Mod_value M = some x) (x : Int32) : Mod_readDoor_81 x M = some M := by
  unfold Mod_readDoor_81 Mod_readDoor_86
  rw [asB_1, check_e h, bind_s, if_neg h, rd106_e h hv]
theorem rd53_e (h : ¬ Model_error M = 0) (hv : ∃ x, Mod_value M = some x) (x : Int32) : Mod_readDoor_53 x M = some M := by
  unfold Mod_readDoor_53 Mod_readDoor_58
  rw [asB_1, check_e h, bind_s, if_neg h, rd81_e h hv]
theorem EE.val {c : Nat} (h : EE K T t M c) : ∃ x, Mod_value M = some x := h.2.2.2.2.2.2
theorem num_c0 {c : Nat} {M' : ModelV} (h : EE K T t M' c) : ¬ I (c : Int) = (0 : Int32) := h.c0
/-- the number of a room -/
theorem room_ss (h : SS K T t M l f e k) (hv : HOK v) (hr : RelM (Model_draft M) v) : (∃ (c : Nat) (M' : ModelV), 1 ≤ c ∧ c ≤ 4 ∧ Toks_numberCode 0 (House_rooms v - 1) t = some (I (c : Int)) ∧ (Option.bind (Mod_roomsD M) fun p => Mod_readNumber 0 (p - 1) M) = some (0, M') ∧ EE K T t M' c) ∨ (∃ (a : Nat) (t' : ToksV) (M' : ModelV) (f' e' k' : Nat), a < hR v ∧ Toks_numberCode 0 (House_rooms v - 1) t = some 0 ∧ Toks_number t = I (a : Int) ∧ Toks_advance t = some t' ∧ (Option.bind (Mod_roomsD M) fun p => Mod_readNumber 0 (p - 1) M) = some (I (a : Int), M') ∧ SS K T t' M' l f' e' k' ∧ f < f' ∧ Model_draft M' = Model_draft M ∧ k = 2) := by
  have hn := hv.1
  have hR12 : hR v ≤ 12 := hn.2.2.1
  have hR1 : 1 ≤ hR v := hn.2.1
  rw [roomsD_m (rel_br hr 0) hn, bind_s, roomsC hn, I1, I_sub]
  rcases num_ss h (lo := 0) (hi := (hR v : Int) - 1) (by omega) (by omega) (by omega) (by omega) with ⟨c, M2, n0, n1, n2, n3⟩ | ⟨a, t2, M2, fq, eq, kq, n1, n2, n3, n4, n5, n6, n7, n8, n9, n10, n11⟩
  · exact Or.inl ⟨c, M2, n0, n3.2.2.2.2.1, n1, n2, n3⟩
  · exact Or.inr ⟨a, t2, M2, fq, eq, kq, by omega, n1, n4, n5, n6, n7, by omega, n10.1, n11⟩
/-- a door -/
theorem door_rc (h : SS K T t M l f e k) (hv : HOK v) (hr : RelM (Model_draft M) v) (hfe : f < e) : RC K T l f (if (20 : Int32) ≤ House_doors v then some (3, t, v) else Option.bind (HRead_readDoor t v) fun p => some (p.1, p.2.1, p.2.2)) (Option.bind (Mod_readDoor M) fun p => Mod_expect 59 p) := by
  have hn := hv.1
  have hR12 : hR v ≤ 12 := hn.2.2.1
  have hD20 : hD v ≤ 20 := hn.2.2.2.2.1
  have eD : House_doors v = I (hD v : Int) := hn.2.2.2.1
  have eMd : Model_draft M (Int32.toNatClampNeg 1) = I (hD v : Int) := hr.2.1.trans eD
  unfold Mod_readDoor
  rw [gd_t (show inB (1 : Int32) 172 = true from rfl), eMd, eD, I20]
  by_cases c20 : 20 ≤ hD v
  · left
    obtain ⟨M', m1, m2⟩ := flaw_ee h (c := 3) (by omega) (by omega)
    obtain ⟨x, hx⟩ := roomsD_e M'
    rw [if_pos (I_le_t (by omega) (by omega) (by omega)), if_pos (I_le_t (by omega) (by omega) (by omega))]
    refine ⟨3, t, v, M', by omega, by omega, rfl, ?_, m2⟩
    unfold Mod_readDoor_17
    rw [asB_0, show (3 : Int32) = I ((3 : Nat) : Int) from rfl, m1, bind_s, advance_e m2.ne, bind_s, hx, bind_s, readNumber_e m2.ne m2.val, bind_s, if_neg m2.ne, rd53_e m2.ne m2.val, bind_s, expect_e m2.ne]
  · rw [if_neg (I_le_f (by omega) (by omega) (by omega)), if_neg (I_le_f (by omega) (by omega) (by omega))]
    unfold HRead_readDoor Mod_readDoor_17
    obtain ⟨t1, M1, f1, e1, k1, a1, a2, a3, a4, a5⟩ := adv_ss h
    have hr1 : RelM (Model_draft M1) v := by rw [a5.1]; exact hr
    rw [asB_1, check_t, bind_s, advance_0 h.2.2.2, a1, a2, bind_s, bind_s]
    have assoc : ∀ {α β γ : Type} (x : Option α) (F : α → Option β) (G : β → Option γ), Option.bind x (fun p => Option.bind (F p) G) = Option.bind (Option.bind x F) G := fun x F G => by cases x <;> rfl
    rw [assoc (Mod_roomsD M1)]
    rcases room_ss a3 hv hr1 with ⟨c, M2, n1, n2, n3, n4, n5⟩ | ⟨a, t2, M2, f2, e2, k2, n1, n2, n3, n4, n5, n6, n7, n8, -⟩
    · left
      rw [n3, bind_s, if_neg n5.c0, bind_s, n4, bind_s, if_neg n5.ne, rd53_e n5.ne n5.val, bind_s, expect_e n5.ne]
      exact ⟨c, t1, v, M2, n1, n2, rfl, rfl, n5⟩
    · rw [n2, bind_s, if_pos rfl, nmL_e, n4, bind_s, n5, bind_s]
      dsimp only
      rw [if_pos n6.2.2.2]
      have t20 := n6.1
      have hr2 : RelM (Model_draft M2) v := by rw [n8]; exact hr1
      by_cases hk : k2 = 2
      · subst hk
        rw [if_pos ((km2 t20).mpr rfl)]
        obtain ⟨b, c, b1, b2, b3, b4, b5⟩ := num_tk t20
        have hnc : Toks_numberCode 0 (House_rooms v - 1) t2 = some (if (0 : Int) ≤ b ∧ (b : Int) ≤ (hR v : Int) - 1 then 0 else 2) := by
          rw [roomsC hn]
          exact numberCode_s t20 b1 b3 (lo := 0) (by omega) (by omega) (by omega) (by omega)
        unfold Mod_readDoor_53 Mod_readDoor_58
        rw [asB_1, check_t, bind_s, if_pos n6.2.2.2, b2, bind_s, isRoomD_m (rel_br hr2 0) hn b4, bind_s]
        by_cases hc : c < hR v
        · obtain rfl : b = c := by omega
          rw [if_pos (by omega)] at hnc
          rw [decide_eq_true hc, bif_t, hnc, bind_s, if_pos rfl, nmL_e, b1, n3]
          unfold Mod_readDoor_81 Mod_readDoor_86
          rw [asB_1, check_t, bind_s, if_pos n6.2.2.2, b2, bind_s]
          by_cases hab : b = a
          · left
            obtain ⟨M', m1, m2⟩ := flaw_ee n6 (c := 4) (by omega) (by omega)
            obtain ⟨y, hy⟩ := m2.val
            rw [if_pos (by rw [hab]), if_pos (by rw [hab]), bind_s]
            refine ⟨4, t2, v, M', by omega, by omega, rfl, ?_, m2⟩
            unfold Mod_readDoor_111
            rw [asB_0, show (4 : Int32) = I ((4 : Nat) : Int) from rfl, m1, bind_s, hy, bind_s, advance_e m2.ne, bind_s, accept_e m2.ne, bind_s, bif_f, rd139_e m2.ne, bind_s, expect_e m2.ne]
          · rw [if_neg (I_ne (by omega) (by omega) (by omega) (by omega) (by omega)), if_neg (I_ne (by omega) (by omega) (by omega) (by omega) (by omega))]
            obtain ⟨t3, M3, f3, e3, k3, d1, d2, d3, d4, d5⟩ := adv_ss n6
            have hf23 : f2 < e2 := by
              have := t20.2.2.2.2.2.2.2.2.1
              omega
            unfold Mod_readDoor_106 Mod_readDoor_111
            rw [asB_1, check_t, bind_s, b2, bind_s, advance_0 n6.2.2.2, d1, d2, bind_s, bind_s]
            have hr3 : RelM (Model_draft M3) v := by rw [d5.1]; exact hr2
            -- the door is laid
            have lay : ∀ (op : Bool) (t' : ToksV) (M' : ModelV) (f' e' k' : Nat), SS K T t' M' l f' e' k' → f3 ≤ f' → Model_draft M' = Model_draft M3 → RC K T l f (Option.bind (Option.bind (House_addDoor (I (a : Int)) (I (b : Int)) op v) fun p125 => Option.bind (HRead_readSemicolon t') fun p129 => some (p129.1, p129.2, p125)) fun p => some (p.1, p.2.1, p.2.2)) (Option.bind (Mod_readDoor_139 (I (a : Int)) (I (b : Int)) (bif op then 1 else 0) M') fun p => Mod_expect 59 p) := by
              intro op t' M' f' e' k' q1 q2 q3
              have hr' : RelM (Model_draft M') v := by rw [q3]; exact hr3
              have eM' : Model_draft M' (Int32.toNatClampNeg 1) = I (hD v : Int) := hr'.2.1.trans eD
              obtain ⟨w, w1, w2, w3⟩ := addDoor_ok hv hr' (by omega) n1 hc (fun q => hab q.symm) op
              rw [w1, bind_s]
              have hm : ∃ N, Mod_readDoor_139 (I (a : Int)) (I (b : Int)) (bif op then 1 else 0) M' = some N ∧ SS K T t' N l f' e' k' ∧ RelM (Model_draft N) w := by
                unfold Mod_readDoor_139
                rw [if_pos q1.2.2.2, gd_t (show inB (1 : Int32) 172 = true from rfl), eM', nmL_e, da0, bind_s, gd_I (by omega) (by omega) (by omega), I_clamp _ (by omega), nmL_e, da1, bind_s, gd_I (by omega) (by omega) (by omega), I_clamp _ (by omega), nmL_e, da2, bind_s, gd_I (by omega) (by omega) (by omega), I_clamp _ (by omega), nmL_e, nmL_e]
                refine ⟨_, rfl, (((q1.draft _).draft _).draft _).draft _, ?_⟩
                rw [show Int32.toNatClampNeg 1 = 1 from rfl] at *
                rw [Mo_draft_draft, Mo_draft_draft, Mo_draft_draft, Mo_draft_draft]
                refine w3 _ ?_ ?_ ?_ ?_ fun i i1 i2 i3 i4 i5 => ?_
                · rw [upd_i, upd_n (by omega), upd_n (by omega), upd_n (by omega), eM', I_succ]
                · rw [upd_n (by omega), upd_n (by omega), upd_n (by omega), upd_i]
                · rw [upd_n (by omega), upd_n (by omega), upd_i]
                · rw [upd_n (by omega), upd_i]
                  cases op <;> rfl
                · rw [upd_n i2, upd_n i5, upd_n i4, upd_n i3]
              obtain ⟨N, p1, p2, p3⟩ := hm
              rw [p1, bind_s]
              have := semi_rc p2 w2 p3
              have ass2 : ∀ (x : Option (Int32 × ToksV)), Option.bind (Option.bind x fun p129 => some (p129.1, p129.2, w)) (fun p => some (p.1, p.2.1, p.2.2)) = Option.bind x fun p => some (p.1, p.2, w) := fun x => by cases x <;> rfl
              rw [ass2]
              exact this.mono (by omega)
            rcases word_ss d3 (i := 14) (j := 43) st14 (by decide) (by decide) (by decide) with ⟨w1, w2, w3⟩ | ⟨t4, M4, f4, e4, k4, w1, w2, w3, w4, w5, w6, w7, w8, w9, -, -⟩
            · rw [w1, bind_s, w3, bind_s, bif_f, nmL_e, if_pos (show b2i false = 0 from rfl)]
              unfold HRead_readDoor_111 HRead_readDoor_125
              rw [if_pos (show b2i false = 0 from rfl), asB_1]
              exact lay true t3 M3 f3 e3 k3 d3 (Nat.le_refl _) rfl
            · rw [w1, bind_s, w5, bind_s, bif_t, nmL_e, if_neg (show ¬ b2i true = 0 by decide), w3, bind_s]
              unfold HRead_readDoor_111 HRead_readDoor_125
              rw [if_neg (show ¬ b2i true = 0 by decide), asB_0]
              exact lay false t4 M4 f4 e4 k4 w6 (by omega) w9.1
        · left
          obtain ⟨M', m1, m2⟩ := flaw_ee n6 (c := 2) (by omega) (by omega)
          rw [if_neg (by omega)] at hnc
          rw [decide_eq_false hc, bif_f, hnc, bind_s, if_neg (by decide), bind_s]
          refine ⟨2, t2, v, M', by omega, by omega, rfl, ?_, m2⟩
          unfold Mod_readDoor_86
          rw [asB_0, show (2 : Int32) = I ((2 : Nat) : Int) from rfl, m1, bind_s, if_neg m2.ne, rd106_e m2.ne m2.val, bind_s, expect_e m2.ne]
      · left
        obtain ⟨M', m1, m2⟩ := flaw_ee n6 (c := 1) (by omega) (by omega)
        rw [if_neg fun q => hk ((km2 t20).mp q), numberCode_n t20 hk, bind_s, if_neg (by decide), bind_s]
        refine ⟨1, t2, v, M', by omega, by omega, rfl, ?_, m2⟩
        unfold Mod_readDoor_58
        rw [asB_0, show (1 : Int32) = I ((1 : Nat) : Int) from rfl, m1, bind_s, if_neg m2.ne, rd81_e m2.ne m2.val, bind_s, expect_e m2.ne]
end READ
