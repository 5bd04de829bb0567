section PUSH
theorem updL_i {f : Nat → Int64} {i : Nat} {x : Int64} : vp_updL f i x i = x := if_pos rfl
theorem updL_n {f : Nat → Int64} {i j : Nat} {x : Int64} (h : j ≠ i) : vp_updL f i x j = f j := if_neg h
theorem Im20 : (-20 : Int32) = I (-20) := rfl
theorem Im21 : (-21 : Int32) = I (-21) := rfl
theorem Im22 : (-22 : Int32) = I (-22) := rfl
theorem Im23 : (-23 : Int32) = I (-23) := rfl
theorem Im24 : (-24 : Int32) = I (-24) := rfl
theorem Im25 : (-25 : Int32) = I (-25) := rfl
theorem ne23 {y : Int} (h : y ≠ -23) (h1 : -2147483648 ≤ y) (h2 : y ≤ 2147483647) : ¬ I y = (-23 : Int32) := by rw [Im23]; exact I_ne h h1 h2 (by omega) (by omega)
theorem le20t {y : Int} (h : y ≤ -20) (h1 : -2147483648 ≤ y) : I y ≤ (-20 : Int32) := by rw [Im20]; exact I_le_t h h1 (by omega)
theorem le20f {y : Int} (h : -20 < y) (h2 : y ≤ 2147483647) : ¬ I y ≤ (-20 : Int32) := by rw [Im20]; exact I_le_f h (by omega) h2
/-- what a step of the stack keeps -/
def KS (N' N : ModelV) : Prop := Model_codes N' = Model_codes N ∧ Model_codeCount N' = Model_codeCount N ∧ kp N' = kp N
theorem KS.refl (N : ModelV) : KS N N := ⟨rfl, rfl, rfl⟩
theorem KS.trans {a b c : ModelV} (h : KS a b) (g : KS b c) : KS a c := ⟨h.1.trans g.1, h.2.1.trans g.2.1, h.2.2.trans g.2.2⟩
theorem KS.set (N : ModelV) (x : Nat → Int64) : KS (Model_set_stack N x) N := ⟨Mo_codes_stack _ _, Mo_codeCount_stack _ _, kp_stack _ _⟩
/-- the codes from a to b push the value -/
def PUSH (PV : ModelV → Prop) (R : Nat) (C : Nat → Int32) (a b : Nat) (val : Nat → Int) : Prop := a < b ∧ ∀ (N : ModelV) (cc r d n : Nat), PV N → (∀ i, a ≤ i → i < b → Model_codes N i = C i) → Model_codeCount N = I (cc : Int) → b ≤ cc → cc ≤ 200 → r < R → d ≤ a → ∃ N', PV N' ∧ KS N' N ∧ (∀ i, i < d → Model_stack N' i = Model_stack N i) ∧ Model_stack N' d = L (val r) ∧ Mod_holdsFor_4 (I (r : Int)) (n + (b - a)) (I (d : Int)) (I (a : Int)) N = Mod_holdsFor_4 (I (r : Int)) n (I ((d + 1 : Nat) : Int)) (I (b : Int)) N'
variable {PV : ModelV → Prop} {R a b c : Nat} {C C' : Nat → Int32} {u w : Nat → Int}
theorem PUSH.congr (h : PUSH PV R C a b u) (hC : ∀ i, a ≤ i → i < b → C' i = C i) (hu : ∀ r, r < R → u r = w r) : PUSH PV R C' a b w := by
  refine ⟨h.1, fun N cc r d n h1 h2 h3 h4 h5 h6 h7 => ?_⟩
  obtain ⟨N', p1, p2, p3, p4, p5⟩ := h.2 N cc r d n h1 (fun i i1 i2 => (h2 i i1 i2).trans (hC i i1 i2)) h3 h4 h5 h6 h7
  exact ⟨N', p1, p2, p3, by rw [p4, hu r h6], p5⟩
/-- the code of a step -/
theorem step_code {N : ModelV} {cc a d r n : Nat} (h3 : Model_codeCount N = I (cc : Int)) (h4 : a < cc) (h5 : cc ≤ 200) : Mod_holdsFor_4 (I (r : Int)) (n + 1) (I (d : Int)) (I (a : Int)) N = (nmL (Model_codes N a) fun (x4_18 : Int32) =>
      if x4_18 = (-23) then
        gd (inB (I (d : Int) - 1) 200) <|
        nmL (Model_set_stack N (vp_updL (Model_stack N) (Int32.toNatClampNeg (I (d : Int) - 1)) (1 - ((Model_stack N) (Int32.toNatClampNeg (I (d : Int) - 1)))))) fun (v0_44 : ModelV) =>
        nmL (I (a : Int) + 1) fun (x3_118 : Int32) =>
        Mod_holdsFor_4 (I (r : Int)) n (I (d : Int)) x3_118 v0_44
      else
        if x4_18 ≤ (-20) then
          nmL (I (d : Int) + (-1)) fun (x2_88 : Int32) =>
          gd (inB (x2_88 - 1) 200) <|
          gd (inB x2_88 200) <|
          Option.bind (Mod_operate x4_18 ((Model_stack N) (Int32.toNatClampNeg (x2_88 - 1))) ((Model_stack N) (Int32.toNatClampNeg x2_88))) fun p114 =>
          nmL (Model_set_stack N (vp_updL (Model_stack N) (Int32.toNatClampNeg (x2_88 - 1)) p114)) fun (v0_117 : ModelV) =>
          nmL (I (a : Int) + 1) fun (x3_118 : Int32) =>
          Mod_holdsFor_4 (I (r : Int)) n x2_88 x3_118 v0_117
        else
          if x4_18 < 0 then
            Option.bind (Mod_property (I (r : Int)) ((-1) - x4_18) N) fun p77 =>
            gd (inB (I (d : Int)) 200) <|
            nmL (Model_set_stack N (vp_updL (Model_stack N) (Int32.toNatClampNeg (I (d : Int))) (Int32.toInt64 p77))) fun (v0_81 : ModelV) =>
            nmL (I (d : Int) + 1) fun (x2_82 : Int32) =>
            nmL (I (a : Int) + 1) fun (x3_118 : Int32) =>
            Mod_holdsFor_4 (I (r : Int)) n x2_82 x3_118 v0_81
          else
            gd (inB (I (d : Int)) 200) <|
            nmL (Model_set_stack N (vp_updL (Model_stack N) (Int32.toNatClampNeg (I (d : Int))) (Int32.toInt64 x4_18))) fun (v0_81 : ModelV) =>
            nmL (I (d : Int) + 1) fun (x2_82 : Int32) =>
            nmL (I (a : Int) + 1) fun (x3_118 : Int32) =>
            Mod_holdsFor_4 (I (r : Int)) n x2_82 x3_118 v0_81) := by
  rw [Mod_holdsFor_4, h3, if_neg (I_le_f (by omega) (by omega) (by omega)), gd_I (by omega) (by omega) (by omega), I_clamp a (by omega)]
/-- a number -/
theorem push_num (hs : ∀ N x, PV N → PV (Model_set_stack N x)) {y : Nat} (hy : y ≤ 2147483647) (hC : C a = I (y : Int)) : PUSH PV R C a (a + 1) fun _ => (y : Int) := by
  refine ⟨by omega, fun N cc r d n h1 h2 h3 h4 h5 h6 h7 => ?_⟩
  refine ⟨Model_set_stack N (vp_updL (Model_stack N) d (L (y : Int))), hs _ _ h1, KS.set _ _, fun i hi => ?_, ?_, ?_⟩
  · rw [Mo_stack_stack, updL_n (by omega)]
  · rw [Mo_stack_stack, updL_i]
  · rw [show n + (a + 1 - a) = n + 1 by omega, step_code h3 (by omega) h5, nmL_e, h2 a (by omega) (by omega), hC, if_neg (ne23 (by omega) (by omega) (by omega)), if_neg (le20f (by omega) (by omega)), if_neg (neg_f (by omega)), gd_I (by omega) (by omega) (by omega), I_clamp d (by omega), L_of (by omega) (by omega), nmL_e, nmL_e, nmL_e, I_succ, I_succ]
/-- a property -/
theorem push_prop (hs : ∀ N x, PV N → PV (Model_set_stack N x)) {p : Nat} (hp : p < 11) (hb : ∀ r, r < R → 0 ≤ u r ∧ u r ≤ 2147483647) (hv : ∀ N r, PV N → r < R → Mod_property (I (r : Int)) (I (p : Int)) N = some (I (u r))) (hC : C a = I (-1 - (p : Int))) : PUSH PV R C a (a + 1) u := by
  refine ⟨by omega, fun N cc r d n h1 h2 h3 h4 h5 h6 h7 => ?_⟩
  have hb' := hb r h6
  refine ⟨Model_set_stack N (vp_updL (Model_stack N) d (L (u r))), hs _ _ h1, KS.set _ _, fun i hi => ?_, ?_, ?_⟩
  · rw [Mo_stack_stack, updL_n (by omega)]
  · rw [Mo_stack_stack, updL_i]
  · rw [show n + (a + 1 - a) = n + 1 by omega, step_code h3 (by omega) h5, nmL_e, h2 a (by omega) (by omega), hC, if_neg (ne23 (by omega) (by omega) (by omega)), if_neg (le20f (by omega) (by omega)), if_pos (show I (-1 - (p : Int)) < (0 : Int32) from I_lt_t (a := -1 - (p : Int)) (b := 0) (by omega) (by omega) (by omega)), Im1, I_sub, show (-1 : Int) - (-1 - (p : Int)) = (p : Int) by omega, hv N r h1 h6, bind_s, gd_I (by omega) (by omega) (by omega), I_clamp d (by omega), L_of (by omega) (by omega), nmL_e, nmL_e, nmL_e, I_succ, I_succ]
/-- 'not' -/
theorem push_not (hs : ∀ N x, PV N → PV (Model_set_stack N x)) (h : PUSH PV R C a b u) (hC : C b = I (-23)) : PUSH PV R C a (b + 1) fun r => 1 - u r := by
  refine ⟨by have := h.1; omega, fun N cc r d n h1 h2 h3 h4 h5 h6 h7 => ?_⟩
  have hab := h.1
  obtain ⟨N', p1, p2, p3, p4, p5⟩ := h.2 N cc r d (n + 1) h1 (fun i i1 i2 => h2 i i1 (by omega)) h3 (by omega) h5 h6 h7
  refine ⟨Model_set_stack N' (vp_updL (Model_stack N') d (L (1 - u r))), hs _ _ p1, (KS.set _ _).trans p2, fun i hi => ?_, ?_, ?_⟩
  · rw [Mo_stack_stack, updL_n (by omega)]; exact p3 i hi
  · rw [Mo_stack_stack, updL_i]
  · rw [show n + (b + 1 - a) = n + 1 + (b - a) by omega, p5, step_code (p2.2.1.trans h3) (by omega) h5, nmL_e, p2.1, h2 b (by omega) (by omega), hC, if_pos (show I (-23) = (-23 : Int32) from rfl), I1, I_sub, show ((d + 1 : Nat) : Int) - 1 = (d : Int) by omega, gd_I (by omega) (by omega) (by omega), I_clamp d (by omega), p4, show (1 : Int64) = L 1 from rfl, L_sub, nmL_e, nmL_e, ← I1, I_succ]
/-- an operator -/
theorem push_op (hs : ∀ N x, PV N → PV (Model_set_stack N x)) (h : PUSH PV R C a b u) (g : PUSH PV R C b c w) {o : Int} (ho : o ≤ -20) (ho2 : -30 ≤ o) (hn : o ≠ -23) (hC : C c = I o) {z : Nat → Int} (hz : ∀ r, r < R → Mod_operate (I o) (L (u r)) (L (w r)) = some (L (z r))) : PUSH PV R C a (c + 1) z := by
  have hab := h.1
  have hbc := g.1
  refine ⟨by omega, fun N cc r d n h1 h2 h3 h4 h5 h6 h7 => ?_⟩
  obtain ⟨N1, p1, p2, p3, p4, p5⟩ := h.2 N cc r d (n + 1 + (c - b)) h1 (fun i i1 i2 => h2 i i1 (by omega)) h3 (by omega) h5 h6 h7
  obtain ⟨N2, q1, q2, q3, q4, q5⟩ := g.2 N1 cc r (d + 1) (n + 1) p1 (fun i i1 i2 => by rw [p2.1]; exact h2 i (by omega) (by omega)) (p2.2.1.trans h3) (by omega) h5 h6 (by omega)
  refine ⟨Model_set_stack N2 (vp_updL (Model_stack N2) d (L (z r))), hs _ _ q1, (KS.set _ _).trans (q2.trans p2), fun i hi => ?_, ?_, ?_⟩
  · rw [Mo_stack_stack, updL_n (by omega)]; exact (q3 i (by omega)).trans (p3 i hi)
  · rw [Mo_stack_stack, updL_i]
  · rw [show n + (c + 1 - a) = n + 1 + (c - b) + (b - a) by omega, p5, q5, step_code (q2.2.1.trans (p2.2.1.trans h3)) (by omega) h5, nmL_e, q2.1, p2.1, h2 c (by omega) (by omega), hC, if_neg (ne23 hn (by omega) (by omega)), if_pos (le20t ho (by omega)), nmL_e, Im1, I_add, show ((d + 1 + 1 : Nat) : Int) + -1 = ((d + 1 : Nat) : Int) by omega, I1, I_sub, show ((d + 1 : Nat) : Int) - 1 = (d : Int) by omega, gd_I (by omega) (by omega) (by omega), gd_I (by omega) (by omega) (by omega), I_clamp d (by omega), I_clamp (d + 1) (by omega), q4, q3 d (by omega), p4, hz r h6, bind_s, nmL_e, nmL_e, ← I1, I_succ]
end PUSH
