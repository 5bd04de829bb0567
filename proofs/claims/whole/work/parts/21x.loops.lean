section FACT
variable {K : KT} {T : TT} {l : Nat} {v : HouseV} {sv : SightV}
abbrev QO := Option (Int32 × QReadV × ToksV × (Nat → Int32) × (Nat → Int32))
/-- how the two read a part of a test -/
def QR (K : KT) (T : TT) (l : Nat) (v : HouseV) (o g f a cc : Nat) (M : ModelV) (cls : QO) (mod : Option ModelV) : Prop :=
  (∃ (c : Nat) (x : Int32) (q' : QReadV) (t' : ToksV) (A' B' : Nat → Int32) (M' : ModelV), cls = some (x, q', t', A', B') ∧ mod = some M' ∧ QRead_error q' = I (c : Int) ∧ EE K T t' M' c) ∨
  (∃ (S : Nat) (q' : QReadV) (t' : ToksV) (A' B' : Nat → Int32) (M' : ModelV) (f' e' k' cc' : Nat), cls = some (I (S : Int), q', t', A', B') ∧ mod = some M' ∧ QRead_error q' = 0 ∧ S < 2 ^ hR v ∧ SS K T t' M' l f' e' k' ∧ g ≤ f' ∧ Model_codeCount M' = I (cc' : Int) ∧ cc' + f ≤ cc + f' ∧ Model_nested M' = I (o : Int) ∧ (∀ i, i < cc → Model_codes M' i = Model_codes M i) ∧ PUSH (PVM v) (hR v) (Model_codes M') a cc' (bv S))
/-- a reader of a part of a test -/
def FS (K : KT) (T : TT) (l : Nat) (v : HouseV) (o : Nat) (FQ : QReadV → ToksV → (Nat → Int32) → (Nat → Int32) → QO) (FM : ModelV → Option ModelV) : Prop := ∀ (q : QReadV) (t : ToksV) (M : ModelV) (A B : Nat → Int32) (f e k cc : Nat), SS K T t M l f e k → QRead_error q = 0 → Model_codeCount M = I (cc : Int) → cc ≤ f → Model_nested M = I (o : Int) → QR K T l v o (f + 1) f cc cc M (FQ q t A B) (FM M)
theorem f_le {t : ToksV} {M : ModelV} {f e k : Nat} (h : SS K T t M l f e k) : f ≤ e ∧ e ≤ l := by
  have h1 := h.1.2.2.2.2.2.2.2.2.1
  have h2 := h.1.2.2.2.2.2.1
  omega
theorem st18 : stL 18 = stL 51 := by decide
theorem st19 : stL 19 = stL 50 := by decide
theorem st20 : stL 20 = stL 49 := by decide
theorem st16 : stL 16 = stL 53 := by decide
theorem st17 : stL 17 = stL 52 := by decide
theorem bv_and (S S2 r : Nat) : bv (S &&& S2) r = if (S.testBit r && S2.testBit r) = true then 1 else 0 := by unfold bv; rw [Nat.testBit_and]
theorem bv_or (S S2 r : Nat) : bv (S ||| S2) r = if (S.testBit r || S2.testBit r) = true then 1 else 0 := by unfold bv; rw [Nat.testBit_or]
/-- parts joined by a word -/
theorem conj_loop (hl : l ≤ 200) {o : Nat} {FN : nestQT} {FM : nestMT} (hF : FS K T l v o (fun q t A B => QRead_readFactor FN (I (o : Int)) q t v sv A B) FM) : ∀ (d f c n1 n2 S : Nat) (q : QReadV) (t : ToksV) (M : ModelV) (A B : Nat → Int32) (e k a cc : Nat), l = f + d → c ≤ f → d + 1 < n1 → d + 1 < n2 → SS K T t M l f e k → QRead_error q = 0 → Model_codeCount M = I (cc : Int) → cc ≤ f → Model_nested M = I (o : Int) → S < 2 ^ hR v → PUSH (PVM v) (hR v) (Model_codes M) a cc (bv S) → QR K T l v o f f a cc M (QRead_readConjunction_12 FN (I (o : Int)) v sv n1 (I (S : Int)) (I (c : Int)) q t A B) (Mod_compileConjunction_4 FM n2 M) := by
  intro d
  induction d using Nat.strongRecOn with
  | ind d ih =>
    intro f c n1 n2 S q t M A B e k a cc hd hcf h1 h2 h hq hc hcc ho hS hP
    obtain ⟨n1, rfl⟩ : ∃ q, n1 = q + 2 := ⟨n1 - 2, by omega⟩
    obtain ⟨n2, rfl⟩ : ∃ q, n2 = q + 2 := ⟨n2 - 2, by omega⟩
    have hfl := f_le h
    have stop : QR K T l v o f f a cc M (some (I (S : Int), q, t, A, B)) (some M) := Or.inr ⟨S, q, t, A, B, M, f, e, k, cc, rfl, rfl, hq, hS, h, Nat.le_refl _, hc, Nat.le_refl _, ho, fun _ _ => rfl, hP⟩
    rw [QRead_readConjunction_12, Mod_compileConjunction_4]
    rcases word_ss h (i := 19) (j := 50) st19 (by decide) (by decide) (by decide) with ⟨w1, w2, w3⟩ | ⟨t1, M1, f1, e1, k1, w1, w2, w3, w4, w5, w6, w7, w8, w9, w10, w11⟩
    · rw [w3, bind_s, bif_f, w1]
      by_cases c2 : (200 : Int32) ≤ I (c : Int)
      · rw [if_pos c2]; exact stop
      · rw [if_neg c2, if_pos hq, bind_s, bif_f]; exact stop
    · have c200 : c < 200 := by omega
      rw [w5, bind_s, bif_t, w1, if_neg (show ¬ (200 : Int32) ≤ I (c : Int) from I_le_f (a := 200) (b := (c : Int)) (by omega) (by omega) (by omega)), if_pos hq, bind_s, bif_t, w3, bind_s]
      dsimp only
      rcases (hF q t1 M1 A B f1 e1 k1 cc w6 hq (w9.2.2.2.trans hc) (by omega) (w9.2.1.trans ho)) with ⟨c3, x, q', t', A', B', M', r1, r2, r3, r4⟩ | ⟨S2, q', t', A', B', M', f', e', k', cc', r1, r2, r3, r4, r5, r6, r7, r8, r9, r10, r11⟩
      · left
        have hne : ¬ QRead_error q' = 0 := by rw [r3]; exact r4.c0
        dsimp only at r1
        rw [r1, r2, bind_s, bind_s, nmL_e, nmL_e, emit_e r4.ne, bind_s, Mod_compileConjunction_4, accept_e r4.ne, bind_s, bif_f, QRead_readConjunction_12]
        by_cases c2 : (200 : Int32) ≤ I (c : Int) + 1
        · rw [if_pos c2]; exact ⟨c3, _, q', t', A', B', M', rfl, rfl, r3, r4⟩
        · rw [if_neg c2, if_neg hne]; exact ⟨c3, _, q', t', A', B', M', rfl, rfl, r3, r4⟩
      · have hfl' := f_le r5
        obtain ⟨N, n3, n4, n5, n6, n7⟩ := emit_ss r5 r7 (by omega) (I (-24))
        have hcc' := r11.1
        dsimp only at r1
        rw [r1, r2, bind_s, bind_s, nmL_e, nmL_e, I_succ, I_and, Im24, n3, bind_s]
        have hac := hP.1
        have hP2 : PUSH (PVM v) (hR v) (Model_codes N) a (cc' + 1) (bv (S &&& S2)) := by
          refine push_op pvm_set (hP.congr (fun i i1 i2 => ?_) (fun _ _ => rfl)) (r11.congr (fun i i1 i2 => ?_) (fun _ _ => rfl)) (o := -24) (by omega) (by omega) (by omega) (by rw [n6, upd_i]) fun r hr => ?_
          · rw [n6, upd_n (by omega), r10 i (by omega), w9.2.2.1]
          · rw [n6, upd_n (by omega)]
          · rw [bv_and]
            exact op_and
        have hS2 : S &&& S2 < 2 ^ hR v := Nat.lt_of_le_of_lt Nat.and_le_left hS
        rcases ih (l - f') (by omega) f' (c + 1) (n1 + 1) (n2 + 1) (S &&& S2) q' t' N A' B' e' k' a (cc' + 1) (by omega) (by omega) (by omega) (by omega) n4 r3 n5 (by omega) (n7.trans r9) hS2 hP2 with h3 | ⟨S3, q3, t3, A3, B3, M3, f3, e3, k3, cc3, s1, s2, s3, s4, s5, s6, s7, s8, s9, s10, s11⟩
        · exact Or.inl h3
        · refine Or.inr ⟨S3, q3, t3, A3, B3, M3, f3, e3, k3, cc3, s1, s2, s3, s4, s5, by omega, s7, by omega, s9, fun i hi => ?_, s11⟩
          rw [s10 i (by omega), n6, upd_n (by omega), r10 i hi, w9.2.2.1]
theorem conj_fs (hl : l ≤ 200) {o : Nat} {FN : nestQT} {FM : nestMT} (hF : FS K T l v o (fun q t A B => QRead_readFactor FN (I (o : Int)) q t v sv A B) FM) : FS K T l v o (fun q t A B => QRead_readConjunction FN (I (o : Int)) q t v sv A B) (Mod_compileConjunction FM) := by
  intro q t M A B f e k cc h hq hc hcc ho
  have hfu : ∀ d, d ≤ 200 → d + 1 < FU := fun d hd => by unfold FU; omega
  obtain ⟨n0, hn0⟩ : ∃ n0, FU = n0 + 1 := ⟨FU - 1, rfl⟩
  dsimp only
  unfold QRead_readConjunction Mod_compileConjunction
  rcases (hF q t M A B f e k cc h hq hc hcc ho) with ⟨c3, x, q', t', A', B', M', r1, r2, r3, r4⟩ | ⟨S, q', t', A', B', M', f', e', k', cc', r1, r2, r3, r4, r5, r6, r7, r8, r9, r10, r11⟩
  · left
    have hne : ¬ QRead_error q' = 0 := by rw [r3]; exact r4.c0
    dsimp only at r1
    rw [r1, r2, bind_s, bind_s, hn0, Mod_compileConjunction_4, accept_e r4.ne, bind_s, bif_f, QRead_readConjunction_12, if_neg (by decide), if_neg hne]
    exact ⟨c3, _, q', t', A', B', M', rfl, rfl, r3, r4⟩
  · have hfl := f_le r5
    dsimp only at r1
    rw [r1, r2, bind_s, bind_s]
    rcases conj_loop hl hF (l - f') f' 0 FU FU S q' t' M' A' B' e' k' cc cc' (by omega) (by omega) (hfu _ (by omega)) (hfu _ (by omega)) r5 r3 r7 (by omega) r9 r4 r11 with h3 | ⟨S3, q3, t3, A3, B3, M3, f3, e3, k3, cc3, s1, s2, s3, s4, s5, s6, s7, s8, s9, s10, s11⟩
    · exact Or.inl h3
    · have := r11.1
      exact Or.inr ⟨S3, q3, t3, A3, B3, M3, f3, e3, k3, cc3, s1, s2, s3, s4, s5, by omega, s7, by omega, s9, fun i hi => (s10 i (by omega)).trans (r10 i hi), s11⟩
/-- parts joined by a word -/
theorem test_loop (hl : l ≤ 200) {o : Nat} {FN : nestQT} {FM : nestMT} (hF : FS K T l v o (fun q t A B => QRead_readConjunction FN (I (o : Int)) q t v sv A B) (Mod_compileConjunction FM)) : ∀ (d f c n1 n2 S : Nat) (q : QReadV) (t : ToksV) (M : ModelV) (A B : Nat → Int32) (e k a cc : Nat), l = f + d → c ≤ f → d + 1 < n1 → d + 1 < n2 → SS K T t M l f e k → QRead_error q = 0 → Model_codeCount M = I (cc : Int) → cc ≤ f → Model_nested M = I (o : Int) → S < 2 ^ hR v → PUSH (PVM v) (hR v) (Model_codes M) a cc (bv S) → QR K T l v o f f a cc M (QRead_readTest_12 FN (I (o : Int)) v sv n1 (I (S : Int)) (I (c : Int)) q t A B) (Mod_compileTest_4 FM n2 M) := by
  intro d
  induction d using Nat.strongRecOn with
  | ind d ih =>
    intro f c n1 n2 S q t M A B e k a cc hd hcf h1 h2 h hq hc hcc ho hS hP
    obtain ⟨n1, rfl⟩ : ∃ q, n1 = q + 2 := ⟨n1 - 2, by omega⟩
    obtain ⟨n2, rfl⟩ : ∃ q, n2 = q + 2 := ⟨n2 - 2, by omega⟩
    have hfl := f_le h
    have stop : QR K T l v o f f a cc M (some (I (S : Int), q, t, A, B)) (some M) := Or.inr ⟨S, q, t, A, B, M, f, e, k, cc, rfl, rfl, hq, hS, h, Nat.le_refl _, hc, Nat.le_refl _, ho, fun _ _ => rfl, hP⟩
    rw [QRead_readTest_12, Mod_compileTest_4]
    rcases word_ss h (i := 18) (j := 51) st18 (by decide) (by decide) (by decide) with ⟨w1, w2, w3⟩ | ⟨t1, M1, f1, e1, k1, w1, w2, w3, w4, w5, w6, w7, w8, w9, w10, w11⟩
    · rw [w3, bind_s, bif_f, w1]
      by_cases c2 : (200 : Int32) ≤ I (c : Int)
      · rw [if_pos c2]; exact stop
      · rw [if_neg c2, if_pos hq, bind_s, bif_f]; exact stop
    · have c200 : c < 200 := by omega
      rw [w5, bind_s, bif_t, w1, if_neg (show ¬ (200 : Int32) ≤ I (c : Int) from I_le_f (a := 200) (b := (c : Int)) (by omega) (by omega) (by omega)), if_pos hq, bind_s, bif_t, w3, bind_s]
      dsimp only
      rcases (hF q t1 M1 A B f1 e1 k1 cc w6 hq (w9.2.2.2.trans hc) (by omega) (w9.2.1.trans ho)) with ⟨c3, x, q', t', A', B', M', r1, r2, r3, r4⟩ | ⟨S2, q', t', A', B', M', f', e', k', cc', r1, r2, r3, r4, r5, r6, r7, r8, r9, r10, r11⟩
      · left
        have hne : ¬ QRead_error q' = 0 := by rw [r3]; exact r4.c0
        dsimp only at r1
        rw [r1, r2, bind_s, bind_s, nmL_e, nmL_e, emit_e r4.ne, bind_s, Mod_compileTest_4, accept_e r4.ne, bind_s, bif_f, QRead_readTest_12]
        by_cases c2 : (200 : Int32) ≤ I (c : Int) + 1
        · rw [if_pos c2]; exact ⟨c3, _, q', t', A', B', M', rfl, rfl, r3, r4⟩
        · rw [if_neg c2, if_neg hne]; exact ⟨c3, _, q', t', A', B', M', rfl, rfl, r3, r4⟩
      · have hfl' := f_le r5
        obtain ⟨N, n3, n4, n5, n6, n7⟩ := emit_ss r5 r7 (by omega) (I (-25))
        have hcc' := r11.1
        dsimp only at r1
        rw [r1, r2, bind_s, bind_s, nmL_e, nmL_e, I_succ, I_or, Im25, n3, bind_s]
        have hac := hP.1
        have hP2 : PUSH (PVM v) (hR v) (Model_codes N) a (cc' + 1) (bv (S ||| S2)) := by
          refine push_op pvm_set (hP.congr (fun i i1 i2 => ?_) (fun _ _ => rfl)) (r11.congr (fun i i1 i2 => ?_) (fun _ _ => rfl)) (o := -25) (by omega) (by omega) (by omega) (by rw [n6, upd_i]) fun r hr => ?_
          · rw [n6, upd_n (by omega), r10 i (by omega), w9.2.2.1]
          · rw [n6, upd_n (by omega)]
          · rw [bv_or]
            exact op_or
        have hS2 : S ||| S2 < 2 ^ hR v := or_lt hS r4
        rcases ih (l - f') (by omega) f' (c + 1) (n1 + 1) (n2 + 1) (S ||| S2) q' t' N A' B' e' k' a (cc' + 1) (by omega) (by omega) (by omega) (by omega) n4 r3 n5 (by omega) (n7.trans r9) hS2 hP2 with h3 | ⟨S3, q3, t3, A3, B3, M3, f3, e3, k3, cc3, s1, s2, s3, s4, s5, s6, s7, s8, s9, s10, s11⟩
        · exact Or.inl h3
        · refine Or.inr ⟨S3, q3, t3, A3, B3, M3, f3, e3, k3, cc3, s1, s2, s3, s4, s5, by omega, s7, by omega, s9, fun i hi => ?_, s11⟩
          rw [s10 i (by omega), n6, upd_n (by omega), r10 i hi, w9.2.2.1]
theorem test_fs (hl : l ≤ 200) {o : Nat} {FN : nestQT} {FM : nestMT} (hF : FS K T l v o (fun q t A B => QRead_readConjunction FN (I (o : Int)) q t v sv A B) (Mod_compileConjunction FM)) : FS K T l v o (fun q t A B => QRead_readTest FN (I (o : Int)) q t v sv A B) (Mod_compileTest FM) := by
  intro q t M A B f e k cc h hq hc hcc ho
  have hfu : ∀ d, d ≤ 200 → d + 1 < FU := fun d hd => by unfold FU; omega
  obtain ⟨n0, hn0⟩ : ∃ n0, FU = n0 + 1 := ⟨FU - 1, rfl⟩
  dsimp only
  unfold QRead_readTest Mod_compileTest
  rcases (hF q t M A B f e k cc h hq hc hcc ho) with ⟨c3, x, q', t', A', B', M', r1, r2, r3, r4⟩ | ⟨S, q', t', A', B', M', f', e', k', cc', r1, r2, r3, r4, r5, r6, r7, r8, r9, r10, r11⟩
  · left
    have hne : ¬ QRead_error q' = 0 := by rw [r3]; exact r4.c0
    dsimp only at r1
    rw [r1, r2, bind_s, bind_s, hn0, Mod_compileTest_4, accept_e r4.ne, bind_s, bif_f, QRead_readTest_12, if_neg (by decide), if_neg hne]
    exact ⟨c3, _, q', t', A', B', M', rfl, rfl, r3, r4⟩
  · have hfl := f_le r5
    dsimp only at r1
    rw [r1, r2, bind_s, bind_s]
    rcases test_loop hl hF (l - f') f' 0 FU FU S q' t' M' A' B' e' k' cc cc' (by omega) (by omega) (hfu _ (by omega)) (hfu _ (by omega)) r5 r3 r7 (by omega) r9 r4 r11 with h3 | ⟨S3, q3, t3, A3, B3, M3, f3, e3, k3, cc3, s1, s2, s3, s4, s5, s6, s7, s8, s9, s10, s11⟩
    · exact Or.inl h3
    · have := r11.1
      exact Or.inr ⟨S3, q3, t3, A3, B3, M3, f3, e3, k3, cc3, s1, s2, s3, s4, s5, by omega, s7, by omega, s9, fun i hi => (s10 i (by omega)).trans (r10 i hi), s11⟩
end FACT
