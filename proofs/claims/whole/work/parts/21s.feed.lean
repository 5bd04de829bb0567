section FEED
variable {K : KT} {T : TT} {t : ToksV} {M : ModelV} {l f e k : Nat} {v : HouseV}
/-- the bytes fed -/
def BUF (t : ToksV) (M : ModelV) (b : Nat) : Prop := Toks_filled t = I (b : Int) ∧ Model_bufferLength M = I (b : Int) ∧ b ≤ 600 ∧ ∀ i, i < b → ∃ c : Nat, Toks_bytes t i = I (c : Int) ∧ Model_buffer M i = I (c : Int) ∧ c < 256
theorem byte_I (y : Int32) : ∃ c : Nat, y &&& 255 = I (c : Int) ∧ c < 256 := by
  refine ⟨(y &&& 255).toBitVec.toNat, ?_, ?_⟩
  · rw [I_ofNat]
    apply Int32.toBitVec_inj.mp
    show (y &&& 255).toBitVec = BitVec.ofNat 32 (y &&& 255).toBitVec.toNat
    rw [BitVec.ofNat_toNat, BitVec.setWidth_eq]
  · have h : (y &&& 255).toBitVec = y.toBitVec &&& 255#32 := rfl
    rw [h, BitVec.toNat_and]
    have : y.toBitVec.toNat &&& (255#32).toNat ≤ (255#32).toNat := Nat.and_le_right
    have h2 : (255#32).toNat = 255 := rfl
    omega
/-- the byte j of x -/
def bt (x : Int32) (s : Int32) : Int32 := (x >>> (s &&& 31)) &&& 255
theorem feed_c {b : Nat} (h : Toks_filled t = I (b : Int)) (hb : b < 600) (x s : Int32) (hs : ¬ s < 0) (n : Nat) : ∃ t', Toks_addBytes_3 x (n + 1) s t = Toks_addBytes_3 x n (s + (-8)) t' ∧ Toks_filled t' = I ((b + 1 : Nat) : Int) ∧ Toks_bytes t' = upd (Toks_bytes t) b (bt x s) := by
  rw [Toks_addBytes_3, if_neg hs, h, if_neg (neg_f (by omega)), if_neg (show ¬ (600 : Int32) ≤ I (b : Int) from I_le_f (a := 600) (b := (b : Int)) (by omega) (by omega) (by omega)), gd_I (by omega) (by omega) (by omega), I_clamp b (by omega)]
  simp only [nmL_e]
  refine ⟨_, rfl, ?_, rfl⟩
  show Toks_filled (Toks_set_bytes t _) + 1 = _
  rw [show ∀ z, Toks_filled (Toks_set_bytes t z) = Toks_filled t from fun _ => rfl, h, I_succ]
theorem feed_m {b : Nat} (h : Model_bufferLength M = I (b : Int)) (hb : b < 600) (x1 x2 x3 x4 x5 s0 : Int32) (k23 : Int32 → ModelV → Option (Int32 × ModelV)) (x6 : Int32) : ∃ M', Mod_feed_76 x1 x2 x3 x4 x5 k23 x6 s0 M = k23 (x6 + 1) M' ∧ Model_bufferLength M' = I ((b + 1 : Nat) : Int) ∧ Model_buffer M' = upd (Model_buffer M) b (bt s0 (24 - (8 * (x6 - x6 / 4 * 4)))) ∧ kpF M' = kpF M := by
  unfold Mod_feed_76
  rw [gd_t (show nz (4 : Int32) = true from rfl), h, gd_I (by omega) (by omega) (by omega), I_clamp b (by omega)]
  simp only [nmL_e]
  refine ⟨_, rfl, ?_, ?_, ?_⟩
  · rw [Mo_bufferLength_bufferLength, Mo_bufferLength_buffer, h, I_succ]
  · rw [Mo_buffer_bufferLength, Mo_buffer_buffer]
    rfl
  · rw [kpF_bufferLength, kpF_buffer]
theorem BUF.step {b : Nat} {t' : ToksV} {M' : ModelV} (h : BUF t M b) (hb : b < 600) {x s s' : Int32} (hs : s' = s) (h1 : Toks_filled t' = I ((b + 1 : Nat) : Int)) (h2 : Toks_bytes t' = upd (Toks_bytes t) b (bt x s)) (h3 : Model_bufferLength M' = I ((b + 1 : Nat) : Int)) (h4 : Model_buffer M' = upd (Model_buffer M) b (bt x s')) : BUF t' M' (b + 1) := by
  refine ⟨h1, h3, by omega, fun i hi => ?_⟩
  rw [h2, h4, hs]
  by_cases c : i = b
  · rw [c, upd_i, upd_i]
    obtain ⟨y, y1, y2⟩ := byte_I (x >>> (s &&& 31))
    exact ⟨y, y1, y1, y2⟩
  · rw [upd_n c, upd_n c]
    exact h.2.2.2 i (by omega)
/-- which word -/
def wd (x1 x2 x3 x4 x5 : Int32) (w : Nat) : Int32 := if w < 1 then x1 else if w < 2 then x2 else if w < 3 then x3 else if w < 4 then x4 else x5
theorem feed23 {k : Nat} (hk : k < 20) (x1 x2 x3 x4 x5 : Int32) (n : Nat) (M : ModelV) : Mod_feed_23 x1 x2 x3 x4 x5 (n + 1) (I (k : Int)) M = Mod_feed_76 x1 x2 x3 x4 x5 (fun (x6 : Int32) (v0 : ModelV) => Mod_feed_23 x1 x2 x3 x4 x5 n x6 v0) (I (k : Int)) (wd x1 x2 x3 x4 x5 (k / 4)) M := by
  rw [Mod_feed_23, if_neg (show ¬ (20 : Int32) ≤ I (k : Int) from I_le_f (a := 20) (b := (k : Int)) (by omega) (by omega) (by omega))]
  unfold wd
  by_cases c1 : 4 ≤ k
  · rw [if_pos (show (4 : Int32) ≤ I (k : Int) from I_le_t (a := 4) (b := (k : Int)) (by omega) (by omega) (by omega)), if_neg (show ¬ k / 4 < 1 by omega)]
    by_cases c2 : 8 ≤ k
    · rw [if_pos (show (8 : Int32) ≤ I (k : Int) from I_le_t (a := 8) (b := (k : Int)) (by omega) (by omega) (by omega)), if_neg (show ¬ k / 4 < 2 by omega)]
      by_cases c3 : 12 ≤ k
      · rw [if_pos (show (12 : Int32) ≤ I (k : Int) from I_le_t (a := 12) (b := (k : Int)) (by omega) (by omega) (by omega)), if_neg (show ¬ k / 4 < 3 by omega)]
        by_cases c4 : 16 ≤ k
        · rw [if_pos (show (16 : Int32) ≤ I (k : Int) from I_le_t (a := 16) (b := (k : Int)) (by omega) (by omega) (by omega)), if_neg (show ¬ k / 4 < 4 by omega)]
        · rw [if_neg (show ¬ (16 : Int32) ≤ I (k : Int) from I_le_f (a := 16) (b := (k : Int)) (by omega) (by omega) (by omega)), if_pos (show k / 4 < 4 by omega)]
      · rw [if_neg (show ¬ (12 : Int32) ≤ I (k : Int) from I_le_f (a := 12) (b := (k : Int)) (by omega) (by omega) (by omega)), if_pos (show k / 4 < 3 by omega)]
    · rw [if_neg (show ¬ (8 : Int32) ≤ I (k : Int) from I_le_f (a := 8) (b := (k : Int)) (by omega) (by omega) (by omega)), if_pos (show k / 4 < 2 by omega)]
  · rw [if_neg (show ¬ (4 : Int32) ≤ I (k : Int) from I_le_f (a := 4) (b := (k : Int)) (by omega) (by omega) (by omega)), if_pos (show k / 4 < 1 by omega)]
theorem shf (w j : Nat) (hw : w < 5) (hj : j < 4) : (24 : Int32) - (8 * (I ((4 * w + j : Nat) : Int) - I ((4 * w + j : Nat) : Int) / 4 * 4)) = 24 - 8 * I (j : Int) := by
  rw [I4, I_rem (by omega) (by omega) (by omega) (by omega), show ((4 * w + j : Nat) : Int) % 4 = (j : Int) by omega]
/-- one word of four bytes -/
theorem feed4 {b : Nat} (h : BUF t M b) (hb : b + 4 ≤ 600) {w : Nat} (hw : w < 5) (x1 x2 x3 x4 x5 : Int32) (n : Nat) : ∃ t' M', Toks_addBytes (wd x1 x2 x3 x4 x5 w) t = some t' ∧ Mod_feed_23 x1 x2 x3 x4 x5 (n + 4) (I ((4 * w : Nat) : Int)) M = Mod_feed_23 x1 x2 x3 x4 x5 n (I ((4 * (w + 1) : Nat) : Int)) M' ∧ BUF t' M' (b + 4) ∧ kpF M' = kpF M := by
  obtain ⟨n0, hn0⟩ : ∃ n0, FU = n0 + 1 + 1 + 1 + 1 + 1 := ⟨FU - 5, rfl⟩
  have hq : ∀ j, j < 4 → (4 * w + j) / 4 = w := fun j hj => by omega
  obtain ⟨t1, a1, a2, a3⟩ := feed_c h.1 (by omega) (wd x1 x2 x3 x4 x5 w) 24 (by decide) (n0 + 1 + 1 + 1 + 1)
  obtain ⟨M1, b1, b2, b3, b4⟩ := feed_m h.2.1 (by omega) x1 x2 x3 x4 x5 (wd x1 x2 x3 x4 x5 w) (fun (x6 : Int32) (v0 : ModelV) => Mod_feed_23 x1 x2 x3 x4 x5 (n + 3) x6 v0) (I ((4 * w + 0 : Nat) : Int))
  rw [shf w 0 hw (by omega)] at b3
  have h1 := h.step (by omega) (show (24 : Int32) - 8 * I ((0 : Nat) : Int) = 24 by decide) a2 a3 b2 b3
  obtain ⟨t2, c1, c2, c3⟩ := feed_c h1.1 (by omega) (wd x1 x2 x3 x4 x5 w) (24 + (-8)) (by decide) (n0 + 1 + 1 + 1)
  obtain ⟨M2, d1, d2, d3, d4⟩ := feed_m h1.2.1 (by omega) x1 x2 x3 x4 x5 (wd x1 x2 x3 x4 x5 w) (fun (x6 : Int32) (v0 : ModelV) => Mod_feed_23 x1 x2 x3 x4 x5 (n + 2) x6 v0) (I ((4 * w + 1 : Nat) : Int))
  rw [shf w 1 hw (by omega)] at d3
  have h2 := h1.step (by omega) (show (24 : Int32) - 8 * I ((1 : Nat) : Int) = 24 + (-8) by decide) c2 c3 d2 d3
  obtain ⟨t3, e1, e2, e3⟩ := feed_c h2.1 (by omega) (wd x1 x2 x3 x4 x5 w) (24 + (-8) + (-8)) (by decide) (n0 + 1 + 1)
  obtain ⟨M3, f1, f2, f3, f4⟩ := feed_m h2.2.1 (by omega) x1 x2 x3 x4 x5 (wd x1 x2 x3 x4 x5 w) (fun (x6 : Int32) (v0 : ModelV) => Mod_feed_23 x1 x2 x3 x4 x5 (n + 1) x6 v0) (I ((4 * w + 2 : Nat) : Int))
  rw [shf w 2 hw (by omega)] at f3
  have h3 := h2.step (by omega) (show (24 : Int32) - 8 * I ((2 : Nat) : Int) = 24 + (-8) + (-8) by decide) e2 e3 f2 f3
  obtain ⟨t4, g1, g2, g3⟩ := feed_c h3.1 (by omega) (wd x1 x2 x3 x4 x5 w) (24 + (-8) + (-8) + (-8)) (by decide) (n0 + 1)
  obtain ⟨M4, i1, i2, i3, i4⟩ := feed_m h3.2.1 (by omega) x1 x2 x3 x4 x5 (wd x1 x2 x3 x4 x5 w) (fun (x6 : Int32) (v0 : ModelV) => Mod_feed_23 x1 x2 x3 x4 x5 n x6 v0) (I ((4 * w + 3 : Nat) : Int))
  rw [shf w 3 hw (by omega)] at i3
  have h4 := h3.step (by omega) (show (24 : Int32) - 8 * I ((3 : Nat) : Int) = 24 + (-8) + (-8) + (-8) by decide) g2 g3 i2 i3
  refine ⟨t4, M4, ?_, ?_, h4, i4.trans (f4.trans (d4.trans b4))⟩
  · unfold Toks_addBytes
    rw [hn0, a1, c1, e1, g1, Toks_addBytes_3, if_pos (by decide)]
  · have k0 := feed23 (k := 4 * w + 0) (by omega) x1 x2 x3 x4 x5 (n + 3) M
    have k1 := feed23 (k := 4 * w + 1) (by omega) x1 x2 x3 x4 x5 (n + 2) M1
    have k2 := feed23 (k := 4 * w + 2) (by omega) x1 x2 x3 x4 x5 (n + 1) M2
    have k3 := feed23 (k := 4 * w + 3) (by omega) x1 x2 x3 x4 x5 n M3
    rw [hq 0 (by omega), b1, I_succ] at k0
    rw [hq 1 (by omega), d1, I_succ] at k1
    rw [hq 2 (by omega), f1, I_succ] at k2
    rw [hq 3 (by omega), i1, I_succ] at k3
    exact k0.trans (k1.trans (k2.trans k3))
/-- feeding -/
theorem feed_ss {b : Nat} (h : BUF t M b) (g : GWV) (x1 x2 x3 x4 x5 : Int32) : ∃ r t' M' b', GW_feed x1 x2 x3 x4 x5 g t = some (r, t') ∧ (if Model_bufferLength M + 20 ≤ 600 then Mod_feed_23 x1 x2 x3 x4 x5 FU 0 M else some (-1, M)) = some (r, M') ∧ BUF t' M' b' ∧ kpF M' = kpF M := by
  have hb6 := h.2.2.1
  unfold GW_feed
  rw [h.1, h.2.1, show (20 : Int32) = I 20 from rfl, I_add]
  by_cases c : b + 20 ≤ 600
  · rw [if_pos (show I (b : Int) ≤ (580 : Int32) from I_le_t (a := (b : Int)) (b := 580) (by omega) (by omega) (by omega)), if_pos (show I ((b : Int) + 20) ≤ (600 : Int32) from I_le_t (a := (b : Int) + 20) (b := 600) (by omega) (by omega) (by omega))]
    obtain ⟨n0, hn0⟩ : ∃ n0, FU = n0 + 1 + 4 + 4 + 4 + 4 + 4 := ⟨FU - 21, rfl⟩
    obtain ⟨t1, M1, a1, a2, a3, a4⟩ := feed4 h (by omega) (w := 0) (by omega) x1 x2 x3 x4 x5 (n0 + 1 + 4 + 4 + 4 + 4)
    obtain ⟨t2, M2, b1, b2, b3, b4⟩ := feed4 a3 (by omega) (w := 1) (by omega) x1 x2 x3 x4 x5 (n0 + 1 + 4 + 4 + 4)
    obtain ⟨t3, M3, c1, c2, c3, c4⟩ := feed4 b3 (by omega) (w := 2) (by omega) x1 x2 x3 x4 x5 (n0 + 1 + 4 + 4)
    obtain ⟨t4, M4, d1, d2, d3, d4⟩ := feed4 c3 (by omega) (w := 3) (by omega) x1 x2 x3 x4 x5 (n0 + 1 + 4)
    obtain ⟨t5, M5, e1, e2, e3, e4⟩ := feed4 d3 (by omega) (w := 4) (by omega) x1 x2 x3 x4 x5 (n0 + 1)
    have a1' : Toks_addBytes x1 t = some t1 := a1
    have b1' : Toks_addBytes x2 t1 = some t2 := b1
    have c1' : Toks_addBytes x3 t2 = some t3 := c1
    have d1' : Toks_addBytes x4 t3 = some t4 := d1
    have e1' : Toks_addBytes x5 t4 = some t5 := e1
    have a2' : Mod_feed_23 x1 x2 x3 x4 x5 (n0 + 1 + 4 + 4 + 4 + 4 + 4) 0 M = _ := a2
    refine ⟨I ((b + 4 + 4 + 4 + 4 + 4 : Nat) : Int), t5, M5, _, ?_, ?_, e3, e4.trans (d4.trans (c4.trans (b4.trans a4)))⟩
    · rw [a1', bind_s, b1', bind_s, c1', bind_s, d1', bind_s, e1', bind_s, e3.1]
    · rw [hn0, a2', b2, c2, d2, e2, Mod_feed_23, if_pos (by decide), e3.2.1]
  · rw [if_neg (show ¬ I (b : Int) ≤ (580 : Int32) from I_le_f (a := (b : Int)) (b := 580) (by omega) (by omega) (by omega)), if_neg (show ¬ I ((b : Int) + 20) ≤ (600 : Int32) from I_le_f (a := (b : Int) + 20) (b := 600) (by omega) (by omega) (by omega))]
    exact ⟨-1, t, M, b, rfl, rfl, h, rfl⟩
/-- the text begins -/
theorem start_ss {b n : Nat} (h : BUF t M b) (hn : n ≤ b) : ∃ t' M' f e k, Toks_begin (I (n : Int)) t = some t' ∧ Mod_startText (I (n : Int)) M = some M' ∧ SS (kp M) (Toks_bytes t, Toks_filled t, I (n : Int)) t' M' n f e k ∧ Model_draft M' = Model_draft M ∧ Model_nested M' = 0 ∧ Model_codes M' = Model_codes M ∧ Model_codeCount M' = Model_codeCount M := by
  have hb6 := h.2.2.1
  unfold Toks_begin Mod_startText
  simp only [nmL_e]
  rw [show (600 : Int32) = I 600 from rfl, imin_I (by omega) (by omega) (by omega) (by omega), show min (n : Int) 600 = (n : Int) by omega]
  have hk : ∃ N, N = Model_set_nested (Model_set_error (Model_set_next (Model_set_limit M (I (n : Int))) 0) 0) 0 ∧ kp N = kp M ∧ Model_limit N = I (n : Int) ∧ Model_buffer N = Model_buffer M ∧ Model_next N = 0 ∧ Model_error N = 0 ∧ Model_nested N = 0 ∧ Model_draft N = Model_draft M ∧ Model_codes N = Model_codes M ∧ Model_codeCount N = Model_codeCount M := by
    refine ⟨_, rfl, ?_, ?_, ?_, ?_, ?_, ?_, ?_, ?_, ?_⟩
    · rw [kp_nested, kp_error, kp_next, kp_limit]
    · rw [Mo_limit_nested, Mo_limit_error, Mo_limit_next, Mo_limit_limit]
    · rw [Mo_buffer_nested, Mo_buffer_error, Mo_buffer_next, Mo_buffer_limit]
    · rw [Mo_next_nested, Mo_next_error, Mo_next_next]
    · rw [Mo_error_nested, Mo_error_error]
    · rw [Mo_nested_nested]
    · rw [Mo_draft_nested, Mo_draft_error, Mo_draft_next, Mo_draft_limit]
    · rw [Mo_codes_nested, Mo_codes_error, Mo_codes_next, Mo_codes_limit]
    · rw [Mo_codeCount_nested, Mo_codeCount_error, Mo_codeCount_next, Mo_codeCount_limit]
  obtain ⟨N, n0, n1, n2, n3, n4, n5, n6, n7, n8, n9⟩ := hk
  rw [← n0]
  have tb : TB (Toks_set_to (Toks_set_limit t (I (n : Int))) 0) N n := by
    refine ⟨rfl, n2, by omega, fun i hi => ?_⟩
    obtain ⟨c, c1, c2, c3⟩ := h.2.2.2 i (by omega)
    have eb : byt (Toks_set_to (Toks_set_limit t (I (n : Int))) 0) i = c := by
      show (Toks_bytes t i).toNatClampNeg = c
      rw [c1]
      exact I_clamp c (by omega)
    rw [eb, n3]
    exact ⟨c1, c2, c3⟩
  obtain ⟨f, e, k, t', M', a1, a2, a3, a4, a5, a6⟩ := adv_tk tb (p := 0) (by omega) rfl n4
  rw [a1, a2, bind_s, bind_s]
  exact ⟨t', M', f, e, k, rfl, rfl, ⟨a3, a5.trans rfl, (kpT_kp a6).trans n1, (kpT.error a6).trans n5⟩, (kpT.draft a6).trans n7, (kpT.nested a6).trans n6, (kpT.codes a6).trans n8, (kpT.codeCount a6).trans n9⟩
/-- what a read text leaves -/
def kpR (M : ModelV) (p : Int32) : (Nat → Int32) × (Nat → Int32) × (Nat → Int32) × Int32 × Bool × (Nat → Int32) × Int32 × (Nat → Int32) × Int32 × Int32 := (Model_now M, Model_snapshot M, Model_history M, Model_undoCount M, Model_hasSnapshot M, Model_formatted M, Model_formattedLength M, Model_buffer M, 0, p)
theorem finish_k (M : ModelV) (p : Int32) : kpA (Model_set_errorPosition (Model_set_bufferLength M 0) p) = kpR M p := by
  unfold kpA kpR
  rw [Mo_now_errorPosition, Mo_snapshot_errorPosition, Mo_history_errorPosition, Mo_undoCount_errorPosition, Mo_hasSnapshot_errorPosition, Mo_formatted_errorPosition, Mo_formattedLength_errorPosition, Mo_buffer_errorPosition, Mo_bufferLength_errorPosition, Mo_errorPosition_errorPosition, Mo_now_bufferLength, Mo_snapshot_bufferLength, Mo_history_bufferLength, Mo_undoCount_bufferLength, Mo_hasSnapshot_bufferLength, Mo_formatted_bufferLength, Mo_formattedLength_bufferLength, Mo_buffer_bufferLength, Mo_bufferLength_bufferLength]
theorem finish_ok (h : Model_error M = 0) : ∃ N, Mod_finish M = some (0, N) ∧ kpA N = kpR M (-1) ∧ Model_thrown N = Model_thrown M ∧ Model_error N = 0 ∧ Model_draft N = Model_draft M ∧ Model_codes N = Model_codes M ∧ Model_codeCount N = Model_codeCount M := by
  unfold Mod_finish
  rw [nmL_e, Mo_error_bufferLength, if_pos h, nmL_e, Mo_error_errorPosition, Mo_error_bufferLength, h]
  refine ⟨_, rfl, finish_k M (-1), ?_, ?_, ?_, ?_, ?_⟩
  · rw [Mo_thrown_errorPosition, Mo_thrown_bufferLength]
  · rw [Mo_error_errorPosition, Mo_error_bufferLength]; exact h
  · rw [Mo_draft_errorPosition, Mo_draft_bufferLength]
  · rw [Mo_codes_errorPosition, Mo_codes_bufferLength]
  · rw [Mo_codeCount_errorPosition, Mo_codeCount_bufferLength]
theorem finish_er {c : Nat} (h : EE K T t M c) : ∃ N, Mod_finish M = some (I (c : Int), N) ∧ kpA N = kpR M (Toks_from t) ∧ Model_thrown N = Model_thrown M ∧ Model_error N = I (c : Int) := by
  unfold Mod_finish
  rw [nmL_e, Mo_error_bufferLength, if_neg h.ne, nmL_e, Mo_error_errorPosition, Mo_error_bufferLength, Mo_errorAt_bufferLength, h.2.2.2.2.2.1, h.2.2.1]
  refine ⟨_, rfl, finish_k M _, ?_, ?_⟩
  · rw [Mo_thrown_errorPosition, Mo_thrown_bufferLength]
  · rw [Mo_error_errorPosition, Mo_error_bufferLength]; exact h.2.2.1
theorem endReading_0 (g : GWV) (t : ToksV) : GW_endReading 0 g t = some (GW_set_lastErrorPosition g (-1), Toks_set_filled t 0) := rfl
theorem endReading_c {c : Nat} (h : EE K T t M c) (g : GWV) : GW_endReading (I (c : Int)) g t = some (GW_set_lastErrorPosition g (Toks_from t), Toks_set_filled t 0) := by
  unfold GW_endReading
  rw [if_neg h.c0]
  rfl
end FEED
