section CASES17
variable {n c L : Nat} {k23 : K23} {xs : Nat → Int32} {v0 : GWV} {v1 v2 v5 v9 : HouseV} {v3 : HistV} {v4 : Nat → HouseV} {v6 v7 v10 : SightV} {v8 : BestV} {v11 : IntrV} {v12 : ToksV} {v14 : QReadV} {v15 v16 : Nat → Int32} {v17 M' : ModelV} {v19 : Nat → Int64}
/-- what recording and the present house leave alone -/
def kpQ (m : ModelV) : (Nat → Int32) × (Nat → Int32) × Int32 × Bool × (Nat → Int32) × Int32 := (Model_snapshot m, Model_history m, Model_undoCount m, Model_hasSnapshot m, Model_formatted m, Model_formattedLength m)
def kpN (m : ModelV) : (Nat → Int32) × (Nat → Int32) × Int32 × Bool × (Nat → Int32) × Int32 × (Nat → Int32) × Int32 × Int32 := (kpA m).2
theorem kpN_now (M : ModelV) (x : Nat → Int32) : kpN (Model_set_now M x) = kpN M := by
  unfold kpN kpA
  rw [Mo_snapshot_now, Mo_history_now, Mo_undoCount_now, Mo_hasSnapshot_now, Mo_formatted_now, Mo_formattedLength_now, Mo_buffer_now, Mo_bufferLength_now, Mo_errorPosition_now]
theorem kpN_q {M M0 : ModelV} (h : kpN M = kpN M0) : kpQ M = kpQ M0 := by
  unfold kpQ
  rw [show Model_snapshot M = Model_snapshot M0 from congrArg (fun q => q.1) h, show Model_history M = Model_history M0 from congrArg (fun q => q.2.1) h, show Model_undoCount M = Model_undoCount M0 from congrArg (fun q => q.2.2.1) h, show Model_hasSnapshot M = Model_hasSnapshot M0 from congrArg (fun q => q.2.2.2.1) h, show Model_formatted M = Model_formatted M0 from congrArg (fun q => q.2.2.2.2.1) h, show Model_formattedLength M = Model_formattedLength M0 from congrArg (fun q => q.2.2.2.2.2.1) h]
/-- an operation is recorded, and goes on with another house -/
theorem Inv.op (h : Inv n v0 v1 v3 v4 v5 v6 v8 v12 v17) {M0 : ModelV} (hnow : Model_now M0 = Model_now v17) (hq : kpQ M0 = kpQ v17) : ∃ (Φ Ψ : Nat → HouseV) (ls : Nat) (h' : HistV) (e' : Nat → HouseV) (M1 : ModelV), GW_lastStamp v0 = I (ls : Int) ∧ ls ≤ n ∧ JJ Φ Ψ ls v1 ∧ SI2 Φ ls v6 ∧ BI2 Ψ ls v8 ∧ Hist_record v3 v4 v1 = some (h', e') ∧ Mod_record M0 = some M1 ∧ Model_thrown M1 = Model_thrown M0 ∧ Model_now M1 = Model_now v17 ∧ RelM (Model_now M1) v1 ∧ Model_buffer M1 = Model_buffer M0 ∧ Model_bufferLength M1 = Model_bufferLength M0 ∧ Model_errorPosition M1 = Model_errorPosition M0 ∧ ∀ (Φ' Ψ' : Nat → HouseV) (ls' : Nat) (g' : GWV) (w : HouseV) (s : SightV) (b : BestV) (t' : ToksV) (bl : Nat) (M2 : ModelV), GW_lastStamp g' = I (ls' : Int) → ls ≤ ls' → ls' ≤ n + 1 → (∀ p, p ≤ ls → Φ' p = Φ p) → (∀ p, p ≤ ls → Ψ' p = Ψ p) → JJ Φ' Ψ' ls' w → RelM (Model_now M2) w → kpQ M2 = kpQ M1 → BUF t' M2 bl → GW_lastErrorPosition g' = Model_errorPosition M2 → GW_formattedLength g' = GW_formattedLength v0 → GW_formatted g' = GW_formatted v0 → SI2 Φ' ls' s → BI2 Ψ' ls' b → Inv (n + 1) g' w h' e' v5 s b t' M2 := by
  obtain ⟨Φ, Ψ, ls, b, len, a1, a2, a3, a4, a5, a6, a7, a8, a9, a10, a11, a12, a13⟩ := h
  have q1 : Model_snapshot M0 = Model_snapshot v17 := congrArg (fun q => q.1) hq
  have q2 : Model_history M0 = Model_history v17 := congrArg (fun q => q.2.1) hq
  have q3 : Model_undoCount M0 = Model_undoCount v17 := congrArg (fun q => q.2.2.1) hq
  have q4 : Model_hasSnapshot M0 = Model_hasSnapshot v17 := congrArg (fun q => q.2.2.2.1) hq
  have q5 : Model_formatted M0 = Model_formatted v17 := congrArg (fun q => q.2.2.2.2.1) hq
  have q6 : Model_formattedLength M0 = Model_formattedLength v17 := congrArg (fun q => q.2.2.2.2.2) hq
  have hr : HR (JJ Φ Ψ ls) v3 v4 v5 (Model_history M0) (Model_undoCount M0) (Model_snapshot M0) (Model_hasSnapshot M0) := by rw [q1, q2, q3, q4]; exact a5
  obtain ⟨h', e', M1, H', C', e1, e2, e3, e4, e5⟩ := record_s (M := M0) JJ.hc (fun v hv => hv.1) hr a3 (by rw [hnow]; exact a4)
  have k1 : Model_now M1 = Model_now M0 := congrArg (fun q => q.1) e3
  have k2 : Model_snapshot M1 = Model_snapshot M0 := congrArg (fun q => q.2.1) e3
  have k3 : Model_history M1 = H' := congrArg (fun q => q.2.2.1) e3
  have k4 : Model_undoCount M1 = C' := congrArg (fun q => q.2.2.2.1) e3
  have k5 : Model_hasSnapshot M1 = Model_hasSnapshot M0 := congrArg (fun q => q.2.2.2.2.1) e3
  have k6 : Model_formatted M1 = Model_formatted M0 := congrArg (fun q => q.2.2.2.2.2.1) e3
  have k7 : Model_formattedLength M1 = Model_formattedLength M0 := congrArg (fun q => q.2.2.2.2.2.2.1) e3
  have k8 : Model_buffer M1 = Model_buffer M0 := congrArg (fun q => q.2.2.2.2.2.2.2.1) e3
  have k9 : Model_bufferLength M1 = Model_bufferLength M0 := congrArg (fun q => q.2.2.2.2.2.2.2.2.1) e3
  have k10 : Model_errorPosition M1 = Model_errorPosition M0 := congrArg (fun q => q.2.2.2.2.2.2.2.2.2) e3
  refine ⟨Φ, Ψ, ls, h', e', M1, a1, a2, a3, a12, a13, e1, e2, e4, k1.trans hnow, by rw [k1, hnow]; exact a4, k8, k9, k10, ?_⟩
  intro Φ' Ψ' ls' g' w s b' t' bl M2 l1 l2 l3 l4 l5 hj hrel hk hbuf herr hfl hf hs hb
  have r1 : Model_snapshot M2 = Model_snapshot M1 := congrArg (fun q => q.1) hk
  have r2 : Model_history M2 = Model_history M1 := congrArg (fun q => q.2.1) hk
  have r3 : Model_undoCount M2 = Model_undoCount M1 := congrArg (fun q => q.2.2.1) hk
  have r4 : Model_hasSnapshot M2 = Model_hasSnapshot M1 := congrArg (fun q => q.2.2.2.1) hk
  have r5 : Model_formatted M2 = Model_formatted M1 := congrArg (fun q => q.2.2.2.2.1) hk
  have r6 : Model_formattedLength M2 = Model_formattedLength M1 := congrArg (fun q => q.2.2.2.2.2) hk
  refine ⟨Φ', Ψ', ls', bl, len, l1, l3, hj, hrel, ?_, hbuf, herr, a8, hfl.trans a9, ?_, ?_, hs, hb⟩
  · rw [r1, r2, r3, r4, k2, k3, k4, k5]
    exact HR.mono (fun v hv => hv.mono l2 l4 l5) e5
  · rw [r6, k7, q6]; exact a10
  · rw [hf, r5, k6, q5]; exact a11
/-- the same, where no text is read -/
theorem Inv.op0 (h : Inv n v0 v1 v3 v4 v5 v6 v8 v12 v17) : ∃ (Φ Ψ : Nat → HouseV) (ls : Nat) (h' : HistV) (e' : Nat → HouseV) (M1 : ModelV), GW_lastStamp v0 = I (ls : Int) ∧ ls ≤ n ∧ JJ Φ Ψ ls v1 ∧ SI2 Φ ls v6 ∧ BI2 Ψ ls v8 ∧ Hist_record v3 v4 v1 = some (h', e') ∧ Mod_record (Model_set_thrown v17 0) = some M1 ∧ Model_thrown M1 = 0 ∧ Model_now M1 = Model_now v17 ∧ RelM (Model_now M1) v1 ∧ ∀ (Φ' Ψ' : Nat → HouseV) (ls' : Nat) (g' : GWV) (w : HouseV) (s : SightV) (b : BestV) (M2 : ModelV), GW_lastStamp g' = I (ls' : Int) → ls ≤ ls' → ls' ≤ n + 1 → (∀ p, p ≤ ls → Φ' p = Φ p) → (∀ p, p ≤ ls → Ψ' p = Ψ p) → JJ Φ' Ψ' ls' w → RelM (Model_now M2) w → kpN M2 = kpN M1 → GW_lastErrorPosition g' = GW_lastErrorPosition v0 → GW_formattedLength g' = GW_formattedLength v0 → GW_formatted g' = GW_formatted v0 → SI2 Φ' ls' s → BI2 Ψ' ls' b → Inv (n + 1) g' w h' e' v5 s b v12 M2 := by
  have h0 := h
  obtain ⟨Φ, Ψ, ls, b, len, a1, a2, a3, a4, a5, a6, a7, -⟩ := h
  have kk := kpA_thr v17 0
  obtain ⟨Φ, Ψ, ls, h', e', M1, e1, e2, e3, e4, e5, e6, e7, e8, e9, e10, e11, e12, e13, e14⟩ := h0.op (M0 := Model_set_thrown v17 0) (Mo_now_thrown _ _) (kpN_q (congrArg (fun q => q.2) kk))
  refine ⟨Φ, Ψ, ls, h', e', M1, e1, e2, e3, e4, e5, e6, e7, e8.trans (Mo_thrown_thrown _ _), e9, e10, ?_⟩
  intro Φ' Ψ' ls' g' w s b' M2 l1 l2 l3 l4 l5 hj hrel hk herr hfl hf hs hb
  have r1 : Model_buffer M2 = Model_buffer M1 := congrArg (fun q => q.2.2.2.2.2.2.1) hk
  have r2 : Model_bufferLength M2 = Model_bufferLength M1 := congrArg (fun q => q.2.2.2.2.2.2.2.1) hk
  have r3 : Model_errorPosition M2 = Model_errorPosition M1 := congrArg (fun q => q.2.2.2.2.2.2.2.2) hk
  refine e14 Φ' Ψ' ls' g' w s b' v12 b M2 l1 l2 l3 l4 l5 hj hrel (kpN_q hk) ?_ ?_ hfl hf hs hb
  · unfold BUF
    rw [r1, r2, e11, e12, Mo_buffer_thrown, Mo_bufferLength_thrown]
    exact a6
  · rw [herr, r3, e13, Mo_errorPosition_thrown]
    exact a7
/-- a door is set -/
theorem setDoor_fin (h : Inv n v0 v1 v3 v4 v5 v6 v8 v12 v17) {d : Nat} (hdd : d < hD v1) (b : Bool) {y : Int32} (hy : y = I ((bif b then 1 else 0 : Nat) : Int)) : ∃ (a : Int32) (h' : HistV) (e' : Nat → HouseV) (w : HouseV) (M1 M2 : ModelV), Hist_record v3 v4 v1 = some (h', e') ∧ House_setOpen (I (d : Int)) b v1 = some w ∧ House_countOpenDoors w = some a ∧ Mod_record (Model_set_thrown v17 0) = some M1 ∧ Mod_doorAt (I (d : Int)) 2 = some (I ((66 + 3 * d : Nat) : Int)) ∧ Model_set_now M1 (upd (Model_now M1) (Int32.toNatClampNeg (I ((66 + 3 * d : Nat) : Int))) y) = M2 ∧ Mod_openAt (-1) M2 = some a ∧ Model_thrown M2 = 0 ∧ Inv (n + 1) v0 w h' e' v5 v6 v8 v12 M2 := by
  have h0 := h
  obtain ⟨Φ0, Ψ0, ls0, b0, len, -, -, -, -, -, a6, a7, -⟩ := h
  obtain ⟨Φ, Ψ, ls, h', e', M1, e1, e2, e3, e4, e5, e6, e7, e8, e9, e10, e11⟩ := h0.op0
  have hv := e3.1
  have hD20 : hD v1 ≤ 20 := hv.1.2.2.2.2.1
  obtain ⟨w, f1, f2, f3, f4, f5, f6, f7⟩ := setDoor hv e10 hdd b
  have hwe : WE w v1 := by
    refine we_of hv.2.2.2.2.1 f4.1 f4.2.1 (fun g hg => (f4.2.2 g (by rw [f4.2.1]; exact hg)).1) (fun g s _ _ => ?_)
    unfold hW
    rw [f7]
  have hj := e3.same f2 f6 f5 f4 hwe
  have hc : (I ((66 + 3 * d : Nat) : Int)).toNatClampNeg = 66 + 3 * d := I_clamp _ (by omega)
  rw [hc, hy]
  have hr2 : RelM (Model_now (Model_set_now M1 (upd (Model_now M1) (66 + 3 * d) (I ((bif b then 1 else 0 : Nat) : Int))))) w := by rw [Mo_now_now]; exact f3
  refine ⟨_, h', e', w, M1, _, e6, f1, openAll_s f2.1, e7, da2 d, rfl, openAll_m hr2 f2.1 f2.2.1, (Mo_thrown_now _ _).trans e8, ?_⟩
  exact e11 Φ Ψ ls v0 w v6 v8 _ e1 (Nat.le_refl _) (by omega) (fun _ _ => rfl) (fun _ _ => rfl) hj hr2 (kpN_now _ _) rfl rfl rfl e4 e5
theorem openDoor_ay (h : Inv n v0 v1 v3 v4 v5 v6 v8 v12 v17) (x : Int32) : AY (fun b => b = false) v17 (GW_openDoor x v0 v1 v3 v4) (Mod_openDoor x v17) (fun s M' => Inv (n + 1) v0 s.1 s.2.1 s.2.2 v5 v6 v8 v12 M') := by
  have h0 := h
  obtain ⟨Φ, Ψ, ls, b, len, a1, a2, a3, a4, -⟩ := h
  have hv := a3.1
  have hD20 : hD v1 ≤ 20 := hv.1.2.2.2.2.1
  have hr0 : RelM (Model_now (Model_set_thrown v17 0)) v1 := by rw [Mo_now_thrown]; exact a4
  obtain ⟨z, rfl, z1, z2⟩ := sel32 x
  unfold GW_openDoor Mod_openDoor
  rw [needDoor_s hv.1 z1 z2, bind_s, nmL_e, isDoor_m hr0 hv.1 z1 z2, bind_s]
  by_cases c : 0 ≤ z ∧ z < hD v1
  · obtain ⟨d, rfl⟩ : ∃ d : Nat, z = (d : Int) := ⟨z.toNat, by omega⟩
    have hdd : d < hD v1 := by omega
    have e1 := isOpen_s hv.1 (v := v1) (d := d) (by omega)
    have e2 := dO_m hr0 hv.1 hdd
    rw [if_pos c, decide_eq_true c, bif_t, e2, bind_s]
    unfold exK
    dsimp only
    rw [e1, bind_s, show (hO v1).testBit d = opn v1 d from rfl]
    left
    cases opn v1 d
    · obtain ⟨a, h', e', w, M1, M2, g1, g2, g3, g4, g5, g6, g7, g8, g9⟩ := setDoor_fin h0 hdd true (y := 1) rfl
      rw [bif_f, if_neg (show ¬ I ((bif false then 1 else 0 : Nat) : Int) = (1 : Int32) by decide), g1, bind_s, g2, bind_s, g3, bind_s, g4, bind_s, g5, bind_s, gd_I (by omega) (by omega) (by omega), nmL_e, g6, g7, bind_s]
      exact ⟨a, (w, h', e'), M2, rfl, rfl, g8, g9⟩
    · rw [bif_t, if_pos (show I ((bif true then 1 else 0 : Nat) : Int) = (1 : Int32) from rfl)]
      exact ⟨_, (v1, v3, v4), _, rfl, rfl, Mo_thrown_thrown _ _, h0.keep (kpA_thr _ _)⟩
  · obtain ⟨M', r1, r2, r3⟩ := raise_ax (M := v17) 1
    rw [if_neg c, decide_eq_false c, bif_f, r1, bind_s]
    exact Or.inr ⟨false, _, M', rfl, rfl, rfl, r2, r3⟩
theorem case_1905 (h : Inv n v0 v1 v3 v4 v5 v6 v8 v12 v17) (hc : c + 6 ≤ L) (hL : L ≤ 3072) : NX n c k23 (Law_1905 L xs k23 (I (c : Int)) v0 v1 v2 v3 v4 v5 v6 v7 v8 v9 v10 v11 v12 v14 v15 v16 v17 v19) := by
  have h0 := h
  unfold Law_1905
  rw [gd_t (in1 hc hL)]
  unfold L_openDoor
  rcases openDoor_ay h0 (xs (Int32.toNatClampNeg (I (c : Int) + 1))) with ⟨a, s, M', e1, e2, e3, e4⟩ | ⟨b, x, M', eb, e1, e2, e3, e4⟩
  · rw [e1, bind_s]
    unfold exC
    dsimp only
    rw [gd_t (show inB (0 : Int32) 1 = true from rfl), nmL_e, bind_s, e2, bind_s]
    unfold Mod_thrown
    rw [bind_s]
    dsimp only
    rw [e3, if_pos rfl, if_pos rfl, gd_t (show inB (0 : Int32) 1 = true from rfl), if_pos (show lg_cmp (vp_updL v19 (Int32.toNatClampNeg 0) (Int32.toInt64 a) (Int32.toNatClampNeg 0)) (Int32.toInt64 a) = 0 by rw [updL_i]; exact lg_self _), nmL_e]
    exact ⟨v0, s.1, v2, s.2.1, s.2.2, v5, v6, v7, v8, v9, v10, v11, v12, v14, v15, v16, M', _, rfl, e4⟩
  · have eb : b = false := eb
    subst eb
    rw [e1, bind_s]
    unfold exC
    dsimp only
    rw [bif_f, bind_s, e2, bind_s]
    unfold Mod_thrown
    rw [bind_s]
    dsimp only
    rw [e3, if_neg (show ¬ (false = true) by decide), if_pos rfl, if_neg (show ¬ (1 : Int32) = 0 by decide), nmL_e]
    exact ⟨v0, v1, v2, v3, v4, v5, v6, v7, v8, v9, v10, v11, v12, v14, v15, v16, M', _, rfl, h0.keep e4⟩
theorem close_fin (h : Inv n v0 v1 v3 v4 v5 v6 v8 v12 v17) {d : Nat} (hdd : d < hD v1) : ∃ a s M', GW_closeDoor_44 (I (d : Int)) v0 v1 v3 v4 = some (.ok (a, s)) ∧ Mod_closeDoor_62 (I (d : Int)) (Model_set_thrown v17 0) = some (a, M') ∧ Model_thrown M' = 0 ∧ Inv (n + 1) v0 s.1 s.2.1 s.2.2 v5 v6 v8 v12 M' := by
  have h0 := h
  obtain ⟨Φ, Ψ, ls, b, len, a1, a2, a3, a4, -⟩ := h
  have hD20 : hD v1 ≤ 20 := a3.1.1.2.2.2.2.1
  obtain ⟨a, h', e', w, M1, M2, g1, g2, g3, g4, g5, g6, g7, g8, g9⟩ := setDoor_fin h0 hdd false (y := 0) rfl
  unfold GW_closeDoor_44 Mod_closeDoor_62
  rw [g1, bind_s, g2, bind_s, g3, bind_s, g4, bind_s, g5, bind_s, gd_I (by omega) (by omega) (by omega), nmL_e, g6, g7, bind_s]
  exact ⟨a, (w, h', e'), M2, rfl, rfl, g8, g9⟩
theorem closeDoor_ay (h : Inv n v0 v1 v3 v4 v5 v6 v8 v12 v17) (x : Int32) : AY (fun b => b = false) v17 (GW_closeDoor x v0 v1 v3 v4) (Mod_closeDoor x v17) (fun s M' => Inv (n + 1) v0 s.1 s.2.1 s.2.2 v5 v6 v8 v12 M') := by
  have h0 := h
  obtain ⟨Φ, Ψ, ls, b, len, a1, a2, a3, a4, -⟩ := h
  have hv := a3.1
  have hd := hv.2.1
  have hw := hv.2.2.2.2.1
  have hR12 : hR v1 ≤ 12 := hv.1.2.2.1
  have hG4 : hG v1 ≤ 4 := hv.1.2.2.2.2.2.2.1
  have hD20 : hD v1 ≤ 20 := hv.1.2.2.2.2.1
  have hr0 : RelM (Model_now (Model_set_thrown v17 0)) v1 := by rw [Mo_now_thrown]; exact a4
  obtain ⟨z, rfl, z1, z2⟩ := sel32 x
  unfold GW_closeDoor Mod_closeDoor
  rw [needDoor_s hv.1 z1 z2, bind_s, nmL_e, isDoor_m hr0 hv.1 z1 z2, bind_s]
  by_cases c : 0 ≤ z ∧ z < hD v1
  · obtain ⟨d, rfl⟩ : ∃ d : Nat, z = (d : Int) := ⟨z.toNat, by omega⟩
    have hdd : d < hD v1 := by omega
    have e1 := isOpen_s hv.1 (v := v1) (d := d) (by omega)
    have e2 := dO_m hr0 hv.1 hdd
    rw [if_pos c, decide_eq_true c, bif_t, e2, bind_s]
    unfold exK
    dsimp only
    rw [e1, bind_s, show (hO v1).testBit d = opn v1 d from rfl]
    left
    cases ho : opn v1 d
    · rw [bif_f, if_pos (show I ((bif false then 1 else 0 : Nat) : Int) = (0 : Int32) from rfl)]
      exact ⟨_, (v1, v3, v4), _, rfl, rfl, Mo_thrown_thrown _ _, h0.keep (kpA_thr _ _)⟩
    · have t1 := through_s hv.1 hd hw hdd
      have t2 := through_m hr0 hv.1 hd hw hdd
      have tl := cnt_le (thr v1 (hA v1 d) (hB v1 d)) (hG v1)
      obtain ⟨a, s, M', g1, g2, g3, g4⟩ := close_fin h0 hdd
      rw [bif_t, if_neg (show ¬ I ((bif true then 1 else 0 : Nat) : Int) = (0 : Int32) by decide), t1, bind_s, t2, bind_s]
      by_cases c2 : cnt (thr v1 (hA v1 d) (hB v1 d)) (hG v1) = 0
      · have hle : I ((cnt (thr v1 (hA v1 d) (hB v1 d)) (hG v1) : Nat) : Int) ≤ (0 : Int32) := I_le_t (b := 0) (by omega) (by omega) (by omega)
        rw [if_pos hle, if_pos hle, g1, g2]
        exact ⟨a, s, M', rfl, rfl, g3, g4⟩
      · have hle : ¬ I ((cnt (thr v1 (hA v1 d) (hB v1 d)) (hG v1) : Nat) : Int) ≤ (0 : Int32) := I_le_f (b := 0) (by omega) (by omega) (by omega)
        have hdA := (hd d hdd).2.1
        have hdB := (hd d hdd).2.2.2.1
        have o1 := other_s hv.1 hd hdd ho
        have o2 : Mod_openBetween (I (hA v1 d : Int)) (I (hB v1 d : Int)) (Model_set_thrown v17 0) = some (I ((cnt (obt v1 d) (hD v1) : Nat) : Int)) := openBetween_m hr0 hv.1 hd (by omega) (by omega)
        have ol := cnt_le (obt v1 d) (hD v1)
        rw [if_neg hle, if_neg hle, o1, bind_s, dA_m hr0 hv.1 hd hdd, bind_s, dB_m hr0 hv.1 hd hdd, bind_s, o2, bind_s]
        by_cases c3 : cnt (obt v1 d) (hD v1) = 1
        · rw [decide_eq_false (fun k => k c3), bif_f, if_pos (show I ((cnt (obt v1 d) (hD v1) : Nat) : Int) = (1 : Int32) by rw [c3]; rfl)]
          exact ⟨_, (v1, v3, v4), _, rfl, rfl, Mo_thrown_thrown _ _, h0.keep (kpA_thr _ _)⟩
        · rw [decide_eq_true c3, bif_t, if_neg (show ¬ I ((cnt (obt v1 d) (hD v1) : Nat) : Int) = (1 : Int32) from I_ne (b := 1) (by omega) (by omega) (by omega) (by omega) (by omega)), g1, g2]
          exact ⟨a, s, M', rfl, rfl, g3, g4⟩
  · obtain ⟨M', r1, r2, r3⟩ := raise_ax (M := v17) 1
    rw [if_neg c, decide_eq_false c, bif_f, r1, bind_s]
    exact Or.inr ⟨false, _, M', rfl, rfl, rfl, r2, r3⟩
theorem case_1849 (h : Inv n v0 v1 v3 v4 v5 v6 v8 v12 v17) (hc : c + 6 ≤ L) (hL : L ≤ 3072) : NX n c k23 (Law_1849 L xs k23 (I (c : Int)) v0 v1 v2 v3 v4 v5 v6 v7 v8 v9 v10 v11 v12 v14 v15 v16 v17 v19) := by
  have h0 := h
  unfold Law_1849
  rw [gd_t (in1 hc hL)]
  unfold L_closeDoor
  rcases closeDoor_ay h0 (xs (Int32.toNatClampNeg (I (c : Int) + 1))) with ⟨a, s, M', e1, e2, e3, e4⟩ | ⟨b, x, M', eb, e1, e2, e3, e4⟩
  · rw [e1, bind_s]
    unfold exC
    dsimp only
    rw [gd_t (show inB (0 : Int32) 1 = true from rfl), nmL_e, bind_s, e2, bind_s]
    unfold Mod_thrown
    rw [bind_s]
    dsimp only
    rw [e3, if_pos rfl, if_pos rfl, gd_t (show inB (0 : Int32) 1 = true from rfl), if_pos (show lg_cmp (vp_updL v19 (Int32.toNatClampNeg 0) (Int32.toInt64 a) (Int32.toNatClampNeg 0)) (Int32.toInt64 a) = 0 by rw [updL_i]; exact lg_self _), nmL_e]
    exact ⟨v0, s.1, v2, s.2.1, s.2.2, v5, v6, v7, v8, v9, v10, v11, v12, v14, v15, v16, M', _, rfl, e4⟩
  · have eb : b = false := eb
    subst eb
    rw [e1, bind_s]
    unfold exC
    dsimp only
    rw [bif_f, bind_s, e2, bind_s]
    unfold Mod_thrown
    rw [bind_s]
    dsimp only
    rw [e3, if_neg (show ¬ (false = true) by decide), if_pos rfl, if_neg (show ¬ (1 : Int32) = 0 by decide), nmL_e]
    exact ⟨v0, v1, v2, v3, v4, v5, v6, v7, v8, v9, v10, v11, v12, v14, v15, v16, M', _, rfl, h0.keep e4⟩
theorem setLimit_ay (h : Inv n v0 v1 v3 v4 v5 v6 v8 v12 v17) (hnn : n ≤ 99999) (x y : Int32) : AY (fun _ => True) v17 (GW_setLimit x y v0 v1 v3 v4 v6) (Mod_setLimit x y v17) (fun s M' => Inv (n + 1) v0 s.1 s.2.1 s.2.2.1 v5 s.2.2.2 v8 v12 M') := by
  have h0 := h
  obtain ⟨Φ0, Ψ0, ls0, b, len, -, -, a3, a4, -⟩ := h
  have hv := a3.1
  have hn := hv.1
  have hR12 : hR v1 ≤ 12 := hn.2.2.1
  obtain ⟨z, rfl, z1, z2⟩ := sel32 x
  obtain ⟨w, rfl, w1, w2⟩ := sel32 y
  have hin : Mod_inRange (I w) 0 99 = some (decide (0 ≤ w ∧ w ≤ 99)) := inRange_s (a := 0) (b := 99) w1 w2 (by omega) (by omega) (by omega) (by omega)
  have hne : GW_needRange (I w) 0 99 = some (if 0 ≤ w ∧ w ≤ 99 then .ok () else .error true) := needRange_s (lo := 0) (hi := 99) w1 w2 (by omega) (by omega) (by omega) (by omega)
  unfold GW_setLimit Mod_setLimit
  rw [needRoom_s hn z1 z2, bind_s, isRoom_m a4 hn z1 z2, bind_s]
  by_cases c : 0 ≤ z ∧ z < hR v1
  · obtain ⟨d, rfl⟩ : ∃ d : Nat, z = (d : Int) := ⟨z.toNat, by omega⟩
    have hdd : d < hR v1 := by omega
    rw [if_pos c, decide_eq_true c, bif_t, hin, bind_s]
    unfold exK Mod_setLimit_28
    dsimp only
    rw [hne, bind_s]
    by_cases c2 : 0 ≤ w ∧ w ≤ 99
    · obtain ⟨l, rfl⟩ : ∃ d : Nat, w = (d : Int) := ⟨w.toNat, by omega⟩
      obtain ⟨Φ, Ψ, ls, h', e', M1, e1, e2, e3, e4, e5, e6, e7, e8, e9, e10, e11⟩ := h0.op0
      obtain ⟨u, u0, u1, u2, u3, u4, u5, u6, u7, u8⟩ := setLimit_ok hv e10 hdd (show l ≤ 99 by omega)
      have hwe : WE u v1 := we_of hv.2.2.2.2.1 u3.1 u3.2.1 (fun g hg => (u3.2.2 g (by rw [u3.2.1]; exact hg)).1) (fun g s _ _ => by unfold hW; rw [u6])
      have hj := e3.same u1 u5 u4 u3 hwe
      obtain ⟨s1, m1, m2, m3⟩ := measured_s u1.1 u1.2.2.2.2.1 (e4.ms hj (by omega)) v0
      have hr2 : RelM (Model_now (Model_set_now M1 (upd (Model_now M1) (4 + 5 * d) (I (l : Int))))) u := by rw [Mo_now_now]; exact u2
      obtain ⟨ph, cy, f, l', s, gg, bb, e, k1, k2, k3⟩ := layNow_m hr2 u1.1 u1.2.2.2.2.1
      have hrB : RelM (Model_now (Model_set_cycleNow (Model_set_phases (Model_set_now M1 (upd (Model_now M1) (4 + 5 * d) (I (l : Int)))) ph) cy)) u := by rw [Mo_now_cycleNow, Mo_now_phases]; exact hr2
      have hrL := rel_ML (f := f) (l := l') (s := s) (g := gg) (b := bb) hrB
      have eL := lateLaid_m (l := l') (f := f) hrB u1.1 u1.2.2.2.2.1 u1.2.2.2.1 k3
      have kk : kp (ML (Model_set_cycleNow (Model_set_phases (Model_set_now M1 (upd (Model_now M1) (4 + 5 * d) (I (l : Int)))) ph) cy) f l' s gg bb) = kp (Model_set_now M1 (upd (Model_now M1) (4 + 5 * d) (I (l : Int)))) := by rw [kp_ML, kp_cycleNow, kp_phases]
      revert e hrL eL kk
      generalize ML (Model_set_cycleNow (Model_set_phases (Model_set_now M1 (upd (Model_now M1) (4 + 5 * d) (I (l : Int)))) ph) cy) f l' s gg bb = N
      intro e hrL eL kk
      have kT : Model_thrown N = 0 := (congrArg (fun q => q.1) kk).trans ((Mo_thrown_now _ _).trans e8)
      have kN : kpN N = kpN M1 := (congrArg (fun q => q.2.2) kk).trans (kpN_now _ _)
      have hc : (I ((4 + 5 * d : Nat) : Int)).toNatClampNeg = 4 + 5 * d := I_clamp _ (by omega)
      rw [if_pos c2, decide_eq_true c2, bif_t]
      dsimp only
      rw [e6, bind_s, gd_I (by omega) (by omega) (by omega), nmL_e, I_clamp d (by omega), ← u0, m1, bind_s, countLate_s u1.1 u1.2.2.2.2.1 u1.2.2.2.1 m2, bind_s, nmL_e, if_pos (Mo_thrown_thrown v17 0), e7, bind_s, ra0, bind_s, gd_I (by omega) (by omega) (by omega), nmL_e, hc, e, bind_s, eL, bind_s]
      refine Or.inl ⟨_, (u, h', e', s1), N, rfl, rfl, kT, ?_⟩
      exact e11 Φ Ψ ls v0 u s1 v8 N e1 (Nat.le_refl _) (by omega) (fun _ _ => rfl) (fun _ _ => rfl) hj hrL kN rfl rfl rfl (SI2.of hj m2 m3) e5
    · rw [if_neg c2, decide_eq_false c2, bif_f]
      dsimp only
      rw [nmL_e, if_neg (thr_no (by decide))]
      exact Or.inr ⟨true, _, _, trivial, rfl, rfl, Mo_thrown_thrown _ _, kpA_thr _ _⟩
  · rw [if_neg c, decide_eq_false c, bif_f]
    unfold exK Mod_setLimit_28
    dsimp only
    rw [nmL_e, if_neg (thr_no (by decide))]
    exact Or.inr ⟨false, _, _, trivial, rfl, rfl, Mo_thrown_thrown _ _, kpA_thr _ _⟩
theorem case_1961 (h : Inv n v0 v1 v3 v4 v5 v6 v8 v12 v17) (hn : n ≤ 99999) (hc : c + 6 ≤ L) (hL : L ≤ 3072) : NX n c k23 (Law_1961 L xs k23 (I (c : Int)) v0 v1 v2 v3 v4 v5 v6 v7 v8 v9 v10 v11 v12 v14 v15 v16 v17 v19) := by
  have h0 := h
  unfold Law_1961
  rw [gd_t (in1 hc hL), gd_t (in2 hc hL)]
  unfold L_setLimit
  rcases setLimit_ay h0 (show n ≤ 99999 from hn) (xs (Int32.toNatClampNeg (I (c : Int) + 1))) (xs (Int32.toNatClampNeg (I (c : Int) + 2))) with ⟨a, s, M', e1, e2, e3, e4⟩ | ⟨b, x, M', eb, e1, e2, e3, e4⟩
  · rw [e1, bind_s]
    unfold exC
    dsimp only
    rw [gd_t (show inB (0 : Int32) 1 = true from rfl), nmL_e, bind_s, e2, bind_s]
    unfold Mod_thrown
    rw [bind_s]
    dsimp only
    rw [e3, if_pos rfl, if_pos rfl, gd_t (show inB (0 : Int32) 1 = true from rfl), if_pos (show lg_cmp (vp_updL v19 (Int32.toNatClampNeg 0) (Int32.toInt64 a) (Int32.toNatClampNeg 0)) (Int32.toInt64 a) = 0 by rw [updL_i]; exact lg_self _), nmL_e]
    exact ⟨v0, s.1, v2, s.2.1, s.2.2.1, v5, s.2.2.2, v7, v8, v9, v10, v11, v12, v14, v15, v16, M', _, rfl, e4⟩
  · rw [e1, bind_s]
    unfold exC
    dsimp only
    cases b
    · rw [bif_f, bind_s, e2, bind_s]
      unfold Mod_thrown
      rw [bind_s]
      dsimp only
      rw [e3, if_neg (show ¬ (false = true) by decide), if_pos rfl, if_neg (show ¬ (1 : Int32) = 0 by decide), nmL_e]
      exact ⟨v0, v1, v2, v3, v4, v5, v6, v7, v8, v9, v10, v11, v12, v14, v15, v16, M', _, rfl, h0.keep e4⟩
    · rw [bif_t, bind_s, e2, bind_s]
      unfold Mod_thrown
      rw [bind_s]
      dsimp only
      rw [e3, if_pos (show true = true from rfl), if_pos rfl, if_neg (show ¬ (2 : Int32) = 0 by decide), nmL_e]
      exact ⟨v0, v1, v2, v3, v4, v5, v6, v7, v8, v9, v10, v11, v12, v14, v15, v16, M', _, rfl, h0.keep e4⟩
end CASES17
