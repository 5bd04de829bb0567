section LAWX
variable {L : Nat} {xs : Nat → Int32} {g : GWV} {t : ToksV} {w : Nat → Int32} {o : OwnV} {nd nr nw : Nat} {D R W : RowsT} {F : Nat → Int32} {v u u0 vS : HouseV} {Φ Ψ Φ' Ψ' : Nat → HouseV} {ls ls' c : Nat} {y y' : HistV} {e U : Nat → HouseV} {s : SightV} {b : BestV} {were : Nat → Int64}
theorem rl_hc (h : RLo o nd D nr R nw W F v) (hc : HC u v) (hv : HX v) : RLo o nd D nr R nw W F u := by
  obtain ⟨h1, h2, h3, h4, h5⟩ := h
  have hn := hv.1.1
  have hR12 := hn.2.2.1
  have hG4 := hn.2.2.2.2.2.2.1
  refine ⟨by rw [hc_D hc]; exact dc_eq h1 fun d hd => ⟨hc_A hc (by omega), hc_B hc (by omega), by unfold opn; rw [hc_O hc]⟩, rc_eq h2 (hc_R hc) (fun r hr => hc_L hc (by omega)), ow_eq h3 (hc_hx hc hv).1.2.2.2.2.1 (hc_G hc) (fun q hq => hc_P hc (by omega)) (fun q hq => hc_F hc (by omega)) (fun q hq i hi => hc_W hc (by omega) (by have := hv.1.2.2.2.2.1.per q hq; omega)), by rw [hc_M hc]; exact h4, by rw [hc_D hc]; exact h5⟩
theorem svd_c (h : SVD y u0 vS) (e : Hist_saved y' = Hist_saved y) : SVD y' u0 vS := ⟨e.trans h.1, h.2⟩
/-- what is known of the houses in the history -/
def HSt (Φ Ψ : Nat → HouseV) (ls c N : Nat) (U : Nat → HouseV) : Prop := ∀ i, i < c → JX Φ Ψ ls (U i) ∧ cyc (U i) ≤ 200 ∧ hM (U i) ≤ N
theorem HSt.mono {N N' : Nat} (h : HSt Φ Ψ ls c N U) (hl : ls ≤ ls') (h1 : ∀ p, p ≤ ls → Φ' p = Φ p) (h2 : ∀ p, p ≤ ls → Ψ' p = Ψ p) (hN : N ≤ N') : HSt Φ' Ψ' ls' c N' U := fun i hi => by
  obtain ⟨a1, a2, a3⟩ := h i hi
  exact ⟨a1.mono hl h1 h2, a2, by omega⟩
/-- all is undone, and it is the first house again -/
theorem law432 {x4 : Int64} (d : HouseV) (iv : IntrV) (qr : QReadV) (w12 w13 : Nat → Int32) {cc ss : Nat} (hcc : cc + 3 ≤ 600000) (hss : ss + 36 ≤ 1300000) (hx4 : x4 = dig vS) (hls : GW_lastStamp g = I (ls : Int)) (hl : ls ≤ 60000) (hvS : JX Φ Ψ ls vS) {bt : HouseV} {bs a : SightV} (hb : BI2 Ψ ls b) : ∀ (c m : Nat) (v : HouseV) (y : HistV) (s : SightV) (U : Nat → HouseV), c < m → c ≤ 10 → JX Φ Ψ ls v → cyc v ≤ 200 → hM v ≤ 90000 → HQ y e c U → HSt Φ Ψ ls c 90000 U → SI2 Φ ls s → SVD y u0 vS → (∀ i, i < c → were i = dig (U (c - 1 - i))) → N_law_432 L xs x4 m (I ((c : Int) - 1)) g b bt bs y e u0 v t iv qr w12 w13 d s a were cc ss = some () := by
  intro c
  induction c with
  | zero =>
    intro m v y s U hm hc10 hj hc hM hh hU hs hsv hwe
    obtain ⟨m, rfl⟩ : ∃ q, m = q + 1 := ⟨m - 1, by omega⟩
    obtain ⟨g', v', t', y', e', s', a', b', bt', bs', Φ', a1, a2, a3, a4, a5, a6, a7, a8, a9⟩ := isBest_s hj hls (by omega) hh (by omega) hs hb d a bt bs
    obtain ⟨v2, y2, e2, s2, b1, b2, b3, b4, b5⟩ := isPassed_s (g := g') a5 (by omega) (by rw [show cyc v' = cyc v from sw_cyc (hc_sw a2 hj.2.1.1 hj.2.1.2.2.2.2.1)]; exact hc) (by rw [hc_M a2]; exact hM) a6 (by omega) a7
    have hj2 : JX Φ' Ψ (ls + 2) v2 := a5.hc b2
    obtain ⟨s3, iv3, d1, d2⟩ := isSound_s (g := g') hj2.2 (b4.ms hj2.1 (by omega)) 5 iv
    have hs3 := d2.si2 hj2 b4
    have hsv2 : SVD y2 u0 vS := svd_c hsv (b5.trans a9)
    obtain ⟨y3, v3, f1, f2, f3⟩ := bring_q hsv2 v2
    have hj3 : JX Φ' Ψ (ls + 2) v3 := (hvS.mono (by omega) a4 (fun _ _ => rfl)).hc f2
    obtain ⟨s4, k1, k2⟩ := all_s (g := g') hj3.2.1 (hs3.ms hj3.1 (by omega))
    have hdig : dig v3 = dig vS := dig_hc hvS.2.1 f2
    rw [N_law_432, if_pos (show I (((0 : Nat) : Int) - 1) < (0 : Int32) by decide), undo_q0 hh, bind_s]
    dsimp only
    rw [if_pos rfl, a1, bind_s]
    dsimp only
    rw [bif_t, gd_d ⟨by omega, by omega⟩, b1, bind_s]
    dsimp only
    rw [bif_t, d1, bind_s]
    dsimp only
    rw [bif_t]
    unfold GW_restoreSnapshot
    rw [f1, bind_s, bind_s]
    dsimp only
    rw [bif_t, k1, bind_s]
    dsimp only
    rw [hdig, hx4, lcmp_self, if_pos rfl]
    unfold GW_undoCount
    rw [bind_s, f3, if_pos rfl]
  | succ c ih =>
    intro m v y s U hm hc10 hj hc hM hh hU hs hsv hwe
    obtain ⟨m, rfl⟩ : ∃ q, m = q + 1 := ⟨m - 1, by omega⟩
    obtain ⟨v', y', a1, a2, a3, a4⟩ := undo_q (g := g) hh v
    obtain ⟨k1, k2, k3⟩ := hU 0 (by omega)
    have hj' : JX Φ Ψ ls v' := k1.hc a2
    obtain ⟨s', b1, b2⟩ := all_s (g := g) hj'.2.1 (hs.ms hj'.1 (by omega))
    have hs' := b2.si2 hj' hs
    have hw : were c = dig v' := by
      rw [hwe c (by omega), show c + 1 - 1 - c = 0 by omega, dig_hc k1.2.1 a2]
    have hr := ih m v' y' s' (fun i => U (i + 1)) (by omega) (by omega) hj' (by rw [show cyc v' = cyc (U 0) from sw_cyc (hc_sw a2 k1.2.1.1 k1.2.1.2.2.2.2.1)]; exact k2) (by rw [hc_M a2]; exact k3) a3 (fun i hi => hU (i + 1) (by omega)) hs' (svd_c hsv a4) (fun i hi => by
      show were i = dig (U (c - 1 - i + 1))
      rw [hwe i (by omega)]
      congr 2
      omega)
    have e1 : I (((c + 1 : Nat) : Int) - 1) = I (c : Int) := by
      congr 1
      omega
    rw [e1, N_law_432, if_neg (show ¬ I (c : Int) < (0 : Int32) from I_lt_f (b := 0) (by omega) (by omega) (by omega)), a1, bind_s]
    dsimp only
    rw [if_pos rfl, b1, bind_s]
    dsimp only
    rw [gd_I (by omega) (by omega) (by omega), I_clamp c (by omega), hw, lcmp_self, if_pos rfl, nmL_e, show (-1 : Int32) = I (-1) from rfl, I_add, show (c : Int) + -1 = (c : Int) - 1 by omega]
    exact hr
/-- the oldest of ten is forgotten -/
theorem law319 {x4 x10 : Int64} {x7 x8 x9 : Int32} {k235 : Int32 → Int32 → GWV → BestV → HouseV → SightV → HistV → (Nat → HouseV) → HouseV → HouseV → ToksV → IntrV → QReadV → (Nat → Int32) → (Nat → Int32) → HouseV → SightV → SightV → (Nat → Int32) → OwnV → Nat → RowsT → (Nat → Int32) → Nat → RowsT → Nat → RowsT → (Nat → Int64) → Nat → Nat → Option Unit} {bt d : HouseV} {bs a : SightV} {iv : IntrV} {qr : QReadV} {w12 w13 : Nat → Int32} {cc ss : Nat} : ∀ (q j m : Nat) (were : Nat → Int64), 10 = j + q → q < m → 1 ≤ j → ∃ were', N_law_319 L xs x4 x7 x8 x9 x10 k235 m (I (j : Int)) g b bt bs y e u0 v t iv qr w12 w13 d s a w o nd D F nr R nw W were cc ss = N_law_347 L xs k235 x4 (x7 + (-1)) x8 x9 x10 g b bt bs y e u0 v t iv qr w12 w13 d s a w o nd D F nr R nw W were' cc ss ∧ (∀ i, j ≤ i + 1 → i < 9 → were' i = were (i + 1)) ∧ ∀ i, i + 1 < j → were' i = were i := by
  intro q
  induction q with
  | zero =>
    intro j m were hj hm h1
    obtain ⟨m, rfl⟩ : ∃ q, m = q + 1 := ⟨m - 1, by omega⟩
    refine ⟨were, ?_, fun i hi hi2 => absurd hi (by omega), fun i _ => rfl⟩
    rw [N_law_319, if_pos (show (10 : Int32) ≤ I (j : Int) from I_le_t (a := 10) (by omega) (by omega) (by omega)), nmL_e]
  | succ q ih =>
    intro j m were hj hm h1
    obtain ⟨m, rfl⟩ : ∃ q, m = q + 1 := ⟨m - 1, by omega⟩
    obtain ⟨were', e1, e2, e3⟩ := ih (j + 1) m (vp_updL were (j - 1) (were j)) (by omega) (by omega) (by omega)
    refine ⟨were', ?_, fun i hi hi2 => ?_, fun i hi => ?_⟩
    · rw [N_law_319, if_neg (show ¬ (10 : Int32) ≤ I (j : Int) from I_le_f (a := 10) (by omega) (by omega) (by omega)), gd_I (by omega) (by omega) (by omega), I1, I_sub, show (j : Int) - 1 = ((j - 1 : Nat) : Int) by omega, gd_I (by omega) (by omega) (by omega), I_clamp (j - 1) (by omega), I_clamp j (by omega), nmL_e, nmL_e, ← I1, I_succ]
      exact e1
    · by_cases c1 : i + 1 = j
      · rw [e3 i (by omega), show i = j - 1 by omega, updL_i, show j - 1 + 1 = j by omega]
      · rw [e2 i (by omega) hi2, updL_n (by omega)]
    · rw [e3 i (by omega), updL_n (by omega)]
abbrev KT235 : Type := Int32 → Int32 → GWV → BestV → HouseV → SightV → HistV → (Nat → HouseV) → HouseV → HouseV → ToksV → IntrV → QReadV → (Nat → Int32) → (Nat → Int32) → HouseV → SightV → SightV → (Nat → Int32) → OwnV → Nat → RowsT → (Nat → Int32) → Nat → RowsT → Nat → RowsT → (Nat → Int64) → Nat → Nat → Option Unit
/-- what stands ahead of each act -/
def LINV (k : Nat) (g : GWV) (v : HouseV) (y : HistV) (e : Nat → HouseV) (s : SightV) (b : BestV) (t : ToksV) (w : Nat → Int32) (o : OwnV) (nd : Nat) (D : RowsT) (nr : Nat) (R : RowsT) (nw : Nat) (W : RowsT) (F : Nat → Int32) (c : Nat) (u0 vS : HouseV) (were : Nat → Int64) : Prop := ∃ (Φ Ψ : Nat → HouseV) (ls : Nat) (U : Nat → HouseV), INV g v y e s b t w o nd D nr R nw W F Φ Ψ ls c U ∧ SVD y u0 vS ∧ JX Φ Ψ ls vS ∧ ls ≤ 10 + 3 * k ∧ hM v ≤ 60 * k ∧ HSt Φ Ψ ls c (60 * k) U ∧ c ≤ 10 ∧ ∀ i, i < c → were i = dig (U (c - 1 - i))
/-- what follows when all acts from k on go well -/
def KOK (k : Nat) (vS u0 : HouseV) (K : KT235) (N : Nat) : Prop := ∀ (g : GWV) (b : BestV) (bt : HouseV) (bs : SightV) (y : HistV) (e : Nat → HouseV) (v : HouseV) (t : ToksV) (iv : IntrV) (qr : QReadV) (w12 w13 : Nat → Int32) (d : HouseV) (s a : SightV) (w : Nat → Int32) (o : OwnV) (nd : Nat) (D : RowsT) (F : Nat → Int32) (nr : Nat) (R : RowsT) (nw : Nat) (W : RowsT) (were : Nat → Int64) (cc ss c : Nat), LINV k g v y e s b t w o nd D nr R nw W F c u0 vS were → cc ≤ 300 + N * k → ss ≤ 7000 + 45000 * k → K (I (c : Int)) (I (k : Int)) g b bt bs y e u0 v t iv qr w12 w13 d s a w o nd D F nr R nw W were cc ss = some ()
theorem inv_cyc (h : INV g v y e s b t w o nd D nr R nw W F Φ Ψ ls c U) : cyc v ≤ 200 := by
  have := (ow_c12 h.2.2.2.2.2.2.2.2.1).2
  omega
/-- two cycles pass, it may be -/
theorem law397 {x4 : Int64} {k : Nat} (hk : k < 28) {K : KT235} (hK : KOK (k + 1) vS u0 K 20710) (bt d : HouseV) (bs a : SightV) (iv : IntrV) (qr : QReadV) (w12 w13 : Nat → Int32) {cc ss : Nat} (h : INV g v y e s b t w o nd D nr R nw W F Φ Ψ ls c U) (hsv : SVD y u0 vS) (hvS : JX Φ Ψ ls vS) (hl : ls ≤ 10 + 3 * (k + 1)) (hM : hM v ≤ 60 * (k + 1)) (hU : HSt Φ Ψ ls c (60 * (k + 1)) U) (hc : c ≤ 10) (hw : ∀ i, i < c → were i = dig (U (c - 1 - i))) (hcc : cc + 3 ≤ 300 + 20710 * (k + 1)) (hss : ss + 36 ≤ 7000 + 45000 * (k + 1)) : N_law_397 L xs K x4 (I (c : Int)) (I (k : Int)) g b bt bs y e u0 v t iv qr w12 w13 d s a w o nd D F nr R nw W were cc ss = some () := by
  have g0 : 20710 * (k + 1) ≤ 20710 * 28 := Nat.mul_le_mul_left _ (by omega)
  have g1 : 45000 * (k + 1) ≤ 45000 * 28 := Nat.mul_le_mul_left _ (by omega)
  have g2 : cc + 3 ≤ 600000 := Nat.le_trans hcc (Nat.le_trans (Nat.add_le_add_left g0 300) (by decide))
  have g3 : ss + 36 ≤ 1300000 := Nat.le_trans hss (Nat.le_trans (Nat.add_le_add_left g1 7000) (by decide))
  unfold N_law_397
  have hrem : I (k : Int) - I (k : Int) / 2 * 2 = I ((k % 2 : Nat) : Int) := by
    rw [show (2 : Int32) = I 2 from rfl, I_rem (by omega) (by omega) (by omega) (by omega)]
    congr 1
  rw [gd_t (by decide), hrem, I_succ]
  by_cases c1 : k % 2 = 0
  · rw [if_pos (show I ((k % 2 : Nat) : Int) = (0 : Int32) by rw [c1]; rfl)]
    by_cases c2 : 10 ≤ c
    · rw [if_pos (show (10 : Int32) ≤ I (c : Int) from I_le_t (a := 10) (by omega) (by omega) (by omega)), nmL_e]
      exact hK g b bt bs y e v t iv qr w12 w13 d s a w o nd D F nr R nw W were cc ss c ⟨Φ, Ψ, ls, U, h, hsv, hvS, hl, hM, hU, hc, hw⟩ (by omega) (by omega)
    · rw [if_neg (show ¬ (10 : Int32) ≤ I (c : Int) from I_le_f (a := 10) (by omega) (by omega) (by omega)), gd_d ⟨g2, g3⟩]
      obtain ⟨h1, h2, h3, h4, h5, h6, h7⟩ := id h
      obtain ⟨v2, y2, e2, s2, b1, b2, b3, b4, b5⟩ := isPassed_s (g := g) h1 (by omega) (inv_cyc h) (by omega) h3 (by omega) h4
      have hj2 : JX Φ Ψ ls v2 := h1.hc b2
      rw [b1, bind_s]
      dsimp only
      rw [bif_t, nmL_e]
      exact hK g b bt bs y2 e2 v2 t iv qr w12 w13 d s2 a w o nd D F nr R nw W were (cc + 3) (ss + 36) c ⟨Φ, Ψ, ls, U, ⟨hj2, h2, b3, b4, h5, h6, rl_hc h7 b2 h1.2⟩, svd_c hsv b5, hvS, hl, by rw [hc_M b2]; exact hM, hU, hc, hw⟩ hcc hss
  · rw [if_neg (show ¬ I ((k % 2 : Nat) : Int) = (0 : Int32) from I_ne (b := 0) (by omega) (by omega) (by omega) (by omega) (by omega)), nmL_e]
    exact hK g b bt bs y e v t iv qr w12 w13 d s a w o nd D F nr R nw W were cc ss c ⟨Φ, Ψ, ls, U, h, hsv, hvS, hl, hM, hU, hc, hw⟩ (by omega) (by omega)
/-- behind an act -/
theorem law347 {x4 : Int64} {x9 : Int32} {k : Nat} (hk : k < 28) {K : KT235} (hK : KOK (k + 1) vS u0 K 20710) (bt d : HouseV) (bs a : SightV) (iv : IntrV) (qr : QReadV) (w12 w13 : Nat → Int32) {cc ss : Nat} {x : Nat} (hx : c = x + 1) (h : INV g v y e s b t w o nd D nr R nw W F Φ Ψ ls c U) (hsv : SVD y u0 vS) (hvS : JX Φ Ψ ls vS) (hl : ls ≤ 11 + 3 * k) (hM : hM v ≤ 60 * (k + 1)) (hU : HSt Φ Ψ ls c (60 * (k + 1)) U) (hc : c ≤ 10) (hw : ∀ i, i < x → were i = dig (U (c - 1 - i))) {x10 : Int64} (hx10 : x10 = dig (U 0)) (hcc : cc + 3 ≤ 300 + 20710 * (k + 1)) (hss : ss + 36 ≤ 7000 + 45000 * (k + 1)) : N_law_347 L xs K x4 (I (x : Int)) (I (k : Int)) x9 x10 g b bt bs y e u0 v t iv qr w12 w13 d s a w o nd D F nr R nw W were cc ss = some () := by
  obtain ⟨h1, h2, h3, h4, h5, h6, h7⟩ := id h
  have hw' : ∀ i, i < c → vp_updL were x x10 i = dig (U (c - 1 - i)) := fun i hi => by
    by_cases d : i = x
    · rw [d, updL_i, hx10, show c - 1 - x = 0 by omega]
    · rw [updL_n d]
      exact hw i (by omega)
  obtain ⟨s', iv', d1, d2⟩ := isSound_s (g := g) h1.2 (h4.ms h1.1 (by omega)) x9 iv
  have hs' := d2.si2 h1 h4
  have hrem : I (k : Int) - I (k : Int) / 3 * 3 = I ((k % 3 : Nat) : Int) := by
    rw [show (3 : Int32) = I 3 from rfl, I_rem (by omega) (by omega) (by omega) (by omega)]
    congr 1
  have h' : INV g v y e s' b t w o nd D nr R nw W F Φ Ψ ls c U := ⟨h1, h2, h3, hs', h5, h6, h7⟩
  unfold N_law_347
  rw [nmL_e, I_succ, gd_I (by omega) (by omega) (by omega), nmL_e, I_clamp x (by omega)]
  unfold GW_undoCount
  rw [bind_s, h3.cnt.1, ← hx, if_pos rfl, d1, bind_s]
  dsimp only
  rw [bif_t, gd_t (by decide), hrem]
  by_cases c1 : k % 3 = 1
  · rw [if_pos (show I ((k % 3 : Nat) : Int) = (1 : Int32) by rw [c1]; rfl)]
    by_cases c2 : 9 ≤ c
    · rw [if_pos (show (9 : Int32) ≤ I (c : Int) from I_le_t (a := 9) (by omega) (by omega) (by omega))]
      exact law397 hk hK bt d bs a iv' qr w12 w13 h' hsv hvS (by omega) hM hU hc hw' hcc hss
    · rw [if_neg (show ¬ (9 : Int32) ≤ I (c : Int) from I_le_f (a := 9) (by omega) (by omega) (by omega))]
      obtain ⟨g', v', t', y', e', s2, a', b', bt', bs', Φ', a1, a2, a3, a4, a5, a6, a7, a8, a9⟩ := isBest_s h1 h2 (by omega) h3 (by omega) hs' h5 d a bt bs
      rw [a1, bind_s]
      dsimp only
      rw [bif_t]
      exact law397 hk hK bt' t' bs' a' iv' qr w12 w13 ⟨a5, a3, a6, a7, a8, h6, rl_hc h7 a2 h1.2⟩ (svd_c hsv a9) (hvS.mono (by omega) a4 fun _ _ => rfl) (by omega) (by rw [hc_M a2]; exact hM) (hU.mono (by omega) a4 (fun _ _ => rfl) (Nat.le_refl _)) hc hw' hcc hss
  · rw [if_neg (show ¬ I ((k % 3 : Nat) : Int) = (1 : Int32) from I_ne (b := 1) (by omega) (by omega) (by omega) (by omega) (by omega))]
    exact law397 hk hK bt d bs a iv' qr w12 w13 h' hsv hvS (by omega) hM hU hc hw' hcc hss
/-- the acts -/
theorem law235 {x4 : Int64} (hL : L ≤ 100000) (hx4 : x4 = dig vS) : ∀ (q k m : Nat), 28 = k + q → q < m → KOK k vS u0 (fun x7 x8 w0 w1 w2 w3 w4 w5 w6 w7 w9 w10 w11 w12 w13 w14 w15 w16 w17 w18 w19 w20 w21 w22 w23 w24 w25 w26 c s => N_law_235 L xs x4 m x7 x8 w0 w1 w2 w3 w4 w5 w6 w7 w9 w10 w11 w12 w13 w14 w15 w16 w17 w18 w19 w20 w21 w22 w23 w24 w25 w26 c s) 20710 := by
  intro q
  induction q with
  | zero =>
    intro k m hk hm g b bt bs y e v t iv qr w12 w13 d s a w o nd D F nr R nw W were cc ss c hv hcc hss
    obtain ⟨m, rfl⟩ : ∃ q, m = q + 1 := ⟨m - 1, by omega⟩
    obtain ⟨Φ, Ψ, ls, U, h, hsv, hvS, hl, hM, hU, hc, hw⟩ := hv
    obtain ⟨h1, h2, h3, h4, h5, h6, h7⟩ := id h
    show N_law_235 L xs x4 (m + 1) (I (c : Int)) (I (k : Int)) g b bt bs y e u0 v t iv qr w12 w13 d s a w o nd D F nr R nw W were cc ss = some ()
    rw [N_law_235, if_pos (show (28 : Int32) ≤ I (k : Int) from I_le_t (a := 28) (by omega) (by omega) (by omega)), nmL_e, I1, I_sub]
    exact law432 d iv qr w12 w13 (by omega) (by omega) hx4 h2 (by omega) hvS h5 c FU v y s U (by unfold FU; omega) hc h1 (inv_cyc h) (by omega) h3 (hU.mono (Nat.le_refl _) (fun _ _ => rfl) (fun _ _ => rfl) (by omega)) h4 hsv hw
  | succ q ih =>
    intro k m hk hm g b bt bs y e v t iv qr w12 w13 d s a w o nd D F nr R nw W were cc ss c hv hcc hss
    obtain ⟨m, rfl⟩ : ∃ q, m = q + 1 := ⟨m - 1, by omega⟩
    have hK := ih (k + 1) m (by omega) (by omega)
    obtain ⟨Φ, Ψ, ls, U, h, hsv, hvS, hl, hMv, hU, hc, hw⟩ := hv
    obtain ⟨h1, h2, h3, h4, h5, h6, h7⟩ := id h
    have hcell : (5 : Int32) + (I (k : Int) - I (k : Int) / 26 * 26) = I ((5 + k % 26 : Nat) : Int) := by
      rw [show (26 : Int32) = I 26 from rfl, I_rem (by omega) (by omega) (by omega) (by omega), show (5 : Int32) = I 5 from rfl, I_add]
      congr 1
    obtain ⟨x, hx⟩ := cell_s hL xs (a := 5 + k % 26) (by omega)
    obtain ⟨x9, hx9⟩ : ∃ z, z = x >>> ((I (k : Int) / 26 * 3) &&& 31) := ⟨_, rfl⟩
    obtain ⟨s1, a1, a2⟩ := all_s (g := g) h1.2.1 (h4.ms h1.1 (by omega))
    have hs1 := a2.si2 h1 h4
    obtain ⟨kk, g', v', d', y', e', s', b', bt', bs', t', w', o', nd', D', nr', R', nw', W', F', ls', c', Φ', Ψ', U', b1, b2, b3, b4, b5, b6, b7, b8, b9⟩ := act_q (s := s1) ⟨h1, h2, h3, hs1, h5, h6, h7⟩ (by omega) (by omega) d bt bs x9
    obtain ⟨i1, i2, i3, i4, i5, i6, i7⟩ := id b2
    show N_law_235 L xs x4 (m + 1) (I (c : Int)) (I (k : Int)) g b bt bs y e u0 v t iv qr w12 w13 d s a w o nd D F nr R nw W were cc ss = some ()
    rw [N_law_235, if_neg (show ¬ (28 : Int32) ≤ I (k : Int) from I_le_f (a := 28) (by omega) (by omega) (by omega)), gd_t (by decide), hcell, hx, bind_s, nmL_e, ← hx9, a1, bind_s]
    dsimp only
    rw [gd_d ⟨by omega, by omega⟩, b1, bind_s]
    dsimp only
    have hsv' : SVD y' u0 vS := svd_c hsv b8
    have hvS' : JX Φ' Ψ' ls' vS := hvS.mono b3 b5 b6
    rcases b9 with ⟨k1, k2, k3, k4⟩ | ⟨k1, k2, k3⟩
    · subst k1
      obtain ⟨s2, l1, l2⟩ := all_s (g := g') i1.2.1 (i4.ms i1.1 (by omega))
      have hs2 := l2.si2 i1 i4
      rw [if_neg (show ¬ (0 : Int32) < 0 by decide), if_pos rfl, l1, bind_s]
      dsimp only
      rw [k2, lcmp_self, if_pos rfl]
      unfold N_law_301
      rw [if_pos rfl, nmL_e, I_succ]
      have b2' := b2
      rw [k2, k3, k4] at b2'
      obtain ⟨j1, j2, j3, j4, j5, j6, j7⟩ := b2'
      exact hK g' b' bt' bs' y' e' v t' iv qr w12 w13 d' s2 a w' o' nd' D' F' nr' R' nw' W' were (cc + 20700) (ss + 44000) c ⟨Φ', Ψ', ls', U, ⟨j1, j2, j3, hs2, j5, j6, j7⟩, hsv', hvS', by omega, by omega, hU.mono b3 b5 b6 (by omega), hc, hw⟩ (by omega) (by omega)
    · subst k1
      rw [if_neg (show ¬ (1 : Int32) < 0 by decide), if_neg (show ¬ (1 : Int32) = 0 by decide)]
      have hU' : HSt Φ' Ψ' ls' c' (60 * (k + 1)) U' := fun i hi => by
        rw [k3]
        show JX Φ' Ψ' ls' (if i = 0 then v else U (i - 1)) ∧ cyc (if i = 0 then v else U (i - 1)) ≤ 200 ∧ hM (if i = 0 then v else U (i - 1)) ≤ 60 * (k + 1)
        by_cases dd : i = 0
        · rw [if_pos dd]
          exact ⟨h1.mono b3 b5 b6, inv_cyc h, by omega⟩
        · rw [if_neg dd]
          obtain ⟨m1, m2, m3⟩ := hU (i - 1) (by omega)
          exact ⟨m1.mono b3 b5 b6, m2, by omega⟩
      have hU0 : dig v = dig (U' 0) := by rw [k3]; rfl
      have hUi : ∀ i, 0 < i → U' i = U (i - 1) := fun i hi => by
        rw [k3]
        exact if_neg (by omega)
      unfold N_law_301
      rw [if_neg (show ¬ (1 : Int32) = 0 by decide)]
      by_cases c10 : c = 10
      · rw [if_pos (show I (c : Int) = (10 : Int32) by rw [c10]; rfl)]
        obtain ⟨were', f1, f2, f3⟩ := law319 (L := L) (xs := xs) (x4 := x4) (x10 := dig v) (x7 := I (c : Int)) (x8 := I (k : Int)) (x9 := x9) (k235 := fun x7 x8 w0 w1 w2 w3 w4 w5 w6 w7 w9 w10 w11 w12 w13 w14 w15 w16 w17 w18 w19 w20 w21 w22 w23 w24 w25 w26 c s => N_law_235 L xs x4 m x7 x8 w0 w1 w2 w3 w4 w5 w6 w7 w9 w10 w11 w12 w13 w14 w15 w16 w17 w18 w19 w20 w21 w22 w23 w24 w25 w26 c s) (g := g') (b := b') (bt := bt') (bs := bs') (y := y') (e := e') (u0 := u0) (v := v') (t := t') (iv := iv) (qr := qr) (w12 := w12) (w13 := w13) (d := d') (s := s') (a := a) (w := w') (o := o') (nd := nd') (D := D') (F := F') (nr := nr') (R := R') (nw := nw') (W := W') (cc := cc + 20700) (ss := ss + 44000) 9 1 FU were (by omega) (by unfold FU; omega) (by omega)
        have f1' := f1
        rw [show I (((1 : Nat) : Int)) = (1 : Int32) from rfl] at f1'
        refine f1'.trans ?_
        rw [show (-1 : Int32) = I (-1) from rfl, I_add, show (c : Int) + -1 = ((9 : Nat) : Int) by omega]
        refine law347 (by omega) hK bt' d' bs' a iv qr w12 w13 (x := 9) (by omega) b2 hsv' hvS' (by omega) (by omega) hU' (by omega) (fun i hi => ?_) hU0 (by omega) (by omega)
        rw [f2 i (by omega) hi, hw (i + 1) (by omega), hUi _ (by omega)]
        exact congrArg (fun z => dig (U z)) (by omega)
      · rw [if_neg (show ¬ I (c : Int) = (10 : Int32) from I_ne (b := 10) (by omega) (by omega) (by omega) (by omega) (by omega))]
        refine law347 (by omega) hK bt' d' bs' a iv qr w12 w13 (x := c) (by omega) b2 hsv' hvS' (by omega) (by omega) hU' (by omega) (fun i hi => ?_) hU0 (by omega) (by omega)
        rw [hw i hi, hUi _ (by omega)]
        exact congrArg (fun z => dig (U z)) (by omega)
end LAWX
