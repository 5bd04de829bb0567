section ACTX
variable {g : GWV} {t : ToksV} {w : Nat → Int32} {o : OwnV} {nd nr nw n : Nat} {D R W : RowsT} {F : Nat → Int32} {v u d : HouseV} {Φ Ψ : Nat → HouseV} {ls c : Nat} {y : HistV} {e U : Nat → HouseV} {s : SightV} {b : BestV} {A B A' B' P P' : Nat → Nat} {O O' : Nat → Bool} {Wk Wk' : Nat → Nat → Nat}
/-- the law's rows and the house are alike -/
def RLo (o : OwnV) (nd : Nat) (D : RowsT) (nr : Nat) (R : RowsT) (nw : Nat) (W : RowsT) (F : Nat → Int32) (v : HouseV) : Prop := DC o nd D (hD v) (hA v) (hB v) (opn v) ∧ RC o nr R v ∧ OW o nw W F v ∧ Own_minute o = I (hM v : Int) ∧ hD v ≤ 10
theorem rc_eq (h : RC o nr R v) (e1 : hR u = hR v) (e2 : ∀ r, r < hR v → hL u r = hL v r) : RC o nr R u := by
  obtain ⟨a1, a2, a3, a4, a5, a6⟩ := h
  exact ⟨by rw [e1]; exact a1, by rw [e1]; exact a2, by rw [e1]; exact a3, by omega, by omega, fun r hr => by rw [e1] at hr; rw [e2 r hr]; exact a6 r hr⟩
theorem wc_eq (h : WC o nw W n P Wk) (e1 : ∀ q, q < n → P' q = P q) (e2 : ∀ q, q < n → ∀ s, s < P q → Wk' q s = Wk q s) : WC o nw W n P' Wk' := by
  obtain ⟨a1, a2, a3, a4⟩ := h
  refine ⟨a1, a2, a3, fun q hq => ?_⟩
  obtain ⟨b1, b2, b3, b4⟩ := a4 q hq
  rw [e1 q hq]
  exact ⟨b1, b2, b3, fun s hs => by rw [e2 q hq s hs]; exact b4 s hs⟩
theorem ow_eq (h : OW o nw W F v) (hw : WFG u) (e1 : hG u = hG v) (e2 : ∀ q, q < hG v → hP u q = hP v q) (e3 : ∀ q, q < hG v → hF u q = hF v q) (e4 : ∀ q, q < hG v → ∀ s, s < hP v q → hW u q s = hW v q s) : OW o nw W F u := by
  obtain ⟨a1, a2, a3, a4, a5⟩ := h
  refine ⟨by rw [e1]; exact wc_eq a1 e2 e4, fun q hq => ?_, by omega, hw, fun q hq => ?_⟩
  · rw [e1] at hq
    rw [e3 q hq]
    exact a2 q hq
  · rw [e1] at hq
    rw [e2 q hq]
    exact a5 q hq
theorem dc_eq (h : DC o nd D n A B O) (h1 : ∀ d, d < n → A' d = A d ∧ B' d = B d ∧ O' d = O d) : DC o nd D n A' B' O' := by
  obtain ⟨a1, a2, a3, a4⟩ := h
  refine ⟨a1, a2, a3, fun d hd => ?_⟩
  obtain ⟨z1, z2, z3⟩ := h1 d hd
  rw [z1, z2, z3]
  exact a4 d hd
/-- what stands between two acts -/
def INV (g : GWV) (v : HouseV) (y : HistV) (e : Nat → HouseV) (s : SightV) (b : BestV) (t : ToksV) (w : Nat → Int32) (o : OwnV) (nd : Nat) (D : RowsT) (nr : Nat) (R : RowsT) (nw : Nat) (W : RowsT) (F : Nat → Int32) (Φ Ψ : Nat → HouseV) (ls c : Nat) (U : Nat → HouseV) : Prop := JX Φ Ψ ls v ∧ GW_lastStamp g = I (ls : Int) ∧ HQ y e c U ∧ SI2 Φ ls s ∧ BI2 Ψ ls b ∧ TX t w [] ∧ RLo o nd D nr R nw W F v
abbrev ARow : Type := Int32 × GWV × HouseV × HouseV × HistV × (Nat → HouseV) × SightV × BestV × HouseV × SightV × ToksV × (Nat → Int32) × OwnV × Nat × RowsT × Nat × RowsT × Nat × RowsT × (Nat → Int32)
/-- what an act leaves -/
def ARES (r : Option ARow) (Φ Ψ : Nat → HouseV) (ls c : Nat) (U : Nat → HouseV) (v : HouseV) (y : HistV) : Prop := ∃ (k : Int32) (g' : GWV) (v' d' : HouseV) (y' : HistV) (e' : Nat → HouseV) (s' : SightV) (b' : BestV) (bt' : HouseV) (bs' : SightV) (t' : ToksV) (w' : Nat → Int32) (o' : OwnV) (nd' : Nat) (D' : RowsT) (nr' : Nat) (R' : RowsT) (nw' : Nat) (W' : RowsT) (F' : Nat → Int32) (ls' c' : Nat) (Φ' Ψ' U' : Nat → HouseV), r = some (k, g', v', d', y', e', s', b', bt', bs', t', w', o', nd', D', nr', R', nw', W', F') ∧ INV g' v' y' e' s' b' t' w' o' nd' D' nr' R' nw' W' F' Φ' Ψ' ls' c' U' ∧ ls ≤ ls' ∧ ls' ≤ ls + 1 ∧ (∀ p, p ≤ ls → Φ' p = Φ p) ∧ (∀ p, p ≤ ls → Ψ' p = Ψ p) ∧ hM v' ≤ hM v + 60 ∧ Hist_saved y' = Hist_saved y ∧ ((k = 0 ∧ v' = v ∧ c' = c ∧ U' = U) ∨ (k = 1 ∧ c' = min (c + 1) 10 ∧ U' = psh v U))
theorem ares_0 (h : INV g v y e s b t w o nd D nr R nw W F Φ Ψ ls c U) (d bt : HouseV) (bs : SightV) : ARES (some (0, g, v, d, y, e, s, b, bt, bs, t, w, o, nd, D, nr, R, nw, W, F)) Φ Ψ ls c U v y :=
  ⟨0, g, v, d, y, e, s, b, bt, bs, t, w, o, nd, D, nr, R, nw, W, F, ls, c, Φ, Ψ, U, rfl, h, Nat.le_refl _, Nat.le_succ _, fun _ _ => rfl, fun _ _ => rfl, Nat.le_add_right _ _, rfl, Or.inl ⟨rfl, rfl, rfl, rfl⟩⟩
/-- minutes pass -/
theorem act_pass (h : INV g v y e s b t w o nd D nr R nw W F Φ Ψ ls c U) (hM9 : hM v ≤ 90000) (d bt : HouseV) (bs : SightV) (x3 s1 : Int32) {q : Nat} (q1 : 1 ≤ q) (q2 : q ≤ 60) : ARES (L_act_40 x3 (I (q : Int)) s1 1 g v d y e s b bt bs t w o nd D nr R nw W F 0 0) Φ Ψ ls c U v y := by
  obtain ⟨hj, hls, hh, hs, hb, hT, h1, h2, h3, h4, h5⟩ := h
  obtain ⟨p, p1, p2⟩ := most_s s1 q1 (by omega)
  obtain ⟨R', r1, r2⟩ := opass_s h3 h2 (n := 1 + p) (M := hM v) (by omega) (by omega) h4
  obtain ⟨v', y', e', a1, a2, a3, a4⟩ := pass_q (g := g) hj.2.1 (n := 1 + p) (by omega) (by omega) (by omega) hh
  have hx := past_hx hj.2 a2
  obtain ⟨b1, b2, b3, b4, b5⟩ := a2
  obtain ⟨n1, n2, n3, n4, n5, n6, n7, n8, n9, n10⟩ := sgm_n b1
  have hj' : JX Φ Ψ ls v' := ⟨JJ.same hj.1 b3 b1.2.2.2.2.2.1 b1.2.2.2.2.1 (sgm_sw b1) (we_c hj.2.1.2.2.2.2.1 b1.1 b1.2.2.1 b1.2.2.2.2.2.2.2.2.2.2.1 b1.2.2.2.2.2.2.2.2.2.2.2.2.1), hx⟩
  have hO : opn v' = opn v := by unfold opn; rw [n4]
  refine ⟨1, g, v', d, y', e', s, b, bt, bs, t, w, Own_set_minute o (I ((hM v + (1 + p) : Nat) : Int)), nd, D, nr, R', nw, W, F, ls, min (c + 1) 10, Φ, Ψ, psh v U, ?_, ⟨hj', hls, a3, hs, hb, hT, ?_, ?_, ?_, ?_, ?_⟩, Nat.le_refl _, Nat.le_succ _, fun _ _ => rfl, fun _ _ => rfl, by omega, a4, Or.inr ⟨rfl, rfl, rfl⟩⟩
  · unfold L_act_40
    rw [p2, bind_s, nmL_e, show (1 : Int32) + I (p : Int) = I ((1 + p : Nat) : Int) by rw [I1, I_add]; congr 1, r2, bind_s, a1, bind_s]
    dsimp only
    rw [if_pos rfl]
  · rw [n2, n5, n6, hO]
    exact dc_own h1 rfl
  · have k1 := rc_eq (RC.row h2 r1) n1 (fun r _ => by rw [n7])
    obtain ⟨c1, c2, c3, c4, c5, c6⟩ := k1
    exact ⟨c1, c2, c3, c4, c5, c6⟩
  · have k1 := ow_eq h3 hx.1.2.2.2.2.1 n3 (fun q _ => by rw [n8]) (fun q _ => by rw [n9]) (fun q _ s _ => by rw [n10])
    obtain ⟨⟨c1, c2, c3, c4⟩, k2⟩ := k1
    exact ⟨⟨c1, c2, c3, c4⟩, k2⟩
  · rw [b2]
    rfl
  · omega
/-- a limit -/
theorem act_limit (h : INV g v y e s b t w o nd D nr R nw W F Φ Ψ ls c U) (hl : ls ≤ 90000) (d bt : HouseV) (bs : SightV) (x3 s1 : Int32) {r q : Nat} (hr : r < hR v) (q1 : 1 ≤ q) (q2 : q ≤ 100) : ARES (L_act_118 x3 (I (r : Int)) (I (q : Int)) s1 0 r g v d y e s b bt bs t w o nd D nr R nw W F 0 0) Φ Ψ ls c U v y := by
  obtain ⟨hj, hls, hh, hs, hb, hT, h1, h2, h3, h4, h5⟩ := h
  obtain ⟨a, p1, p2⟩ := most_s s1 q1 (by omega)
  obtain ⟨c1, c2, c3, c4, c5, c6⟩ := id h2
  obtain ⟨v', y', e', s', a1, a2, a3, a4, a5, a6, a7⟩ := setLimit_q (g := g) hj (by omega) hh hs hr (a := a) (by omega)
  obtain ⟨n1, n2, n3, n4, n5, n6, n7, n8, n9, n10⟩ := flm_n a3
  obtain ⟨R', hR'⟩ : ∃ R', R' = rrSet R r (upd (R.2.2 r) 0 (I (a : Int))) := ⟨_, rfl⟩
  have e1 : R'.1 = R.1 := by rw [hR']; rfl
  have e2 : R'.2.1 = R.2.1 := by rw [hR']; rfl
  have e3 : ∀ j, R'.2.2 j 0 = if j = r then I (a : Int) else R.2.2 j 0 := fun j => by
    rw [hR']
    show (if j = r then upd (R.2.2 r) 0 (I (a : Int)) else R.2.2 j) 0 = _
    by_cases d : j = r
    · rw [if_pos d, if_pos d, upd_i]
    · rw [if_neg d, if_neg d]
  have hRC : RC o nr R' v' := ⟨by rw [n1]; exact c1, by rw [n1]; exact c2, by rw [e1, n1]; exact c3, by omega, by omega, fun j hj2 => by
    rw [n1] at hj2
    rw [e2, e3, a4]
    by_cases d : j = r
    · rw [if_pos d, if_pos d]
      exact ⟨(c6 j hj2).1, rfl, by omega⟩
    · rw [if_neg d, if_neg d]
      exact c6 j hj2⟩
  have hOW := ow_eq h3 a2.2.1.2.2.2.2.1 n3 (fun q _ => by rw [n8]) (fun q _ => by rw [n9]) (fun q _ s _ => by rw [n10])
  have hO : opn v' = opn v := by unfold opn; rw [n5]
  have h5r := (c6 r hr).1
  refine ⟨1, g, v', d, y', e', s', b, bt, bs, t, w, o, nd, D, nr, R', nw, W, F, ls, min (c + 1) 10, Φ, Ψ, psh v U, ?_, ⟨a2, hls, a6, a5, hb, hT, ?_, hRC, hOW, by rw [n4]; exact h4, by omega⟩, Nat.le_refl _, Nat.le_succ _, fun _ _ => rfl, fun _ _ => rfl, by omega, a7, Or.inr ⟨rfl, rfl, rfl⟩⟩
  · have er : R'.2.2 r 0 = I (a : Int) := by rw [e3, if_pos rfl]
    unfold L_act_118
    rw [p2, bind_s, gd_d (by omega), h5r, gd_t (by decide), nmL_e, cl0, ← hR', gd_I (by omega) (by omega) (by omega), I_clamp r (by omega), gd_d (by omega), gd_d (by omega), e2, h5r, gd_t (by decide), er, a1, bind_s, gd_t (by decide), olates_s hOW hRC, bind_s]
    dsimp only
    rw [if_pos rfl]
  · rw [n2, n6, n7, hO]
    exact h1
/-- doors -/
theorem dc_set {q : Nat} {z : Bool} {z' : Int32} (hz : z' = I ((bif z then 1 else 0 : Nat) : Int)) (h : DC o nd D (hD v) (hA v) (hB v) (opn v)) (f1 : hD u = hD v) (f2 : hA u = hA v) (f3 : hB u = hB v) (ho : ∀ j, opn u j = if j = q then z else opn v j) : DC o nd (rrSet D q (upd (D.2.2 q) 2 z')) (hD u) (hA u) (hB u) (opn u) := by
  obtain ⟨a1, a2, a3, a4⟩ := h
  rw [f1, f2, f3]
  refine ⟨a1, a2, a3, fun j hj => ?_⟩
  obtain ⟨b1, b2, b3, b4, b5, b6⟩ := a4 j hj
  show D.2.1 j = 3 ∧ (if j = q then upd (D.2.2 q) 2 z' else D.2.2 j) 0 = I (hA v j : Int) ∧ (if j = q then upd (D.2.2 q) 2 z' else D.2.2 j) 1 = I (hB v j : Int) ∧ (if j = q then upd (D.2.2 q) 2 z' else D.2.2 j) 2 = I ((bif opn u j then 1 else 0 : Nat) : Int) ∧ hA v j < 12 ∧ hB v j < 12
  rw [ho]
  by_cases d : j = q
  · rw [if_pos d, if_pos d, upd_n (by omega), upd_n (by omega), upd_i, ← d]
    exact ⟨b1, b2, b3, hz, b5, b6⟩
  · rw [if_neg d, if_neg d]
    exact ⟨b1, b2, b3, b4, b5, b6⟩
theorem inv_door {v' : HouseV} {y' : HistV} {e' : Nat → HouseV} {q : Nat} {z : Bool} {z' : Int32} (hz : z' = I ((bif z then 1 else 0 : Nat) : Int)) (h : INV g v y e s b t w o nd D nr R nw W F Φ Ψ ls c U) (hj' : JX Φ Ψ ls v') (hf : FD v' v) (ho : ∀ j, opn v' j = if j = q then z else opn v j) (hh' : HQ y' e' (min (c + 1) 10) (psh v U)) : INV g v' y' e' s b t w o nd (rrSet D q (upd (D.2.2 q) 2 z')) nr R nw W F Φ Ψ ls (min (c + 1) 10) (psh v U) ∧ hM v' = hM v := by
  obtain ⟨hj, hls, hh, hs, hb, hT, h1, h2, h3, h4, h5⟩ := h
  obtain ⟨n1, n2, n3, n4, n5, n6, n7, n8, n9, n10⟩ := fd_n hf
  exact ⟨⟨hj', hls, hh', hs, hb, hT, dc_set hz h1 n2 n5 n6 ho, rc_eq h2 n1 (fun r _ => by rw [n7]), ow_eq h3 hj'.2.1.2.2.2.2.1 n3 (fun q _ => by rw [n8]) (fun q _ => by rw [n9]) (fun q _ s _ => by rw [n10]), by rw [n4]; exact h4, by omega⟩, n4⟩
/-- a door is closed -/
theorem act_closing (h : INV g v y e s b t w o nd D nr R nw W F Φ Ψ ls c U) (d bt : HouseV) (bs : SightV) (x3 : Int32) {q : Nat} (hq : q < hD v) (ho : opn v q = true) (hn : ¬ (0 < cnt (thr v (hA v q) (hB v q)) (hG v) ∧ cnt (obt v q) (hD v) = 1)) : ARES (L_act_332 x3 (I (q : Int)) 0 g v d y e s b bt bs t w o nd D nr R nw W F 0 0) Φ Ψ ls c U v y := by
  obtain ⟨hj, hls, hh, hs, hb, hT, h1, h2, h3, h4, h5⟩ := id h
  obtain ⟨z1, z2, z3, z4⟩ := id h1
  obtain ⟨b1, b2, b3, b4, b5, b6⟩ := z4 q hq
  rcases closeDoor_q (g := g) hj hh hq with ⟨x1, -⟩ | ⟨-, x2, x3', -⟩ | ⟨-, -, v', y', e', a1, a2, a3, a4, a5, a6⟩
  · rw [ho] at x1; cases x1
  · exact absurd ⟨x2, x3'⟩ hn
  · obtain ⟨k1, k2⟩ := inv_door (z' := 0) rfl h a2 a3 a4 a5
    refine ⟨1, g, v', d, y', e', s, b, bt, bs, t, w, o, nd, _, nr, R, nw, W, F, ls, min (c + 1) 10, Φ, Ψ, psh v U, ?_, k1, Nat.le_refl _, Nat.le_succ _, fun _ _ => rfl, fun _ _ => rfl, by omega, a6, Or.inr ⟨rfl, rfl, rfl⟩⟩
    have hop := oopens_s k1.2.2.2.2.2.2.1 (by have := k1.2.2.2.2.2.2.2.2.2.2; omega)
    unfold L_act_332
    rw [if_pos (by decide), gd_I (by omega) (by omega) (by omega), I_clamp q (by omega), gd_d (by omega), gd_d (by omega), b1, gd_t (by decide), cl2, nmL_e, a1, bind_s, hop, bind_s]
    dsimp only
    rw [if_pos rfl]
theorem act_refused (h : INV g v y e s b t w o nd D nr R nw W F Φ Ψ ls c U) (d bt : HouseV) (bs : SightV) (x3 : Int32) {q : Nat} {z : Int32} (hz : ¬ (0 : Int32) ≤ z) (hc : GW_closeDoor (I (q : Int)) g v y e = some (z, v, y, e)) : ARES (L_act_332 x3 (I (q : Int)) z g v d y e s b bt bs t w o nd D nr R nw W F 0 0) Φ Ψ ls c U v y := by
  have : L_act_332 x3 (I (q : Int)) z g v d y e s b bt bs t w o nd D nr R nw W F 0 0 = some (0, g, v, d, y, e, s, b, bt, bs, t, w, o, nd, D, nr, R, nw, W, F) := by
    unfold L_act_332
    rw [if_neg hz, hc, bind_s]
    dsimp only
    rw [if_pos rfl]
  rw [this]
  exact ares_0 h d bt bs
/-- a door is opened -/
theorem act_opening (h : INV g v y e s b t w o nd D nr R nw W F Φ Ψ ls c U) (d bt : HouseV) (bs : SightV) {q : Nat} (hq : q < hD v) (ho : opn v q = false) : ∃ v' y' e' m, GW_openDoor (I (q : Int)) g v y e = some (m, v', y', e') ∧ Own_opens (-1) o nd (rrSet D q (upd (D.2.2 q) 2 1)) = some m ∧ ARES (some (1, g, v', d, y', e', s, b, bt, bs, t, w, o, nd, rrSet D q (upd (D.2.2 q) 2 1), nr, R, nw, W, F)) Φ Ψ ls c U v y := by
  obtain ⟨hj, hls, hh, hs, hb, hT, h1, h2, h3, h4, h5⟩ := id h
  rcases openDoor_q (g := g) hj hh hq with ⟨x1, -⟩ | ⟨-, v', y', e', a1, a2, a3, a4, a5, a6⟩
  · rw [ho] at x1; cases x1
  · obtain ⟨k1, k2⟩ := inv_door (z' := 1) rfl h a2 a3 a4 a5
    have hop := oopens_s k1.2.2.2.2.2.2.1 (by have := k1.2.2.2.2.2.2.2.2.2.2; omega)
    exact ⟨v', y', e', _, a1, hop, 1, g, v', d, y', e', s, b, bt, bs, t, w, o, nd, _, nr, R, nw, W, F, ls, min (c + 1) 10, Φ, Ψ, psh v U, rfl, k1, Nat.le_refl _, Nat.le_succ _, fun _ _ => rfl, fun _ _ => rfl, by omega, a6, Or.inr ⟨rfl, rfl, rfl⟩⟩
end ACTX
