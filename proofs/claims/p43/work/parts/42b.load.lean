section LOADX
variable {g : GWV} {t : ToksV} {w : Nat → Int32} {T R : List Nat} {o : OwnV} {nd nr nw : Nat} {D Rw W : RowsT} {F : Nat → Int32} {nR nD nG : Nat} {A B : Nat → Nat} {O : Nat → Bool} {Lm P φ : Nat → Nat} {Wk : Nat → Nat → Nat} {v u : HouseV} {Φ Ψ : Nat → HouseV} {ls c : Nat} {y : HistV} {e U : Nat → HouseV}
theorem con_eq (hc : CON v nR nD nG A B O Lm P φ Wk) (hx : HX u) (e1 : hM u = hM v) (e2 : hR u = hR v) (e3 : hD u = hD v) (e4 : hA u = hA v) (e5 : hB u = hB v) (e6 : hO u = hO v) (e7 : hG u = hG v) (e8 : hP u = hP v) (e9 : hF u = hF v) (e10 : hW u = hW v) (e11 : hL u = hL v) : CON u nR nD nG A B O Lm P φ Wk := by
  obtain ⟨-, eM, eR, eD, dd, eG, gg, ll⟩ := hc
  refine ⟨hx, e1.trans eM, e2.trans eR, e3.trans eD, fun d hd => ?_, e7.trans eG, fun q hq => ?_, fun r hr => ?_⟩
  · unfold opn
    rw [e4, e5, e6]
    exact dd d hd
  · rw [e8, e9, e10]
    exact gg q hq
  · rw [e11]
    exact ll r hr
theorem con_hc (h : HC u v) (hc : CON v nR nD nG A B O Lm P φ Wk) : CON u nR nD nG A B O Lm P φ Wk := by
  obtain ⟨hx, eM, eR, eD, dd, eG, gg, ll⟩ := hc
  have hn := hx.1.1
  have hR12 := hn.2.2.1
  have hD20 := hn.2.2.2.2.1
  have hG4 := hn.2.2.2.2.2.2.1
  refine ⟨hc_hx h hx, by rw [hc_M h]; exact eM, by rw [hc_R h]; exact eR, by rw [hc_D h]; exact eD, fun d hd => ?_, by rw [hc_G h]; exact eG, fun q hq => ?_, fun r hr => ?_⟩
  · obtain ⟨z1, z2, z3⟩ := dd d hd
    rw [hc_A h (by omega), hc_B h (by omega)]
    refine ⟨z1, z2, ?_⟩
    unfold opn
    rw [hc_O h]
    exact z3
  · obtain ⟨z1, z2, z3⟩ := gg q hq
    have hp := hx.1.2.2.2.2.1.per q (by omega)
    rw [hc_P h (by omega), hc_F h (by omega)]
    exact ⟨z1, z2, fun s hs => by rw [hc_W h (by omega) (by omega)]; exact z3 s hs⟩
  · rw [hc_L h (by omega)]
    exact ll r hr
/-- walks and phases are marked as changed -/
theorem walks_q (hx : HX v) (hls : GW_lastStamp g = I (ls : Int)) (Φ Ψ : Nat → HouseV) : ∃ g' u Φ' Ψ', GW_markWalksChanged g v = some (g', u) ∧ GW_lastStamp g' = I ((ls + 1 : Nat) : Int) ∧ (∀ p, p ≤ ls → Φ' p = Φ p) ∧ (∀ p, p ≤ ls → Ψ' p = Ψ p) ∧ JX Φ' Ψ' (ls + 1) u ∧ House_rooms u = House_rooms v ∧ hM u = hM v ∧ hR u = hR v ∧ hD u = hD v ∧ hA u = hA v ∧ hB u = hB v ∧ hO u = hO v ∧ hG u = hG v ∧ hP u = hP v ∧ hF u = hF v ∧ hW u = hW v ∧ hL u = hL v := by
  obtain ⟨x, hxd⟩ : ∃ x, x = I ((ls + 1 : Nat) : Int) := ⟨_, rfl⟩
  have hm : GW_markWalksChanged g v = some (GW_set_lastStamp g x, House_set_walksStamp (House_set_phasesStamp v x) x) := by
    unfold GW_markWalksChanged GW_markPhasesChanged
    rw [nmL_e, nmL_e, hls, I_succ, ← hxd, bind_s]
    rfl
  have hx' : HX (House_set_walksStamp (House_set_phasesStamp v x) x) := stampW_hx (stampP_hx hx x) x
  have p1 : House_phasesStamp (House_set_walksStamp (House_set_phasesStamp v x) x) = x := (Ho_phasesStamp_walksStamp _ _).trans (Ho_phasesStamp_phasesStamp _ _)
  have p2 : House_walksStamp (House_set_walksStamp (House_set_phasesStamp v x) x) = x := Ho_walksStamp_walksStamp _ _
  obtain ⟨Φ', Ψ', f1, f2, f3⟩ := JJ.walks hx'.1 (p1.trans hxd) (p2.trans hxd) Φ Ψ
  refine ⟨GW_set_lastStamp g x, House_set_walksStamp (House_set_phasesStamp v x) x, Φ', Ψ', hm, hxd, f1, f2, ⟨f3, hx'⟩, (Ho_rooms_walksStamp _ _).trans (Ho_rooms_phasesStamp _ _), ?_, ?_, ?_, ?_, ?_, ?_, ?_, ?_, ?_, ?_, ?_⟩
  · unfold hM; rw [Ho_minute_walksStamp, Ho_minute_phasesStamp]
  · unfold hR; rw [Ho_rooms_walksStamp, Ho_rooms_phasesStamp]
  · unfold hD; rw [Ho_doors_walksStamp, Ho_doors_phasesStamp]
  · unfold hA; rw [Ho_doorFirst_walksStamp, Ho_doorFirst_phasesStamp]
  · unfold hB; rw [Ho_doorSecond_walksStamp, Ho_doorSecond_phasesStamp]
  · unfold hO; rw [Ho_openDoors_walksStamp, Ho_openDoors_phasesStamp]
  · unfold hG; rw [Ho_guards_walksStamp, Ho_guards_phasesStamp]
  · unfold hP; rw [Ho_periods_walksStamp, Ho_periods_phasesStamp]
  · unfold hF; rw [Ho_phases_walksStamp, Ho_phases_phasesStamp]
  · unfold hW; rw [Ho_walks_walksStamp, Ho_walks_phasesStamp]
  · unfold hL; rw [Ho_limits_walksStamp, Ho_limits_phasesStamp]
/-- steps of the law's rows are steps of the house -/
theorem go4_go (h1 : hD v = nD) (h2 : ∀ d, d < nD → hA v d = A d ∧ hB v d = B d ∧ opn v d = O d) {a b : Nat} (h : go4 A B O nD a b) : go v a b = true := by
  rw [go_iff]
  rcases h with h | h
  · exact Or.inl h
  · obtain ⟨d, hd, hp⟩ := cnt_pos.mp h
    obtain ⟨z1, z2, z3⟩ := h2 d hd
    unfold opC at hp
    rw [Bool.and_eq_true] at hp
    refine Or.inr ⟨d, by omega, by rw [z3]; exact hp.1, ?_⟩
    unfold btw
    rw [z1, z2]
    exact hp.2
theorem load_q (h1 : 1 ≤ nR) (hR12 : nR ≤ 12) (hN20 : nD ≤ 20) (hG4 : nG ≤ 4) (hd : ∀ d, d < nD → A d < nR ∧ B d < nR ∧ A d ≠ B d) (hgd : ∀ q, q < nG → 1 ≤ P q ∧ P q ≤ 10 ∧ φ q < P q ∧ ∀ s, s < P q → Wk q s < nR ∧ go4 A B O nD (Wk q s) (Wk q ((s + 1) % P q))) (hL : ∀ r, r < nR → Lm r ≤ 99) {f : Nat} (hf : Toks_filled t = I (f : Int)) (hT : T = hsT nR nD nG A B O Lm P φ Wk) (hl : T.length ≤ 400) (hlf : T.length ≤ f) (hf6 : f ≤ 600) (hb : ∀ q, byq T q < 128) (hy : ∀ q, q < T.length → Toks_bytes t q = I (byq T q : Int)) (hls : GW_lastStamp g = I (ls : Int)) (hh : HQ y e c U) (v d : HouseV) (Φ Ψ : Nat → HouseV) : ∃ g' v' d' y' t' Φ' Ψ', GW_load (I (T.length : Int)) g v d y t = some (I (nR : Int), g', v', d', y', t') ∧ GW_lastStamp g' = I ((ls + 1 : Nat) : Int) ∧ (∀ p, p ≤ ls → Φ' p = Φ p) ∧ (∀ p, p ≤ ls → Ψ' p = Ψ p) ∧ JX Φ' Ψ' (ls + 1) v' ∧ CON v' nR nD nG A B O Lm P φ Wk ∧ HQ y' e 0 U ∧ Toks_filled t' = 0 := by
  obtain ⟨b1, b2⟩ := begin_q (f := f) (T := T) (by omega) hb hy
  rw [hT] at b2
  obtain ⟨t0, t1, v1, a1, a2, a3⟩ := readHouse_q (T := hsT nR nD nG A B O Lm P φ Wk) h1 hR12 hN20 hG4 hd (fun q hq => ⟨(hgd q hq).1, (hgd q hq).2.1, (hgd q hq).2.2.1, fun s hs => ((hgd q hq).2.2.2 s hs).1⟩) hL (fun v k hc q hq s hs => go4_go hc.2.2.2.1 hc.2.2.2.2.1 ((hgd q hq).2.2.2 s hs).2) b2 d
  rw [← hT] at a1
  obtain ⟨w1, c1, c2⟩ := copyFrom_s v v1
  have k1 := con_hc c2 a3
  have hls2 : GW_lastStamp (GW_set_lastErrorPosition g (-1)) = I (ls : Int) := hls
  obtain ⟨g', u, Φ', Ψ', m1, m2, m3, m4, m5, mr, n1, n2, n3, n4, n5, n6, n7, n8, n9, n10, n11⟩ := walks_q k1.1 hls2 Φ Ψ
  obtain ⟨y', q1, q2⟩ := forget_q hh
  have k2 := con_eq k1 m5.2 n1 n2 n3 n4 n5 n6 n7 n8 n9 n10 n11
  refine ⟨g', u, v1, y', Toks_set_filled t1 0, Φ', Ψ', ?_, m2, m3, m4, m5, k2, q2, rfl⟩
  have hRu : House_rooms u = I (nR : Int) := by rw [k2.1.1.1.1, k2.2.2.1]
  unfold GW_load
  rw [hf, show (0 : Int32) = I 0 from rfl, needRange_o (by omega) (by omega) (by omega) (by omega), bind_s, b1, a1, bind_s, bind_s, a2, bind_s]
  unfold GW_endReading
  dsimp only
  rw [if_pos rfl, nmL_e, nmL_e, bind_s, if_pos (show (0 : Int32) = I 0 from rfl), c1, bind_s]
  dsimp only
  rw [m1, bind_s, q1, bind_s]
  dsimp only
  rw [hRu]
  rfl
/-- the law tells a house -/
theorem tell_q (h : OC o nd D nr Rw nw W F nR nD nG A B O Lm P φ Wk) (hT : TX t w []) (hls : GW_lastStamp g = I (ls : Int)) (hh : HQ y e c U) (v d : HouseV) (Φ Ψ : Nat → HouseV) : ∃ g' v' d' y' t' w' Φ' Ψ', L_tell g v d y t w o nd D nr Rw nw W F = some (I (nR : Int), g', v', d', y', t', w') ∧ GW_lastStamp g' = I ((ls + 1 : Nat) : Int) ∧ (∀ p, p ≤ ls → Φ' p = Φ p) ∧ (∀ p, p ≤ ls → Ψ' p = Ψ p) ∧ JX Φ' Ψ' (ls + 1) v' ∧ CON v' nR nD nG A B O Lm P φ Wk ∧ HQ y' e 0 U ∧ TX t' w' [] := by
  obtain ⟨t1, w1, e1, e2, e3⟩ := tell_text (g := g) h hT v d y
  obtain ⟨t2, w2, f, e4, e5, e6, e7, e8, e9⟩ := end_q (g := g) e2 (by omega)
  obtain ⟨hd, hr, hw, hF, h10, h4, hdd, hgg⟩ := h
  obtain ⟨f, rfl⟩ : ∃ n : Nat, f = (n : Int) := ⟨f.toNat, by omega⟩
  obtain ⟨g', v', d', y', t', Φ', Ψ', p1, p2, p3, p4, p5, p6, p7, p8⟩ := load_q (t := t2) (f := f) hr.2.2.2.1 (by omega) (by omega) h4 hdd (fun q hq => ⟨(hgg q hq).1, by have := (hgg q hq).2.1; omega, (hF q hq).2, (hgg q hq).2.2⟩) (fun r hr2 => (hr.2.2.2.2.2 r hr2).2.2) e5 rfl e3 (by omega) (by omega) e2.1 e8 hls hh v d Φ Ψ
  refine ⟨g', v', d', y', t', w2, Φ', Ψ', ?_, p2, p3, p4, p5, p6, p7, TX.nil p8 e9⟩
  rw [e1, e4, bind_s]
  dsimp only
  rw [p1, bind_s]
/-! a walk is changed -/
/-- what a house is with another walk -/
def CHG (u v : HouseV) (q P φ : Nat) (W' : Nat → Nat) : Prop := HX u ∧ hM u = hM v ∧ hR u = hR v ∧ hD u = hD v ∧ (∀ d, d < 20 → hA u d = hA v d ∧ hB u d = hB v d) ∧ hO u = hO v ∧ hG u = hG v ∧ (∀ r, r < 12 → hL u r = hL v r) ∧ (∀ j, j < hG v → hP u j = (if j = q then P else hP v j) ∧ hF u j = (if j = q then φ else hF v j) ∧ ∀ s, s < hP u j → hW u j s = if j = q then W' s else hW v j s)
theorem readChange_q {q P φ : Nat} {W' : Nat → Nat} (hx : HX v) (hq : q < hG v) (hP1 : 1 ≤ P) (hP10 : P ≤ 10) (hφ : φ < P) (hWR : ∀ s, s < P → W' s < hR v) (hgo : ∀ s, s < P → go v (W' s) (W' ((s + 1) % P)) = true) (hat : AT t T (txWalk ++ (32 :: (dgt q ++ (wkT W' 0 P ++ phT φ))))) : ∃ t0 t' v', Toks_advance t = some t0 ∧ HRead_readChange t0 v = some (0, t', v') ∧ CHG v' v q P φ W' := by
  obtain ⟨x1, x2, x3⟩ := id hx
  have hn := x1.1
  have hR12 := hn.2.2.1
  have hG4 := hn.2.2.2.2.2.2.1
  have bw : BW v q := ⟨x1.1, x1.2.1, x1.2.2.1, x1.2.2.2.1, x1.2.2.2.2.2, fun j hj _ => x1.2.2.2.2.1 j hj⟩
  obtain ⟨p, hp⟩ : ∃ p, P = p + 1 := ⟨P - 1, by omega⟩
  have hW0 := hWR 0 (by omega)
  have eT : wkT W' 0 P ++ phT φ = wkT W' 0 P ++ (phT φ ++ EDT true ([] : List Nat)) := by
    show _ = wkT W' 0 P ++ (phT φ ++ [])
    rw [List.append_nil]
  rw [eT] at hat
  obtain ⟨t0, e0, r0⟩ := adv_w wd_walk.1 hat wd_walk.2.1 (st_b (by omega)) wd_walk.2.2
  obtain ⟨t1, e1, r1⟩ := adv_bn (by omega) r0.rest (wkT_stop _ _ _ (by omega) (by
    unfold phT
    split
    · exact Stop.nil
    · exact st_b (by omega)))
  have hat2 := r1.rest
  rw [hp, wkT_s] at hat2
  obtain ⟨t2, e2, r2⟩ := adv_bn (by omega) hat2 (wkT_stop _ _ _ (by omega) (by
    unfold phT
    split
    · exact Stop.nil
    · exact st_b (by omega)))
  obtain ⟨t3, v3, e3, r3, gu, ww, eP, eF, eW⟩ := readWalk_q (R := []) bw hq hP1 hP10 hWR hgo hφ true (by rw [show P - 1 = p by omega]; exact r2)
  have r3' : RD t3 T 0 [] [] 0 := r3
  have q1 := nc0 (hi := (hG v : Int) - 1) r1 (by omega) (by omega)
  refine ⟨t0, t3, v3, e0, ?_, ?_⟩
  · unfold HRead_readChange
    rw [isWord_t (by decide) s10 r0, bind_s, bif_t, e1, bind_s, hn.2.2.2.2.2.1, I1, I_sub, q1, bind_s, if_pos rfl, nmL_e, number_is r1, e2, bind_s, e3, bind_s]
    dsimp only
    rw [if_pos rfl, isEnd_t r3', bind_s, bif_t]
  · have eFn : hF v3 q = φ := by unfold hF; rw [eF]; exact I_clamp _ (by omega)
    have hok := hok_of bw gu ww (by omega) (by rw [eFn]; exact eF) (by omega)
    have ego : ∀ a b, go v3 a b = go v a b := fun a b => gu_go gu a b
    obtain ⟨g1, g2, g3, g4, g5, g6, g7, g8, g9, g10, g11, g12, g13, g14⟩ := gu
    have eG : hG v3 = hG v := by unfold hG; rw [g3]
    have eWn : ∀ s, s < P → hW v3 q s = W' s := fun s hs => by
      unfold hW
      rw [eW s hs]
      exact I_clamp _ (by have := hWR s hs; omega)
    have egk : ∀ j, j ≠ q → hP v3 j = hP v j ∧ hF v3 j = hF v j ∧ ∀ s, s < 10 → hW v3 j s = hW v j s := fun j hj => by
      obtain ⟨y1, y2, -, y4⟩ := g14 j hj
      refine ⟨by unfold hP; rw [y1], by unfold hF; rw [y2], fun s hs => ?_⟩
      unfold hW
      rw [y4 s hs]
    refine ⟨⟨hok, wfq_c g12 g13 x2, fun j hj s hs => ?_⟩, by unfold hM; rw [g4], by unfold hR; rw [g1], by unfold hD; rw [g2], fun d _ => ⟨by unfold hA; rw [g6], by unfold hB; rw [g7]⟩, by unfold hO; rw [g5], eG, fun r _ => by unfold hL; rw [g9], fun j hj => ?_⟩
    · rw [ego]
      by_cases c : j = q
      · subst c
        rw [eP] at hs ⊢
        rw [eWn s hs, eWn _ (Nat.mod_lt _ (by omega))]
        exact hgo s hs
      · obtain ⟨y1, y2, y3⟩ := egk j c
        rw [y1] at hs ⊢
        have hp2 := x1.2.2.2.2.1.per j (by omega)
        have hml : (s + 1) % hP v j < hP v j := Nat.mod_lt _ (by omega)
        rw [y3 s (by omega), y3 _ (by omega)]
        exact x3 j (by omega) s hs
    · by_cases c : j = q
      · subst c
        rw [if_pos rfl, if_pos rfl, eP]
        exact ⟨rfl, eFn, fun s hs => by rw [if_pos rfl]; exact eWn s hs⟩
      · obtain ⟨y1, y2, y3⟩ := egk j c
        have hp2 := x1.2.2.2.2.1.per j hj
        rw [if_neg c, if_neg c, y1]
        exact ⟨rfl, y2, fun s hs => by rw [if_neg c]; exact y3 s (by omega)⟩
theorem chg_hc {q P φ : Nat} {W' : Nat → Nat} {x : HouseV} (h : HC x u) (hc : CHG u v q P φ W') (hn : WFn v) : CHG x v q P φ W' := by
  obtain ⟨h1, h2, h3, h4, h5, h6, h7, h8, h9⟩ := hc
  have hG4 := hn.2.2.2.2.2.2.1
  refine ⟨hc_hx h h1, by rw [hc_M h]; exact h2, by rw [hc_R h]; exact h3, by rw [hc_D h]; exact h4, fun d hd => by rw [hc_A h hd, hc_B h hd]; exact h5 d hd, by rw [hc_O h]; exact h6, by rw [hc_G h]; exact h7, fun r hr => by rw [hc_L h hr]; exact h8 r hr, fun j hj => ?_⟩
  obtain ⟨z1, z2, z3⟩ := h9 j hj
  have hp := h1.1.2.2.2.2.1.per j (by omega)
  rw [hc_P h (by omega), hc_F h (by omega)]
  exact ⟨z1, z2, fun s hs => by rw [hc_W h (by omega) (by omega)]; exact z3 s hs⟩
theorem chg_eq {q P φ : Nat} {W' : Nat → Nat} {x : HouseV} (hc : CHG u v q P φ W') (hx : HX x) (e1 : hM x = hM u) (e2 : hR x = hR u) (e3 : hD x = hD u) (e4 : hA x = hA u) (e5 : hB x = hB u) (e6 : hO x = hO u) (e7 : hG x = hG u) (e8 : hP x = hP u) (e9 : hF x = hF u) (e10 : hW x = hW u) (e11 : hL x = hL u) : CHG x v q P φ W' := by
  obtain ⟨h1, h2, h3, h4, h5, h6, h7, h8, h9⟩ := hc
  refine ⟨hx, e1.trans h2, e2.trans h3, e3.trans h4, by rw [e4, e5]; exact h5, e6.trans h6, e7.trans h7, by rw [e11]; exact h8, ?_⟩
  rw [e8, e9, e10]
  exact h9
theorem change_q {q P φ : Nat} {W' : Nat → Nat} (hj : JX Φ Ψ ls v) (hls : GW_lastStamp g = I (ls : Int)) (hh : HQ y e c U) (hq : q < hG v) (hP1 : 1 ≤ P) (hP10 : P ≤ 10) (hφ : φ < P) (hWR : ∀ s, s < P → W' s < hR v) (hgo : ∀ s, s < P → go v (W' s) (W' ((s + 1) % P)) = true) {f : Nat} (hf : Toks_filled t = I (f : Int)) (hT : T = txWalk ++ (32 :: (dgt q ++ (wkT W' 0 P ++ phT φ)))) (hl : T.length ≤ 400) (hlf : T.length ≤ f) (hf6 : f ≤ 600) (hb : ∀ q, byq T q < 128) (hy : ∀ q, q < T.length → Toks_bytes t q = I (byq T q : Int)) (d : HouseV) : ∃ g' v' d' y' e' t' Φ' Ψ', GW_change (I (T.length : Int)) g v d y e t = some (I (cyc v' : Int), g', v', d', y', e', t') ∧ GW_lastStamp g' = I ((ls + 1 : Nat) : Int) ∧ (∀ p, p ≤ ls → Φ' p = Φ p) ∧ (∀ p, p ≤ ls → Ψ' p = Ψ p) ∧ JX Φ' Ψ' (ls + 1) v' ∧ CHG v' v q P φ W' ∧ HQ y' e' (min (c + 1) 10) (psh v U) ∧ Hist_saved y' = Hist_saved y ∧ Toks_filled t' = 0 := by
  have hx := hj.2
  have hn := hx.1.1
  obtain ⟨b1, b2⟩ := begin_q (f := f) (T := T) (by omega) hb hy
  obtain ⟨d1, c1, c2⟩ := copyFrom_s d v
  have hx1 : HX d1 := hc_hx c2 hx
  have hR12 := hn.2.2.1
  have ego : ∀ a b, go d1 a b = go v a b := fun a b => by
    unfold go
    rw [hc_jm c2 hn]
  rw [hT] at b2
  obtain ⟨t0, t1, v1, a1, a2, a3⟩ := readChange_q (T := txWalk ++ (32 :: (dgt q ++ (wkT W' 0 P ++ phT φ)))) hx1 (by rw [hc_G c2]; exact hq) hP1 hP10 hφ (fun s hs => by rw [hc_R c2]; exact hWR s hs) (fun s hs => by rw [ego]; exact hgo s hs) b2
  rw [← hT] at a1
  have a4 : CHG v1 v q P φ W' := by
    have hG4 := hn.2.2.2.2.2.2.1
    obtain ⟨h1, h2, h3, h4, h5, h6, h7, h8, h9⟩ := a3
    refine ⟨h1, by rw [h2, hc_M c2], by rw [h3, hc_R c2], by rw [h4, hc_D c2], fun d hd => by rw [(h5 d hd).1, (h5 d hd).2, hc_A c2 hd, hc_B c2 hd]; exact ⟨rfl, rfl⟩, by rw [h6, hc_O c2], by rw [h7, hc_G c2], fun r hr => by rw [h8 r hr, hc_L c2 hr], fun j hj => ?_⟩
    obtain ⟨z1, z2, z3⟩ := h9 j (by rw [hc_G c2]; exact hj)
    have hp1 := hx.1.2.2.2.2.1.per j hj
    have hp2 := h1.1.2.2.2.2.1.per j (by rw [h7, hc_G c2]; exact hj)
    rw [hc_P c2 (by omega)] at z1
    rw [hc_F c2 (by omega)] at z2
    exact ⟨z1, z2, fun s hs => by rw [z3 s hs, hc_W c2 (by omega) (by omega)]⟩
  obtain ⟨y', e', q1, q2, q3⟩ := record_q hh v
  obtain ⟨w1, k1, k2⟩ := copyFrom_s v v1
  have a5 := chg_hc k2 a4 hn
  have hls2 : GW_lastStamp (GW_set_lastErrorPosition g (-1)) = I (ls : Int) := hls
  obtain ⟨g', u', Φ', Ψ', m1, m2, m3, m4, m5, mr, n1, n2, n3, n4, n5, n6, n7, n8, n9, n10, n11⟩ := walks_q a5.1 hls2 Φ Ψ
  have a6 := chg_eq a5 m5.2 n1 n2 n3 n4 n5 n6 n7 n8 n9 n10 n11
  refine ⟨g', u', v1, y', e', Toks_set_filled t1 0, Φ', Ψ', ?_, m2, m3, m4, m5, a6, q2, q3, rfl⟩
  unfold GW_change
  rw [hf, show (0 : Int32) = I 0 from rfl, needRange_o (by omega) (by omega) (by omega) (by omega), bind_s, b1, a1, bind_s, bind_s, c1, bind_s, a2, bind_s]
  unfold GW_endReading
  dsimp only
  rw [if_pos rfl, nmL_e, nmL_e, bind_s, if_pos (show (0 : Int32) = I 0 from rfl), q1, bind_s, k1, bind_s]
  dsimp only
  rw [m1, bind_s]
  dsimp only
  rw [cycleLength_s m5.2.1.1 m5.2.1.2.2.2.2.1, bind_s]
  rfl
end LOADX
