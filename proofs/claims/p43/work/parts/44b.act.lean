section ACTB
variable {g : GWV} {t : ToksV} {w : Nat → Int32} {o : OwnV} {nd nr nw n : Nat} {D R W : RowsT} {F : Nat → Int32} {v u d : HouseV} {Φ Ψ : Nat → HouseV} {ls c : Nat} {y : HistV} {e U : Nat → HouseV} {s : SightV} {b : BestV}
theorem act202 (x3 : Int32) (K : Int32 → Int32 → GWV → HouseV → HouseV → HistV → (Nat → HouseV) → SightV → BestV → HouseV → SightV → ToksV → (Nat → Int32) → OwnV → Nat → RowsT → Nat → RowsT → Nat → RowsT → (Nat → Int32) → (Nat → Int32) → Nat → Nat → Option ARow) {k : Nat} (hk : k < 4) (z x7 : Int32) (d bt : HouseV) (bs : SightV) (F1 Bq : Nat → Int32) (c1 s1 : Nat) : L_act_202 x3 K (I (k : Int)) z x7 g v d y e s b bt bs t w o nd D nr R nw W F1 Bq c1 s1 = K (x7 + z) (I ((k + 1 : Nat) : Int)) g v d y e s b bt bs t w o nd D nr R nw W (upd F1 k (Bq (2 + k))) Bq c1 s1 := by
  unfold L_act_202
  rw [nmL_e, show (2 : Int32) + I (k : Int) = I ((2 + k : Nat) : Int) by rw [show (2 : Int32) = I 2 from rfl, I_add]; congr 1, gd_I (by omega) (by omega) (by omega), gd_I (by omega) (by omega) (by omega), I_clamp k (by omega), I_clamp (2 + k) (by omega), nmL_e, nmL_e, I_succ]
theorem act169 (h : INV g v y e s b t w o nd D nr R nw W F Φ Ψ ls c U) (hl : ls ≤ 90000) (d bt : HouseV) (bs : SightV) (x3 : Int32) {Bq : Nat → Int32} {γ : Nat → Nat} (hB : BROW Bq v γ) (hγ : BestIn (EV v) (hP v) (hG v) (prd (hP v) (hG v)) γ) (c1 s1 : Nat) : ∀ (q k m : Nat) (F1 : Nat → Int32), hG v = k + q → q < m → (∀ j, j < k → F1 j = I (γ j : Int)) → (∀ j, k ≤ j → j < hG v → F1 j = I (hF v j : Int)) → ARES (L_act_169 x3 m (I ((cnt (fun j => decide (¬ hF v j = γ j)) k : Nat) : Int)) (I (k : Int)) g v d y e s b bt bs t w o nd D nr R nw W F1 Bq c1 s1) Φ Ψ ls c U v y := by
  obtain ⟨hj, hls, hh, hs, hb, hT, h1, h2, h3, h4, h5⟩ := id h
  have hw := hj.2.1.2.2.2.2.1
  have hG4 := hj.2.1.1.2.2.2.2.2.2.1
  have hog : Own_guards o = I (hG v : Int) := h3.1.1
  intro q
  induction q with
  | zero =>
    intro k m F1 hk hm f1 f2
    obtain ⟨m, rfl⟩ : ∃ q, m = q + 1 := ⟨m - 1, by omega⟩
    obtain ⟨β, g', v', y', e', b', bt', bs', Φ', a1, a2, a3, a4, a5, a6, a7, a8, a9, a10, a11, a12⟩ := adopt_q hj hls (by omega) hh hb bt bs
    obtain ⟨n1, n2, n3, n4, n5, n6, n7, n8, n9, n10⟩ := fp_n a6
    have eγ := best_PM hw hγ a2
    have ec : cnt (fun j => decide (¬ hF v j = γ j)) k = cnt (fun j => decide (¬ hF v j = β j)) (hG v) := by
      rw [show k = hG v by omega]
      exact cnt_congr fun j hj2 => by rw [eγ j hj2]
    have hO : opn v' = opn v := by unfold opn; rw [n5]
    have hOW : OW o nw W F1 v' := by
      have k1 := h3.1
      refine ⟨by rw [n3, n9, n10]; exact k1, fun j hj2 => ?_, by omega, a5.2.1.2.2.2.2.1, fun j hj2 => by rw [n9]; exact h3.2.2.2.2 j (by omega)⟩
      rw [n3] at hj2
      rw [f1 j (by omega), a7 j hj2, eγ j hj2]
    refine ⟨1, g', v', d, y', e', s, b', bt', bs', t, w, o, nd, D, nr, R, nw, W, F1, ls + 1, min (c + 1) 10, Φ', Ψ, psh v U, ?_, ⟨a5, a3, a11, hs.mono (by omega) a4, a10, hT, by rw [n2, n6, n7, hO]; exact h1, rc_eq h2 n1 (fun r _ => by rw [n8]), hOW, by rw [n4]; exact h4, by omega⟩, by omega, by omega, a4, fun _ _ => rfl, by omega, a12, Or.inr ⟨rfl, rfl, rfl⟩⟩
    rw [L_act_169, hog, if_pos (I_le_t (by omega) (by omega) (by omega)), a1, bind_s]
    dsimp only
    rw [ec, if_pos rfl]
  | succ q ih =>
    intro k m F1 hk hm f1 f2
    obtain ⟨m, rfl⟩ : ∃ q, m = q + 1 := ⟨m - 1, by omega⟩
    have hkG : k < hG v := by omega
    have hp := hw.per k hkG
    have hFk := (hw k hkG).2.2.2
    have hγk := hγ.1 k hkG
    have hBk : Bq (2 + k) = I (γ k : Int) := hB.2.2 k hkG
    have hF1k := f2 k (Nat.le_refl _) hkG
    have hrec := ih (k + 1) m (upd F1 k (Bq (2 + k))) (by omega) (by omega) (fun j hj2 => by
      by_cases dd : j = k
      · rw [dd, upd_i]; exact hBk
      · rw [upd_n dd]; exact f1 j (by omega)) (fun j hj2 hj3 => by rw [upd_n (by omega)]; exact f2 j (by omega) hj3)
    rw [cnt] at hrec
    have h2k : (2 : Int32) + I (k : Int) = I ((2 + k : Nat) : Int) := by rw [show (2 : Int32) = I 2 from rfl, I_add]; congr 1
    rw [L_act_169, hog, if_neg (I_le_f (by omega) (by omega) (by omega)), gd_I (by omega) (by omega) (by omega), h2k, gd_I (by omega) (by omega) (by omega), I_clamp k (by omega), I_clamp (2 + k) (by omega), hF1k, hBk]
    by_cases cc : hF v k = γ k
    · rw [decide_eq_false (fun q : ¬ hF v k = γ k => q cc), bif_f, Nat.add_zero] at hrec
      rw [if_pos (by rw [cc]), act202 x3 _ (by omega), I_a0]
      exact hrec
    · rw [decide_eq_true cc, bif_t] at hrec
      rw [if_neg (I_ne (by omega) (by omega) (by omega) (by omega) (by omega)), act202 x3 _ (by omega), I_succ]
      exact hrec
/-- a phase is shifted -/
theorem act_shift (h : INV g v y e s b t w o nd D nr R nw W F Φ Ψ ls c U) (hl : ls ≤ 90000) (d bt : HouseV) (bs : SightV) (x : Int32) {q : Nat} (hq : q < hG v) : ∃ φ g' v' y' e' s' m, L_most x (I (hP v q : Int)) = some (I (φ : Int)) ∧ GW_shift (I (q : Int)) (I (φ : Int)) g v y e s = some (m, g', v', y', e', s') ∧ Own_worst o nw W (upd F q (I (φ : Int))) = some m ∧ ARES (some (1, g', v', d, y', e', s', b, bt, bs, t, w, o, nd, D, nr, R, nw, W, upd F q (I (φ : Int)))) Φ Ψ ls c U v y := by
  obtain ⟨hj, hls, hh, hs, hb, hT, h1, h2, h3, h4, h5⟩ := id h
  have hw := hj.2.1.2.2.2.2.1
  have hp := hw.per q hq
  obtain ⟨φ, p1, p2⟩ := most_s x (m := hP v q) hp.1 (by omega)
  obtain ⟨g', v', y', e', s', Φ', a1, a2, a3, a4, a5, a6, a7, a8, a9⟩ := shift_q hj hls (by omega) hh hs hq p1
  obtain ⟨n1, n2, n3, n4, n5, n6, n7, n8, n9, n10⟩ := fp_n a5
  have hO : opn v' = opn v := by unfold opn; rw [n5]
  have hOW : OW o nw W (upd F q (I (φ : Int))) v' := by
    refine ⟨by rw [n3, n9, n10]; exact h3.1, fun j hj2 => ?_, by rw [n3]; exact h3.2.2.1, a4.2.1.2.2.2.2.1, fun j hj2 => by rw [n9]; exact h3.2.2.2.2 j (by omega)⟩
    rw [n3] at hj2
    rw [a6 j hj2]
    by_cases dd : j = q
    · rw [if_pos dd, dd, upd_i]
    · rw [if_neg dd, upd_n dd]
      exact h3.2.1 j hj2
  have hRC := rc_eq h2 n1 (fun r _ => by rw [n8])
  exact ⟨φ, g', v', y', e', s', _, p2, a1, oworst_s hOW hRC.1 hRC.2.2.2.2.1, 1, g', v', d, y', e', s', b, bt, bs, t, w, o, nd, D, nr, R, nw, W, _, ls + 1, min (c + 1) 10, Φ', Ψ, psh v U, rfl, ⟨a4, a2, a8, a7, hb.mono (by omega) fun _ _ => rfl, hT, by rw [n2, n6, n7, hO]; exact h1, hRC, hOW, by rw [n4]; exact h4, by omega⟩, by omega, by omega, a3, fun _ _ => rfl, by omega, a9, Or.inr ⟨rfl, rfl, rfl⟩⟩
/-- a walk is changed -/
theorem act_change (h : INV g v y e s b t w o nd D nr R nw W F Φ Ψ ls c U) (hl : ls ≤ 90000) (d bt : HouseV) (bs : SightV) (x6 x7 : Int32) {q : Nat} (hq : q < hG v) : ∃ l wv, Own_walkBy x6 o nd D = some (l, wv) ∧ ∃ φ t1 w1 t2 w2 len t3 w3 m g' v' d' y' e' t4, L_most x7 (I (l : Int)) = some (I (φ : Int)) ∧ L_with 24 (I (q : Int)) g t w = some (t1, w1) ∧ L_walkOf (I (φ : Int)) g t1 w1 l wv = some (t2, w2) ∧ L_end g t2 w2 = some (len, t3, w3) ∧ GW_change len g v d y e t3 = some (m, g', v', d', y', e', t4) ∧ Own_cycle o nw (rrPut W q l wv) = some m ∧ ARES (some (1, g', v', d', y', e', s, b, bt, bs, t4, w3, o, nd, D, nr, R, nw, rrPut W q l wv, upd F q (I (φ : Int)))) Φ Ψ ls c U v y := by
  obtain ⟨hj, hls, hh, hs, hb, hT, h1, h2, h3, h4, h5⟩ := id h
  have hx := hj.2
  have hn := hx.1.1
  have hG4 := hn.2.2.2.2.2.2.1
  obtain ⟨r1, r2, r3, r4, r5, r6⟩ := id h2
  obtain ⟨l, wv, b1, b2⟩ := owalkBy_s h1 (by omega) r1 r4 (by omega) x6
  obtain ⟨b3, b4, b5, b6, b7⟩ := b2
  obtain ⟨φ, p1, p2⟩ := most_s x7 (m := l) b3 (by omega)
  have hgo : ∀ i, i < l → go v (xw wv i) (xw wv ((i + 1) % l)) = true := fun i hi => by
    refine go4_go rfl (fun d _ => ⟨rfl, rfl, rfl⟩) ?_
    by_cases cs : i + 1 < l
    · rw [Nat.mod_eq_of_lt cs]
      exact b6 i cs
    · rw [show i + 1 = l by omega, Nat.mod_self, show i = l - 1 by omega]
      exact b7
  have dq := dgt_len q
  have d1 := wkT_len (xw wv) 0 l
  have d2 := phT_len φ
  obtain ⟨t1, w1, e1, e2⟩ := with_q (g := g) hT (i := 24) (by decide) s24 (by decide) (x := q) (by omega) (by show 0 + 5 + 2 ≤ 599; omega)
  have l1 : ([] ++ ((txWalk ++ [32]) ++ dgt q)).length = 5 + (dgt q).length := by rw [List.nil_append, List.length_append]; rfl
  obtain ⟨t2, w2, e3, e4⟩ := walkOf_q (g := g) (P := l) (φ := φ) (Wv := wv) (W' := xw wv) (fun i hi => ⟨(b5 i hi).1, by have := (b5 i hi).2; omega⟩) (by omega) (by omega) e2 (by omega)
  have eT : ([] ++ ((txWalk ++ [32]) ++ dgt q)) ++ (wkT (xw wv) 0 l ++ phT φ) = txWalk ++ (32 :: (dgt q ++ (wkT (xw wv) 0 l ++ phT φ))) := by
    simp only [List.append_assoc, List.cons_append, List.nil_append]
  have l2 : (([] ++ ((txWalk ++ [32]) ++ dgt q)) ++ (wkT (xw wv) 0 l ++ phT φ)).length ≤ 60 := by
    rw [List.length_append, l1, List.length_append]
    omega
  obtain ⟨t3, w3, f, e5, e6, e7, e8, e9, e10⟩ := end_q (g := g) e4 (by omega)
  obtain ⟨f, rfl⟩ : ∃ n : Nat, f = (n : Int) := ⟨f.toNat, by omega⟩
  obtain ⟨g', v', d', y', e', t4, Φ', Ψ', a1, a2, a3, a4, a5, a6, a7, a8, a9⟩ := change_q (P := l) (φ := φ) (W' := xw wv) hj hls hh hq b3 (by omega) p1 (fun i hi => (b5 i hi).2) hgo e6 eT (by omega) (by omega) (by omega) e4.1 e9 d
  obtain ⟨z1, z2, z3, z4, z5, z6, z7, z8, z9⟩ := a6
  obtain ⟨k1, k2, k3, k4⟩ := h3.1
  have hOW : OW o nw (rrPut W q l wv) (upd F q (I (φ : Int))) v' := by
    refine ⟨⟨by rw [z7]; exact k1, by rw [z7]; exact k2, by rw [z7]; exact k3, fun j hj2 => ?_⟩, fun j hj2 => ?_, by omega, a5.2.1.2.2.2.2.1, fun j hj2 => ?_⟩
    · rw [z7] at hj2
      obtain ⟨y1, y2, y3⟩ := z9 j hj2
      have hr12 := hn.2.2.1
      show (if j = q then l else W.2.1 j) = hP v' j ∧ 1 ≤ hP v' j ∧ hP v' j ≤ 10 ∧ ∀ i, i < hP v' j → (if j = q then wv else W.2.2 j) i = I (hW v' j i : Int) ∧ hW v' j i < 12
      by_cases dd : j = q
      · rw [if_pos dd] at y1
        rw [if_pos dd, if_pos dd]
        refine ⟨y1.symm, by omega, by omega, fun i hi => ?_⟩
        have y4 := y3 i hi
        rw [if_pos dd] at y4
        have := b5 i (by omega)
        rw [y4]
        exact ⟨this.1, by omega⟩
      · rw [if_neg dd] at y1
        rw [if_neg dd, if_neg dd, y1]
        obtain ⟨m1, m2, m3, m4⟩ := k4 j hj2
        refine ⟨m1, m2, m3, fun i hi => ?_⟩
        have y4 := y3 i (by omega)
        rw [if_neg dd] at y4
        rw [y4]
        exact m4 i hi
    · rw [z7] at hj2
      obtain ⟨y1, y2, y3⟩ := z9 j hj2
      rw [y2]
      by_cases dd : j = q
      · rw [if_pos dd, dd, upd_i]
      · rw [if_neg dd, upd_n dd]
        exact h3.2.1 j hj2
    · rw [z7] at hj2
      obtain ⟨y1, y2, y3⟩ := z9 j hj2
      rw [y1]
      by_cases dd : j = q
      · rw [if_pos dd]; exact b4
      · rw [if_neg dd]; exact h3.2.2.2.2 j hj2
  have hO : opn v' = opn v := by unfold opn; rw [z6]
  have hR12 := hn.2.2.1
  refine ⟨l, wv, b1, φ, t1, w1, t2, w2, _, t3, w3, _, g', v', d', y', e', t4, p2, e1, e3, e5, a1, ow_cyc hOW, 1, g', v', d', y', e', s, b, bt, bs, t4, w3, o, nd, D, nr, R, nw, _, _, ls + 1, min (c + 1) 10, Φ', Ψ', psh v U, rfl, ⟨a5, a2, a7, hs.mono (by omega) a3, hb.mono (by omega) a4, TX.nil a9 e10, ?_, rc_eq h2 z3 (fun r hr => z8 r (by omega)), hOW, by rw [z2]; exact h4, by omega⟩, by omega, by omega, a3, a4, by omega, a8, Or.inr ⟨rfl, rfl, rfl⟩⟩
  rw [z4, hO]
  exact dc_eq h1 fun j hj2 => ⟨(z5 j (by omega)).1, (z5 j (by omega)).2, rfl⟩
/-- an act -/
theorem act_q (h : INV g v y e s b t w o nd D nr R nw W F Φ Ψ ls c U) (hl : ls ≤ 90000) (hM9 : hM v ≤ 90000) (d bt : HouseV) (bs : SightV) (x3 : Int32) : ARES (L_act x3 g v d y e s b bt bs t w o nd D nr R nw W F) Φ Ψ ls c U v y := by
  obtain ⟨hj, hls, hh, hs, hb, hT, h1, h2, h3, h4, h5⟩ := id h
  obtain ⟨r1, r2, r3, r4, r5, r6⟩ := id h2
  obtain ⟨d1, d2, d3, d4⟩ := id h1
  obtain ⟨k1, k2, k3, k4⟩ := h3.1
  have hG4 := h3.2.2.1
  obtain ⟨p, p1, p2⟩ := most_s x3 (m := 16) (by omega) (by omega)
  have p2' : L_most x3 16 = some (I (p : Int)) := p2
  obtain ⟨x5, hx5⟩ : ∃ x5, x5 = x3 >>> ((4 : Int32) &&& 31) := ⟨_, rfl⟩
  unfold L_act
  rw [p2', bind_s, nmL_e, ← hx5]
  have le : ∀ k : Nat, k < 100 → ((I (k : Int) ≤ I (p : Int)) ↔ k ≤ p) := fun k hk => ⟨fun q => Nat.le_of_not_lt fun q2 => I_le_f (by omega) (by omega) (by omega) q, fun q => I_le_t (by omega) (by omega) (by omega)⟩
  by_cases c5 : 5 ≤ p
  · rw [if_pos (show (5 : Int32) ≤ I (p : Int) from (le 5 (by omega)).mpr c5)]
    by_cases e5 : p = 5
    · rw [if_pos (show I (p : Int) = (5 : Int32) by rw [e5]; rfl)]
      obtain ⟨r, q1, q2⟩ := most_s x5 (m := hR v) r4 (by omega)
      obtain ⟨a, a1, a2⟩ := most_s (x5 >>> ((5 : Int32) &&& 31)) (m := 3) (by omega) (by omega)
      have a2' : L_most (x5 >>> ((5 : Int32) &&& 31)) 3 = some (I (a : Int)) := a2
      rw [r1, q2, bind_s, gd_I (by omega) (by omega) (by omega), I_clamp r (by omega), gd_d (by omega), a2', bind_s]
      by_cases ca : a = 0
      · rw [if_pos (show I (a : Int) = (0 : Int32) by rw [ca]; rfl)]
        exact act_limit h hl d bt bs x3 _ (q := 100) q1 (by omega) (by omega)
      · rw [if_neg (show ¬ I (a : Int) = (0 : Int32) from I_ne (b := 0) (by omega) (by omega) (by omega) (by omega) (by omega))]
        exact act_limit h hl d bt bs x3 _ (q := 6) q1 (by omega) (by omega)
    · rw [if_neg (show ¬ I (p : Int) = (5 : Int32) from I_ne (b := 5) (by omega) (by omega) (by omega) (by omega) (by omega))]
      by_cases e6 : p = 6
      · rw [if_pos (show I (p : Int) = (6 : Int32) by rw [e6]; rfl)]
        obtain ⟨Bq, γ, q1, q2, q3⟩ := obest_s h3 h2 h1 h5
        rw [gd_t (by decide), q1, bind_s]
        exact act169 h hl d bt bs x3 q2 q3 (0 + 20600) (0 + 43000) (hG v) 0 FU F (by omega) (by unfold FU; omega) (fun j hj2 => absurd hj2 (by omega)) (fun j _ hj2 => h3.2.1 j hj2)
      · rw [if_neg (show ¬ I (p : Int) = (6 : Int32) from I_ne (b := 6) (by omega) (by omega) (by omega) (by omega) (by omega))]
        by_cases c12 : 12 ≤ p
        · rw [if_pos (show (12 : Int32) ≤ I (p : Int) from (le 12 (by omega)).mpr c12), k1]
          by_cases g0 : hG v = 0
          · rw [if_pos (show I (hG v : Int) = (0 : Int32) by rw [g0]; rfl)]
            exact ares_0 h d bt bs
          · rw [if_neg (show ¬ I (hG v : Int) = (0 : Int32) from I_ne (b := 0) (by omega) (by omega) (by omega) (by omega) (by omega))]
            obtain ⟨q, q1, q2⟩ := most_s x5 (m := hG v) (by omega) (by omega)
            obtain ⟨m1, m2, m3, m4⟩ := k4 q q1
            rw [q2, bind_s]
            by_cases c14 : 14 ≤ p
            · rw [if_pos (show (14 : Int32) ≤ I (p : Int) from (le 14 (by omega)).mpr c14), gd_I (by omega) (by omega) (by omega), I_clamp q (by omega), gd_d (by omega), gd_d (by omega), m1, nI_e]
              obtain ⟨φ, g', v', y', e', s', m, z1, z2, z3, z4⟩ := act_shift h hl d bt bs (x5 >>> ((3 : Int32) &&& 31)) q1
              rw [z1, bind_s, nmL_e, upd_i, z2, bind_s, gd_t (by decide), z3, bind_s]
              dsimp only
              rw [if_pos rfl]
              exact z4
            · rw [if_neg (show ¬ (14 : Int32) ≤ I (p : Int) from fun q => c14 ((le 14 (by omega)).mp q))]
              obtain ⟨l, wv, z1, φ, t1, w1, t2, w2, len, t3, w3, m, g', v', d', y', e', t4, z2, z3, z4, z5, z6, z7, z8⟩ := act_change h hl d bt bs (x5 >>> ((2 : Int32) &&& 31)) (x5 >>> ((8 : Int32) &&& 31)) q1
              rw [gd_t (by decide), z1, bind_s, gd_I (by omega) (by omega) (by omega), I_clamp q (by omega), gd_d (by omega), gd_d (by omega)]
              dsimp only
              have y1 : (rrPut W q l wv).2.1 q = l := if_pos rfl
              have y2 : (rrPut W q l wv).2.2 q = wv := if_pos rfl
              have y3 : (rrPut W q l wv).1 = W.1 := rfl
              rw [nmL_e, gd_d (by omega), y1, y2, nI_e, z2, bind_s, nmL_e, upd_i, z3, bind_s]
              dsimp only
              rw [z4, bind_s]
              dsimp only
              rw [z5, bind_s]
              dsimp only
              rw [z6, bind_s, z7, bind_s]
              dsimp only
              rw [if_pos rfl]
              exact z8
        · rw [if_neg (show ¬ (12 : Int32) ≤ I (p : Int) from fun q => c12 ((le 12 (by omega)).mp q)), d1]
          by_cases g0 : hD v = 0
          · rw [if_pos (show I (hD v : Int) = (0 : Int32) by rw [g0]; rfl)]
            exact ares_0 h d bt bs
          · rw [if_neg (show ¬ I (hD v : Int) = (0 : Int32) from I_ne (b := 0) (by omega) (by omega) (by omega) (by omega) (by omega))]
            obtain ⟨q, q1, q2⟩ := most_s x5 (m := hD v) (by omega) (by omega)
            obtain ⟨m1, m2, m3, m4, m5, m6⟩ := d4 q q1
            rw [q2, bind_s]
            by_cases c9 : 9 ≤ p
            · rw [if_pos (show (9 : Int32) ≤ I (p : Int) from (le 9 (by omega)).mpr c9), gd_I (by omega) (by omega) (by omega), I_clamp q (by omega), gd_d (by omega), gd_d (by omega), m1, gd_t (by decide), cl2, m4]
              cases ho : opn v q
              · rw [bif_f, if_neg (show ¬ I ((0 : Nat) : Int) = (1 : Int32) by decide), nmL_e]
                obtain ⟨v', y', e', m, z1, z2, z3⟩ := act_opening h d bt bs q1 ho
                rw [z1, bind_s, z2, bind_s]
                dsimp only
                rw [if_pos rfl]
                exact z3
              · rw [bif_t, if_pos (show I ((1 : Nat) : Int) = (1 : Int32) by decide)]
                rcases openDoor_q (g := g) hj hh q1 with ⟨-, x2⟩ | ⟨x1, -⟩
                · rw [x2, bind_s]
                  dsimp only
                  rw [if_pos rfl]
                  exact ares_0 h d bt bs
                · rw [ho] at x1; cases x1
            · rw [if_neg (show ¬ (9 : Int32) ≤ I (p : Int) from fun q => c9 ((le 9 (by omega)).mp q)), gd_I (by omega) (by omega) (by omega), I_clamp q (by omega), gd_d (by omega), gd_d (by omega), m1, gd_t (by decide), cl2, m4]
              cases ho : opn v q
              · rw [bif_f, if_pos (show I ((0 : Nat) : Int) = (0 : Int32) by decide)]
                rcases closeDoor_q (g := g) hj hh q1 with ⟨-, x2⟩ | ⟨x1, -⟩ | ⟨x1, -⟩
                · exact act_refused h d bt bs x3 (by decide) x2
                · rw [ho] at x1; cases x1
                · rw [ho] at x1; cases x1
              · rw [bif_t, if_neg (show ¬ I ((1 : Nat) : Int) = (0 : Int32) by decide), othrough_s h1 (by omega) h3 q1, bind_s]
                have hcT : cnt (thr v (hA v q) (hB v q)) (hG v) ≤ hG v := cnt_le _ _
                by_cases ct : cnt (thr v (hA v q) (hB v q)) (hG v) = 0
                · rw [if_pos (show I ((cnt (thr v (hA v q) (hB v q)) (hG v) : Nat) : Int) ≤ (0 : Int32) by rw [ct]; decide)]
                  unfold L_act_331
                  exact act_closing h d bt bs x3 q1 ho (fun z => by omega)
                · have hcO : cnt (obt v q) (hD v) ≤ hD v := cnt_le _ _
                  have hop : Own_open (I (hA v q : Int)) (I (hB v q : Int)) o nd D = some (I ((cnt (obt v q) (hD v) : Nat) : Int)) := oopen_s h1 (by omega) m5 m6
                  rw [if_neg (show ¬ I ((cnt (thr v (hA v q) (hB v q)) (hG v) : Nat) : Int) ≤ (0 : Int32) from I_le_f (b := 0) (by omega) (by omega) (by omega)), gd_t (by decide), gd_t (by decide), cl0, cl1, m2, m3, hop, bind_s]
                  by_cases co : cnt (obt v q) (hD v) = 1
                  · rw [if_pos (show I ((cnt (obt v q) (hD v) : Nat) : Int) = (1 : Int32) by rw [co]; rfl)]
                    rcases closeDoor_q (g := g) hj hh q1 with ⟨x1, -⟩ | ⟨-, -, -, x2⟩ | ⟨-, x1, -⟩
                    · rw [ho] at x1; cases x1
                    · exact act_refused h d bt bs x3 (by decide) x2
                    · exact absurd ⟨by omega, co⟩ x1
                  · rw [if_neg (show ¬ I ((cnt (obt v q) (hD v) : Nat) : Int) = (1 : Int32) from I_ne (b := 1) (by omega) (by omega) (by omega) (by omega) (by omega))]
                    unfold L_act_331
                    exact act_closing h d bt bs x3 q1 ho (fun z => co z.2)
  · rw [if_neg (show ¬ (5 : Int32) ≤ I (p : Int) from fun q => c5 ((le 5 (by omega)).mp q))]
    obtain ⟨a, a1, a2⟩ := most_s (x5 >>> ((3 : Int32) &&& 31)) (m := 4) (by omega) (by omega)
    have a2' : L_most (x5 >>> ((3 : Int32) &&& 31)) 4 = some (I (a : Int)) := a2
    rw [a2', bind_s]
    by_cases ca : a = 0
    · rw [if_pos (show I (a : Int) = (0 : Int32) by rw [ca]; rfl)]
      exact act_pass h hM9 d bt bs x3 x5 (q := 60) (by omega) (by omega)
    · rw [if_neg (show ¬ I (a : Int) = (0 : Int32) from I_ne (b := 0) (by omega) (by omega) (by omega) (by omega) (by omega))]
      exact act_pass h hM9 d bt bs x3 x5 (q := 6) (by omega) (by omega)
end ACTB
