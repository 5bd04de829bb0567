section ALLD
variable {v w : HouseV} {g : GWV}
/-- the digest of a row of numbers -/
def dgF (f : Nat → Int32) (a : Int64) : Nat → Int64
  | 0 => a
  | n + 1 => 31 * dgF f a n + Int32.toInt64 (f n)
def dgR (v : HouseV) (a : Int64) : Nat → Int64
  | 0 => a
  | r + 1 => dgF (rmI v r) (dgR v a r) 8
def dgD (v : HouseV) (a : Int64) : Nat → Int64
  | 0 => a
  | d + 1 => dgF (drI v d) (dgD v a d) 4
def dgG (v : HouseV) (a : Int64) : Nat → Int64
  | 0 => a
  | q + 1 => dgF (fun k => I (hW v q k : Int)) (dgF (guI v q) (dgG v a q) 4) (hP v q)
/-- the digest of all that a house tells -/
def dig (v : HouseV) : Int64 := dgG v (dgD v (dgR v (dgF (szI v) 0 10) (hR v)) (hD v)) (hG v)
theorem all4 (hv : HOK v) : ∀ (q k m : Nat) (s : SightV), 10 = k + q → q < m → MS s v → ∃ s', MSn s s' v ∧ L_all_4 g v m (dgF (szI v) 0 k) (I (k : Int)) s = L_all_31 g v FU (dgF (szI v) 0 10) 0 s' := by
  intro q
  induction q with
  | zero =>
    intro k m s hk hm hs
    obtain ⟨m, rfl⟩ : ∃ q, m = q + 1 := ⟨m - 1, by omega⟩
    refine ⟨s, MSn.refl s v, ?_⟩
    rw [L_all_4, if_pos (show (10 : Int32) ≤ I (k : Int) from I_le_t (a := 10) (by omega) (by omega) (by omega)), show k = 10 by omega]
  | succ q ih =>
    intro k m s hk hm hs
    obtain ⟨m, rfl⟩ : ∃ q, m = q + 1 := ⟨m - 1, by omega⟩
    obtain ⟨s1, e1, e2⟩ := size_I (g := g) hv hs (k := k) (by omega)
    obtain ⟨s2, e3, e4⟩ := ih (k + 1) m s1 (by omega) (by omega) (e2.ms hs)
    refine ⟨s2, e2.trans e3, ?_⟩
    rw [dgF] at e4
    rw [L_all_4, if_neg (show ¬ (10 : Int32) ≤ I (k : Int) from I_le_f (a := 10) (by omega) (by omega) (by omega)), e1, bind_s, nmL_e, I_succ]
    exact e4
theorem all43 (hv : HOK v) {r : Nat} (hr : r < hR v) (a : Int64) (k31 : Int64 → Int32 → SightV → Option (Int64 × SightV)) : ∀ (q k m : Nat) (s : SightV), 8 = k + q → q < m → MS s v → ∃ s', MSn s s' v ∧ L_all_43 g v (I (r : Int)) k31 m (dgF (rmI v r) a k) (I (k : Int)) s = k31 (dgF (rmI v r) a 8) (I ((r + 1 : Nat) : Int)) s' := by
  intro q
  induction q with
  | zero =>
    intro k m s hk hm hs
    obtain ⟨m, rfl⟩ : ∃ q, m = q + 1 := ⟨m - 1, by omega⟩
    refine ⟨s, MSn.refl s v, ?_⟩
    rw [L_all_43, if_pos (show (8 : Int32) ≤ I (k : Int) from I_le_t (a := 8) (by omega) (by omega) (by omega)), nmL_e, I_succ, show k = 8 by omega]
  | succ q ih =>
    intro k m s hk hm hs
    obtain ⟨m, rfl⟩ : ∃ q, m = q + 1 := ⟨m - 1, by omega⟩
    obtain ⟨s1, e1, e2⟩ := room_m (g := g) hv hs hr (k := k) (by omega)
    obtain ⟨s2, e3, e4⟩ := ih (k + 1) m s1 (by omega) (by omega) (e2.ms hs)
    refine ⟨s2, e2.trans e3, ?_⟩
    rw [dgF] at e4
    rw [L_all_43, if_neg (show ¬ (8 : Int32) ≤ I (k : Int) from I_le_f (a := 8) (by omega) (by omega) (by omega)), e1, bind_s, nmL_e, I_succ]
    exact e4
theorem all31 (hv : HOK v) (a : Int64) : ∀ (q r m : Nat) (s : SightV), hR v = r + q → q < m → MS s v → ∃ s', MSn s s' v ∧ L_all_31 g v m (dgR v a r) (I (r : Int)) s = L_all_79 g v FU (dgR v a (hR v)) 0 s' := by
  have hR12 := hv.1.2.2.1
  intro q
  induction q with
  | zero =>
    intro r m s hk hm hs
    obtain ⟨m, rfl⟩ : ∃ q, m = q + 1 := ⟨m - 1, by omega⟩
    refine ⟨s, MSn.refl s v, ?_⟩
    rw [L_all_31, size_0, bind_s]
    dsimp only
    rw [hv.1.1, if_pos (I_le_t (by omega) (by omega) (by omega)), show r = hR v by omega]
  | succ q ih =>
    intro r m s hk hm hs
    obtain ⟨m, rfl⟩ : ∃ q, m = q + 1 := ⟨m - 1, by omega⟩
    obtain ⟨s1, e1, e2⟩ := all43 (g := g) hv (r := r) (by omega) (dgR v a r) (fun x1 x3 v2 => L_all_31 g v m x1 x3 v2) 8 0 FU s (by omega) (by unfold FU; omega) hs
    obtain ⟨s2, e3, e4⟩ := ih (r + 1) m s1 (by omega) (by omega) (e1.ms hs)
    refine ⟨s2, e1.trans e3, ?_⟩
    rw [L_all_31, size_0, bind_s]
    dsimp only
    rw [hv.1.1, if_neg (I_le_f (by omega) (by omega) (by omega))]
    exact e2.trans e4
theorem all91 (hv : HOK v) {d : Nat} (hd : d < hD v) (a : Int64) (k79 : Int64 → Int32 → SightV → Option (Int64 × SightV)) (s : SightV) : ∀ (q k m : Nat), 4 = k + q → q < m → L_all_91 g v (I (d : Int)) k79 m (dgF (drI v d) a k) (I (k : Int)) s = k79 (dgF (drI v d) a 4) (I ((d + 1 : Nat) : Int)) s := by
  intro q
  induction q with
  | zero =>
    intro k m hk hm
    obtain ⟨m, rfl⟩ : ∃ q, m = q + 1 := ⟨m - 1, by omega⟩
    rw [L_all_91, if_pos (show (4 : Int32) ≤ I (k : Int) from I_le_t (a := 4) (by omega) (by omega) (by omega)), nmL_e, I_succ, show k = 4 by omega]
  | succ q ih =>
    intro k m hk hm
    obtain ⟨m, rfl⟩ : ∃ q, m = q + 1 := ⟨m - 1, by omega⟩
    have e4 := ih (k + 1) m (by omega) (by omega)
    rw [dgF] at e4
    rw [L_all_91, if_neg (show ¬ (4 : Int32) ≤ I (k : Int) from I_le_f (a := 4) (by omega) (by omega) (by omega)), door_m hv hd (by omega), bind_s, nmL_e, I_succ]
    exact e4
theorem all79 (hv : HOK v) (a : Int64) (s : SightV) : ∀ (q d m : Nat), hD v = d + q → q < m → L_all_79 g v m (dgD v a d) (I (d : Int)) s = L_all_126 g v FU (dgD v a (hD v)) 0 s := by
  have hD20 := hv.1.2.2.2.2.1
  intro q
  induction q with
  | zero =>
    intro d m hk hm
    obtain ⟨m, rfl⟩ : ∃ q, m = q + 1 := ⟨m - 1, by omega⟩
    rw [L_all_79, size_1, bind_s]
    dsimp only
    rw [hv.1.2.2.2.1, if_pos (I_le_t (by omega) (by omega) (by omega)), show d = hD v by omega]
  | succ q ih =>
    intro d m hk hm
    obtain ⟨m, rfl⟩ : ∃ q, m = q + 1 := ⟨m - 1, by omega⟩
    have e2 := all91 (g := g) hv (d := d) (by omega) (dgD v a d) (fun x1 x3 v2 => L_all_79 g v m x1 x3 v2) s 4 0 FU (by omega) (by unfold FU; omega)
    rw [L_all_79, size_1, bind_s]
    dsimp only
    rw [hv.1.2.2.2.1, if_neg (I_le_f (by omega) (by omega) (by omega))]
    exact e2.trans (ih (d + 1) m (by omega) (by omega))
theorem all168 (hv : HOK v) {q0 : Nat} (hq : q0 < hG v) (a : Int64) (k126 : Int64 → Int32 → SightV → Option (Int64 × SightV)) (s : SightV) : ∀ (q k m : Nat), hP v q0 = k + q → q < m → L_all_168 g v (I (q0 : Int)) k126 m (dgF (fun k => I (hW v q0 k : Int)) a k) (I (k : Int)) s = k126 (dgF (fun k => I (hW v q0 k : Int)) a (hP v q0)) (I ((q0 + 1 : Nat) : Int)) s := by
  have hp := hv.2.2.2.2.1.per q0 hq
  have hper := (hv.2.2.2.2.1 q0 hq).1.1
  have eg : GW_guard (I (q0 : Int)) 0 g v = some (I (hP v q0 : Int)) := (guard_m hv hq (k := 0) (by omega)).trans (by rw [← hper]; rfl)
  intro q
  induction q with
  | zero =>
    intro k m hk hm
    obtain ⟨m, rfl⟩ : ∃ q, m = q + 1 := ⟨m - 1, by omega⟩
    rw [L_all_168, eg, bind_s, if_pos (I_le_t (by omega) (by omega) (by omega)), nmL_e, I_succ, show k = hP v q0 by omega]
  | succ q ih =>
    intro k m hk hm
    obtain ⟨m, rfl⟩ : ∃ q, m = q + 1 := ⟨m - 1, by omega⟩
    have e4 := ih (k + 1) m (by omega) (by omega)
    rw [dgF] at e4
    rw [L_all_168, eg, bind_s, if_neg (I_le_f (by omega) (by omega) (by omega)), walk_m hv hq (by omega), bind_s, nmL_e, I_succ]
    exact e4
theorem all138 (hv : HOK v) {q0 : Nat} (hq : q0 < hG v) (a : Int64) (k126 : Int64 → Int32 → SightV → Option (Int64 × SightV)) (s : SightV) : ∀ (q k m : Nat), 4 = k + q → q < m → L_all_138 g v (I (q0 : Int)) k126 m (dgF (guI v q0) a k) (I (k : Int)) s = L_all_168 g v (I (q0 : Int)) k126 FU (dgF (guI v q0) a 4) 0 s := by
  intro q
  induction q with
  | zero =>
    intro k m hk hm
    obtain ⟨m, rfl⟩ : ∃ q, m = q + 1 := ⟨m - 1, by omega⟩
    rw [L_all_138, if_pos (show (4 : Int32) ≤ I (k : Int) from I_le_t (a := 4) (by omega) (by omega) (by omega)), show k = 4 by omega]
  | succ q ih =>
    intro k m hk hm
    obtain ⟨m, rfl⟩ : ∃ q, m = q + 1 := ⟨m - 1, by omega⟩
    have e4 := ih (k + 1) m (by omega) (by omega)
    rw [dgF] at e4
    rw [L_all_138, if_neg (show ¬ (4 : Int32) ≤ I (k : Int) from I_le_f (a := 4) (by omega) (by omega) (by omega)), guard_m hv hq (by omega), bind_s, nmL_e, I_succ]
    exact e4
theorem all126 (hv : HOK v) (a : Int64) (s : SightV) : ∀ (q k m : Nat), hG v = k + q → q < m → L_all_126 g v m (dgG v a k) (I (k : Int)) s = some (dgG v a (hG v), s) := by
  have hG4 := hv.1.2.2.2.2.2.2.1
  intro q
  induction q with
  | zero =>
    intro k m hk hm
    obtain ⟨m, rfl⟩ : ∃ q, m = q + 1 := ⟨m - 1, by omega⟩
    rw [L_all_126, size_2, bind_s]
    dsimp only
    rw [hv.1.2.2.2.2.2.1, if_pos (I_le_t (by omega) (by omega) (by omega)), show k = hG v by omega]
  | succ q ih =>
    intro k m hk hm
    obtain ⟨m, rfl⟩ : ∃ q, m = q + 1 := ⟨m - 1, by omega⟩
    have hp := hv.2.2.2.2.1.per k (by omega)
    have e2 := all138 (g := g) hv (q0 := k) (by omega) (dgG v a k) (fun x1 x3 v2 => L_all_126 g v m x1 x3 v2) s 4 0 FU (by omega) (by unfold FU; omega)
    have e3 := all168 (g := g) hv (q0 := k) (by omega) (dgF (guI v k) (dgG v a k) 4) (fun x1 x3 v2 => L_all_126 g v m x1 x3 v2) s (hP v k) 0 FU (by omega) (by unfold FU; omega)
    rw [L_all_126, size_2, bind_s]
    dsimp only
    rw [hv.1.2.2.2.2.2.1, if_neg (I_le_f (by omega) (by omega) (by omega))]
    exact (e2.trans e3).trans (ih (k + 1) m (by omega) (by omega))
/-- all that a house tells -/
theorem all_s (hv : HOK v) {s : SightV} (hs : MS s v) : ∃ s', L_all g v s = some (dig v, s') ∧ MSn s s' v := by
  obtain ⟨s1, a1, a2⟩ := all4 (g := g) hv 10 0 FU s (by omega) (by unfold FU; omega) hs
  obtain ⟨s2, b1, b2⟩ := all31 (g := g) hv (dgF (szI v) 0 10) (hR v) 0 FU s1 (by omega) (by unfold FU; have := hv.1.2.2.1; omega) (a1.ms hs)
  have c := all79 (g := g) hv (dgR v (dgF (szI v) 0 10) (hR v)) s2 (hD v) 0 FU (by omega) (by unfold FU; have := hv.1.2.2.2.2.1; omega)
  have d := all126 (g := g) hv (dgD v (dgR v (dgF (szI v) 0 10) (hR v)) (hD v)) s2 (hG v) 0 FU (by omega) (by unfold FU; have := hv.1.2.2.2.2.2.2.1; omega)
  refine ⟨s2, ?_, a1.trans b1⟩
  unfold L_all
  exact a2.trans (b2.trans (c.trans d))
/-! a copy tells the same -/
theorem dgF_congr {f f' : Nat → Int32} {a : Int64} {n : Nat} (h : ∀ k, k < n → f k = f' k) : dgF f a n = dgF f' a n := by
  induction n with
  | zero => rfl
  | succ n ih => rw [dgF, dgF, ih fun k hk => h k (by omega), h n (by omega)]
theorem sumTo_congr {f f' : Nat → Int} {n : Nat} (h : ∀ k, k < n → f k = f' k) : sumTo f n = sumTo f' n := by
  induction n with
  | zero => rfl
  | succ n ih => rw [sumTo, sumTo, ih fun k hk => h k (by omega), h n (by omega)]
theorem dig_hc (hv : HOK v) (h : HC w v) : dig w = dig v := by
  obtain ⟨hn, hd, hj, hl, hw, hs⟩ := hv
  have hsw := hc_sw h hn hw
  have hR12 := hn.2.2.1
  have hD20 := hn.2.2.2.2.1
  have hG4 := hn.2.2.2.2.2.2.1
  have eR := hc_R h
  have eD := hc_D h
  have eG := hc_G h
  have eM := hc_M h
  have eCy := sw_cyc hsw
  have eO := hc_O h
  have eS := fun r => sw_Sg hsw r
  have eL : ∀ r, r < hR v → late w r = late v r := fun r hr => by unfold late; rw [eS, eCy, hc_L h (by omega)]
  have eT : ∀ d q, d < hD v → q < hG v → thr w (hA w d) (hB w d) q = thr v (hA v d) (hB v d) q := fun d q hdd hq => by
    have hp := hw.per q hq
    unfold thr
    rw [hc_A h (by omega), hc_B h (by omega), hc_P h (by omega)]
    congr 2
    refine cnt_congr fun i hi => ?_
    unfold eC
    rw [hc_P h (by omega), hc_W h (by omega) (by omega : i < 10), hc_W h (by omega) (by split <;> omega)]
  have e1 : ∀ k, szI w k = szI v k := fun k => by
    unfold szI
    have e5 : cnt (late w) (hR w) = cnt (late v) (hR v) := by rw [eR]; exact cnt_congr eL
    have e6 : cnt (opn w) (hD w) = cnt (opn v) (hD v) := by rw [eD]; exact cnt_congr fun d _ => by unfold opn; rw [eO]
    have e7 : sumS w = sumS v := by
      unfold sumS
      rw [eR]
      exact sumTo_congr fun r hr => by unfold hS; rw [(h.2.2.2.2.2.2.2.2.1 r (by omega)).2.2.1]
    rw [h.1, h.2.1, h.2.2.1, h.2.2.2.1, eCy, sw_worst hsw, sw_cross hsw, e5, e6, e7]
  have e2 : ∀ r, r < hR v → ∀ k, rmI w r k = rmI v r k := fun r hr k => by
    obtain ⟨x1, x2, x3, x4, x5, x6⟩ := h.2.2.2.2.2.2.2.2.1 r (by omega)
    unfold rmI
    rw [x2, x3, x4, x5, x6, eS, eCy, eL r hr]
  have e3 : ∀ d, d < hD v → ∀ k, drI w d k = drI v d k := fun d hdd k => by
    obtain ⟨x1, x2⟩ := h.2.2.2.2.2.2.2.1 d (by omega)
    have e4 : cnt (thr w (hA w d) (hB w d)) (hG w) = cnt (thr v (hA v d) (hB v d)) (hG v) := by rw [eG]; exact cnt_congr fun q hq => eT d q hdd hq
    unfold drI
    rw [x1, x2, e4, show opn w d = opn v d by unfold opn; rw [eO]]
  have e4 : ∀ q, q < hG v → ∀ k, guI w q k = guI v q k := fun q hq k => by
    obtain ⟨x1, x2, x3⟩ := h.2.2.2.2.2.2.2.2.2.1 q (by omega)
    unfold guI
    rw [x1, x2, eM, eR, hc_K h (by omega), (hsw.2.2 q (by rw [eG]; exact hq)).2]
  unfold dig
  rw [eR, eD, eG, dgF_congr (f := szI w) (f' := szI v) fun k _ => e1 k]
  have r1 : ∀ a n, n ≤ hR v → dgR w a n = dgR v a n := by
    intro a n
    induction n with
    | zero => intro _; rfl
    | succ n ih => intro hn; rw [dgR, dgR, ih (by omega)]; exact dgF_congr fun k _ => e2 n (by omega) k
  have r2 : ∀ a n, n ≤ hD v → dgD w a n = dgD v a n := by
    intro a n
    induction n with
    | zero => intro _; rfl
    | succ n ih => intro hn; rw [dgD, dgD, ih (by omega)]; exact dgF_congr fun k _ => e3 n (by omega) k
  have r3 : ∀ a n, n ≤ hG v → dgG w a n = dgG v a n := by
    intro a n
    induction n with
    | zero => intro _; rfl
    | succ n ih =>
      intro hn
      have hp := hw.per n (by omega)
      rw [dgG, dgG, ih (by omega), hc_P h (by omega), dgF_congr (f := guI w n) (f' := guI v n) fun k _ => e4 n (by omega) k]
      exact dgF_congr fun k hk => by
        show I (hW w n k : Int) = I (hW v n k : Int)
        rw [hc_W h (by omega) (by omega)]
  rw [r1 _ _ (Nat.le_refl _), r2 _ _ (Nat.le_refl _), r3 _ _ (Nat.le_refl _)]
end ALLD
