section READH
variable {t : ToksV} {T R S E : List Nat} {v w w0 : HouseV} {N g : Nat}
abbrev txHouse : List Nat := [104, 111, 117, 115, 101]
abbrev txDoor : List Nat := [100, 111, 111, 114]
abbrev txGuard : List Nat := [103, 117, 97, 114, 100]
abbrev txLimit : List Nat := [108, 105, 109, 105, 116]
abbrev txClosed : List Nat := [99, 108, 111, 115, 101, 100]
abbrev txPhase : List Nat := [112, 104, 97, 115, 101]
abbrev txWalk : List Nat := [119, 97, 108, 107]
theorem s9 : stL 9 = txHouse.map fun b : Nat => I (b : Int) := by decide
theorem s10 : stL 10 = txWalk.map fun b : Nat => I (b : Int) := by decide
theorem s11 : stL 11 = txDoor.map fun b : Nat => I (b : Int) := by decide
theorem s12 : stL 12 = txGuard.map fun b : Nat => I (b : Int) := by decide
theorem s13 : stL 13 = txLimit.map fun b : Nat => I (b : Int) := by decide
theorem s14 : stL 14 = txClosed.map fun b : Nat => I (b : Int) := by decide
theorem s15 : stL 15 = txPhase.map fun b : Nat => I (b : Int) := by decide
/-- words -/
def Wd (S : List Nat) : Prop := S ≠ [] ∧ (∀ b ∈ S, kdN b = 1) ∧ S.length < 600
theorem wd_house : Wd txHouse := by unfold Wd; decide
theorem wd_door : Wd txDoor := by unfold Wd; decide
theorem wd_guard : Wd txGuard := by unfold Wd; decide
theorem wd_limit : Wd txLimit := by unfold Wd; decide
theorem wd_closed : Wd txClosed := by unfold Wd; decide
theorem wd_phase : Wd txPhase := by unfold Wd; decide
theorem wd_walk : Wd txWalk := by unfold Wd; decide
/-- the reader has gone on to the first piece of R -/
def HD (t : ToksV) (T R : List Nat) : Prop := ∃ t0, AT t0 T R ∧ Toks_advance t0 = some t
/-- what a clause may stand ahead of -/
def Good (R : List Nat) : Prop := R = [] ∨ ∃ S R', R = S ++ R' ∧ Wd S ∧ Stop 1 R'
theorem hd_of (h : AT t T R) (hg : Good R) : ∃ t', Toks_advance t = some t' ∧ HD t' T R := by
  rcases hg with rfl | ⟨S, R', rfl, ⟨h1, h2, h3⟩, h4⟩
  · obtain ⟨t', e, -⟩ := adv_e h
    exact ⟨t', e, t, h, e⟩
  · obtain ⟨t', e, -⟩ := adv_w h1 h h2 h4 h3
    exact ⟨t', e, t, h, e⟩
theorem hd_w (h : HD t T (S ++ R)) (hS : Wd S) (hs : Stop 1 R) : RD t T 1 S R 0 := by
  obtain ⟨t0, a, e⟩ := h
  obtain ⟨h1, h2, h3⟩ := hS
  obtain ⟨t1, e1, r⟩ := adv_w h1 a h2 hs h3
  rw [e] at e1
  rw [Option.some.inj e1]
  exact r
theorem hd_e (h : HD t T []) : RD t T 0 [] [] 0 := by
  obtain ⟨t0, a, e⟩ := h
  obtain ⟨t1, e1, r⟩ := adv_e a
  rw [e] at e1
  rw [Option.some.inj e1]
  exact r
theorem semi_h (h : RD t T 3 [59] R N) (hg : Good R) : ∃ t', HRead_readSemicolon t = some (0, t') ∧ HD t' T R := by
  obtain ⟨t', e, hd⟩ := hd_of h.rest hg
  exact ⟨t', semi_q h e, hd⟩
theorem nc0 (h : RD t T 2 S R N) {hi : Int} (h2 : (N : Int) ≤ hi) (h3 : hi ≤ 2147483647) : Toks_numberCode 0 (I hi) t = some 0 := numberCode_t (lo := 0) h (by omega) (by omega) h2 h3
theorem st_b {k : Nat} (hk : k ≠ 3) : Stop k (32 :: R) := Stop.cons (by rw [show kdN 32 = 3 by decide]; omega)
theorem st_s {k : Nat} (hk : k ≠ 3) : Stop k (59 :: R) := Stop.cons (by rw [show kdN 59 = 3 by decide]; omega)
/-- a door -/
def semT (o : Bool) : List Nat := bif o then [59] else 32 :: (txClosed ++ [59])
def doorT (a b : Nat) (o : Bool) : List Nat := txDoor ++ (32 :: (dgt a ++ (32 :: (dgt b ++ semT o))))
theorem readDoor_q {a b : Nat} {o : Bool} (h : RD t T 1 txDoor (32 :: (dgt a ++ (32 :: (dgt b ++ (semT o ++ R))))) N) (hg : Good R) (hn : WFn v) (ha : a < hR v) (hb : b < hR v) (hab : a ≠ b) (hw : House_addDoor (I (a : Int)) (I (b : Int)) o v = some w) : ∃ t', HRead_readDoor t v = some (0, t', w) ∧ HD t' T R := by
  have hR12 := hn.2.2.1
  have hs2 : Stop 2 (semT o ++ R) := by
    cases o
    · exact st_b (by omega)
    · exact st_s (by omega)
  obtain ⟨t1, e1, r1⟩ := adv_bn (by omega) h.rest (st_b (by omega))
  obtain ⟨t2, e2, r2⟩ := adv_bn (by omega) r1.rest hs2
  have q1 := nc0 (hi := (hR v : Int) - 1) r1 (by omega) (by omega)
  have q2 := nc0 (hi := (hR v : Int) - 1) r2 (by omega) (by omega)
  have hne : ¬ I (b : Int) = I (a : Int) := I_ne (by omega) (by omega) (by omega) (by omega) (by omega)
  cases o
  · have hat : AT t2 T (32 :: (txClosed ++ (59 :: R))) := r2.rest
    obtain ⟨t3, e3, r3⟩ := adv_bw wd_closed.1 hat wd_closed.2.1 (st_s (by omega)) (by decide)
    obtain ⟨t4, e4, r4⟩ := adv_s r3.rest
    obtain ⟨t5, e5, r5⟩ := semi_h r4 hg
    refine ⟨t5, ?_, r5⟩
    unfold HRead_readDoor
    rw [e1, bind_s, roomsC hn, q1, bind_s, if_pos rfl, nmL_e, number_is r1, e2, bind_s, q2, bind_s, if_pos rfl, nmL_e, number_is r2, if_neg hne, e3, bind_s, isWord_t (by decide) s14 r3, bind_s, nmL_e, if_neg (show ¬ b2i true = 0 by decide), e4, bind_s]
    unfold HRead_readDoor_111 HRead_readDoor_125
    rw [if_neg (show ¬ b2i true = 0 by decide), asB_0, hw, bind_s, e5, bind_s]
  · have hat : AT t2 T (59 :: R) := r2.rest
    obtain ⟨t3, e3, r3⟩ := adv_s hat
    obtain ⟨t5, e5, r5⟩ := semi_h r3 hg
    refine ⟨t5, ?_, r5⟩
    unfold HRead_readDoor
    rw [e1, bind_s, roomsC hn, q1, bind_s, if_pos rfl, nmL_e, number_is r1, e2, bind_s, q2, bind_s, if_pos rfl, nmL_e, number_is r2, if_neg hne, e3, bind_s, isWord_k r3 (by omega) (by omega), bind_s, nmL_e, if_pos (show b2i false = 0 by decide)]
    unfold HRead_readDoor_111 HRead_readDoor_125
    rw [if_pos (show b2i false = 0 by decide), asB_1, hw, bind_s, e5, bind_s]
/-- a limit -/
def limT (r a : Nat) : List Nat := txLimit ++ (32 :: (dgt r ++ (32 :: (dgt a ++ [59]))))
theorem readLimit_q {r a : Nat} (h : RD t T 1 txLimit (32 :: (dgt r ++ (32 :: (dgt a ++ (59 :: R))))) N) (hg : Good R) (hn : WFn v) (hr : r < hR v) (ha : a ≤ 99) : ∃ t', HRead_readLimit t v = some (0, t', House_set_limits v (upd (House_limits v) r (I (a : Int)))) ∧ HD t' T R := by
  have hR12 := hn.2.2.1
  obtain ⟨t1, e1, r1⟩ := adv_bn (by omega) h.rest (st_b (by omega))
  obtain ⟨t2, e2, r2⟩ := adv_bn (by omega) r1.rest (st_s (by omega))
  obtain ⟨t3, e3, r3⟩ := adv_s r2.rest
  obtain ⟨t4, e4, r4⟩ := semi_h r3 hg
  have q1 := nc0 (hi := (hR v : Int) - 1) r1 (by omega) (by omega)
  have q2 : Toks_numberCode 0 99 t2 = some 0 := nc0 (hi := 99) r2 (by omega) (by omega)
  refine ⟨t4, ?_, r4⟩
  unfold HRead_readLimit
  rw [e1, bind_s, roomsC hn, q1, bind_s, if_pos rfl, nmL_e, number_is r1, e2, bind_s, q2, bind_s, if_pos rfl, hasRoom_s hn (by omega) (by omega), decide_eq_true (by omega), bind_s, bif_t, gd_I (by omega) (by omega) (by omega), nmL_e, I_clamp r (by omega), number_is r2]
  unfold HRead_readLimit_81
  rw [e3, bind_s, e4, bind_s]
/-- a walk -/
def wkT (W : Nat → Nat) : Nat → Nat → List Nat
  | _, 0 => []
  | j, q + 1 => 32 :: (dgt (W j) ++ wkT W (j + 1) q)
def phT (φ : Nat) : List Nat := if φ = 0 then [] else 32 :: (txPhase ++ (32 :: dgt φ))
/-- what a walk ends with -/
def EDT (x3 : Bool) (R : List Nat) : List Nat := bif x3 then [] else 59 :: R
def EDR (x3 : Bool) (t : ToksV) (T R : List Nat) : Prop := RD t T (bif x3 then 0 else 3) (bif x3 then [] else [59]) (bif x3 then [] else R) 0
theorem ed_adv {x3 : Bool} (h : AT t T (EDT x3 R)) : ∃ t', Toks_advance t = some t' ∧ EDR x3 t' T R := by
  cases x3
  · exact adv_s h
  · exact adv_e h
theorem ed_stop (x3 : Bool) {k : Nat} (hk : k ≠ 3) : Stop k (EDT x3 R) := by
  cases x3
  · exact st_s hk
  · exact Stop.nil
/-- so far a walk has been read -/
def STG (w0 : HouseV) (g j : Nat) (W : Nat → Nat) (w : HouseV) : Prop := GU w w0 g ∧ WFw w g ∧ hP w g = j ∧ House_phases w g = I ((0 : Nat) : Int) ∧ ∀ s, s < j → House_walks w (10 * g + s) = I (W s : Int)
theorem gu_go (h : GU w w0 g) (a b : Nat) : go w a b = go w0 a b := by
  obtain ⟨g1, g2, g3, g4, g5, g6, g7, g8, g9, g10, g11, g12, g13, g14⟩ := h
  have ej : jm w a = jm w0 a := jm_c (by unfold hD; rw [g2]) (by unfold hO; rw [g5]) (by unfold hA; rw [g6]) (by unfold hB; rw [g7]) a
  unfold go
  rw [ej]
theorem stepCode_q (bw : BW w g) (hg : g < hG w) (ww : WFw w g) (h10 : hP w g < 10) (h : RD t T 2 S R N) (hN : N < hR w) (hgo : hP w g = 0 ∨ go w (hW w g (hP w g - 1)) N = true) : HRead_stepCode (I (g : Int)) t w = some 0 := by
  have hn := bw.1
  have hR12 := hn.2.2.1
  have hG4 := hn.2.2.2.2.2.2.1
  have q1 := nc0 (hi := (hR w : Int) - 1) h (by omega) (by omega)
  have e42 : HRead_stepCode_42 (I (g : Int)) t w = some 0 := by
    unfold HRead_stepCode_42
    rw [lastRoom_s hn hg ww, bind_s, number_is h]
    by_cases c : hP w g = 0
    · rw [if_pos c, canGo_n, bind_s, bif_t]
    · have hr := (ww.2.2.1 (hP w g - 1) (by omega)).2
      rcases hgo with h0 | h1
      · exact absurd h0 c
      · rw [if_neg c, canGo_s bw hr hN, h1, bind_s, bif_t]
  unfold HRead_stepCode
  rw [roomsC hn, q1, bind_s, if_pos rfl, hasG bw hg, bind_s, bif_t, gd_I (by omega) (by omega) (by omega), I_clamp g (by omega), ww.1, if_pos (show I (hP w g : Int) < (10 : Int32) from I_lt_t (b := 10) (by omega) (by omega) (by omega))]
  exact e42
theorem stg_W {P : Nat} {W : Nat → Nat} (h : STG w0 g P W w) {s : Nat} (hs : s < P) (hWs : W s < 100) : hW w g s = W s := by
  unfold hW
  rw [h.2.2.2.2 s hs]
  exact I_clamp _ (by omega)
theorem wkT_s (W : Nat → Nat) (j q : Nat) (E : List Nat) : wkT W j (q + 1) ++ E = 32 :: (dgt (W j) ++ (wkT W (j + 1) q ++ E)) := by
  show 32 :: (dgt (W j) ++ wkT W (j + 1) q) ++ E = _
  rw [List.cons_append, List.append_assoc]
theorem wkT_stop (W : Nat → Nat) (j q : Nat) {k : Nat} (hk : k ≠ 3) (hs : Stop k E) : Stop k (wkT W j q ++ E) := by
  cases q with
  | zero => exact hs
  | succ q => rw [wkT_s]; exact st_b hk
theorem rw_loop (bw : BW w0 g) (hg : g < hG w0) {P : Nat} (hP10 : P ≤ 10) {W : Nat → Nat} (hWR : ∀ s, s < P → W s < hR w0) (hgo : ∀ s, s + 1 < P → go w0 (W s) (W (s + 1)) = true) {kE NE : Nat} {SE RE : List Nat} (hE : ∀ t, AT t T E → ∃ t', Toks_advance t = some t' ∧ RD t' T kE SE RE NE) (hk2 : kE ≠ 2) (hk3 : kE ≤ 3) (hs : Stop 2 E) (x3 : Bool) : ∀ (q j n : Nat) (t : ToksV) (w : HouseV), P = j + (q + 1) → q + 1 < n → STG w0 g j W w → RD t T 2 (dgt (W j)) (wkT W (j + 1) q ++ E) (W j) → ∃ t' w', HRead_readWalk_34 (I (g : Int)) x3 n 0 (I (j : Int)) t w = HRead_readWalk_94 (I (g : Int)) x3 0 t' w' ∧ RD t' T kE SE RE NE ∧ STG w0 g P W w' := by
  have hR12 := bw.1.2.2.1
  have step : ∀ (j n : Nat) (t : ToksV) (w : HouseV) (R' : List Nat), j < P → STG w0 g j W w → RD t T 2 (dgt (W j)) R' (W j) → ∃ w1, STG w0 g (j + 1) W w1 ∧ HRead_readWalk_34 (I (g : Int)) x3 (n + 1) 0 (I (j : Int)) t w = Option.bind (Toks_advance t) fun p85 => HRead_readWalk_34 (I (g : Int)) x3 n 0 (I ((j + 1 : Nat) : Int)) p85 w1 := by
    intro j n t w R' hj hst hrd
    obtain ⟨gu, ww, eP, eF, eW⟩ := id hst
    have bww := gu.bw bw
    have hgw : g < hG w := by rw [gu.G]; exact hg
    have hWj := hWR j hj
    have hcode : HRead_stepCode (I (g : Int)) t w = some 0 := by
      refine stepCode_q bww hgw ww (by omega) hrd (by rw [gu.R]; exact hWj) ?_
      by_cases c : j = 0
      · exact Or.inl (by omega)
      · refine Or.inr ?_
        rw [eP, gu_go gu, stg_W hst (by omega) (by have := hWR (j - 1) (by omega); omega)]
        have := hgo (j - 1) (by omega)
        rw [show j - 1 + 1 = j by omega] at this
        exact this
    obtain ⟨w1, s1, s2, s3, s4, s5, s6, s7⟩ := addStep_s bww hgw ww (by omega) (a := W j) (by rw [gu.R]; exact hWj)
    refine ⟨w1, ⟨s2.trans gu, s3, by omega, s5.trans eF, fun s hs => ?_⟩, ?_⟩
    · by_cases c : s = j
      · rw [c]
        rw [eP] at s6
        exact s6
      · rw [s7 s (by omega)]
        exact eW s (by omega)
    · rw [HRead_readWalk_34, if_neg (show ¬ (10 : Int32) < I (j : Int) from I_lt_f (a := 10) (by omega) (by omega) (by omega)), if_pos rfl, isNumber_t hrd, bind_s, bif_t, hcode, bind_s, if_pos rfl, number_is hrd, s1, bind_s]
      congr 1
      funext p85
      rw [nmL_e, I_succ]
  intro q
  induction q with
  | zero =>
    intro j n t w hP hn hst hrd
    obtain ⟨n, rfl⟩ : ∃ m, n = m + 1 + 1 := ⟨n - 2, by omega⟩
    obtain ⟨w1, s1, e1⟩ := step j (n + 1) t w _ (by omega) hst hrd
    obtain ⟨t1, e2, r1⟩ := hE t hrd.rest
    refine ⟨t1, w1, ?_, r1, by rw [hP]; exact s1⟩
    rw [e1, e2, bind_s, HRead_readWalk_34, if_neg (show ¬ (10 : Int32) < I ((j + 1 : Nat) : Int) from I_lt_f (a := 10) (by omega) (by omega) (by omega)), if_pos rfl, isNumber_f r1 hk2 hk3, bind_s, bif_f]
  | succ q ih =>
    intro j n t w hP hn hst hrd
    obtain ⟨n, rfl⟩ : ∃ m, n = m + 1 := ⟨n - 1, by omega⟩
    obtain ⟨w1, s1, e1⟩ := step j n t w _ (by omega) hst hrd
    have hat := hrd.rest
    rw [wkT_s] at hat
    have h100 : W (j + 1) < 100 := by have := hWR (j + 1) (by omega); omega
    obtain ⟨t1, e2, r1⟩ := adv_bn h100 hat (wkT_stop W (j + 1 + 1) q (by omega) hs)
    obtain ⟨t2, w2, e3, r2, s2⟩ := ih (j + 1) n t1 w1 (by omega) (by omega) s1 r1
    refine ⟨t2, w2, ?_, r2, s2⟩
    rw [e1, e2, bind_s]
    exact e3
theorem stg_0 (bw : BW w0 g) (hg : g < hG w0) (W : Nat → Nat) : ∃ w1, House_emptyWalk (I (g : Int)) w0 = some w1 ∧ STG w0 g 0 W w1 := by
  obtain ⟨w1, e, gu, p1, p2, p3⟩ := emptyWalk_s bw hg
  have eP : hP w1 g = 0 := by unfold hP; rw [p1]; exact I_clamp 0 (by omega)
  have eK : hK w1 g = 0 := by unfold hK; rw [p3]; exact I_clamp 0 (by omega)
  refine ⟨w1, e, gu, ⟨by rw [eP]; exact p1, by omega, fun s hs => absurd hs (by omega), by rw [eK]; exact p3, by rw [eK, eP]; rfl⟩, eP, p2, fun s hs => absurd hs (by omega)⟩
/-- the walk's end -/
theorem eor44 (bw : BW w0 g) (hg : g < hG w0) {P : Nat} (hP1 : 1 ≤ P) {W : Nat → Nat} (hWR : ∀ s, s < P → W s < hR w0) (hgo : go w0 (W (P - 1)) (W 0) = true) (hst : STG w0 g P W w) (x3 : Bool) : HRead_endOfRoomsCode_44 (I (g : Int)) x3 t w = some 0 := by
  obtain ⟨gu, ww, eP, eF, eW⟩ := id hst
  have bww := gu.bw bw
  have hn := bww.1
  have hgw : g < hG w := by rw [gu.G]; exact hg
  have hR12 := bw.1.2.2.1
  have h1 := hWR (P - 1) (by omega)
  have h0 := hWR 0 (by omega)
  have ew : House_walkRoom (I (g : Int)) 0 w = some (I (W 0 : Int)) := by
    have := walkRoom_s (s := 0) hn hgw ww (by omega)
    rw [if_pos (by omega), stg_W hst (by omega) (by omega)] at this
    exact this
  unfold HRead_endOfRoomsCode_44
  rw [lastRoom_s hn hgw ww, if_neg (by omega), bind_s, ew, bind_s, eP, stg_W hst (by omega) (by omega), canGo_s bww (by rw [gu.R]; exact h1) (by rw [gu.R]; exact h0), gu_go gu, hgo, bind_s, bif_t]
theorem wfw_sp (h : WFw w g) (f : Nat → Int32) : WFw (House_set_phases w f) g := by
  unfold WFw hP hW hK hR at h ⊢
  rw [Ho_periods_phases, Ho_walks_phases, Ho_rooms_phases, Ho_walked_phases]
  exact h
theorem readWalk_q (bw : BW w0 g) (hg : g < hG w0) {P φ : Nat} (hP1 : 1 ≤ P) (hP10 : P ≤ 10) {W : Nat → Nat} (hWR : ∀ s, s < P → W s < hR w0) (hgo : ∀ s, s < P → go w0 (W s) (W ((s + 1) % P)) = true) (hφ : φ < P) (x3 : Bool) (h : RD t T 2 (dgt (W 0)) (wkT W 1 (P - 1) ++ (phT φ ++ EDT x3 R)) (W 0)) : ∃ t' v', HRead_readWalk (I (g : Int)) x3 t w0 = some (0, t', v') ∧ EDR x3 t' T R ∧ GU v' w0 g ∧ WFw v' g ∧ hP v' g = P ∧ House_phases v' g = I (φ : Int) ∧ ∀ s, s < P → House_walks v' (10 * g + s) = I (W s : Int) := by
  have hR12 := bw.1.2.2.1
  have hG4 := bw.1.2.2.2.2.2.2.1
  obtain ⟨w1, m1, st1⟩ := stg_0 bw hg W
  have hgo1 : ∀ s, s + 1 < P → go w0 (W s) (W (s + 1)) = true := fun s hs => by
    have := hgo s (by omega)
    rw [Nat.mod_eq_of_lt hs] at this
    exact this
  have hgo0 : go w0 (W (P - 1)) (W 0) = true := by
    have := hgo (P - 1) (by omega)
    rw [show P - 1 + 1 = P by omega, Nat.mod_self] at this
    exact this
  have hW0 := hWR 0 (by omega)
  have eR1 : House_rooms w1 - 1 = I ((hR w0 : Int) - 1) := by rw [st1.1.1]; exact roomsC bw.1
  have q1 := nc0 (hi := (hR w0 : Int) - 1) h (by omega) (by omega)
  have start : ∀ {r}, HRead_readWalk_34 (I (g : Int)) x3 FU 0 (I ((0 : Nat) : Int)) t w1 = r → HRead_readWalk (I (g : Int)) x3 t w0 = r := fun {r} hr => by
    unfold HRead_readWalk
    rw [hasG bw hg, bind_s, bif_t, m1, bind_s, eR1, q1, bind_s]
    exact hr
  by_cases c : φ = 0
  · subst c
    have hk : ∀ t, AT t T (EDT x3 R) → ∃ t', Toks_advance t = some t' ∧ EDR x3 t' T R := fun t ht => ed_adv ht
    obtain ⟨t2, w2, e2, r2, st2⟩ := rw_loop (T := T) (E := phT 0 ++ EDT x3 R) (kE := bif x3 then 0 else 3) (SE := bif x3 then [] else [59]) (RE := bif x3 then [] else R) (NE := 0) bw hg hP10 hWR hgo1 (fun t ht => hk t ht) (by cases x3 <;> decide) (by cases x3 <;> decide) (ed_stop x3 (by omega)) x3 (P - 1) 0 FU t w1 (by omega) (by unfold FU; omega) st1 h
    have r2' : EDR x3 t2 T R := r2
    have e44 := eor44 (t := t2) bw hg hP1 hWR hgo0 st2 x3
    refine ⟨t2, w2, start (e2.trans ?_), r2', st2.1, st2.2.1, st2.2.2.1, st2.2.2.2.1, st2.2.2.2.2⟩
    have ecode : HRead_endOfRoomsCode (I (g : Int)) x3 t2 w2 = some 0 := by
      unfold HRead_endOfRoomsCode HRead_endOfRoomsCode_23
      cases x3
      · rw [bif_f, isSign_t r2', bind_s, if_neg (by decide)]
        exact e44
      · rw [bif_t, isEnd_t r2', bind_s, if_neg (by decide)]
        exact e44
    have eword : Toks_isWord 15 t2 = some false := by
      cases x3
      · exact isWord_k r2' (by decide) (by decide)
      · exact isWord_k r2' (by decide) (by decide)
    unfold HRead_readWalk_94
    rw [if_pos rfl, ecode, bind_s]
    unfold HRead_readWalk_108
    rw [if_pos rfl, eword, bind_s, bif_f]
  · have eph : phT φ ++ EDT x3 R = 32 :: (txPhase ++ (32 :: (dgt φ ++ EDT x3 R))) := by
      unfold phT
      rw [if_neg c]
      rfl
    rw [eph] at h
    obtain ⟨t2, w2, e2, r2, st2⟩ := rw_loop (T := T) (E := 32 :: (txPhase ++ (32 :: (dgt φ ++ EDT x3 R)))) bw hg hP10 hWR hgo1 (fun t ht => adv_bw wd_phase.1 ht wd_phase.2.1 (st_b (by omega)) (by decide)) (by decide) (by decide) (st_b (by omega)) x3 (P - 1) 0 FU t w1 (by omega) (by unfold FU; omega) st1 h
    have e44 := eor44 (t := t2) bw hg hP1 hWR hgo0 st2 x3
    obtain ⟨t3, e3, r3⟩ := adv_bn (by omega) r2.rest (ed_stop x3 (by omega))
    obtain ⟨t4, e4, r4⟩ := ed_adv r3.rest
    obtain ⟨gu, ww, eP, eF, eW⟩ := st2
    have q3 := nc0 (hi := (hP w2 g : Int) - 1) r3 (by omega) (by omega)
    refine ⟨t4, House_set_phases w2 (upd (House_phases w2) g (I (φ : Int))), start (e2.trans ?_), r4, (setPhase_gu w2 g _).trans gu, wfw_sp ww _, ?_, ?_, fun s hs => ?_⟩
    · have eword : Toks_isWord 15 t2 = some true := isWord_t (by decide) s15 r2
      have ecode : HRead_endOfRoomsCode (I (g : Int)) x3 t2 w2 = some 0 := by
        unfold HRead_endOfRoomsCode HRead_endOfRoomsCode_23
        cases x3
        · rw [bif_f, isSign_f r2 (by omega) (by omega), bind_s, if_pos (by decide), eword, bind_s, bif_t]
          exact e44
        · rw [bif_t, isEnd_f r2 (by omega) (by omega), bind_s, if_pos (by decide), eword, bind_s, bif_t]
          exact e44
      unfold HRead_readWalk_94
      rw [if_pos rfl, ecode, bind_s]
      unfold HRead_readWalk_108
      rw [if_pos rfl, eword, bind_s, bif_t, e3, bind_s, gd_I (by omega) (by omega) (by omega), I_clamp g (by omega), ww.1, I1, I_sub, q3, bind_s, if_pos rfl, nmL_e, number_is r3, e4, bind_s]
    · unfold hP
      rw [Ho_periods_phases]
      exact eP
    · rw [Ho_phases_phases, upd_i]
    · rw [Ho_walks_phases]
      exact eW s hs
variable {nR nD nG : Nat} {A B : Nat → Nat} {O : Nat → Bool} {Lm P φ : Nat → Nat} {Wk : Nat → Nat → Nat}
/-- a guard -/
def grdT (P φ : Nat) (W : Nat → Nat) : List Nat := txGuard ++ (wkT W 0 P ++ (phT φ ++ [59]))
theorem readGuard_q {k : Nat} (hc : CON v nR nD k A B O Lm P φ Wk) (hk : k < 4) (h1 : 1 ≤ P k) (hP10 : P k ≤ 10) (hφ : φ k < P k) (hWk : ∀ s, s < P k → Wk k s < nR) (hgo : ∀ s, s < P k → go v (Wk k s) (Wk k ((s + 1) % P k)) = true) (h : RD t T 1 txGuard (wkT (Wk k) 0 (P k) ++ (phT (φ k) ++ (59 :: R))) N) (hg : Good R) : ∃ t' v', HRead_readGuard t v = some (0, t', v') ∧ HD t' T R ∧ CON v' nR nD (k + 1) A B O Lm P φ Wk := by
  obtain ⟨⟨x1, x2, x3⟩, eM, eR, eD, dd, eG, gg, ll⟩ := id hc
  have hn := x1.1
  have hR12 := hn.2.2.1
  have hrel := mkM_rel hn (fun g hg => by have := x1.2.2.2.2.1.per g hg; omega)
  obtain ⟨w, ew, bw, gw, -, -⟩ := setGuards_bw x1 (by omega) hrel
  rw [eG] at bw gw
  have eRw : hR w = nR := by rw [← eR, ew]; unfold hR; rw [Ho_rooms_guards]
  have egow : ∀ a b, go w a b = go v a b := fun a b => by
    have ej : jm w a = jm v a := jm_c (by rw [ew]; unfold hD; rw [Ho_doors_guards]) (by rw [ew]; unfold hO; rw [Ho_openDoors_guards]) (by rw [ew]; unfold hA; rw [Ho_doorFirst_guards]) (by rw [ew]; unfold hB; rw [Ho_doorSecond_guards]) a
    unfold go
    rw [ej]
  have hat := h.rest
  obtain ⟨p, hp⟩ : ∃ p, P k = p + 1 := ⟨P k - 1, by omega⟩
  have hW0 := hWk 0 (by omega)
  have hp1 : P k - 1 = p := by omega
  rw [hp, wkT_s] at hat
  obtain ⟨t1, e1, r1⟩ := adv_bn (by omega) hat (wkT_stop _ _ _ (by omega) (by
    unfold phT
    split
    · exact st_s (by omega)
    · exact st_b (by omega)))
  obtain ⟨t2, v2, e2, r2, gu, ww, eP, eF, eW⟩ := readWalk_q (R := R) bw (by omega : k < hG w) h1 hP10 (W := Wk k) (fun s hs => by rw [eRw]; exact hWk s hs) (fun s hs => by rw [egow]; exact hgo s hs) hφ false (by rw [hp1]; exact r1)
  obtain ⟨t3, e3, r3⟩ := semi_h r2 hg
  refine ⟨t3, v2, ?_, r3, con_guard hc hk (by rw [← ew]; exact gu) ww h1 eP eF hφ eW (fun s hs => by have := hWk s hs; omega) hgo⟩
  unfold HRead_readGuard
  rw [e1, bind_s, nmL_e, nmL_e, ← ew, hn.2.2.2.2.2.1, eG, e2, bind_s]
  dsimp only
  rw [if_pos rfl, e3, bind_s]
/-! clauses -/
theorem clause_d {a b : Nat} {o : Bool} (h : RD t T 1 txDoor (32 :: (dgt a ++ (32 :: (dgt b ++ (semT o ++ R))))) N) (hg : Good R) (hn : WFn v) (hD20 : hD v < 20) (ha : a < hR v) (hb : b < hR v) (hab : a ≠ b) (hw : House_addDoor (I (a : Int)) (I (b : Int)) o v = some w) : ∃ t', HRead_readClause t v = some (0, t', w) ∧ HD t' T R := by
  obtain ⟨t', e, r⟩ := readDoor_q h hg hn ha hb hab hw
  refine ⟨t', ?_, r⟩
  unfold HRead_readClause
  rw [isWord_t (by decide) s11 h, bind_s, bif_t, hn.2.2.2.1, if_neg (show ¬ (20 : Int32) ≤ I (hD v : Int) from I_le_f (a := 20) (by omega) (by omega) (by omega)), e, bind_s]
theorem clause_g {k : Nat} (hc : CON v nR nD k A B O Lm P φ Wk) (hk : k < 4) (h1 : 1 ≤ P k) (hP10 : P k ≤ 10) (hφ : φ k < P k) (hWk : ∀ s, s < P k → Wk k s < nR) (hgo : ∀ s, s < P k → go v (Wk k s) (Wk k ((s + 1) % P k)) = true) (h : RD t T 1 txGuard (wkT (Wk k) 0 (P k) ++ (phT (φ k) ++ (59 :: R))) N) (hg : Good R) : ∃ t' v', HRead_readClause t v = some (0, t', v') ∧ HD t' T R ∧ CON v' nR nD (k + 1) A B O Lm P φ Wk := by
  obtain ⟨t', v', e, r, c⟩ := readGuard_q hc hk h1 hP10 hφ hWk hgo h hg
  refine ⟨t', v', ?_, r, c⟩
  have hn := hc.1.1.1
  have eG := hc.2.2.2.2.2.1
  unfold HRead_readClause
  rw [isWord_l (by decide) h (by decide) (by decide), bind_s, bif_f, isWord_t (by decide) s12 h, bind_s, bif_t, hn.2.2.2.2.2.1, if_neg (show ¬ (4 : Int32) ≤ I (hG v : Int) from I_le_f (a := 4) (by omega) (by omega) (by omega)), e, bind_s]
theorem clause_l {r a : Nat} (h : RD t T 1 txLimit (32 :: (dgt r ++ (32 :: (dgt a ++ (59 :: R))))) N) (hg : Good R) (hn : WFn v) (hr : r < hR v) (ha : a ≤ 99) : ∃ t', HRead_readClause t v = some (0, t', House_set_limits v (upd (House_limits v) r (I (a : Int)))) ∧ HD t' T R := by
  obtain ⟨t', e, hr2⟩ := readLimit_q h hg hn hr ha
  refine ⟨t', ?_, hr2⟩
  unfold HRead_readClause
  rw [isWord_l (by decide) h (by decide) (by decide), bind_s, bif_f, isWord_c (by decide) h (by decide) (by decide), bind_s, bif_f, isWord_t (by decide) s13 h, bind_s, bif_t, e, bind_s]
theorem h63_step {n x : Nat} {t' : ToksV} {v' : HouseV} (h : RD t T 1 S R N) (hc : HRead_readClause t v = some (0, t', v')) (hx : x < 600) : HRead_readHouse_63 (n + 1) 0 (I (x : Int)) t v = HRead_readHouse_63 n 0 (I ((x + 1 : Nat) : Int)) t' v' := by
  rw [HRead_readHouse_63, if_neg (show ¬ (600 : Int32) ≤ I (x : Int) from I_le_f (a := 600) (by omega) (by omega) (by omega)), if_pos rfl, isEnd_f h (by omega) (by omega), bind_s, bif_f, hc, bind_s, nmL_e, I_succ]
/-! the doors -/
def dT (A B : Nat → Nat) (O : Nat → Bool) : Nat → Nat → List Nat
  | _, 0 => []
  | k, q + 1 => doorT (A k) (B k) (O k) ++ dT A B O (k + 1) q
theorem dT_e (k q : Nat) (R : List Nat) : dT A B O k (q + 1) ++ R = txDoor ++ (32 :: (dgt (A k) ++ (32 :: (dgt (B k) ++ (semT (O k) ++ (dT A B O (k + 1) q ++ R)))))) := by
  show (txDoor ++ (32 :: (dgt (A k) ++ (32 :: (dgt (B k) ++ semT (O k))))) ++ dT A B O (k + 1) q) ++ R = _
  simp only [List.append_assoc, List.cons_append]
theorem dT_good (hg : Good R) (k q : Nat) : Good (dT A B O k q ++ R) := by
  cases q with
  | zero => exact hg
  | succ q => exact Or.inr ⟨_, _, dT_e k q R, wd_door, st_b (by omega)⟩
theorem doors_loop (hN20 : nD ≤ 20) (hd : ∀ d, d < nD → A d < nR ∧ B d < nR ∧ A d ≠ B d) (hg : Good R) : ∀ (q k x n : Nat) (t : ToksV) (v : HouseV), nD = k + q → x + q ≤ 500 → CON v nR k 0 A B O Lm P φ Wk → HD t T (dT A B O k q ++ R) → ∃ t' v', HRead_readHouse_63 (n + q) 0 (I (x : Int)) t v = HRead_readHouse_63 n 0 (I ((x + q : Nat) : Int)) t' v' ∧ HD t' T R ∧ CON v' nR nD 0 A B O Lm P φ Wk := by
  intro q
  induction q with
  | zero =>
    intro k x n t v hk hx hc h
    exact ⟨t, v, rfl, h, by rw [hk]; exact hc⟩
  | succ q ih =>
    intro k x n t v hk hx hc h
    rw [dT_e] at h
    have hrd := hd_w h wd_door (st_b (by omega))
    obtain ⟨a1, a2, a3⟩ := hd k (by omega)
    obtain ⟨w, e1, c1⟩ := con_door hc (by omega) a1 a2 a3
    have hn := hc.1.1.1
    have eR := hc.2.2.1
    have eD := hc.2.2.2.1
    obtain ⟨t1, e2, r1⟩ := clause_d hrd (dT_good hg _ _) hn (by omega) (by omega) (by omega) a3 e1
    obtain ⟨t2, v2, e3, r2, c2⟩ := ih (k + 1) (x + 1) n t1 w (by omega) (by omega) c1 r1
    refine ⟨t2, v2, ?_, r2, c2⟩
    rw [show n + (q + 1) = (n + q) + 1 by omega, h63_step hrd e2 (by omega), e3, show x + 1 + q = x + (q + 1) by omega]
/-! the guards -/
def gT (P φ : Nat → Nat) (Wk : Nat → Nat → Nat) : Nat → Nat → List Nat
  | _, 0 => []
  | k, q + 1 => grdT (P k) (φ k) (Wk k) ++ gT P φ Wk (k + 1) q
theorem gT_e (k q : Nat) (R : List Nat) : gT P φ Wk k (q + 1) ++ R = txGuard ++ (wkT (Wk k) 0 (P k) ++ (phT (φ k) ++ (59 :: (gT P φ Wk (k + 1) q ++ R)))) := by
  show (txGuard ++ (wkT (Wk k) 0 (P k) ++ (phT (φ k) ++ [59])) ++ gT P φ Wk (k + 1) q) ++ R = _
  simp only [List.append_assoc, List.cons_append, List.nil_append]
theorem gst (k : Nat) (X : List Nat) : Stop 1 (wkT (Wk k) 0 (P k) ++ (phT (φ k) ++ (59 :: X))) := wkT_stop _ _ _ (by omega) (by
  unfold phT
  split
  · exact st_s (by omega)
  · exact st_b (by omega))
theorem gT_good (hg : Good R) (k q : Nat) : Good (gT P φ Wk k q ++ R) := by
  cases q with
  | zero => exact hg
  | succ q => exact Or.inr ⟨_, _, gT_e k q R, wd_guard, gst k _⟩
theorem guards_loop (hG4 : nG ≤ 4) (hgd : ∀ g, g < nG → 1 ≤ P g ∧ P g ≤ 10 ∧ φ g < P g ∧ ∀ s, s < P g → Wk g s < nR) (hgo : ∀ v k, CON v nR nD k A B O Lm P φ Wk → ∀ g, g < nG → ∀ s, s < P g → go v (Wk g s) (Wk g ((s + 1) % P g)) = true) (hg : Good R) : ∀ (q k x n : Nat) (t : ToksV) (v : HouseV), nG = k + q → x + q ≤ 500 → CON v nR nD k A B O Lm P φ Wk → HD t T (gT P φ Wk k q ++ R) → ∃ t' v', HRead_readHouse_63 (n + q) 0 (I (x : Int)) t v = HRead_readHouse_63 n 0 (I ((x + q : Nat) : Int)) t' v' ∧ HD t' T R ∧ CON v' nR nD nG A B O Lm P φ Wk := by
  intro q
  induction q with
  | zero =>
    intro k x n t v hk hx hc h
    exact ⟨t, v, rfl, h, by rw [hk]; exact hc⟩
  | succ q ih =>
    intro k x n t v hk hx hc h
    rw [gT_e] at h
    have hrd := hd_w h wd_guard (gst k _)
    obtain ⟨a1, a2, a3, a4⟩ := hgd k (by omega)
    obtain ⟨t1, w, e2, r1, c1⟩ := clause_g hc (by omega) a1 a2 a3 a4 (hgo v k hc k (by omega)) hrd (gT_good hg _ _)
    obtain ⟨t2, v2, e3, r2, c2⟩ := ih (k + 1) (x + 1) n t1 w (by omega) (by omega) c1 r1
    refine ⟨t2, v2, ?_, r2, c2⟩
    rw [show n + (q + 1) = (n + q) + 1 by omega, h63_step hrd e2 (by omega), e3, show x + 1 + q = x + (q + 1) by omega]
/-! the limits -/
def lT (Lm : Nat → Nat) : Nat → Nat → List Nat
  | _, 0 => []
  | k, q + 1 => (if Lm k = 99 then [] else limT k (Lm k)) ++ lT Lm (k + 1) q
theorem lT_e {k : Nat} (hk : Lm k ≠ 99) (q : Nat) (R : List Nat) : lT Lm k (q + 1) ++ R = txLimit ++ (32 :: (dgt k ++ (32 :: (dgt (Lm k) ++ (59 :: (lT Lm (k + 1) q ++ R)))))) := by
  show ((if Lm k = 99 then [] else limT k (Lm k)) ++ lT Lm (k + 1) q) ++ R = _
  rw [if_neg hk]
  unfold limT
  simp only [List.append_assoc, List.cons_append, List.nil_append]
theorem lT_s {k : Nat} (hk : Lm k = 99) (q : Nat) (R : List Nat) : lT Lm k (q + 1) ++ R = lT Lm (k + 1) q ++ R := by
  show ((if Lm k = 99 then [] else limT k (Lm k)) ++ lT Lm (k + 1) q) ++ R = _
  rw [if_pos hk, List.nil_append]
theorem lT_good (hg : Good R) : ∀ (q k : Nat), Good (lT Lm k q ++ R) := by
  intro q
  induction q with
  | zero => intro k; exact hg
  | succ q ih =>
    intro k
    by_cases c : Lm k = 99
    · rw [lT_s c]; exact ih (k + 1)
    · exact Or.inr ⟨_, _, lT_e c q R, wd_limit, st_b (by omega)⟩
theorem con_L {Lm' : Nat → Nat} (hc : CON v nR nD nG A B O Lm P φ Wk) (h : ∀ r, r < nR → Lm r = Lm' r) : CON v nR nD nG A B O Lm' P φ Wk := by
  obtain ⟨a1, a2, a3, a4, a5, a6, a7, a8⟩ := hc
  exact ⟨a1, a2, a3, a4, a5, a6, a7, fun r hr => (a8 r hr).trans (h r hr)⟩
theorem limits_loop (hL : ∀ r, r < nR → Lm r ≤ 99) (hR12 : nR ≤ 12) (hg : Good R) : ∀ (q k x : Nat) (t : ToksV) (v : HouseV), nR = k + q → x + q ≤ 500 → CON v nR nD nG A B O (fun r => if r < k then Lm r else 99) P φ Wk → HD t T (lT Lm k q ++ R) → ∃ c t' v', c ≤ q ∧ (∀ n, HRead_readHouse_63 (n + c) 0 (I (x : Int)) t v = HRead_readHouse_63 n 0 (I ((x + c : Nat) : Int)) t' v') ∧ HD t' T R ∧ CON v' nR nD nG A B O Lm P φ Wk := by
  intro q
  induction q with
  | zero =>
    intro k x t v hk hx hc h
    exact ⟨0, t, v, by omega, fun n => rfl, h, con_L hc fun r hr => if_pos (by omega)⟩
  | succ q ih =>
    intro k x t v hk hx hc h
    by_cases c : Lm k = 99
    · rw [lT_s c] at h
      obtain ⟨n, t2, v2, hcn, e3, r2, c2⟩ := ih (k + 1) x t v (by omega) (by omega) (con_L hc fun r hr => by
        show (if r < k then Lm r else 99) = if r < k + 1 then Lm r else 99
        by_cases d : r = k
        · rw [if_neg (by omega), if_pos (by omega), d, c]
        · by_cases d2 : r < k
          · rw [if_pos d2, if_pos (by omega)]
          · rw [if_neg d2, if_neg (by omega)]) h
      exact ⟨n, t2, v2, by omega, e3, r2, c2⟩
    · rw [lT_e c] at h
      have hrd := hd_w h wd_limit (st_b (by omega))
      have hn := hc.1.1.1
      have eR := hc.2.2.1
      have h99 := hL k (by omega)
      obtain ⟨t1, e2, r1⟩ := clause_l hrd (lT_good hg _ _) hn (by omega) h99
      have c1 := con_limit hc (r := k) (a := Lm k) (by omega) h99
      obtain ⟨n, t2, v2, hcn, e3, r2, c2⟩ := ih (k + 1) (x + 1) t1 _ (by omega) (by omega) (con_L c1 fun r hr => by
        show (if r = k then Lm k else if r < k then Lm r else 99) = if r < k + 1 then Lm r else 99
        by_cases d : r = k
        · rw [if_pos d, if_pos (by omega), d]
        · rw [if_neg d]
          by_cases d2 : r < k
          · rw [if_pos d2, if_pos (by omega)]
          · rw [if_neg d2, if_neg (by omega)]) r1
      refine ⟨n + 1, t2, v2, by omega, fun m => ?_, r2, c2⟩
      rw [show m + (n + 1) = (m + n) + 1 by omega, h63_step hrd e2 (by omega), e3, show x + 1 + n = x + (n + 1) by omega]
/-- the text of a house -/
def hsT (nR nD nG : Nat) (A B : Nat → Nat) (O : Nat → Bool) (Lm P φ : Nat → Nat) (Wk : Nat → Nat → Nat) : List Nat := txHouse ++ (32 :: (dgt nR ++ (59 :: (dT A B O 0 nD ++ (gT P φ Wk 0 nG ++ lT Lm 0 nR)))))
theorem readHouse_q (h1 : 1 ≤ nR) (hR12 : nR ≤ 12) (hN20 : nD ≤ 20) (hG4 : nG ≤ 4) (hd : ∀ d, d < nD → A d < nR ∧ B d < nR ∧ A d ≠ B d) (hgd : ∀ g, g < nG → 1 ≤ P g ∧ P g ≤ 10 ∧ φ g < P g ∧ ∀ s, s < P g → Wk g s < nR) (hL : ∀ r, r < nR → Lm r ≤ 99) (hgo : ∀ v k, CON v nR nD k A B O (fun r => if r < 0 then Lm r else 99) P φ Wk → ∀ g, g < nG → ∀ s, s < P g → go v (Wk g s) (Wk g ((s + 1) % P g)) = true) (hat : AT t T (hsT nR nD nG A B O Lm P φ Wk)) (v : HouseV) : ∃ t0 t' v', Toks_advance t = some t0 ∧ HRead_readHouse t0 v = some (0, t', v') ∧ CON v' nR nD nG A B O Lm P φ Wk := by
  have g3 : Good (lT Lm 0 nR) := by
    have := lT_good (Lm := Lm) (R := []) (Or.inl rfl) nR 0
    rw [List.append_nil] at this
    exact this
  have g2 := gT_good (P := P) (φ := φ) (Wk := Wk) g3 0 nG
  have g1 := dT_good (A := A) (B := B) (O := O) g2 0 nD
  unfold hsT at hat
  obtain ⟨t0, e0, r0⟩ := adv_w wd_house.1 hat wd_house.2.1 (st_b (by omega)) wd_house.2.2
  obtain ⟨t1, e1, r1⟩ := adv_bn (by omega) r0.rest (st_s (by omega))
  obtain ⟨t2, e2, r2⟩ := adv_s r1.rest
  obtain ⟨t3, e3, r3⟩ := semi_h r2 g1
  obtain ⟨w, e4, c4⟩ := con_begin (A := A) (B := B) (O := O) (P := P) (φ := φ) (Wk := Wk) h1 hR12 v
  have q1 : Toks_numberCode 1 12 t1 = some 0 := numberCode_t (lo := 1) (hi := 12) r1 (by omega) (by omega) (by omega) (by omega)
  have c4' : CON w nR 0 0 A B O (fun r => if r < 0 then Lm r else 99) P φ Wk := con_L c4 fun r _ => (if_neg (by omega)).symm
  obtain ⟨t4, v4, e5, r4, c5⟩ := doors_loop (T := T) hN20 hd g2 nD 0 0 (FU - nD) t3 w (by omega) (by omega) c4' r3
  obtain ⟨t5, v5, e6, r5, c6⟩ := guards_loop (T := T) hG4 hgd hgo g3 nG 0 (0 + nD) (FU - nD - nG) t4 v4 (by omega) (by omega) c5 r4
  have r5' : HD t5 T (lT Lm 0 nR ++ []) := by rw [List.append_nil]; exact r5
  obtain ⟨c, t6, v6, hc, e7, r6, c7⟩ := limits_loop (T := T) hL hR12 (Or.inl rfl) nR 0 (0 + nD + nG) t5 v5 (by omega) (by omega) c6 r5'
  refine ⟨t0, t6, v6, e0, ?_, c7⟩
  obtain ⟨m, hm⟩ : ∃ m, FU - nD - nG = m + 1 + c := ⟨FU - nD - nG - c - 1, by unfold FU; omega⟩
  have e8 : HRead_readHouse_63 (m + 1) 0 (I ((0 + nD + nG + c : Nat) : Int)) t6 v6 = some (0, t6, v6) := by
    rw [HRead_readHouse_63, if_neg (show ¬ (600 : Int32) ≤ I ((0 + nD + nG + c : Nat) : Int) from I_le_f (a := 600) (by omega) (by omega) (by omega)), if_pos rfl, isEnd_t (hd_e r6), bind_s, bif_t]
  rw [hm] at e6
  rw [show FU - nD + nD = FU by unfold FU; omega, show FU - nD = FU - nD - nG + nG by unfold FU; omega, hm] at e5
  have eall := e5.trans (e6.trans ((e7 (m + 1)).trans e8))
  unfold HRead_readHouse
  rw [isWord_t (by decide) s9 r0, bind_s, bif_t, e1, bind_s, q1, bind_s, if_pos rfl, number_is r1, e4, bind_s, e2, bind_s, e3, bind_s]
  exact eall
end READH
