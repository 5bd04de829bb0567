section STAMPW
variable {v w : HouseV} {g : GWV}
theorem stampW_hx (hv : HX v) (x : Int32) : HX (House_set_walksStamp v x) := by
  obtain ⟨⟨hn, hd, hj, hl, hw, hs⟩, h2, h3⟩ := hv
  have eP : hP (House_set_walksStamp v x) = hP v := by unfold hP; rw [Ho_periods_walksStamp]
  have eW : hW (House_set_walksStamp v x) = hW v := by unfold hW; rw [Ho_walks_walksStamp]
  have eG : hG (House_set_walksStamp v x) = hG v := by unfold hG; rw [Ho_guards_walksStamp]
  refine ⟨⟨wfn_c (Ho_rooms_walksStamp _ _) (Ho_doors_walksStamp _ _) (Ho_guards_walksStamp _ _) (Ho_minute_walksStamp _ _) (Ho_openDoors_walksStamp _ _) hn, wfd_c (Ho_doors_walksStamp _ _) (Ho_rooms_walksStamp _ _) (Ho_doorFirst_walksStamp _ _) (Ho_doorSecond_walksStamp _ _) hd, wfj_c (Ho_doors_walksStamp _ _) (Ho_openDoors_walksStamp _ _) (Ho_doorFirst_walksStamp _ _) (Ho_doorSecond_walksStamp _ _) (Ho_joined_walksStamp _ _) hj, wfl_c (Ho_limits_walksStamp _ _) hl, wfG_c (Ho_rooms_walksStamp _ _) (Ho_guards_walksStamp _ _) (Ho_periods_walksStamp _ _) (Ho_phases_walksStamp _ _) (Ho_walks_walksStamp _ _) (Ho_walked_walksStamp _ _) hw, wfs_c (Ho_minute_walksStamp _ _) (Ho_sightings_walksStamp _ _) (Ho_runs_walksStamp _ _) (Ho_longestRuns_walksStamp _ _) (Ho_lastSeen_walksStamp _ _) hs⟩, wfq_c (Ho_runs_walksStamp _ _) (Ho_longestRuns_walksStamp _ _) h2, wfx_c (fun r _ => ?_) eG (fun q _ => by rw [eP]) (fun q s _ _ => by rw [eW]) hw h3⟩
  refine jm_c ?_ ?_ ?_ ?_ r
  · unfold hD; rw [Ho_doors_walksStamp]
  · unfold hO; rw [Ho_openDoors_walksStamp]
  · unfold hA; rw [Ho_doorFirst_walksStamp]
  · unfold hB; rw [Ho_doorSecond_walksStamp]
end STAMPW
section TELLX
variable {g : GWV} {t : ToksV} {w : Nat → Int32} {T R : List Nat} {o : OwnV} {nd nr nw : Nat} {D Rw W : RowsT} {F : Nat → Int32} {nR nD nG : Nat} {A B : Nat → Nat} {O : Nat → Bool} {Lm P φ : Nat → Nat} {Wk : Nat → Nat → Nat}
theorem s16 : stL 16 = (txHouse ++ [32]).map fun b : Nat => I (b : Int) := by decide
theorem s17 : stL 17 = (txDoor ++ [32]).map fun b : Nat => I (b : Int) := by decide
theorem s18 : stL 18 = ([32] : List Nat).map fun b : Nat => I (b : Int) := by decide
theorem s19 : stL 19 = ([59] : List Nat).map fun b : Nat => I (b : Int) := by decide
theorem s20 : stL 20 = (32 :: (txClosed ++ [59])).map fun b : Nat => I (b : Int) := by decide
theorem s21 : stL 21 = txGuard.map fun b : Nat => I (b : Int) := by decide
theorem s22 : stL 22 = (32 :: (txPhase ++ [32])).map fun b : Nat => I (b : Int) := by decide
theorem s23 : stL 23 = (txLimit ++ [32]).map fun b : Nat => I (b : Int) := by decide
theorem s24 : stL 24 = (txWalk ++ [32]).map fun b : Nat => I (b : Int) := by decide
/-- what the rows of the law's own house hold -/
def OC (o : OwnV) (nd : Nat) (D : RowsT) (nr : Nat) (Rw : RowsT) (nw : Nat) (W : RowsT) (F : Nat → Int32) (nR nD nG : Nat) (A B : Nat → Nat) (O : Nat → Bool) (Lm P φ : Nat → Nat) (Wk : Nat → Nat → Nat) : Prop := DC o nd D nD A B O ∧ (Own_rooms o = I (nR : Int) ∧ nr = nR ∧ Rw.1 = nR ∧ 1 ≤ nR ∧ nR ≤ 6 ∧ ∀ r, r < nR → Rw.2.1 r = 5 ∧ Rw.2.2 r 0 = I (Lm r : Int) ∧ Lm r ≤ 99) ∧ WC o nw W nG P Wk ∧ (∀ q, q < nG → F q = I (φ q : Int) ∧ φ q < P q) ∧ nD ≤ 10 ∧ nG ≤ 4 ∧ (∀ d, d < nD → A d < nR ∧ B d < nR ∧ A d ≠ B d) ∧ ∀ q, q < nG → 1 ≤ P q ∧ P q ≤ 4 ∧ ∀ s, s < P q → Wk q s < nR ∧ go4 A B O nD (Wk q s) (Wk q ((s + 1) % P q))
theorem walkOf_loop {P φ : Nat} {Wv : Nat → Int32} {W' : Nat → Nat} (hW : ∀ s, s < P → Wv s = I (W' s : Int) ∧ W' s < 100) (hφ : φ < 100) (hP : P ≤ 10) : ∀ (q j m : Nat) (T : List Nat) (t : ToksV) (w : Nat → Int32), P = j + q → q < m → TX t w T → T.length + 3 * q + 9 ≤ 599 → ∃ t' w', L_walkOf_11 (I (φ : Int)) g Wv P (I (P : Int)) m (I (j : Int)) t w = some (t', w') ∧ TX t' w' (T ++ (wkT W' j q ++ phT φ)) := by
  intro q
  induction q with
  | zero =>
    intro j m T t w hP hm hT hl
    obtain ⟨m, rfl⟩ : ∃ q, m = q + 1 := ⟨m - 1, by omega⟩
    by_cases c : φ = 0
    · subst c
      refine ⟨t, w, ?_, ?_⟩
      · rw [L_walkOf_11, if_pos (I_le_t (by omega) (by omega) (by omega)), if_pos (show I ((0 : Nat) : Int) ≤ (0 : Int32) by decide)]
      · show TX t w (T ++ ([] ++ []))
        rw [List.append_nil, List.append_nil]
        exact hT
    · obtain ⟨t1, w1, e1, e2⟩ := with_q (g := g) hT (i := 22) (by decide) s22 (by decide) hφ (by show T.length + 7 + 2 ≤ 599; omega)
      refine ⟨t1, w1, ?_, ?_⟩
      · rw [L_walkOf_11, if_pos (I_le_t (by omega) (by omega) (by omega)), if_neg (show ¬ I (φ : Int) ≤ (0 : Int32) from I_le_f (b := 0) (by omega) (by omega) (by omega)), e1, bind_s]
      · have : (32 :: (txPhase ++ [32])) ++ dgt φ = wkT W' j 0 ++ phT φ := by
          unfold phT
          rw [if_neg c]
          rfl
        rw [this] at e2
        exact e2
  | succ q ih =>
    intro j m T t w hP hm hT hl
    obtain ⟨m, rfl⟩ : ∃ q, m = q + 1 := ⟨m - 1, by omega⟩
    obtain ⟨a1, a2⟩ := hW j (by omega)
    have hd := dgt_len (W' j)
    obtain ⟨t1, w1, e1, e2⟩ := with_q (g := g) hT (i := 18) (by decide) s18 (by decide) a2 (by show T.length + 1 + 2 ≤ 599; omega)
    obtain ⟨t2, w2, e3, e4⟩ := ih (j + 1) m (T ++ ([32] ++ dgt (W' j))) t1 w1 (by omega) (by omega) e2 (by
      rw [List.length_append, List.length_append]
      show T.length + (1 + (dgt (W' j)).length) + 3 * q + 9 ≤ 599
      omega)
    refine ⟨t2, w2, ?_, ?_⟩
    · rw [L_walkOf_11, if_neg (I_le_f (by omega) (by omega) (by omega)), gd_I (by omega) (by omega) (by omega), nmL_e, I_clamp j (by omega), a1, e1, bind_s, nmL_e, I_succ]
      exact e3
    · rw [wkT_s]
      rw [List.append_assoc, List.append_assoc] at e4
      exact e4
theorem walkOf_q {P φ : Nat} {Wv : Nat → Int32} {W' : Nat → Nat} (hW : ∀ s, s < P → Wv s = I (W' s : Int) ∧ W' s < 100) (hφ : φ < 100) (hP : P ≤ 10) (hT : TX t w T) (hl : T.length ≤ 550) : ∃ t' w', L_walkOf (I (φ : Int)) g t w P Wv = some (t', w') ∧ TX t' w' (T ++ (wkT W' 0 P ++ phT φ)) := by
  unfold L_walkOf
  rw [nmL_e, nI_e]
  exact walkOf_loop (g := g) hW hφ hP P 0 FU T t w (by omega) (by unfold FU; omega) hT (by omega)
theorem doorT_eq (T : List Nat) (a b : Nat) (S : List Nat) : ((T ++ ((txDoor ++ [32]) ++ dgt a)) ++ ([32] ++ dgt b)) ++ S = T ++ (txDoor ++ (32 :: (dgt a ++ (32 :: (dgt b ++ S))))) := by
  simp only [List.append_assoc, List.cons_append, List.nil_append]
theorem dT_len (k q : Nat) : (dT A B O k q).length ≤ 18 * q := by
  induction q generalizing k with
  | zero => exact Nat.zero_le _
  | succ q ih =>
    have h1 := ih (k + 1)
    have h2 := dgt_len (A k)
    have h3 := dgt_len (B k)
    have h4 : (semT (O k)).length ≤ 8 := by cases O k <;> decide
    show (doorT (A k) (B k) (O k) ++ dT A B O (k + 1) q).length ≤ _
    unfold doorT
    simp only [List.length_append, List.length_cons, List.length_nil]
    omega
theorem wkT_len (W' : Nat → Nat) (j q : Nat) : (wkT W' j q).length ≤ 3 * q := by
  induction q generalizing j with
  | zero => exact Nat.zero_le _
  | succ q ih =>
    have h1 := ih (j + 1)
    have h2 := dgt_len (W' j)
    show (32 :: (dgt (W' j) ++ wkT W' (j + 1) q)).length ≤ _
    rw [List.length_cons, List.length_append]
    omega
theorem phT_len (x : Nat) : (phT x).length ≤ 9 := by
  have h := dgt_len x
  unfold phT
  split
  · exact Nat.zero_le _
  · rw [List.length_cons, List.length_append, List.length_cons]
    show 5 + ((dgt x).length + 1) + 1 ≤ 9
    omega
theorem lT_len (k q : Nat) : (lT Lm k q).length ≤ 12 * q := by
  induction q generalizing k with
  | zero => exact Nat.zero_le _
  | succ q ih =>
    have h1 := ih (k + 1)
    have h2 := dgt_len k
    have h3 := dgt_len (Lm k)
    show ((if Lm k = 99 then [] else limT k (Lm k)) ++ lT Lm (k + 1) q).length ≤ _
    rw [List.length_append]
    split
    · show 0 + _ ≤ _
      omega
    · unfold limT
      simp only [List.length_append, List.length_cons, List.length_nil]
      omega
/-- the limits are told -/
theorem tell137 (hr : Own_rooms o = I (nR : Int) ∧ nr = nR ∧ Rw.1 = nR ∧ 1 ≤ nR ∧ nR ≤ 6 ∧ ∀ r, r < nR → Rw.2.1 r = 5 ∧ Rw.2.2 r 0 = I (Lm r : Int) ∧ Lm r ≤ 99) (v d : HouseV) (y : HistV) : ∀ (q k m : Nat) (T : List Nat) (t : ToksV) (w : Nat → Int32), nR = k + q → q < m → TX t w T → T.length + 12 * q ≤ 500 → ∃ t' w', L_tell_137 o nd D nr Rw nw W F m (I (k : Int)) g v d y t w = (Option.bind (L_end g t' w') fun p200 => Option.bind (GW_load p200.1 g v d y p200.2.1) fun p203 => some (p203.1, p203.2.1, p203.2.2.1, p203.2.2.2.1, p203.2.2.2.2.1, p203.2.2.2.2.2, p200.2.2)) ∧ TX t' w' (T ++ lT Lm k q) := by
  obtain ⟨r1, r2, r3, r4, r5, r6⟩ := hr
  intro q
  induction q with
  | zero =>
    intro k m T t w hk hm hT hl
    obtain ⟨m, rfl⟩ : ∃ q, m = q + 1 := ⟨m - 1, by omega⟩
    refine ⟨t, w, ?_, by show TX t w (T ++ []); rw [List.append_nil]; exact hT⟩
    rw [L_tell_137, r1, if_pos (I_le_t (by omega) (by omega) (by omega))]
  | succ q ih =>
    intro k m T t w hk hm hT hl
    obtain ⟨m, rfl⟩ : ∃ q, m = q + 1 := ⟨m - 1, by omega⟩
    obtain ⟨a1, a2, a3⟩ := r6 k (by omega)
    by_cases c : Lm k = 99
    · obtain ⟨t2, w2, e3, e4⟩ := ih (k + 1) m T t w (by omega) (by omega) hT (by omega)
      refine ⟨t2, w2, ?_, ?_⟩
      · rw [L_tell_137, r1, if_neg (I_le_f (by omega) (by omega) (by omega)), gd_I (by omega) (by omega) (by omega), I_clamp k (by omega), gd_d (by omega), gd_d (by omega), a1, gd_t (by decide), cl0, a2, if_pos (by rw [c]; rfl), nmL_e, I_succ]
        exact e3
      · have : lT Lm k (q + 1) = lT Lm (k + 1) q := by
          have := lT_s (Lm := Lm) c q []
          rw [List.append_nil, List.append_nil] at this
          exact this
        rw [this]
        exact e4
    · have d1 := dgt_len k
      have d2 := dgt_len (Lm k)
      obtain ⟨t1, w1, f1, g1⟩ := with_q (g := g) hT (i := 23) (by decide) s23 (by decide) (x := k) (by omega) (by show T.length + 6 + 2 ≤ 599; omega)
      have l1 : (T ++ ((txLimit ++ [32]) ++ dgt k)).length = T.length + (6 + (dgt k).length) := by rw [List.length_append, List.length_append]; rfl
      obtain ⟨t2, w2, f2, g2⟩ := with_q (g := g) g1 (i := 18) (by decide) s18 (by decide) (x := Lm k) (by omega) (by rw [l1]; show T.length + (6 + (dgt k).length) + 1 + 2 ≤ 599; omega)
      have l2 : ((T ++ ((txLimit ++ [32]) ++ dgt k)) ++ ([32] ++ dgt (Lm k))).length = T.length + (6 + (dgt k).length) + (1 + (dgt (Lm k)).length) := by rw [List.length_append, l1, List.length_append]; rfl
      obtain ⟨t3, w3, f3, g3⟩ := add_q (g := g) g2 (b := 59) (by omega) (by omega)
      obtain ⟨t4, w4, e3, e4⟩ := ih (k + 1) m _ t3 w3 (by omega) (by omega) g3 (by rw [List.length_append, l2]; show T.length + (6 + (dgt k).length) + (1 + (dgt (Lm k)).length) + 1 + 12 * q ≤ 500; omega)
      refine ⟨t4, w4, ?_, ?_⟩
      · rw [L_tell_137, r1, if_neg (I_le_f (by omega) (by omega) (by omega)), gd_I (by omega) (by omega) (by omega), I_clamp k (by omega), gd_d (by omega), gd_d (by omega), a1, gd_t (by decide), cl0, a2, if_neg (show ¬ I (Lm k : Int) = 99 from I_ne (b := 99) (by omega) (by omega) (by omega) (by omega) (by omega)), f1, bind_s]
        dsimp only
        rw [f2, bind_s]
        dsimp only
        rw [show (59 : Int32) = I ((59 : Nat) : Int) from rfl, f3, bind_s, nmL_e, I_succ]
        exact e3
      · have : lT Lm k (q + 1) = txLimit ++ (32 :: (dgt k ++ (32 :: (dgt (Lm k) ++ (59 :: lT Lm (k + 1) q))))) := by
          have := lT_e (Lm := Lm) c q []
          rw [List.append_nil, List.append_nil] at this
          exact this
        rw [this]
        have e : (((T ++ ((txLimit ++ [32]) ++ dgt k)) ++ ([32] ++ dgt (Lm k))) ++ [59]) ++ lT Lm (k + 1) q = T ++ (txLimit ++ (32 :: (dgt k ++ (32 :: (dgt (Lm k) ++ (59 :: lT Lm (k + 1) q)))))) := by
          simp only [List.append_assoc, List.cons_append, List.nil_append]
        rw [← e]
        exact e4
/-- the guards are told -/
theorem tell90 (hw : WC o nw W nG P Wk) (hG4 : nG ≤ 4) (hF : ∀ q, q < nG → F q = I (φ q : Int) ∧ φ q < P q) (hP4 : ∀ q, q < nG → P q ≤ 4) (v d : HouseV) (y : HistV) : ∀ (q k m : Nat) (T : List Nat) (t : ToksV) (w : Nat → Int32), nG = k + q → q < m → TX t w T → T.length + 27 * q ≤ 400 → ∃ t' w', L_tell_90 o nd D nr Rw nw W F m (I (k : Int)) g v d y t w = L_tell_137 o nd D nr Rw nw W F FU 0 g v d y t' w' ∧ TX t' w' (T ++ gT P φ Wk k q) := by
  obtain ⟨r1, r2, r3, r4⟩ := hw
  intro q
  induction q with
  | zero =>
    intro k m T t w hk hm hT hl
    obtain ⟨m, rfl⟩ : ∃ q, m = q + 1 := ⟨m - 1, by omega⟩
    refine ⟨t, w, ?_, by show TX t w (T ++ []); rw [List.append_nil]; exact hT⟩
    rw [L_tell_90, r1, if_pos (I_le_t (by omega) (by omega) (by omega))]
  | succ q ih =>
    intro k m T t w hk hm hT hl
    obtain ⟨m, rfl⟩ : ∃ q, m = q + 1 := ⟨m - 1, by omega⟩
    obtain ⟨a1, a2, a3, a4⟩ := r4 k (by omega)
    obtain ⟨b1, b2⟩ := hF k (by omega)
    have b3 := hP4 k (by omega)
    have d1 := wkT_len (Wk k) 0 (P k)
    have d2 := phT_len (φ k)
    obtain ⟨t1, w1, f1, g1⟩ := word_q (g := g) hT (i := 21) (by decide) s21 (by decide) (by show T.length + 5 ≤ 599; omega)
    have l1 : (T ++ txGuard).length = T.length + 5 := by rw [List.length_append]; rfl
    obtain ⟨t2, w2, f2, g2⟩ := walkOf_q (g := g) (P := P k) (φ := φ k) (Wv := W.2.2 k) (W' := Wk k) (fun s hs => ⟨(a4 s hs).1, by have := (a4 s hs).2; omega⟩) (by omega) (by omega) g1 (by omega)
    have l2 : ((T ++ txGuard) ++ (wkT (Wk k) 0 (P k) ++ phT (φ k))).length = T.length + 5 + ((wkT (Wk k) 0 (P k)).length + (phT (φ k)).length) := by rw [List.length_append, l1, List.length_append]
    obtain ⟨t3, w3, f3, g3⟩ := add_q (g := g) g2 (b := 59) (by omega) (by omega)
    obtain ⟨t4, w4, e3, e4⟩ := ih (k + 1) m _ t3 w3 (by omega) (by omega) g3 (by rw [List.length_append, l2]; show T.length + 5 + ((wkT (Wk k) 0 (P k)).length + (phT (φ k)).length) + 1 + 27 * q ≤ 400; omega)
    refine ⟨t4, w4, ?_, ?_⟩
    · rw [L_tell_90, r1, if_neg (I_le_f (by omega) (by omega) (by omega)), f1, bind_s]
      dsimp only
      rw [gd_I (by omega) (by omega) (by omega), I_clamp k (by omega), gd_d (by omega), gd_d (by omega), a1, b1, f2, bind_s]
      dsimp only
      rw [show (59 : Int32) = I ((59 : Nat) : Int) from rfl, f3, bind_s, nmL_e, I_succ]
      exact e3
    · have : gT P φ Wk k (q + 1) = txGuard ++ (wkT (Wk k) 0 (P k) ++ (phT (φ k) ++ (59 :: gT P φ Wk (k + 1) q))) := by
        have := gT_e (P := P) (φ := φ) (Wk := Wk) k q []
        rw [List.append_nil, List.append_nil] at this
        exact this
      rw [this]
      have e : (((T ++ txGuard) ++ (wkT (Wk k) 0 (P k) ++ phT (φ k))) ++ [59]) ++ gT P φ Wk (k + 1) q = T ++ (txGuard ++ (wkT (Wk k) 0 (P k) ++ (phT (φ k) ++ (59 :: gT P φ Wk (k + 1) q)))) := by
        simp only [List.append_assoc, List.cons_append, List.nil_append]
      rw [← e]
      exact e4
/-- the doors are told -/
theorem tell20 (hd : DC o nd D nD A B O) (hD10 : nD ≤ 20) (v d : HouseV) (y : HistV) : ∀ (q k m : Nat) (T : List Nat) (t : ToksV) (w : Nat → Int32), nD = k + q → q < m → TX t w T → T.length + 18 * q ≤ 400 → ∃ t' w', L_tell_20 o nd D nr Rw nw W F m (I (k : Int)) g v d y t w = L_tell_90 o nd D nr Rw nw W F FU 0 g v d y t' w' ∧ TX t' w' (T ++ dT A B O k q) := by
  obtain ⟨r1, r2, r3, r4⟩ := hd
  intro q
  induction q with
  | zero =>
    intro k m T t w hk hm hT hl
    obtain ⟨m, rfl⟩ : ∃ q, m = q + 1 := ⟨m - 1, by omega⟩
    refine ⟨t, w, ?_, by show TX t w (T ++ []); rw [List.append_nil]; exact hT⟩
    rw [L_tell_20, r1, if_pos (I_le_t (by omega) (by omega) (by omega))]
  | succ q ih =>
    intro k m T t w hk hm hT hl
    obtain ⟨m, rfl⟩ : ∃ q, m = q + 1 := ⟨m - 1, by omega⟩
    obtain ⟨a1, a2, a3, a4, a5, a6⟩ := r4 k (by omega)
    have d1 := dgt_len (A k)
    have d2 := dgt_len (B k)
    obtain ⟨t1, w1, f1, g1⟩ := with_q (g := g) hT (i := 17) (by decide) s17 (by decide) (x := A k) (by omega) (by show T.length + 5 + 2 ≤ 599; omega)
    have l1 : (T ++ ((txDoor ++ [32]) ++ dgt (A k))).length = T.length + (5 + (dgt (A k)).length) := by rw [List.length_append, List.length_append]; rfl
    obtain ⟨t2, w2, f2, g2⟩ := with_q (g := g) g1 (i := 18) (by decide) s18 (by decide) (x := B k) (by omega) (by rw [l1]; show T.length + (5 + (dgt (A k)).length) + 1 + 2 ≤ 599; omega)
    have l2 : ((T ++ ((txDoor ++ [32]) ++ dgt (A k))) ++ ([32] ++ dgt (B k))).length = T.length + (5 + (dgt (A k)).length) + (1 + (dgt (B k)).length) := by rw [List.length_append, l1, List.length_append]; rfl
    have eT : ∀ S, ((T ++ ((txDoor ++ [32]) ++ dgt (A k))) ++ ([32] ++ dgt (B k))) ++ S = T ++ (txDoor ++ (32 :: (dgt (A k) ++ (32 :: (dgt (B k) ++ S))))) := doorT_eq T (A k) (B k)
    have edT : dT A B O k (q + 1) = txDoor ++ (32 :: (dgt (A k) ++ (32 :: (dgt (B k) ++ (semT (O k) ++ dT A B O (k + 1) q))))) := by
      have := dT_e (A := A) (B := B) (O := O) k q []
      rw [List.append_nil, List.append_nil] at this
      exact this
    have main : ∀ (i : Nat), stOK i = true → stL i = (semT (O k)).map (fun b : Nat => I (b : Int)) → (semT (O k)).length ≤ 8 → (∀ b ∈ semT (O k), b < 128) → ∃ t' w', L_tell_79 o nd D nr Rw nw W F (fun (x3 : Int32) (v0 : GWV) (v1 : HouseV) (v2 : HouseV) (v3 : HistV) (v4 : ToksV) (v6 : Nat → Int32) => L_tell_20 o nd D nr Rw nw W F m x3 v0 v1 v2 v3 v4 v6) (I (k : Int)) i g v d y t2 w2 = L_tell_90 o nd D nr Rw nw W F FU 0 g v d y t' w' ∧ TX t' w' (T ++ dT A B O k (q + 1)) := by
      intro i i1 i2 i3 i4
      obtain ⟨t3, w3, f3, g3⟩ := word_q (g := g) g2 (i := i) i1 i2 i4 (by omega)
      obtain ⟨t4, w4, e3, e4⟩ := ih (k + 1) m _ t3 w3 (by omega) (by omega) g3 (by rw [List.length_append, l2]; omega)
      refine ⟨t4, w4, ?_, ?_⟩
      · unfold L_tell_79
        rw [f3, bind_s, nmL_e, I_succ]
        exact e3
      · rw [edT, ← eT, ← List.append_assoc]
        exact e4
    cases hO : O k
    · rw [hO] at main a4
      obtain ⟨t4, w4, e3, e4⟩ := main 20 (by decide) s20 (by decide) (by decide)
      refine ⟨t4, w4, ?_, e4⟩
      rw [L_tell_20, r1, if_neg (I_le_f (by omega) (by omega) (by omega)), gd_I (by omega) (by omega) (by omega), I_clamp k (by omega), gd_d (by omega), gd_d (by omega), a1, gd_t (by decide), cl0, a2, f1, bind_s]
      dsimp only
      rw [gd_t (by decide), cl1, a3, f2, bind_s]
      dsimp only
      rw [gd_t (by decide), cl2, a4, if_neg (by decide)]
      exact e3
    · rw [hO] at main a4
      obtain ⟨t4, w4, e3, e4⟩ := main 19 (by decide) s19 (by decide) (by decide)
      refine ⟨t4, w4, ?_, e4⟩
      rw [L_tell_20, r1, if_neg (I_le_f (by omega) (by omega) (by omega)), gd_I (by omega) (by omega) (by omega), I_clamp k (by omega), gd_d (by omega), gd_d (by omega), a1, gd_t (by decide), cl0, a2, f1, bind_s]
      dsimp only
      rw [gd_t (by decide), cl1, a3, f2, bind_s]
      dsimp only
      rw [gd_t (by decide), cl2, a4, if_pos (by decide)]
      exact e3
/-- a house is told -/
theorem tell_text (h : OC o nd D nr Rw nw W F nR nD nG A B O Lm P φ Wk) (hT : TX t w []) (v d : HouseV) (y : HistV) : ∃ t' w', L_tell g v d y t w o nd D nr Rw nw W F = (Option.bind (L_end g t' w') fun p200 => Option.bind (GW_load p200.1 g v d y p200.2.1) fun p203 => some (p203.1, p203.2.1, p203.2.2.1, p203.2.2.2.1, p203.2.2.2.2.1, p203.2.2.2.2.2, p200.2.2)) ∧ TX t' w' (hsT nR nD nG A B O Lm P φ Wk) ∧ (hsT nR nD nG A B O Lm P φ Wk).length ≤ 400 := by
  obtain ⟨hd, hr, hw, hF, h10, h4, hdd, hgg⟩ := h
  obtain ⟨r1, r2, r3, r4, r5, r6⟩ := id hr
  have d0 := dgt_len nR
  obtain ⟨t1, w1, f1, g1⟩ := with_q (g := g) hT (i := 16) (by decide) s16 (by decide) (x := nR) (by omega) (by show 0 + 6 + 2 ≤ 599; omega)
  have l1 : ([] ++ ((txHouse ++ [32]) ++ dgt nR)).length = 6 + (dgt nR).length := by rw [List.nil_append, List.length_append]; rfl
  obtain ⟨t2, w2, f2, g2⟩ := add_q (g := g) g1 (b := 59) (by omega) (by omega)
  have l2 : (([] ++ ((txHouse ++ [32]) ++ dgt nR)) ++ [59]).length = 6 + (dgt nR).length + 1 := by rw [List.length_append, l1]; rfl
  obtain ⟨t3, w3, e3, g3⟩ := tell20 (g := g) (nr := nr) (Rw := Rw) (nw := nw) (W := W) (F := F) hd (by omega) v d y nD 0 FU _ t2 w2 (by omega) (by unfold FU; omega) g2 (by omega)
  have m1 := dT_len (A := A) (B := B) (O := O) 0 nD
  obtain ⟨t4, w4, e4, g4⟩ := tell90 (g := g) (nd := nd) (D := D) (nr := nr) (Rw := Rw) hw h4 hF (fun q hq => (hgg q hq).2.1) v d y nG 0 FU _ t3 w3 (by omega) (by unfold FU; omega) g3 (by rw [List.length_append]; omega)
  -- guards' length
  have m2 : (gT P φ Wk 0 nG).length ≤ 27 * nG := by
    have hP' : ∀ (q k : Nat), k + q ≤ nG → (gT P φ Wk k q).length ≤ 27 * q := by
      intro q
      induction q with
      | zero => intro k _; exact Nat.zero_le _
      | succ q ih =>
        intro k hk
        have h1 := ih (k + 1) (by omega)
        have h2 := wkT_len (Wk k) 0 (P k)
        have h3 := phT_len (φ k)
        have h4 := (hgg k (by omega)).2.1
        show (grdT (P k) (φ k) (Wk k) ++ gT P φ Wk (k + 1) q).length ≤ _
        unfold grdT
        rw [List.length_append, List.length_append, List.length_append, List.length_append]
        show 5 + ((wkT (Wk k) 0 (P k)).length + ((phT (φ k)).length + 1)) + (gT P φ Wk (k + 1) q).length ≤ 27 * (q + 1)
        omega
    exact hP' nG 0 (by omega)
  obtain ⟨t5, w5, e5, g5⟩ := tell137 (g := g) (nd := nd) (D := D) (nw := nw) (W := W) (F := F) hr v d y nR 0 FU _ t4 w4 (by omega) (by unfold FU; omega) g4 (by rw [List.length_append, List.length_append]; omega)
  have m3 := lT_len (Lm := Lm) 0 nR
  have eH : (((([] ++ ((txHouse ++ [32]) ++ dgt nR)) ++ [59]) ++ dT A B O 0 nD) ++ gT P φ Wk 0 nG) ++ lT Lm 0 nR = hsT nR nD nG A B O Lm P φ Wk := by
    unfold hsT
    simp only [List.append_assoc, List.cons_append, List.nil_append]
  refine ⟨t5, w5, ?_, by rw [← eH]; exact g5, by rw [← eH, List.length_append, List.length_append, List.length_append]; omega⟩
  unfold L_tell
  rw [r1, f1, bind_s]
  dsimp only
  rw [show (59 : Int32) = I ((59 : Nat) : Int) from rfl, f2, bind_s]
  dsimp only
  exact e3.trans (e4.trans e5)
end TELLX
