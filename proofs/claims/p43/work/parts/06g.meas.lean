section MEAS
/-- the room r of the sightings s stands at x -/
def SR (s : SightV) (r : Nat) (x : CS) : Prop := Sight_first s r = I x.1 ∧ Sight_last s r = I x.2.1 ∧ Sight_gaps s r = I x.2.2.1 ∧ Sight_gapStarts s r = I x.2.2.2.1 ∧ Sight_seen s r = I x.2.2.2.2
theorem upd_n {f : Nat → Int32} {i j : Nat} {x : Int32} (h : j ≠ i) : upd f i x j = f j := by rw [upd_e, if_neg h]
theorem upd_i {f : Nat → Int32} {i : Nat} {x : Int32} : upd f i x i = x := by rw [upd_e, if_pos rfl]
theorem seeRoom_s {s : SightV} {r0 t : Nat} {X : Nat → CS} (hr : r0 < 12) (ht : t < 100000) (hs : ∀ r, r < 12 → SR s r (X r)) (hx : cok ((t : Int) + 1) (X r0)) : ∃ s', Sight_seeRoom (I (r0 : Int)) (I (t : Int)) s = some s' ∧ (∀ r, r < 12 → SR s' r (if r = r0 ∧ (X r0).2.1 ≠ (t : Int) then cstep (t : Int) (X r0) else X r)) ∧ Sight_steps s' = Sight_steps s ∧ Sight_worst s' = Sight_worst s ∧ Sight_stamp s' = Sight_stamp s := by
  obtain ⟨e1, e2, e3, e4, e5⟩ := hs r0 hr
  have b : -1 ≤ (X r0).2.1 ∧ (X r0).2.1 ≤ t ∧ 0 ≤ (X r0).2.2.1 ∧ (X r0).2.2.1 ≤ t ∧ 0 ≤ (X r0).2.2.2.2 ∧ (X r0).2.2.2.2 ≤ t + 1 := by
    rcases hx with h | h <;> omega
  have tail : ∀ s1 : SightV, Sight_last s1 = Sight_last s → Sight_seen s1 = Sight_seen s → Sight_seeRoom_90 (I (r0 : Int)) (I (t : Int)) s1 = some (Sight_set_seen (Sight_set_last s1 (upd (Sight_last s1) r0 (I (t : Int)))) (upd (Sight_seen s1) r0 (I ((X r0).2.2.2.2 + 1)))) := by
    intro s1 h1 h2
    unfold Sight_seeRoom_90
    rw [gd_I (by omega) (by omega) (by omega), nmL_e, nmL_e, I_clamp r0 (by omega)]
    show some (Sight_set_seen _ (upd (Sight_seen s1) r0 (Sight_seen s1 r0 + 1))) = _
    rw [h2, e5, I1, I_add]
  unfold Sight_seeRoom
  rw [I_zero, if_neg (I_lt_f (by omega) (by omega) (by omega)), I12, if_neg (I_le_f (by omega) (by omega) (by omega)), gd_I (by omega) (by omega) (by omega), I_clamp r0 (by omega), e2]
  by_cases c0 : (X r0).2.1 = (t : Int)
  · rw [if_pos (by rw [c0])]
    exact ⟨s, rfl, fun r h => by rw [if_neg (fun z => z.2 c0)]; exact hs r h, rfl, rfl, rfl⟩
  · rw [if_neg (I_ne c0 (by omega) (by omega) (by omega) (by omega)), Im1]
    by_cases c1 : (X r0).2.1 = -1
    · rw [if_pos (by rw [c1]), nmL_e, tail (Sight_set_first s (upd (Sight_first s) r0 (I (t : Int)))) rfl rfl]
      refine ⟨_, rfl, fun r h => ?_, rfl, rfl, rfl⟩
      by_cases hrr : r = r0
      · subst hrr
        rw [if_pos ⟨rfl, c0⟩, cstep, if_pos c1]
        exact ⟨upd_i, upd_i, e3, e4, upd_i⟩
      · rw [if_neg (fun z => hrr z.1)]
        obtain ⟨f1, f2, f3, f4, f5⟩ := hs r h
        exact ⟨(upd_n hrr).trans f1, (upd_n hrr).trans f2, f3, f4, (upd_n hrr).trans f5⟩
    · rw [if_neg (I_ne c1 (by omega) (by omega) (by omega) (by omega)), I_sub, I1, I_sub, e3]
      by_cases c2 : (t : Int) - (X r0).2.1 - 1 ≤ (X r0).2.2.1
      · rw [if_pos (I_le_t c2 (by omega) (by omega)), tail s rfl rfl]
        refine ⟨_, rfl, fun r h => ?_, rfl, rfl, rfl⟩
        by_cases hrr : r = r0
        · subst hrr
          rw [if_pos ⟨rfl, c0⟩, cstep, if_neg c1, if_pos c2]
          exact ⟨e1, upd_i, e3, e4, upd_i⟩
        · rw [if_neg (fun z => hrr z.1)]
          obtain ⟨f1, f2, f3, f4, f5⟩ := hs r h
          exact ⟨f1, (upd_n hrr).trans f2, f3, f4, (upd_n hrr).trans f5⟩
      · rw [if_neg (I_le_f (by omega) (by omega) (by omega)), nmL_e, nmL_e]
        rw [show Sight_last (Sight_set_gaps s (upd (Sight_gaps s) r0 (I ((t : Int) - (X r0).2.1 - 1)))) r0 = I (X r0).2.1 from e2, I_add, tail (Sight_set_gapStarts (Sight_set_gaps s (upd (Sight_gaps s) r0 (I ((t : Int) - (X r0).2.1 - 1)))) (upd (Sight_gapStarts (Sight_set_gaps s (upd (Sight_gaps s) r0 (I ((t : Int) - (X r0).2.1 - 1))))) r0 (I ((X r0).2.1 + 1)))) rfl rfl]
        refine ⟨_, rfl, fun r h => ?_, rfl, rfl, rfl⟩
        by_cases hrr : r = r0
        · subst hrr
          rw [if_pos ⟨rfl, c0⟩, cstep, if_neg c1, if_neg c2]
          exact ⟨e1, upd_i, upd_i, upd_i, upd_i⟩
        · rw [if_neg (fun z => hrr z.1)]
          obtain ⟨f1, f2, f3, f4, f5⟩ := hs r h
          exact ⟨f1, (upd_n hrr).trans f2, (upd_n hrr).trans f3, (upd_n hrr).trans f4, (upd_n hrr).trans f5⟩
/-- is the room r seen at the minute t, by one of the first k guards -/
def seenK (v : HouseV) (k r t : Nat) : Bool := (ors (fun g => 1 <<< place v g t) k).testBit r
theorem seenK_succ (v : HouseV) (k r t : Nat) : seenK v (k + 1) r t = (seenK v k r t || decide (place v k t = r)) := by
  unfold seenK
  rw [ors, Nat.testBit_or, tb_one]
def Sg (v : HouseV) (r t : Nat) : Bool := (seen v t).testBit r
theorem cstep_last (t : Int) (x : CS) : (cstep t x).2.1 = t := by
  unfold cstep
  split
  · rfl
  · split <;> rfl
/-- within the minute t, behind the first k guards -/
def atK (v : HouseV) (k t r : Nat) : CS := bif seenK v k r t then cstep (t : Int) (cst (Sg v r) t) else cst (Sg v r) t
theorem cst_last_lt (S : Nat → Bool) (t : Nat) : (cst S t).2.1 < (t : Int) := by
  rcases cst_ok S t with h | h <;> omega
theorem atK_ok (v : HouseV) (k t r : Nat) : cok ((t : Int) + 1) (atK v k t r) := by
  unfold atK
  cases seenK v k r t
  · exact cok_mono (cst_ok _ t) (by omega)
  · exact cok_step (by omega) (cst_ok _ t)
theorem atK_succ (v : HouseV) (k t r : Nat) : atK v (k + 1) t r = if r = place v k t ∧ (atK v k t (place v k t)).2.1 ≠ (t : Int) then cstep (t : Int) (atK v k t (place v k t)) else atK v k t r := by
  by_cases h : r = place v k t
  · subst h
    unfold atK
    rw [seenK_succ, decide_eq_true rfl, Bool.or_true, bif_t]
    cases hs : seenK v k (place v k t) t
    · rw [bif_f, if_pos ⟨rfl, fun z => absurd z (by have := cst_last_lt (Sg v (place v k t)) t; omega)⟩]
    · rw [bif_t, if_neg (fun z => z.2 (cstep_last _ _))]
  · rw [if_neg (fun z => h z.1)]
    unfold atK
    rw [seenK_succ, decide_eq_false (fun z => h z.symm), Bool.or_false]
/-- the steps: the first k guards are a step further on -/
def stp (v : HouseV) (g t : Nat) : Nat := (t + hF v g) % hP v g
theorem stp_place {v : HouseV} {g : Nat} (t : Nat) : place v g t = hW v g (stp v g t) := by
  unfold place stp
  rw [Nat.mod_add_mod]
theorem stp_succ {v : HouseV} {g : Nat} (hg : 1 ≤ hP v g) (t : Nat) : stp v g (t + 1) = if stp v g t + 1 < hP v g then stp v g t + 1 else 0 := by
  unfold stp
  have hm : (t + hF v g) % hP v g < hP v g := Nat.mod_lt _ hg
  rw [show t + 1 + hF v g = (t + hF v g) + 1 by omega, ← Nat.mod_add_mod]
  split
  · exact Nat.mod_eq_of_lt (by omega)
  · rw [show (t + hF v g) % hP v g + 1 = hP v g by omega, Nat.mod_self]
theorem seeMinute_loop {v : HouseV} (hn : WFn v) (hw : WFG v) {t : Nat} (ht : t < 100000) : ∀ (m k n : Nat) (s : SightV), hG v = k + m → m < n → (∀ r, r < 12 → SR s r (atK v k t r)) → (∀ g, g < hG v → Sight_steps s g = I ((if g < k then stp v g (t + 1) else stp v g t : Nat) : Int)) → ∃ s', Sight_seeMinute_2 (I (t : Int)) v n (I (k : Int)) s = some s' ∧ (∀ r, r < 12 → SR s' r (atK v (hG v) t r)) ∧ (∀ g, g < hG v → Sight_steps s' g = I ((stp v g (t + 1) : Nat) : Int)) ∧ Sight_worst s' = Sight_worst s ∧ Sight_stamp s' = Sight_stamp s := by
  have hG4 : hG v ≤ 4 := hn.2.2.2.2.2.2.1
  have hR12 : hR v ≤ 12 := hn.2.2.1
  have eG : House_guards v = I (hG v) := hn.2.2.2.2.2.1
  intro m
  induction m with
  | zero =>
    intro k n s hk hm h1 h2
    obtain ⟨n, rfl⟩ : ∃ q, n = q + 1 := ⟨n - 1, by omega⟩
    have hkk : k = hG v := by omega
    subst hkk
    refine ⟨s, ?_, h1, fun g hg => ?_, rfl, rfl⟩
    · rw [Sight_seeMinute_2, eG, if_pos (I_le_t (by omega) (by omega) (by omega))]
    · rw [h2 g hg, if_pos hg]
  | succ m ih =>
    intro k n s hk hm h1 h2
    obtain ⟨n, rfl⟩ : ∃ q, n = q + 1 := ⟨n - 1, by omega⟩
    have hwk := hw k (by omega)
    have hpl := place_lt hwk t
    have hst : stp v k t < hP v k := Nat.mod_lt _ hwk.2.1
    have hP10 : hP v k ≤ 10 := hwk.1.2.1
    rw [Sight_seeMinute_2, eG, if_neg (I_le_f (by omega) (by omega) (by omega)), I4, if_neg (I_le_f (by omega) (by omega) (by omega)), gd_I (by omega) (by omega) (by omega), I_clamp k (by omega), h2 k (by omega), if_neg (Nat.lt_irrefl k), walkRoom_s hn (by omega) hwk.1 (by omega), if_pos hst, bind_s, ← stp_place]
    obtain ⟨s1, es1, hs1, hst1, hwo, hsm⟩ := seeRoom_s (r0 := place v k t) (by omega) ht h1 (atK_ok v k t _)
    rw [es1, bind_s, nmL_e, hst1, h2 k (by omega), if_neg (Nat.lt_irrefl k), I_succ]
    have hsr : ∀ s2 : SightV, Sight_first s2 = Sight_first s1 → Sight_last s2 = Sight_last s1 → Sight_gaps s2 = Sight_gaps s1 → Sight_gapStarts s2 = Sight_gapStarts s1 → Sight_seen s2 = Sight_seen s1 → ∀ r, r < 12 → SR s2 r (atK v (k + 1) t r) := by
      intro s2 a1 a2 a3 a4 a5 r hr
      have := hs1 r hr
      rw [← atK_succ] at this
      unfold SR at this ⊢
      rw [a1, a2, a3, a4, a5]
      exact this
    rw [show House_periods v k = I (hP v k) from hwk.1.1]
    have esx : Sight_steps (Sight_set_steps s1 (upd (Sight_steps s) k (I ((stp v k t + 1 : Nat) : Int)))) k = I ((stp v k t + 1 : Nat) : Int) := upd_i
    rw [esx]
    by_cases hlt : stp v k t + 1 < hP v k
    · rw [if_pos (I_lt_t (by omega) (by omega) (by omega)), nmL_e, I_succ]
      obtain ⟨s', e', p1, p2, p3, p4⟩ := ih (k + 1) n _ (by omega) (by omega) (hsr (Sight_set_steps s1 (upd (Sight_steps s) k (I ((stp v k t + 1 : Nat) : Int)))) rfl rfl rfl rfl rfl) (fun g hg => by
        show upd (Sight_steps s) k _ g = _
        by_cases hgk : g = k
        · subst hgk; rw [upd_i, if_pos (by omega), stp_succ hwk.2.1, if_pos hlt]
        · rw [upd_n hgk, h2 g hg]
          by_cases hg2 : g < k
          · rw [if_pos hg2, if_pos (by omega)]
          · rw [if_neg hg2, if_neg (by omega)])
      exact ⟨s', e', p1, p2, p3.trans hwo, p4.trans hsm⟩
    · rw [if_neg (I_lt_f (by omega) (by omega) (by omega)), nmL_e, nmL_e, I_succ]
      obtain ⟨s', e', p1, p2, p3, p4⟩ := ih (k + 1) n _ (by omega) (by omega) (hsr (Sight_set_steps (Sight_set_steps s1 (upd (Sight_steps s) k (I ((stp v k t + 1 : Nat) : Int)))) (upd (upd (Sight_steps s) k (I ((stp v k t + 1 : Nat) : Int))) k 0)) rfl rfl rfl rfl rfl) (fun g hg => by
        show upd (upd (Sight_steps s) k _) k 0 g = _
        by_cases hgk : g = k
        · subst hgk; rw [upd_i, if_pos (by omega), stp_succ hwk.2.1, if_neg hlt]; rfl
        · rw [upd_n hgk, upd_n hgk, h2 g hg]
          by_cases hg2 : g < k
          · rw [if_pos hg2, if_pos (by omega)]
          · rw [if_neg hg2, if_neg (by omega)])
      exact ⟨s', e', p1, p2, p3.trans hwo, p4.trans hsm⟩
theorem atK_all (v : HouseV) (t r : Nat) : atK v (hG v) t r = cst (Sg v r) (t + 1) := rfl
theorem atK_0 (v : HouseV) (t r : Nat) : atK v 0 t r = cst (Sg v r) t := by
  unfold atK seenK ors
  rw [Nat.zero_testBit, bif_f]
/-- the room r with its round closed -/
def SF (s : SightV) (r : Nat) (S : Nat → Bool) (n : Nat) : Prop := Sight_gaps s r = I (gapC S n) ∧ Sight_gapStarts s r = I (begC S n) ∧ Sight_seen s r = I (cntC S n)
theorem closeRound_s {s : SightV} {r0 n : Nat} {S : Nat → Bool} (hr : r0 < 12) (h1 : 1 ≤ n) (hn : n < 100000) (hs : SR s r0 (cst S n)) : ∃ s', Sight_closeRound (I (r0 : Int)) (I (n : Int)) s = some s' ∧ SF s' r0 S n ∧ (∀ r, r ≠ r0 → Sight_gaps s' r = Sight_gaps s r ∧ Sight_gapStarts s' r = Sight_gapStarts s r) ∧ Sight_seen s' = Sight_seen s ∧ Sight_first s' = Sight_first s ∧ Sight_last s' = Sight_last s ∧ Sight_worst s' = Sight_worst s ∧ Sight_stamp s' = Sight_stamp s := by
  obtain ⟨e1, e2, e3, e4, e5⟩ := hs
  have hc := cst_ok S n
  have hb1 := gapC_b S h1
  have hb2 := begC_b S h1
  unfold Sight_closeRound SF
  unfold gapC begC at *
  rw [I_zero, if_neg (I_lt_f (by omega) (by omega) (by omega)), I12, if_pos (I_lt_t (by omega) (by omega) (by omega)), gd_I (by omega) (by omega) (by omega), I_clamp r0 (by omega), e2, Im1]
  by_cases c1 : (cst S n).2.1 = -1
  · rw [if_pos (by rw [c1]), nmL_e, if_pos c1, if_pos c1]
    refine ⟨_, rfl, ⟨upd_i, ?_, e5⟩, fun r h => ⟨upd_n h, rfl⟩, rfl, rfl, rfl, rfl, rfl⟩
    rcases hc with h | h
    · show Sight_gapStarts s r0 = _
      rw [e4, h.2.2.2.1]
    · omega
  · have hc' : 0 ≤ (cst S n).1 ∧ (cst S n).1 ≤ (cst S n).2.1 ∧ (cst S n).2.1 < n ∧ 0 ≤ (cst S n).2.2.1 ∧ (cst S n).2.2.1 < n := by
      rcases hc with h | h <;> omega
    have hg : -1 ≤ (cst S n).2.2.2.1 ∧ (cst S n).2.2.2.1 ≤ n := by
      rcases hc with h | ⟨a1, a2, a3, a4, a5, a6, a7, -⟩
      · omega
      · by_cases h : (cst S n).2.2.1 = 0
        · rw [a6 h]; omega
        · have := a7 (by omega); omega
    rw [if_neg c1] at *
    rw [if_neg (I_ne c1 (by omega) (by omega) (by omega) (by omega)), nmL_e, e1, I_add, I_sub, I1, I_sub, I_add]
    have tail : ∀ st : Int, st = stC S n → ∃ s', Sight_closeRound_71 (I (r0 : Int)) (I (n : Int)) (I ((cst S n).1 + n - (cst S n).2.1 - 1)) (I st) s = some s' ∧ (Sight_gaps s' r0 = I (if (cst S n).2.2.1 < (cst S n).1 + n - (cst S n).2.1 - 1 then (cst S n).1 + n - (cst S n).2.1 - 1 else (cst S n).2.2.1) ∧ Sight_gapStarts s' r0 = I (if (cst S n).2.2.1 < (cst S n).1 + n - (cst S n).2.1 - 1 then stC S n else if 0 < (cst S n).1 + n - (cst S n).2.1 - 1 ∧ (cst S n).1 + n - (cst S n).2.1 - 1 = (cst S n).2.2.1 ∧ stC S n < (cst S n).2.2.2.1 then stC S n else (cst S n).2.2.2.1) ∧ Sight_seen s' r0 = I (cntC S n)) ∧ (∀ r, r ≠ r0 → Sight_gaps s' r = Sight_gaps s r ∧ Sight_gapStarts s' r = Sight_gapStarts s r) ∧ Sight_seen s' = Sight_seen s ∧ Sight_first s' = Sight_first s ∧ Sight_last s' = Sight_last s ∧ Sight_worst s' = Sight_worst s ∧ Sight_stamp s' = Sight_stamp s := by
      intro st hst
      have hstb : 0 ≤ st ∧ st ≤ n := by rw [hst]; unfold stC; split <;> omega
      have fin : Sight_closeRound_108 (I (r0 : Int)) (I (n : Int)) (I ((cst S n).1 + n - (cst S n).2.1 - 1)) (I st) s = some (Sight_set_gapStarts (Sight_set_gaps s (upd (Sight_gaps s) r0 (I ((cst S n).1 + n - (cst S n).2.1 - 1)))) (upd (Sight_gapStarts s) r0 (I st))) := by
        unfold Sight_closeRound_108
        rw [gd_I (by omega) (by omega) (by omega), nmL_e, nmL_e, I_clamp r0 (by omega)]
        rfl
      unfold Sight_closeRound_71
      rw [gd_I (by omega) (by omega) (by omega), I_clamp r0 (by omega), e3, e4]
      by_cases b1 : (cst S n).2.2.1 < (cst S n).1 + n - (cst S n).2.1 - 1
      · rw [if_pos (I_lt_t b1 (by omega) (by omega)), fin, if_pos b1, if_pos b1]
        exact ⟨_, rfl, ⟨upd_i, by rw [← hst]; exact upd_i, e5⟩, fun r h => ⟨upd_n h, upd_n h⟩, rfl, rfl, rfl, rfl, rfl⟩
      · rw [if_neg (I_lt_f (by omega) (by omega) (by omega)), if_neg b1, if_neg b1, I0]
        by_cases b2 : (cst S n).1 + n - (cst S n).2.1 - 1 ≤ 0
        · rw [if_pos (I_le_t b2 (by omega) (by omega)), if_neg (by omega)]
          exact ⟨s, rfl, ⟨e3, e4, e5⟩, fun r h => ⟨rfl, rfl⟩, rfl, rfl, rfl, rfl, rfl⟩
        · rw [if_neg (I_le_f (by omega) (by omega) (by omega))]
          by_cases b3 : (cst S n).1 + n - (cst S n).2.1 - 1 = (cst S n).2.2.1
          · rw [if_pos (by rw [b3])]
            by_cases b4 : (cst S n).2.2.2.1 ≤ st
            · rw [if_pos (I_le_t b4 (by omega) (by omega)), if_neg (by rw [← hst]; omega)]
              exact ⟨s, rfl, ⟨e3, e4, e5⟩, fun r h => ⟨rfl, rfl⟩, rfl, rfl, rfl, rfl, rfl⟩
            · rw [if_neg (I_le_f (by omega) (by omega) (by omega)), fin, if_pos (by rw [← hst]; omega)]
              exact ⟨_, rfl, ⟨by rw [← b3]; exact upd_i, by rw [← hst]; exact upd_i, e5⟩, fun r h => ⟨upd_n h, upd_n h⟩, rfl, rfl, rfl, rfl, rfl⟩
          · rw [if_neg (I_ne b3 (by omega) (by omega) (by omega) (by omega)), if_neg (fun h => b3 h.2.1)]
            exact ⟨s, rfl, ⟨e3, e4, e5⟩, fun r h => ⟨rfl, rfl⟩, rfl, rfl, rfl, rfl, rfl⟩
    rw [if_neg c1]
    by_cases c2 : (n : Int) ≤ (cst S n).2.1 + 1
    · rw [if_pos (I_le_t c2 (by omega) (by omega))]
      exact tail 0 (by unfold stC; rw [if_neg (by omega)])
    · rw [if_neg (I_le_f (by omega) (by omega) (by omega))]
      exact tail ((cst S n).2.1 + 1) (by unfold stC; rw [if_pos (by omega)])
end MEAS

