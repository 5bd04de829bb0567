section HISTX
variable {v w u : HouseV} {h : HistV} {e : Nat → HouseV} {s : HouseV}
theorem HC.trans (a : HC u w) (b : HC w v) : HC u v := by
  obtain ⟨a1, a2, a3, a4, a5, a6, a7, a8, a9, a10, a11⟩ := a
  obtain ⟨b1, b2, b3, b4, b5, b6, b7, b8, b9, b10, b11⟩ := b
  refine ⟨a1.trans b1, a2.trans b2, a3.trans b3, a4.trans b4, a5.trans b5, a6.trans b6, a7.trans b7, fun i hi => ⟨(a8 i hi).1.trans (b8 i hi).1, (a8 i hi).2.trans (b8 i hi).2⟩, fun i hi => ?_, fun i hi => ?_, fun i hi => (a11 i hi).trans (b11 i hi)⟩
  · obtain ⟨p1, p2, p3, p4, p5, p6⟩ := a9 i hi
    obtain ⟨q1, q2, q3, q4, q5, q6⟩ := b9 i hi
    exact ⟨p1.trans q1, p2.trans q2, p3.trans q3, p4.trans q4, p5.trans q5, p6.trans q6⟩
  · obtain ⟨p1, p2, p3⟩ := a10 i hi
    obtain ⟨q1, q2, q3⟩ := b10 i hi
    exact ⟨p1.trans q1, p2.trans q2, p3.trans q3⟩
theorem HC.symm (a : HC u w) : HC w u := by
  obtain ⟨a1, a2, a3, a4, a5, a6, a7, a8, a9, a10, a11⟩ := a
  refine ⟨a1.symm, a2.symm, a3.symm, a4.symm, a5.symm, a6.symm, a7.symm, fun i hi => ⟨(a8 i hi).1.symm, (a8 i hi).2.symm⟩, fun i hi => ?_, fun i hi => ?_, fun i hi => (a11 i hi).symm⟩
  · obtain ⟨p1, p2, p3, p4, p5, p6⟩ := a9 i hi
    exact ⟨p1.symm, p2.symm, p3.symm, p4.symm, p5.symm, p6.symm⟩
  · obtain ⟨p1, p2, p3⟩ := a10 i hi
    exact ⟨p1.symm, p2.symm, p3.symm⟩
/-- the history holds copies of so many houses, the most recent one first -/
def HQ (h : HistV) (e : Nat → HouseV) (c : Nat) (u : Nat → HouseV) : Prop := ∃ n : Nat, Hist_next h = I (n : Int) ∧ n < 10 ∧ Hist_count h = I (c : Int) ∧ c ≤ 10 ∧ ∀ i, i < c → HC (e ((n + 9 - i) % 10)) (u i)
/-- one more, ahead of the others -/
def psh (v : HouseV) (u : Nat → HouseV) : Nat → HouseV := fun i => if i = 0 then v else u (i - 1)
/-- the snapshot -/
def SVD (h : HistV) (s v0 : HouseV) : Prop := Hist_saved h = true ∧ HC s v0
variable {c : Nat} {U : Nat → HouseV}
theorem record_q (hh : HQ h e c U) (v : HouseV) : ∃ h' e', Hist_record h e v = some (h', e') ∧ HQ h' e' (min (c + 1) 10) (psh v U) ∧ Hist_saved h' = Hist_saved h := by
  obtain ⟨n, a1, a2, a3, a4, a6⟩ := hh
  obtain ⟨w, w1, w2⟩ := copyFrom_s (e n) v
  have hmin : imin (Hist_count h + 1) 10 = I ((min (c + 1) 10 : Nat) : Int) := by
    rw [a3, I_succ, I10, imin_I (by omega) (by omega) (by omega) (by omega)]
    congr 1
    omega
  have hrec : ∀ n' : Nat, n' = (n + 1) % 10 → ∃ h', Hist_record_64 v (I (n' : Int)) h (updH e n w) = some (h', updH e n w) ∧ HQ h' (updH e n w) (min (c + 1) 10) (psh v U) ∧ Hist_saved h' = Hist_saved h := by
    intro n' hn'
    refine ⟨Hist_set_count (Hist_set_next h (I (n' : Int))) (I ((min (c + 1) 10 : Nat) : Int)), ?_, ⟨n', rfl, by omega, rfl, by omega, fun i hi => ?_⟩, rfl⟩
    · rw [Hist_record_64, nmL_e, nmL_e, show Hist_count (Hist_set_next h (I (n' : Int))) = Hist_count h from rfl, hmin]
    · unfold psh
      by_cases hi0 : i = 0
      · subst hi0
        rw [show (n' + 9 - 0) % 10 = n by omega, updH_i, if_pos rfl]
        exact w2
      · rw [updH_n (show (n' + 9 - i) % 10 ≠ n by omega), show (n' + 9 - i) % 10 = (n + 9 - (i - 1)) % 10 by omega, if_neg hi0]
        exact a6 (i - 1) (by omega)
  unfold Hist_record
  rw [a1, if_neg (show ¬ I (n : Int) < 0 from I_lt_f (a := (n : Int)) (b := 0) (by omega) (by omega) (by omega)), I10, if_neg (I_le_f (by omega) (by omega) (by omega)), gd_I (by omega) (by omega) (by omega), I_clamp n (by omega), w1, bind_s, nmL_e, I_succ]
  by_cases hc : 10 ≤ n + 1
  · obtain ⟨h', r1, r2⟩ := hrec 0 (by omega)
    rw [if_pos (I_le_t (by omega) (by omega) (by omega))]
    exact ⟨h', _, r1, r2⟩
  · obtain ⟨h', r1, r2⟩ := hrec (n + 1) (by omega)
    rw [if_neg (I_le_f (by omega) (by omega) (by omega))]
    exact ⟨h', _, r1, r2⟩
/-- going back -/
theorem takeBack_q (hh : HQ h e c U) (v : HouseV) : (c = 0 ∧ Hist_takeBack h e v = some (false, h, v)) ∨ (∃ m h' w, c = m + 1 ∧ Hist_takeBack h e v = some (true, h', w) ∧ HC w (U 0) ∧ HQ h' e m (fun i => U (i + 1)) ∧ Hist_count h' = I (m : Int) ∧ Hist_saved h' = Hist_saved h) := by
  obtain ⟨n, a1, a2, a3, a4, a6⟩ := hh
  have htb : ∀ s0 : Int32, (s0 = I (((n + 9) % 10 : Nat) : Int)) → Hist_takeBack h e v = Hist_takeBack_18 e s0 h v := by
    intro s0 h0
    unfold Hist_takeBack
    rw [a1]
    by_cases hn0 : n = 0
    · subst hn0
      rw [if_pos (show I ((0 : Nat) : Int) ≤ (0 : Int32) from I_le_t (a := 0) (b := 0) (by omega) (by omega) (by omega)), h0]
      rfl
    · rw [if_neg (show ¬ I (n : Int) ≤ (0 : Int32) from I_le_f (a := (n : Int)) (b := 0) (by omega) (by omega) (by omega)), h0, I1, I_sub, show (((n + 9) % 10 : Nat) : Int) = (n : Int) - 1 by omega]
  rw [htb _ rfl]
  by_cases hc : c = 0
  · subst hc
    refine Or.inl ⟨rfl, ?_⟩
    rw [Hist_takeBack_18, a3, if_pos Iz]
  · obtain ⟨m, rfl⟩ : ∃ m, c = m + 1 := ⟨c - 1, by omega⟩
    right
    have hne : ∀ x : Int32, x = I ((m + 1 : Nat) : Int) → ¬ x = 0 := fun x hx => by rw [hx]; exact I_ne (a := ((m + 1 : Nat) : Int)) (b := 0) (by omega) (by omega) (by omega) (by omega) (by omega)
    obtain ⟨w, w1, w2⟩ := copyFrom_s v (e ((n + 9) % 10))
    refine ⟨m, Hist_set_count (Hist_set_next h (I (((n + 9) % 10 : Nat) : Int))) (I (m : Int)), w, rfl, ?_, w2.trans (a6 0 (by omega)), ⟨(n + 9) % 10, rfl, by omega, rfl, by omega, fun i hi => ?_⟩, rfl, rfl⟩
    · rw [Hist_takeBack_18, if_neg (hne _ a3), I10, if_neg (I_le_f (by omega) (by omega) (by omega)), gd_I (by omega) (by omega) (by omega), I_clamp _ (by omega), w1, bind_s, nmL_e, nmL_e, show Hist_count (Hist_set_next h (I (((n + 9) % 10 : Nat) : Int))) = Hist_count h from rfl, a3, I1, I_sub, show ((m + 1 : Nat) : Int) - 1 = (m : Int) by omega]
    · rw [show ((n + 9) % 10 + 9 - i) % 10 = (n + 9 - (i + 1)) % 10 by omega]
      exact a6 (i + 1) (by omega)
theorem keep_q (hh : HQ h e c U) (s v : HouseV) : ∃ h' w, Hist_keepSnapshot h s v = some (h', w) ∧ HQ h' e c U ∧ SVD h' w v := by
  obtain ⟨n, a1, a2, a3, a4, a6⟩ := hh
  obtain ⟨w, w1, w2⟩ := copyFrom_s s v
  refine ⟨Hist_set_saved h true, w, ?_, ⟨n, a1, a2, a3, a4, a6⟩, rfl, w2⟩
  rw [Hist_keepSnapshot, w1, bind_s, nmL_e]
theorem bring_q (hs : SVD h s w) (v : HouseV) : ∃ h' w', Hist_bringSnapshot h s v = some (true, h', w') ∧ HC w' w ∧ Hist_count h' = 0 := by
  obtain ⟨w', w1, w2⟩ := copyFrom_s v s
  refine ⟨Hist_set_count h 0, w', ?_, w2.trans hs.2, rfl⟩
  unfold Hist_bringSnapshot
  rw [hs.1, bif_t, w1, bind_s, nmL_e]
theorem forget_q (hh : HQ h e c U) : ∃ h', Hist_forget h = some h' ∧ HQ h' e 0 U := by
  obtain ⟨n, a1, a2, a3, a4, a6⟩ := hh
  exact ⟨_, rfl, n, a1, a2, rfl, by omega, fun i hi => absurd hi (by omega)⟩
theorem HQ.cnt (hh : HQ h e c U) : Hist_count h = I (c : Int) ∧ c ≤ 10 := by
  obtain ⟨n, a1, a2, a3, a4, a6⟩ := hh
  exact ⟨a3, a4⟩
/-- the history where only the ring's rest has changed -/
theorem HQ.congr {U' : Nat → HouseV} (hh : HQ h e c U) (h2 : ∀ i, i < c → HC (U i) (U' i)) : HQ h e c U' := by
  obtain ⟨n, a1, a2, a3, a4, a6⟩ := hh
  exact ⟨n, a1, a2, a3, a4, fun i hi => (a6 i hi).trans (h2 i hi)⟩
end HISTX
