section HIST
theorem rel_ext {m m' : Nat → Int32} {v : HouseV} (hn : WFn v) (hw : WFG v) (h : ∀ k, k < 172 → m' k = m k) (hr : RelM m v) : RelM m' v := by
  obtain ⟨a1, a2, a3, a4, a5, a6, a7⟩ := hr
  unfold RelM
  rw [h 0 (by omega), h 1 (by omega), h 2 (by omega), h 3 (by omega)]
  refine ⟨a1, a2, a3, a4, fun r hr => ?_, fun d hd => ?_, fun g hg => ?_⟩
  · rw [h _ (by omega), h _ (by omega), h _ (by omega), h _ (by omega), h _ (by omega)]
    exact a5 r hr
  · have h20 : d < 20 := Nat.lt_of_lt_of_le hd hn.2.2.2.2.1
    rw [h _ (by omega), h _ (by omega), h _ (by omega)]
    exact a6 d hd
  · have hg4 : g < 4 := Nat.lt_of_lt_of_le hg hn.2.2.2.2.2.2.1
    have hp := hw.per g hg
    obtain ⟨b1, b2, b3⟩ := a7 g hg
    rw [h _ (by omega), h _ (by omega)]
    exact ⟨b1, b2, fun s hs => by rw [h _ (by omega)]; exact b3 s hs⟩
/-- the history and the snapshot of the two -/
def HR (J : HouseV → Prop) (h : HistV) (e : Nat → HouseV) (s : HouseV) (H : Nat → Int32) (C : Int32) (sn : Nat → Int32) (hs : Bool) : Prop := ∃ n c : Nat, Hist_next h = I (n : Int) ∧ n < 10 ∧ Hist_count h = I (c : Int) ∧ c ≤ 10 ∧ C = I (c : Int) ∧ (∀ i, i < c → J (e ((n + 9 - i) % 10)) ∧ RelM (fun k => H (172 * (c - 1 - i) + k)) (e ((n + 9 - i) % 10))) ∧ Hist_saved h = hs ∧ (hs = true → J s ∧ RelM sn s)
variable {J : HouseV → Prop} {h : HistV} {e : Nat → HouseV} {s v : HouseV} {H : Nat → Int32} {C : Int32} {sn : Nat → Int32} {hs : Bool}
theorem HR.mono {J' : HouseV → Prop} (hJ : ∀ v, J v → J' v) (hh : HR J h e s H C sn hs) : HR J' h e s H C sn hs := by
  obtain ⟨n, c, a1, a2, a3, a4, a5, a6, a7, a8⟩ := hh
  exact ⟨n, c, a1, a2, a3, a4, a5, fun i hi => ⟨hJ _ (a6 i hi).1, (a6 i hi).2⟩, a7, fun t => ⟨hJ _ (a8 t).1, (a8 t).2⟩⟩
theorem updH_i {f : Nat → HouseV} {i : Nat} {x : HouseV} : updH f i x i = x := if_pos rfl
theorem updH_n {f : Nat → HouseV} {i j : Nat} {x : HouseV} (h : j ≠ i) : updH f i x j = f j := if_neg h
theorem forget_s (hh : HR J h e s H C sn hs) : ∃ h', Hist_forget h = some h' ∧ ∀ sn', HR J h' e s H 0 sn' false := by
  obtain ⟨n, c, a1, a2, a3, a4, a5, a6, a7, a8⟩ := hh
  refine ⟨_, rfl, fun sn' => ⟨n, 0, a1, a2, rfl, by omega, rfl, fun i hi => absurd hi (by omega), rfl, fun t => absurd t (by decide)⟩⟩
end HIST

