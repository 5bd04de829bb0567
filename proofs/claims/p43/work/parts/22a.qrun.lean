section QRUN
variable {v : HouseV}
theorem ans_uni {many : Bool} {S R : Nat} {a b : Int} (h1 : ansQ many S R a) (h2 : ansQ many S R b) : a = b := by
  unfold ansQ at h1 h2
  cases many
  · rw [if_neg (by decide)] at h1 h2
    rcases h1 with ⟨e1, g1⟩ | ⟨r1, r2, r3, r4, r5⟩
    · rcases h2 with ⟨e2, -⟩ | ⟨s1, s2, s3, s4, s5⟩
      · rw [e1, e2]
      · rw [g1 s1 s2] at s4; exact absurd s4 (by decide)
    · rcases h2 with ⟨-, g2⟩ | ⟨s1, s2, s3, s4, s5⟩
      · rw [g2 r1 r2] at r4; exact absurd r4 (by decide)
      · have h3 : ¬ r1 < s1 := fun h => by rw [s5 r1 h] at r4; exact absurd r4 (by decide)
        have h4 : ¬ s1 < r1 := fun h => by rw [r5 s1 h] at s4; exact absurd s4 (by decide)
        omega
  · rw [if_pos rfl] at h1 h2
    rw [h1, h2]
end QRUN

