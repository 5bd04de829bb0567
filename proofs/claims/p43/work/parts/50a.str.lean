section STRW
/-- all that the start is known by -/
def NL : List Cond := flatC (Jvm.Cond.and given_1 narrow_1)
/-- what is known of a String constant -/
def strW (own : String) (k : Nat) (l : List Int32) : List Cond := Cond.exactly (Term.string own k) "java/lang/String" :: Cond.eq (Term.field (Term.string own k) "java/lang/String" "coder" "B") (Term.int 0) :: Cond.arrayOf (Term.field (Term.string own k) "java/lang/String" "value" "[B") .byte :: Cond.eq (Term.length (Term.field (Term.string own k) "java/lang/String" "value" "[B")) (Term.int (Int32.ofNat l.length)) :: (List.range l.length).map (fun j => Cond.eq (Term.elem (Term.field (Term.string own k) "java/lang/String" "value" "[B") (Term.int (Int32.ofNat j))) (Term.int (l.getD j 0)))
theorem strW_sub {L N : List Cond} {p n : Nat} (h : L = (N.drop p).take n) : ∀ w ∈ L, w ∈ N := fun w hw => List.mem_of_mem_drop (List.mem_of_mem_take (h ▸ hw))
theorem strW_0 : ∀ w ∈ strW RX8 156 (stBy "no such number of the house"), w ∈ NL := strW_sub (p := 81) (n := 31) (by decide +kernel)
theorem strW_1 : ∀ w ∈ strW RX8 178 (stBy "no such property of a door"), w ∈ NL := strW_sub (p := 292) (n := 30) (by decide +kernel)
theorem strW_2 : ∀ w ∈ strW RX8 207 (stBy "no such property of a room"), w ∈ NL := strW_sub (p := 128) (n := 30) (by decide +kernel)
theorem strW_3 : ∀ w ∈ strW RX8 230 (stBy "no such property of a guard"), w ∈ NL := strW_sub (p := 322) (n := 31) (by decide +kernel)
theorem strW_4 : ∀ w ∈ strW RX8 336 (stBy "no such room"), w ∈ NL := strW_sub (p := 112) (n := 16) (by decide +kernel)
theorem strW_5 : ∀ w ∈ strW RX8 341 (stBy "no such door"), w ∈ NL := strW_sub (p := 187) (n := 16) (by decide +kernel)
theorem strW_6 : ∀ w ∈ strW RX8 346 (stBy "no such guard"), w ∈ NL := strW_sub (p := 158) (n := 17) (by decide +kernel)
theorem strW_7 : ∀ w ∈ strW RX8 350 (stBy "out of range"), w ∈ NL := strW_sub (p := 11) (n := 16) (by decide +kernel)
theorem strW_8 : ∀ w ∈ strW RX8 353 (stBy "negative"), w ∈ NL := strW_sub (p := 175) (n := 12) (by decide +kernel)
theorem strW_9 : ∀ w ∈ strW RX3 15 (stBy "house"), w ∈ NL := strW_sub (p := 27) (n := 9) (by decide +kernel)
theorem strW_10 : ∀ w ∈ strW RX3 52 (stBy "walk"), w ∈ NL := strW_sub (p := 284) (n := 8) (by decide +kernel)
theorem strW_11 : ∀ w ∈ strW RX3 61 (stBy "door"), w ∈ NL := strW_sub (p := 36) (n := 8) (by decide +kernel)
theorem strW_12 : ∀ w ∈ strW RX3 69 (stBy "guard"), w ∈ NL := strW_sub (p := 54) (n := 9) (by decide +kernel)
theorem strW_13 : ∀ w ∈ strW RX3 74 (stBy "limit"), w ∈ NL := strW_sub (p := 72) (n := 9) (by decide +kernel)
theorem strW_14 : ∀ w ∈ strW RX3 86 (stBy "closed"), w ∈ NL := strW_sub (p := 44) (n := 10) (by decide +kernel)
theorem strW_15 : ∀ w ∈ strW RX3 120 (stBy "phase"), w ∈ NL := strW_sub (p := 63) (n := 9) (by decide +kernel)
theorem strW_16 : ∀ w ∈ strW RL 84 (stBy "house "), w ∈ NL := strW_sub (p := 203) (n := 10) (by decide +kernel)
theorem strW_17 : ∀ w ∈ strW RL 86 (stBy "door "), w ∈ NL := strW_sub (p := 213) (n := 9) (by decide +kernel)
theorem strW_18 : ∀ w ∈ strW RL 76 (stBy " "), w ∈ NL := strW_sub (p := 222) (n := 5) (by decide +kernel)
theorem strW_19 : ∀ w ∈ strW RL 88 (stBy ";"), w ∈ NL := strW_sub (p := 227) (n := 5) (by decide +kernel)
theorem strW_20 : ∀ w ∈ strW RL 90 (stBy " closed;"), w ∈ NL := strW_sub (p := 232) (n := 12) (by decide +kernel)
theorem strW_21 : ∀ w ∈ strW RL 92 (stBy "guard"), w ∈ NL := strW_sub (p := 244) (n := 9) (by decide +kernel)
theorem strW_22 : ∀ w ∈ strW RL 82 (stBy " phase "), w ∈ NL := strW_sub (p := 254) (n := 11) (by decide +kernel)
theorem strW_23 : ∀ w ∈ strW RL 98 (stBy "limit "), w ∈ NL := strW_sub (p := 265) (n := 10) (by decide +kernel)
theorem strW_24 : ∀ w ∈ strW RL 182 (stBy "walk "), w ∈ NL := strW_sub (p := 275) (n := 9) (by decide +kernel)
theorem strW_25 : ∀ w ∈ strW RL 256 (stBy "house 3;door 0 1;door 1 2;limit 2 1;guard 0 1 2 1;guard 2 1 phase 1;"), w ∈ NL := strW_sub (p := 353) (n := 72) (by decide +kernel)
theorem strW_all : ∀ q ∈ stTab, ∀ w ∈ strW q.1 q.2.1 (stBy q.2.2), w ∈ NL := (List.forall_mem_cons.mpr ⟨strW_0, (List.forall_mem_cons.mpr ⟨strW_1, (List.forall_mem_cons.mpr ⟨strW_2, (List.forall_mem_cons.mpr ⟨strW_3, (List.forall_mem_cons.mpr ⟨strW_4, (List.forall_mem_cons.mpr ⟨strW_5, (List.forall_mem_cons.mpr ⟨strW_6, (List.forall_mem_cons.mpr ⟨strW_7, (List.forall_mem_cons.mpr ⟨strW_8, (List.forall_mem_cons.mpr ⟨strW_9, (List.forall_mem_cons.mpr ⟨strW_10, (List.forall_mem_cons.mpr ⟨strW_11, (List.forall_mem_cons.mpr ⟨strW_12, (List.forall_mem_cons.mpr ⟨strW_13, (List.forall_mem_cons.mpr ⟨strW_14, (List.forall_mem_cons.mpr ⟨strW_15, (List.forall_mem_cons.mpr ⟨strW_16, (List.forall_mem_cons.mpr ⟨strW_17, (List.forall_mem_cons.mpr ⟨strW_18, (List.forall_mem_cons.mpr ⟨strW_19, (List.forall_mem_cons.mpr ⟨strW_20, (List.forall_mem_cons.mpr ⟨strW_21, (List.forall_mem_cons.mpr ⟨strW_22, (List.forall_mem_cons.mpr ⟨strW_23, (List.forall_mem_cons.mpr ⟨strW_24, (List.forall_mem_cons.mpr ⟨strW_25, (fun _ h => absurd h List.not_mem_nil)⟩)⟩)⟩)⟩)⟩)⟩)⟩)⟩)⟩)⟩)⟩)⟩)⟩)⟩)⟩)⟩)⟩)⟩)⟩)⟩)⟩)⟩)⟩)⟩)⟩)⟩)
theorem strR_all : ∀ q ∈ stTab, Cond.stringRef q.1 q.2.1 q.2.2 ∈ lw_tbl := by decide +kernel
theorem NL_npe : ∀ w ∈ [Cond.isRef (.static Bundle.tN "UNASSIGNED_STACK" Bundle.steD), Cond.isRef (.static Bundle.tN "SUPPRESSED_SENTINEL" Bundle.listD), Cond.eq (.static "java/lang/String" "COMPACT_STRINGS" "Z") (.int 1), Cond.isRef (.static "jdk/internal/util/Preconditions" "SIOOBE_FORMATTER" "Ljava/util/function/BiFunction;")] , w ∈ NL := by decide +kernel
theorem tbl_npe : ∀ w ∈ [Cond.laysStatic Bundle.tN "UNASSIGNED_STACK" Bundle.steD, Cond.laysStatic Bundle.tN "SUPPRESSED_SENTINEL" Bundle.listD, Cond.laysStatic "java/lang/String" "COMPACT_STRINGS" "Z", Cond.laysStatic "jdk/internal/util/Preconditions" "SIOOBE_FORMATTER" "Ljava/util/function/BiFunction;", Cond.initialized Bundle.tN, Cond.initialized "java/lang/String", Cond.initialized "jdk/internal/util/Preconditions", Cond.arrayClass .int, Cond.arrayClass .long, Cond.arrayOver (.object "GuardWalks$House"), Cond.arrayOver (.array .int)], w ∈ lw_tbl := by decide +kernel
theorem nw_tbl : ∀ w ∈ nwAll, w ∈ lw_tbl := by decide +kernel
theorem nw_ot : ∀ w ∈ nwAll, w.onTables = true := by decide +kernel
/-- a String constant at the start -/
theorem str_at {args : Array Value} {s : State} {A : Nat → Prop} {own : String} {k : Nat} {tx : String} (hw : ∀ w ∈ strW own k (stBy tx), w.before args s = true) (hr : (Cond.stringRef own k tx).before args s = true) (hN : (stBy tx).length < 2 ^ 31) (hA : ∀ a : Nat, a < s.heap.size → ¬ A a) : ∃ a v : Nat, vk_R own k tx a s ∧ va_O "java/lang/String" a A s s.heap ∧ va_OF "java/lang/String" "coder" "B" (.int 0) a A s s.heap ∧ va_OF "java/lang/String" "value" "[B" (.ref v) a A s s.heap ∧ va_T .byte v (stBy tx).length (fun j => .int ((stBy tx).getD j 0)) A s s.heap := by
  have h0 := hw (Cond.exactly (Term.string own k) "java/lang/String") List.mem_cons_self
  have h1 := hw (Cond.eq (Term.field (Term.string own k) "java/lang/String" "coder" "B") (Term.int 0)) (List.mem_cons_of_mem _ List.mem_cons_self)
  have h2 := hw (Cond.arrayOf (Term.field (Term.string own k) "java/lang/String" "value" "[B") .byte) (List.mem_cons_of_mem _ (List.mem_cons_of_mem _ List.mem_cons_self))
  have h3 := hw (Cond.eq (Term.length (Term.field (Term.string own k) "java/lang/String" "value" "[B")) (Term.int (Int32.ofNat (stBy tx).length))) (List.mem_cons_of_mem _ (List.mem_cons_of_mem _ (List.mem_cons_of_mem _ List.mem_cons_self)))
  have h4 : ∀ j : Nat, j < (stBy tx).length → (Cond.eq (Term.elem (Term.field (Term.string own k) "java/lang/String" "value" "[B") (Term.int (Int32.ofNat j))) (Term.int ((stBy tx).getD j 0))).before args s = true := fun j hj => hw _ (List.mem_cons_of_mem _ (List.mem_cons_of_mem _ (List.mem_cons_of_mem _ (List.mem_cons_of_mem _ (List.mem_map.mpr ⟨j, List.mem_range.mpr hj, rfl⟩)))))
  obtain ⟨a, c, cA, kA, q1, q2, q3, q4, q5, q6, -⟩ := Cond.exactly_spec (args := args) (first := s) (o := none) (s := s) (idx := []) (t := Term.string own k) (cls := "java/lang/String") h0
  obtain ⟨t, ht, hT⟩ := va_Tof (f := fun j => .int ((stBy tx).getD j 0)) (A := A) hN h2 (va_eqt h3) (fun j hj => va_eqt (h4 j hj)) hA
  exact ⟨a, t, vk_R.of hr q1, ⟨cA, q3, q5, by rw [q6]; exact q2, hA a (Array.getElem?_eq_some_iff.mp q3).1⟩, vk_OFof q1 (va_eqt h1) hA, vk_OFof q1 ht hA, hT⟩
/-- all of them -/
theorem strs_at {args : Array Value} {s : State} {A : Nat → Prop} (hs : ∀ w ∈ NL, w.before args s = true) (hts : ∀ w ∈ lw_tbl, w.before args s = true) (hA : ∀ a : Nat, a < s.heap.size → ¬ A a) : ∃ adK adV : Nat → Nat, ∀ i q, stTab[i]? = some q → vk_R q.1 q.2.1 q.2.2 (adK i) s ∧ va_O "java/lang/String" (adK i) A s s.heap ∧ va_OF "java/lang/String" "coder" "B" (.int 0) (adK i) A s s.heap ∧ va_OF "java/lang/String" "value" "[B" (.ref (adV i)) (adK i) A s s.heap ∧ va_T .byte (adV i) (stBy q.2.2).length (fun j => .int ((stBy q.2.2).getD j 0)) A s s.heap := by
  have h0 : ∀ i : Nat, ∃ x : Nat × Nat, ∀ q, stTab[i]? = some q → vk_R q.1 q.2.1 q.2.2 x.1 s ∧ va_O "java/lang/String" x.1 A s s.heap ∧ va_OF "java/lang/String" "coder" "B" (.int 0) x.1 A s s.heap ∧ va_OF "java/lang/String" "value" "[B" (.ref x.2) x.1 A s s.heap ∧ va_T .byte x.2 (stBy q.2.2).length (fun j => .int ((stBy q.2.2).getD j 0)) A s s.heap := by
    intro i
    cases e : stTab[i]? with
    | none => exact ⟨(0, 0), fun q h => by cases h⟩
    | some q =>
      have hq := List.mem_of_getElem? e
      obtain ⟨a, v, g⟩ := str_at (A := A) (fun w hw => hs w (strW_all q hq w hw)) (hts _ (strR_all q hq)) (Nat.lt_of_lt_of_le (st_all q hq).1 (by decide)) hA
      exact ⟨(a, v), fun q' h => by cases h; exact g⟩
  exact ⟨fun i => (Classical.choose (h0 i)).1, fun i => (Classical.choose (h0 i)).2, fun i q h => Classical.choose_spec (h0 i) q h⟩
end STRW
