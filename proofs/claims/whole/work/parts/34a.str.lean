section STRW
/-- all that the start is known by -/
def NL : List Cond := flatC (Jvm.Cond.and given_1 narrow_1)
/-- what is known of a String constant -/
def strW (own : String) (k : Nat) (l : List Int32) : List Cond := Cond.exactly (Term.string own k) "java/lang/String" :: Cond.eq (Term.field (Term.string own k) "java/lang/String" "coder" "B") (Term.int 0) :: Cond.arrayOf (Term.field (Term.string own k) "java/lang/String" "value" "[B") .byte :: Cond.eq (Term.length (Term.field (Term.string own k) "java/lang/String" "value" "[B")) (Term.int (Int32.ofNat l.length)) :: (List.range l.length).map (fun j => Cond.eq (Term.elem (Term.field (Term.string own k) "java/lang/String" "value" "[B") (Term.int (Int32.ofNat j))) (Term.int (l.getD j 0)))
theorem strW_sub {L N : List Cond} {p n : Nat} (h : L = (N.drop p).take n) : ∀ w ∈ L, w ∈ N := fun w hw => List.mem_of_mem_drop (List.mem_of_mem_take (h ▸ hw))
theorem strW_0 : ∀ w ∈ strW RX8 156 (stBy "no such number of the house"), w ∈ NL := strW_sub (p := 103) (n := 31) (by decide +kernel)
theorem strW_1 : ∀ w ∈ strW RX8 178 (stBy "no such property of a door"), w ∈ NL := strW_sub (p := 150) (n := 30) (by decide +kernel)
theorem strW_2 : ∀ w ∈ strW RX8 207 (stBy "no such property of a room"), w ∈ NL := strW_sub (p := 196) (n := 30) (by decide +kernel)
theorem strW_3 : ∀ w ∈ strW RX8 230 (stBy "no such property of a guard"), w ∈ NL := strW_sub (p := 243) (n := 31) (by decide +kernel)
theorem strW_4 : ∀ w ∈ strW RX8 336 (stBy "no such room"), w ∈ NL := strW_sub (p := 180) (n := 16) (by decide +kernel)
theorem strW_5 : ∀ w ∈ strW RX8 341 (stBy "no such door"), w ∈ NL := strW_sub (p := 134) (n := 16) (by decide +kernel)
theorem strW_6 : ∀ w ∈ strW RX8 346 (stBy "no such guard"), w ∈ NL := strW_sub (p := 226) (n := 17) (by decide +kernel)
theorem strW_7 : ∀ w ∈ strW RX8 350 (stBy "out of range"), w ∈ NL := strW_sub (p := 33) (n := 16) (by decide +kernel)
theorem strW_8 : ∀ w ∈ strW RX8 353 (stBy "negative"), w ∈ NL := strW_sub (p := 274) (n := 12) (by decide +kernel)
theorem strW_9 : ∀ w ∈ strW RX3 15 (stBy "house"), w ∈ NL := strW_sub (p := 49) (n := 9) (by decide +kernel)
theorem strW_10 : ∀ w ∈ strW RX3 52 (stBy "walk"), w ∈ NL := strW_sub (p := 286) (n := 8) (by decide +kernel)
theorem strW_11 : ∀ w ∈ strW RX3 61 (stBy "door"), w ∈ NL := strW_sub (p := 58) (n := 8) (by decide +kernel)
theorem strW_12 : ∀ w ∈ strW RX3 69 (stBy "guard"), w ∈ NL := strW_sub (p := 76) (n := 9) (by decide +kernel)
theorem strW_13 : ∀ w ∈ strW RX3 74 (stBy "limit"), w ∈ NL := strW_sub (p := 94) (n := 9) (by decide +kernel)
theorem strW_14 : ∀ w ∈ strW RX3 86 (stBy "closed"), w ∈ NL := strW_sub (p := 66) (n := 10) (by decide +kernel)
theorem strW_15 : ∀ w ∈ strW RX3 120 (stBy "phase"), w ∈ NL := strW_sub (p := 85) (n := 9) (by decide +kernel)
theorem strW_16 : ∀ w ∈ strW RX5 29 (stBy "many"), w ∈ NL := strW_sub (p := 294) (n := 8) (by decide +kernel)
theorem strW_17 : ∀ w ∈ strW RX5 37 (stBy "first"), w ∈ NL := strW_sub (p := 302) (n := 9) (by decide +kernel)
theorem strW_18 : ∀ w ∈ strW RX5 66 (stBy "or"), w ∈ NL := strW_sub (p := 425) (n := 6) (by decide +kernel)
theorem strW_19 : ∀ w ∈ strW RX5 71 (stBy "and"), w ∈ NL := strW_sub (p := 418) (n := 7) (by decide +kernel)
theorem strW_20 : ∀ w ∈ strW RX5 73 (stBy "not"), w ∈ NL := strW_sub (p := 311) (n := 7) (by decide +kernel)
theorem strW_21 : ∀ w ∈ strW RX5 119 (stBy "room"), w ∈ NL := strW_sub (p := 318) (n := 8) (by decide +kernel)
theorem strW_22 : ∀ w ∈ strW RX5 121 (stBy "doors"), w ∈ NL := strW_sub (p := 326) (n := 9) (by decide +kernel)
theorem strW_23 : ∀ w ∈ strW RX5 126 (stBy "limit"), w ∈ NL := strW_sub (p := 335) (n := 9) (by decide +kernel)
theorem strW_24 : ∀ w ∈ strW RX5 131 (stBy "gap"), w ∈ NL := strW_sub (p := 345) (n := 7) (by decide +kernel)
theorem strW_25 : ∀ w ∈ strW RX5 144 (stBy "never"), w ∈ NL := strW_sub (p := 352) (n := 9) (by decide +kernel)
theorem strW_26 : ∀ w ∈ strW RX5 146 (stBy "late"), w ∈ NL := strW_sub (p := 361) (n := 8) (by decide +kernel)
theorem strW_27 : ∀ w ∈ strW RX5 152 (stBy "seen"), w ∈ NL := strW_sub (p := 369) (n := 8) (by decide +kernel)
theorem strW_28 : ∀ w ∈ strW RX5 156 (stBy "guards"), w ∈ NL := strW_sub (p := 377) (n := 10) (by decide +kernel)
theorem strW_29 : ∀ w ∈ strW RX5 161 (stBy "sightings"), w ∈ NL := strW_sub (p := 387) (n := 13) (by decide +kernel)
theorem strW_30 : ∀ w ∈ strW RX5 165 (stBy "run"), w ∈ NL := strW_sub (p := 400) (n := 7) (by decide +kernel)
theorem strW_31 : ∀ w ∈ strW RX5 170 (stBy "longest"), w ∈ NL := strW_sub (p := 407) (n := 11) (by decide +kernel)
theorem strW_32 : ∀ w ∈ strW RX9 61 (stBy "room"), w ∈ NL := strW_sub (p := 431) (n := 8) (by decide +kernel)
theorem strW_33 : ∀ w ∈ strW RX9 63 (stBy "doors"), w ∈ NL := strW_sub (p := 440) (n := 9) (by decide +kernel)
theorem strW_34 : ∀ w ∈ strW RX9 65 (stBy "limit"), w ∈ NL := strW_sub (p := 450) (n := 9) (by decide +kernel)
theorem strW_35 : ∀ w ∈ strW RX9 67 (stBy "gap"), w ∈ NL := strW_sub (p := 461) (n := 7) (by decide +kernel)
theorem strW_36 : ∀ w ∈ strW RX9 68 (stBy "never"), w ∈ NL := strW_sub (p := 469) (n := 9) (by decide +kernel)
theorem strW_37 : ∀ w ∈ strW RX9 70 (stBy "late"), w ∈ NL := strW_sub (p := 479) (n := 8) (by decide +kernel)
theorem strW_38 : ∀ w ∈ strW RX9 72 (stBy "seen"), w ∈ NL := strW_sub (p := 488) (n := 8) (by decide +kernel)
theorem strW_39 : ∀ w ∈ strW RX9 74 (stBy "guards"), w ∈ NL := strW_sub (p := 497) (n := 10) (by decide +kernel)
theorem strW_40 : ∀ w ∈ strW RX9 76 (stBy "sightings"), w ∈ NL := strW_sub (p := 508) (n := 13) (by decide +kernel)
theorem strW_41 : ∀ w ∈ strW RX9 78 (stBy "run"), w ∈ NL := strW_sub (p := 522) (n := 7) (by decide +kernel)
theorem strW_42 : ∀ w ∈ strW RX9 80 (stBy "longest"), w ∈ NL := strW_sub (p := 530) (n := 11) (by decide +kernel)
theorem strW_43 : ∀ w ∈ strW RX9 390 (stBy "closed"), w ∈ NL := strW_sub (p := 561) (n := 10) (by decide +kernel)
theorem strW_44 : ∀ w ∈ strW RX9 401 (stBy "phase"), w ∈ NL := strW_sub (p := 582) (n := 9) (by decide +kernel)
theorem strW_45 : ∀ w ∈ strW RX9 406 (stBy "house"), w ∈ NL := strW_sub (p := 542) (n := 9) (by decide +kernel)
theorem strW_46 : ∀ w ∈ strW RX9 414 (stBy "door"), w ∈ NL := strW_sub (p := 552) (n := 8) (by decide +kernel)
theorem strW_47 : ∀ w ∈ strW RX9 419 (stBy "guard"), w ∈ NL := strW_sub (p := 572) (n := 9) (by decide +kernel)
theorem strW_48 : ∀ w ∈ strW RX9 436 (stBy "walk"), w ∈ NL := strW_sub (p := 592) (n := 8) (by decide +kernel)
theorem strW_49 : ∀ w ∈ strW RX9 444 (stBy "not"), w ∈ NL := strW_sub (p := 620) (n := 7) (by decide +kernel)
theorem strW_50 : ∀ w ∈ strW RX9 458 (stBy "and"), w ∈ NL := strW_sub (p := 628) (n := 7) (by decide +kernel)
theorem strW_51 : ∀ w ∈ strW RX9 463 (stBy "or"), w ∈ NL := strW_sub (p := 636) (n := 6) (by decide +kernel)
theorem strW_52 : ∀ w ∈ strW RX9 477 (stBy "first"), w ∈ NL := strW_sub (p := 601) (n := 9) (by decide +kernel)
theorem strW_53 : ∀ w ∈ strW RX9 479 (stBy "many"), w ∈ NL := strW_sub (p := 611) (n := 8) (by decide +kernel)
theorem strW_all : ∀ q ∈ stTab, ∀ w ∈ strW q.1 q.2.1 (stBy q.2.2), w ∈ NL := (List.forall_mem_cons.mpr ⟨strW_0, (List.forall_mem_cons.mpr ⟨strW_1, (List.forall_mem_cons.mpr ⟨strW_2, (List.forall_mem_cons.mpr ⟨strW_3, (List.forall_mem_cons.mpr ⟨strW_4, (List.forall_mem_cons.mpr ⟨strW_5, (List.forall_mem_cons.mpr ⟨strW_6, (List.forall_mem_cons.mpr ⟨strW_7, (List.forall_mem_cons.mpr ⟨strW_8, (List.forall_mem_cons.mpr ⟨strW_9, (List.forall_mem_cons.mpr ⟨strW_10, (List.forall_mem_cons.mpr ⟨strW_11, (List.forall_mem_cons.mpr ⟨strW_12, (List.forall_mem_cons.mpr ⟨strW_13, (List.forall_mem_cons.mpr ⟨strW_14, (List.forall_mem_cons.mpr ⟨strW_15, (List.forall_mem_cons.mpr ⟨strW_16, (List.forall_mem_cons.mpr ⟨strW_17, (List.forall_mem_cons.mpr ⟨strW_18, (List.forall_mem_cons.mpr ⟨strW_19, (List.forall_mem_cons.mpr ⟨strW_20, (List.forall_mem_cons.mpr ⟨strW_21, (List.forall_mem_cons.mpr ⟨strW_22, (List.forall_mem_cons.mpr ⟨strW_23, (List.forall_mem_cons.mpr ⟨strW_24, (List.forall_mem_cons.mpr ⟨strW_25, (List.forall_mem_cons.mpr ⟨strW_26, (List.forall_mem_cons.mpr ⟨strW_27, (List.forall_mem_cons.mpr ⟨strW_28, (List.forall_mem_cons.mpr ⟨strW_29, (List.forall_mem_cons.mpr ⟨strW_30, (List.forall_mem_cons.mpr ⟨strW_31, (List.forall_mem_cons.mpr ⟨strW_32, (List.forall_mem_cons.mpr ⟨strW_33, (List.forall_mem_cons.mpr ⟨strW_34, (List.forall_mem_cons.mpr ⟨strW_35, (List.forall_mem_cons.mpr ⟨strW_36, (List.forall_mem_cons.mpr ⟨strW_37, (List.forall_mem_cons.mpr ⟨strW_38, (List.forall_mem_cons.mpr ⟨strW_39, (List.forall_mem_cons.mpr ⟨strW_40, (List.forall_mem_cons.mpr ⟨strW_41, (List.forall_mem_cons.mpr ⟨strW_42, (List.forall_mem_cons.mpr ⟨strW_43, (List.forall_mem_cons.mpr ⟨strW_44, (List.forall_mem_cons.mpr ⟨strW_45, (List.forall_mem_cons.mpr ⟨strW_46, (List.forall_mem_cons.mpr ⟨strW_47, (List.forall_mem_cons.mpr ⟨strW_48, (List.forall_mem_cons.mpr ⟨strW_49, (List.forall_mem_cons.mpr ⟨strW_50, (List.forall_mem_cons.mpr ⟨strW_51, (List.forall_mem_cons.mpr ⟨strW_52, (List.forall_mem_cons.mpr ⟨strW_53, (fun _ h => absurd h List.not_mem_nil)⟩)⟩)⟩)⟩)⟩)⟩)⟩)⟩)⟩)⟩)⟩)⟩)⟩)⟩)⟩)⟩)⟩)⟩)⟩)⟩)⟩)⟩)⟩)⟩)⟩)⟩)⟩)⟩)⟩)⟩)⟩)⟩)⟩)⟩)⟩)⟩)⟩)⟩)⟩)⟩)⟩)⟩)⟩)⟩)⟩)⟩)⟩)⟩)⟩)⟩)⟩)⟩)⟩)⟩)
theorem strR_all : ∀ q ∈ stTab, Cond.stringRef q.1 q.2.1 q.2.2 ∈ lw_tbl := by decide +kernel
theorem NL_npe : ∀ w ∈ [Cond.isRef (.static Bundle.tN "UNASSIGNED_STACK" Bundle.steD), Cond.isRef (.static Bundle.tN "SUPPRESSED_SENTINEL" Bundle.listD), Cond.eq (.static "java/lang/String" "COMPACT_STRINGS" "Z") (.int 1), Cond.isRef (.static "jdk/internal/util/Preconditions" "SIOOBE_FORMATTER" "Ljava/util/function/BiFunction;"), Cond.not (.castable "java/lang/IllegalArgumentException" "java/util/NoSuchElementException")], w ∈ NL := by decide +kernel
theorem tbl_npe : ∀ w ∈ [Cond.laysStatic Bundle.tN "UNASSIGNED_STACK" Bundle.steD, Cond.laysStatic Bundle.tN "SUPPRESSED_SENTINEL" Bundle.listD, Cond.laysStatic "java/lang/String" "COMPACT_STRINGS" "Z", Cond.laysStatic "jdk/internal/util/Preconditions" "SIOOBE_FORMATTER" "Ljava/util/function/BiFunction;", Cond.initialized Bundle.tN, Cond.initialized "java/lang/String", Cond.initialized "jdk/internal/util/Preconditions", Cond.arrayClass .int, Cond.arrayClass .long, Cond.arrayOver (.object "GuardWalks$House"), Cond.arrayOver (.object "java/lang/String")], w ∈ lw_tbl := by decide +kernel
theorem nw_tbl : ∀ w ∈ nwAll, w ∈ lw_tbl := by decide +kernel
theorem nw_ot : ∀ w ∈ nwAll, w.onTables = true := by decide +kernel
theorem xt_tbl : ∀ w ∈ xtB, w ∈ lw_tbl := by decide +kernel
theorem xt_ot : ∀ w ∈ xtB, w.onTables = true := by decide +kernel
/-- a String constant at the start -/
theorem str_at {args : Array Value} {s : State} {A : Nat → Prop} {own : String} {k : Nat} {tx : String} (hw : ∀ w ∈ strW own k (stBy tx), w.before args s = true) (hr : (Cond.stringRef own k tx).before args s = true) (hN : (stBy tx).length < 2 ^ 31) (hA : ∀ a : Nat, a < s.heap.size → ¬ A a) : ∃ a v : Nat, vk_R own k tx a s ∧ va_O "java/lang/String" a A s s.heap ∧ va_OF "java/lang/String" "coder" "B" (.int 0) a A s s.heap ∧ va_OF "java/lang/String" "value" "[B" (.ref v) a A s s.heap ∧ va_T .byte v (stBy tx).length (fun j => .int ((stBy tx).getD j 0)) A s s.heap := by
  have h0 := hw (Cond.exactly (Term.string own k) "java/lang/String") List.mem_cons_self
  have h1 := hw (Cond.eq (Term.field (Term.string own k) "java/lang/String" "coder" "B") (Term.int 0)) (List.mem_cons_of_mem _ List.mem_cons_self)
  have h2 := hw (Cond.arrayOf (Term.field (Term.string own k) "java/lang/String" "value" "[B") .byte) (List.mem_cons_of_mem _ (List.mem_cons_of_mem _ List.mem_cons_self))
  have h3 := hw (Cond.eq (Term.length (Term.field (Term.string own k) "java/lang/String" "value" "[B")) (Term.int (Int32.ofNat (stBy tx).length))) (List.mem_cons_of_mem _ (List.mem_cons_of_mem _ (List.mem_cons_of_mem _ List.mem_cons_self)))
  have h4 : ∀ j : Nat, j < (stBy tx).length → (Cond.eq (Term.elem (Term.field (Term.string own k) "java/lang/String" "value" "[B") (Term.int (Int32.ofNat j))) (Term.int ((stBy tx).getD j 0))).before args s = true := fun j hj => hw _ (List.mem_cons_of_mem _ (List.mem_cons_of_mem _ (List.mem_cons_of_mem _ (List.mem_cons_of_mem _ (List.mem_map.mpr ⟨j, List.mem_range.mpr hj, rfl⟩)))))
  obtain ⟨a, c, cA, kA, q1, q2, q3, q4, q5, q6, -⟩ := Cond.exactly_spec (args := args) (first := s) (o := none) (s := s) (idx := []) (t := Term.string own k) (cls := "java/lang/String") h0
  obtain ⟨t, ht, hT⟩ := va_Tof (f := fun j => .int ((stBy tx).getD j 0)) (A := A) hN h2 (va_eqt h3) (fun j hj => va_eqt (h4 j hj)) hA
  exact ⟨a, t, vk_R.of hr q1, ⟨cA, q3, q5, by rw [q6]; exact q2, hA a (Array.getElem?_eq_some_iff.mp q3).1⟩, vk_OFof q1 (va_eqt h1) hA, vk_OFof q1 ht hA, hT⟩
/-- all of them -/
theorem strs_at {args : Array Value} {s : State} {A : Nat → Prop} (hs : ∀ w ∈ NL, w.before args s = true) (hts : ∀ w ∈ lw_tbl, w.before args s = true) (hA : ∀ a : Nat, a < s.heap.size → ¬ A a) : ∃ adK adV : Nat → Nat, ∀ i q, stTab[i]? = some q → vk_R q.1 q.2.1 q.2.2 (adK i) s ∧ va_O "java/lang/String" (adK i) A s s.heap ∧ va_OF "java/lang/String" "coder" "B" (.int 0) (adK i) A s s.heap ∧ va_OF "java/lang/String" "value" "[B" (.ref (adV i)) (adK i) A s s.heap ∧ va_T .byte (adV i) (stBy q.2.2).length (fun j => .int ((stBy q.2.2).getD j 0)) A s s.heap := by
  have h0 : ∀ i : Nat, ∃ x : Nat × Nat, ∀ q, stTab[i]? = some q → vk_R q.1 q.2.1 q.2.2 x.1 s ∧ va_O "java/lang/String" x.1 A s s.heap ∧ va_OF "java/lang/String" "coder" "B" (.int 0) x.1 A s s.heap ∧ va_OF "java/lang/String" "value" "[B" (.ref x.2) x.1 A s s.heap ∧ va_T .byte x.2 (stBy q.2.2).length (fun j => .int ((stBy q.2.2).getD j 0)) A s s.heap := by
    intro i
    cases e : stTab[i]? with
    | none => exact ⟨(0, 0), fun q h => by cases h⟩
    | some q =>
      have hq := List.mem_of_getElem? e
      obtain ⟨a, v, g⟩ := str_at (A := A) (fun w hw => hs w (strW_all q hq w hw)) (hts _ (strR_all q hq)) (Nat.lt_of_lt_of_le (st_all q hq).1 (by decide)) hA
      exact ⟨(a, v), fun q' h => by cases h; exact g⟩
  exact ⟨fun i => (Classical.choose (h0 i)).1, fun i => (Classical.choose (h0 i)).2, fun i q h => Classical.choose_spec (h0 i) q h⟩
end STRW
