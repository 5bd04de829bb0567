section START
theorem inst_all : ∀ w ∈ [Cond.instantiable RX0 7, Cond.instantiable RX1 5, Cond.instantiable RX2 19, Cond.instantiable RX3 1, Cond.instantiable RX4 2, Cond.instantiable RX5 5, Cond.instantiable RX6 8, Cond.instantiable RX7 7, Cond.instantiable RX8 14, Cond.instantiable RX9 8], w ∈ lw_tbl := by decide +kernel
/-- what the law stands on at its entry -/
theorem start_ok {p : Program} {s : State} {m : MethodId} {meth : Method} {c : Code} {b L : Nat} {xs : Nat → Int32} (e : Env) (below : List Frame) (l : Launch) (C0 : p.tables.exec = Jvm.exec ∧ c.code = code ∧ meth.sig.returnType = ret ∧ c.maxLocals = 14 ∧ s.vm.findClass RL = some m.cls ∧ (∀ w ∈ lw_tbl, w.before #[Value.ref b] s = true) ∧ va_X b L xs s s.heap ∧ b < s.heap.size ∧ meth.locks = false ∧ (Jvm.Cond.and given_1 narrow_1).before #[Value.ref b] s = true) : ∃ E : Ex, eL E = l ∧ eB E = b ∧ SXE E L xs ∧ Cx E (p, e, room_1, s, m, #[Value.ref b], below, meth, c, fun q : Nat => s.heap.size ≤ q) cL_law 14 (some .boolean) RL wsL_law rmL_law := by
  obtain ⟨hx, hb, hr, hml, hown, hts, hX, hbl, hlocks, hgv⟩ := id C0
  have hs : ∀ w ∈ NL, w.before #[Value.ref b] s = true := flat_of_before _ hgv
  have hA : ∀ a : Nat, a < s.heap.size → ¬ (fun q : Nat => s.heap.size ≤ q) a := fun a h => Nat.not_le.mpr h
  have tb : ∀ w ∈ [Cond.laysStatic Bundle.tN "UNASSIGNED_STACK" Bundle.steD, Cond.laysStatic Bundle.tN "SUPPRESSED_SENTINEL" Bundle.listD, Cond.laysStatic "java/lang/String" "COMPACT_STRINGS" "Z", Cond.laysStatic "jdk/internal/util/Preconditions" "SIOOBE_FORMATTER" "Ljava/util/function/BiFunction;", Cond.initialized Bundle.tN, Cond.initialized "java/lang/String", Cond.initialized "jdk/internal/util/Preconditions", Cond.arrayClass .int, Cond.arrayClass .long, Cond.arrayOver (.object "GuardWalks$House"), Cond.arrayOver (.array .int)], w.before #[Value.ref b] s = true := fun w hw => hts w (tbl_npe w hw)
  have nb : ∀ w ∈ [Cond.isRef (.static Bundle.tN "UNASSIGNED_STACK" Bundle.steD), Cond.isRef (.static Bundle.tN "SUPPRESSED_SENTINEL" Bundle.listD), Cond.eq (.static "java/lang/String" "COMPACT_STRINGS" "Z") (.int 1), Cond.isRef (.static "jdk/internal/util/Preconditions" "SIOOBE_FORMATTER" "Ljava/util/function/BiFunction;")], w.before #[Value.ref b] s = true := fun w hw => hs w (NL_npe w hw)
  obtain ⟨t0, tb⟩ := List.forall_mem_cons.mp tb
  obtain ⟨t1, tb⟩ := List.forall_mem_cons.mp tb
  obtain ⟨t2, tb⟩ := List.forall_mem_cons.mp tb
  obtain ⟨t3, tb⟩ := List.forall_mem_cons.mp tb
  obtain ⟨t4, tb⟩ := List.forall_mem_cons.mp tb
  obtain ⟨t5, tb⟩ := List.forall_mem_cons.mp tb
  obtain ⟨t6, tb⟩ := List.forall_mem_cons.mp tb
  obtain ⟨t7, tb⟩ := List.forall_mem_cons.mp tb
  obtain ⟨t8, tb⟩ := List.forall_mem_cons.mp tb
  obtain ⟨t9, tb⟩ := List.forall_mem_cons.mp tb
  obtain ⟨t10, tb⟩ := List.forall_mem_cons.mp tb
  obtain ⟨n0, nb⟩ := List.forall_mem_cons.mp nb
  obtain ⟨n1, nb⟩ := List.forall_mem_cons.mp nb
  obtain ⟨n2, nb⟩ := List.forall_mem_cons.mp nb
  obtain ⟨n3, nb⟩ := List.forall_mem_cons.mp nb
  obtain ⟨adK, adV, hstr⟩ := strs_at (A := fun q : Nat => s.heap.size ≤ q) hs hts hA
  have ib : ∀ w ∈ [Cond.instantiable RX0 7, Cond.instantiable RX1 5, Cond.instantiable RX2 19, Cond.instantiable RX3 1, Cond.instantiable RX4 2, Cond.instantiable RX5 5, Cond.instantiable RX6 8, Cond.instantiable RX7 7, Cond.instantiable RX8 14, Cond.instantiable RX9 8], w.before #[Value.ref b] s = true := fun w hw => hts w (inst_all w hw)
  obtain ⟨i0, ib⟩ := List.forall_mem_cons.mp ib
  obtain ⟨i1, ib⟩ := List.forall_mem_cons.mp ib
  obtain ⟨i2, ib⟩ := List.forall_mem_cons.mp ib
  obtain ⟨i3, ib⟩ := List.forall_mem_cons.mp ib
  obtain ⟨i4, ib⟩ := List.forall_mem_cons.mp ib
  obtain ⟨i5, ib⟩ := List.forall_mem_cons.mp ib
  obtain ⟨i6, ib⟩ := List.forall_mem_cons.mp ib
  obtain ⟨i7, ib⟩ := List.forall_mem_cons.mp ib
  obtain ⟨i8, ib⟩ := List.forall_mem_cons.mp ib
  obtain ⟨i9, ib⟩ := List.forall_mem_cons.mp ib
  obtain ⟨c0, s0, k0⟩ := u_known (C := RX0) (T := TX0) (N := 7) (n := 7) hts inX0 i0
  obtain ⟨c1, s1, k1⟩ := u_known (C := RX1) (T := TX1) (N := 5) (n := 5) hts inX1 i1
  obtain ⟨c2, s2, k2⟩ := u_known (C := RX2) (T := TX2) (N := 19) (n := 19) hts inX2 i2
  obtain ⟨c3, s3, k3⟩ := u_known (C := RX3) (T := TX3) (N := 1) (n := 1) hts inX3 i3
  obtain ⟨c4, s4, k4⟩ := u_known (C := RX4) (T := TX4) (N := 2) (n := 2) hts inX4 i4
  obtain ⟨c5, s5, k5⟩ := u_known (C := RX5) (T := TX5) (N := 5) (n := 5) hts inX5 i5
  obtain ⟨c6, s6, k6⟩ := u_known (C := RX6) (T := TX6) (N := 8) (n := 8) hts inX6 i6
  obtain ⟨c7, s7, k7⟩ := u_known (C := RX7) (T := TX7) (N := 7) (n := 7) hts inX7 i7
  obtain ⟨c8, s8, k8⟩ := u_known (C := RX8) (T := TX8) (N := 14) (n := 14) hts inX8 i8
  obtain ⟨c9, s9, k9⟩ := u_known (C := RX9) (T := TX9) (N := 8) (n := 8) hts inX9 i9
  obtain ⟨D, hD⟩ : ∃ D : va_G, ∀ (k : Nat) (q : vw_C), vwCl[k]? = some q → u_Kn s q.1 q.2.1 q.2.2 (D.1 k) (D.2 k) := by
    refine ⟨(fun k => if k = 0 then c0 else if k = 1 then c1 else if k = 2 then c2 else if k = 3 then c3 else if k = 4 then c4 else if k = 5 then c5 else if k = 6 then c6 else if k = 7 then c7 else if k = 8 then c8 else c9, fun k => if k = 0 then s0 else if k = 1 then s1 else if k = 2 then s2 else if k = 3 then s3 else if k = 4 then s4 else if k = 5 then s5 else if k = 6 then s6 else if k = 7 then s7 else if k = 8 then s8 else s9), ?_⟩
    intro k q hq
    match k, hq with
    | 0, hq => cases hq; exact k0
    | 1, hq => cases hq; exact k1
    | 2, hq => cases hq; exact k2
    | 3, hq => cases hq; exact k3
    | 4, hq => cases hq; exact k4
    | 5, hq => cases hq; exact k5
    | 6, hq => cases hq; exact k6
    | 7, hq => cases hq; exact k7
    | 8, hq => cases hq; exact k8
    | 9, hq => cases hq; exact k9
    | k + 10, hq => simp [vwCl] at hq
  obtain ⟨cI, kI, pI, a1, a2, a3⟩ := Cond.arrayClass_spec t7
  obtain ⟨cJ, kJ, pJ, b1, b2, b3⟩ := Cond.arrayClass_spec t8
  obtain ⟨pH, cH, kH, d1, d2, d3, d4, d5⟩ := Cond.arrayOver_spec t9
  obtain ⟨pS, cS, kS, e1, e2, e3, e4, e5⟩ := Jvm.Stand.arrayOver_specB t10
  have hK : va_K D vwCl [(cI, .int), (cJ, .long), (cH, .object "GuardWalks$House"), (cS, .array .int)] s := by
    refine ⟨hD, fun k q hq => ?_⟩
    match k, hq with
    | 0, hq => cases hq; exact ⟨fun n z => ⟨(fun k h => by cases h), kI, a2, pI, a3⟩, a1⟩
    | 1, hq => cases hq; exact ⟨fun n z => ⟨(fun k h => by cases h), kJ, b2, pJ, b3⟩, b1⟩
    | 2, hq => cases hq; exact ⟨fun n z => ⟨(fun k h => by cases h), kH, d3, pH, d4⟩, kH, pH, d3, d4, d1, d5⟩
    | 3, hq => cases hq; exact ⟨fun n z => ⟨(fun k h => by cases h), kS, e3, pS, e4⟩, e5⟩
    | k + 4, hq => simp at hq
  have hXw : Xw (l, D, (cI, cJ, cH, cS), (adK, adV), (b, L, xs)) (fun q : Nat => s.heap.size ≤ q) s s.heap := ⟨fun w hw => va_Nw.of (nw_ot w hw) (hts w (nw_tbl w hw)), fun i q hq => hstr i q hq, vx_Zqof t0 t4 n0 hA, vx_Zqof t1 t4 n1 hA, va_Zof t2 t5 (va_eqi n2) hA, va_Zqof t3 t6 n3 hA, ⟨va_AO.of t9, t10⟩, hX, Nat.not_le.mpr hbl⟩
  exact ⟨(l, D, (cI, cJ, cH, cS), (adK, adV), (b, L, xs)), rfl, rfl, ⟨rfl, rfl⟩, ⟨hx, hb, hml, hr, hown⟩, fun w hw => hts w (wsL_law_in w hw), hlocks, hK, fun q h => h, hXw, rfl⟩
end START
