section FLOATS
/-- no NaN, and small enough -/
def okD (f : FP.Core.Fmt) (d : FP.Core.Datum) : Prop := match d with
  | .nan => False
  | .inf _ => True
  | .fin _ c q => c < 2 ^ f.p ∧ q ≤ f.qmax
theorem okD_bound (f : FP.Core.Fmt) (s : Bool) {c : Nat} (q : Int) (hc : c < 2 ^ f.p) : okD f (FP.Core.bound f s c q) := by
  unfold FP.Core.bound
  by_cases h : q ≤ f.qmax
  · rw [if_pos h]; exact ⟨hc, h⟩
  · rw [if_neg h]; exact trivial
theorem okD_rr {f : FP.Core.Fmt} (h1 : f.qmin ≤ f.qmax) (h2 : f.tails < 2 ^ f.p) (s : Bool) (A B : Nat) (e : Int) : okD f (FP.Core.roundRatio f s A B e) := by
  unfold FP.Core.roundRatio
  by_cases h : A = 0
  · rw [if_pos h]; exact ⟨Nat.two_pow_pos _, h1⟩
  · rw [if_neg h]
    unfold FP.Core.roundAt FP.Core.settle
    by_cases k : FP.Core.nearest (FP.Core.unitsNum A e (FP.Core.quantum f A B e)) (FP.Core.unitsDen B e (FP.Core.quantum f A B e)) < 2 ^ f.p
    · rw [if_pos k]; exact okD_bound f s _ k
    · rw [if_neg k]; exact okD_bound f s _ h2
theorem okD_round {f : FP.Core.Fmt} (h1 : f.qmin ≤ f.qmax) (h2 : f.tails < 2 ^ f.p) {d : FP.Core.Datum} (h : d ≠ .nan) : okD f (FP.Core.round f d) := by
  cases d with
  | nan => exact absurd rfl h
  | inf s => exact trivial
  | fin s c q => exact okD_rr h1 h2 s c 1 q
theorem okD_quot {f : FP.Core.Fmt} (h1 : f.qmin ≤ f.qmax) (h2 : f.tails < 2 ^ f.p) {x : FP.Core.Datum} (h : x ≠ .nan) (t : Bool) {d : Nat} (hd : d ≠ 0) (r : Int) : okD f (FP.Core.quotient f x (.fin t d r)) := by
  cases x with
  | nan => exact absurd rfl h
  | inf s => exact trivial
  | fin s c q =>
    show okD f (if d = 0 then (if c = 0 then .nan else .inf (s != t)) else FP.Core.roundRatio f (s != t) c d (q - r))
    rw [if_neg hd]
    exact okD_rr h1 h2 _ _ _ _
theorem b64q : FP.Core.b64.qmin ≤ FP.Core.b64.qmax := by decide
theorem b64t : FP.Core.b64.tails < 2 ^ FP.Core.b64.p := by decide
theorem b32q : FP.Core.b32.qmin ≤ FP.Core.b32.qmax := by decide
theorem b32t : FP.Core.b32.tails < 2 ^ FP.Core.b32.p := by decide
theorem b64tails : FP.Core.b64.tails = 4503599627370496 := by decide
theorem b64exps : FP.Core.b64.exps = 2048 := by decide
theorem b64pp : 2 ^ FP.Core.b64.p = 9007199254740992 := by decide
theorem b64qmin : FP.Core.b64.qmin = -1074 := by decide
theorem b64qmax : FP.Core.b64.qmax = 971 := by decide
theorem b32tails : FP.Core.b32.tails = 8388608 := by decide
theorem b32exps : FP.Core.b32.exps = 256 := by decide
theorem b32pp : 2 ^ FP.Core.b32.p = 16777216 := by decide
theorem b32qmin : FP.Core.b32.qmin = -149 := by decide
theorem b32qmax : FP.Core.b32.qmax = 104 := by decide
/-- the bits of a double that is no NaN -/
theorem n64_nat {N : Nat} (h : N < 18446744073709551616) : n64 (UInt64.ofNat N) = decide (N % 9223372036854775808 ≤ 9218868437227405312) := by
  unfold n64
  refine decide_eq_decide.mpr ?_
  rw [UInt64.le_iff_toNat_le, UInt64.toNat_and, UInt64.toNat_ofNat_of_lt' h, show (0x7fffffffffffffff : UInt64).toNat = 2 ^ 63 - 1 from rfl, show (0x7ff0000000000000 : UInt64).toNat = 9218868437227405312 from rfl, Nat.and_two_pow_sub_one_eq_mod]
theorem n32_nat {N : Nat} (h : N < 4294967296) : n32 (UInt32.ofNat N) = decide (N % 2147483648 ≤ 2139095040) := by
  unfold n32
  refine decide_eq_decide.mpr ?_
  rw [UInt32.le_iff_toNat_le, UInt32.toNat_and, UInt32.toNat_ofNat_of_lt' h, show (0x7fffffff : UInt32).toNat = 2 ^ 31 - 1 from rfl, show (0x7f800000 : UInt32).toNat = 2139095040 from rfl, Nat.and_two_pow_sub_one_eq_mod]
/-- the fields of an encoding -/
theorem enc64 {d : FP.Core.Datum} (h : okD FP.Core.b64 d) : ∃ s e t : Nat, FP.Core.encode FP.Core.b64 d = (s * 2048 + e) * 4503599627370496 + t ∧ s ≤ 1 ∧ t < 4503599627370496 ∧ (e ≤ 2046 ∨ (e = 2047 ∧ t = 0)) ∧ ∀ b c q, d = .fin b c q → 0 < c → e ≤ 2046 ∧ (0 < e ∨ 0 < t) := by
  have hb : ∀ s : Bool, s.toNat ≤ 1 := fun s => by cases s <;> decide
  cases d with
  | nan => exact absurd h (fun x => x)
  | inf s =>
    refine ⟨s.toNat, 2047, 0, ?_, hb s, by omega, Or.inr ⟨rfl, rfl⟩, fun b c q e => by cases e⟩
    show FP.Core.assemble FP.Core.b64 s (FP.Core.b64.exps - 1) 0 = _
    unfold FP.Core.assemble
    rw [b64tails, b64exps]
  | fin s c q =>
    obtain ⟨h1, h2⟩ := h
    rw [b64pp] at h1
    rw [b64qmax] at h2
    show ∃ s' e t : Nat, (if c < FP.Core.b64.tails then FP.Core.assemble FP.Core.b64 s 0 c else FP.Core.assemble FP.Core.b64 s ((q - FP.Core.b64.qmin).toNat + 1) (c - FP.Core.b64.tails)) = _ ∧ _
    unfold FP.Core.assemble
    rw [b64tails, b64exps, b64qmin]
    by_cases k : c < 4503599627370496
    · rw [if_pos k]
      exact ⟨s.toNat, 0, c, rfl, hb s, k, Or.inl (by omega), fun b c' q' e hc => ⟨by omega, Or.inr (by cases e; exact hc)⟩⟩
    · rw [if_neg k]
      exact ⟨s.toNat, (q - -1074).toNat + 1, c - 4503599627370496, rfl, hb s, by omega, Or.inl (by omega), fun b c' q' e hc => ⟨by omega, Or.inl (by omega)⟩⟩
theorem enc32 {d : FP.Core.Datum} (h : okD FP.Core.b32 d) : ∃ s e t : Nat, FP.Core.encode FP.Core.b32 d = (s * 256 + e) * 8388608 + t ∧ s ≤ 1 ∧ t < 8388608 ∧ (e ≤ 254 ∨ (e = 255 ∧ t = 0)) ∧ ∀ b c q, d = .fin b c q → 0 < c → e ≤ 254 ∧ (0 < e ∨ 0 < t) := by
  have hb : ∀ s : Bool, s.toNat ≤ 1 := fun s => by cases s <;> decide
  cases d with
  | nan => exact absurd h (fun x => x)
  | inf s =>
    refine ⟨s.toNat, 255, 0, ?_, hb s, by omega, Or.inr ⟨rfl, rfl⟩, fun b c q e => by cases e⟩
    show FP.Core.assemble FP.Core.b32 s (FP.Core.b32.exps - 1) 0 = _
    unfold FP.Core.assemble
    rw [b32tails, b32exps]
  | fin s c q =>
    obtain ⟨h1, h2⟩ := h
    rw [b32pp] at h1
    rw [b32qmax] at h2
    show ∃ s' e t : Nat, (if c < FP.Core.b32.tails then FP.Core.assemble FP.Core.b32 s 0 c else FP.Core.assemble FP.Core.b32 s ((q - FP.Core.b32.qmin).toNat + 1) (c - FP.Core.b32.tails)) = _ ∧ _
    unfold FP.Core.assemble
    rw [b32tails, b32exps, b32qmin]
    by_cases k : c < 8388608
    · rw [if_pos k]
      exact ⟨s.toNat, 0, c, rfl, hb s, k, Or.inl (by omega), fun b c' q' e hc => ⟨by omega, Or.inr (by cases e; exact hc)⟩⟩
    · rw [if_neg k]
      exact ⟨s.toNat, (q - -149).toNat + 1, c - 8388608, rfl, hb s, by omega, Or.inl (by omega), fun b c' q' e hc => ⟨by omega, Or.inl (by omega)⟩⟩
theorem n64_enc {d : FP.Core.Datum} (h : okD FP.Core.b64 d) : n64 (UInt64.ofNat (FP.Core.encode FP.Core.b64 d)) = true := by
  obtain ⟨s, e, t, h1, h2, h3, h4, -⟩ := enc64 h
  rw [h1, n64_nat (by omega)]
  exact decide_eq_true (by omega)
theorem n32_enc {d : FP.Core.Datum} (h : okD FP.Core.b32 d) : n32 (UInt32.ofNat (FP.Core.encode FP.Core.b32 d)) = true := by
  obtain ⟨s, e, t, h1, h2, h3, h4, -⟩ := enc32 h
  rw [h1, n32_nat (by omega)]
  exact decide_eq_true (by omega)
theorem dec64_n {r : UInt64} (h : n64 r = true) : FP.Core.decode FP.Core.b64 r.toNat ≠ .nan := by
  have hr := r.toNat_lt
  have hn := n64_nat (N := r.toNat) (by omega)
  rw [UInt64.ofNat_toNat, h] at hn
  have hn := of_decide_eq_true hn.symm
  unfold FP.Core.decode FP.Core.fieldE FP.Core.fieldT
  rw [b64tails, b64exps]
  by_cases k : r.toNat / 4503599627370496 % 2048 = 2048 - 1
  · rw [if_pos k, if_pos (show r.toNat % 4503599627370496 = 0 by omega)]
    exact fun e => by cases e
  · rw [if_neg k]
    by_cases k2 : r.toNat / 4503599627370496 % 2048 = 0
    · rw [if_pos k2]; exact fun e => by cases e
    · rw [if_neg k2]; exact fun e => by cases e
theorem dec32_n {r : UInt32} (h : n32 r = true) : FP.Core.decode FP.Core.b32 r.toNat ≠ .nan := by
  have hr := r.toNat_lt
  have hn := n32_nat (N := r.toNat) (by omega)
  rw [UInt32.ofNat_toNat, h] at hn
  have hn := of_decide_eq_true hn.symm
  unfold FP.Core.decode FP.Core.fieldE FP.Core.fieldT
  rw [b32tails, b32exps]
  by_cases k : r.toNat / 8388608 % 256 = 256 - 1
  · rw [if_pos k, if_pos (show r.toNat % 8388608 = 0 by omega)]
    exact fun e => by cases e
  · rw [if_neg k]
    by_cases k2 : r.toNat / 8388608 % 256 = 0
    · rw [if_pos k2]; exact fun e => by cases e
    · rw [if_neg k2]; exact fun e => by cases e
theorem dec64_pos {b : Bool} {c : Nat} {q : Int} (h : okD FP.Core.b64 (.fin b c q)) (hc : 0 < c) : ∃ s c' q', FP.Core.decode FP.Core.b64 (UInt64.ofNat (FP.Core.encode FP.Core.b64 (.fin b c q))).toNat = .fin s c' q' ∧ c' ≠ 0 := by
  obtain ⟨s, e, t, h1, h2, h3, h4, h5⟩ := enc64 h
  obtain ⟨h6, h7⟩ := h5 b c q rfl hc
  rw [h1, UInt64.toNat_ofNat_of_lt' (show (s * 2048 + e) * 4503599627370496 + t < 18446744073709551616 by omega)]
  unfold FP.Core.decode FP.Core.fieldE FP.Core.fieldT
  rw [b64tails, b64exps]
  have k1 : ((s * 2048 + e) * 4503599627370496 + t) / 4503599627370496 % 2048 = e := by omega
  have k2 : ((s * 2048 + e) * 4503599627370496 + t) % 4503599627370496 = t := by omega
  rw [k1, k2, if_neg (show ¬ e = 2048 - 1 by omega)]
  by_cases k : e = 0
  · rw [if_pos k]; exact ⟨_, _, _, rfl, by omega⟩
  · rw [if_neg k]; exact ⟨_, _, _, rfl, by omega⟩
theorem dec32_pos {b : Bool} {c : Nat} {q : Int} (h : okD FP.Core.b32 (.fin b c q)) (hc : 0 < c) : ∃ s c' q', FP.Core.decode FP.Core.b32 (UInt32.ofNat (FP.Core.encode FP.Core.b32 (.fin b c q))).toNat = .fin s c' q' ∧ c' ≠ 0 := by
  obtain ⟨s, e, t, h1, h2, h3, h4, h5⟩ := enc32 h
  obtain ⟨h6, h7⟩ := h5 b c q rfl hc
  rw [h1, UInt32.toNat_ofNat_of_lt' (show (s * 256 + e) * 8388608 + t < 4294967296 by omega)]
  unfold FP.Core.decode FP.Core.fieldE FP.Core.fieldT
  rw [b32tails, b32exps]
  have k1 : ((s * 256 + e) * 8388608 + t) / 8388608 % 256 = e := by omega
  have k2 : ((s * 256 + e) * 8388608 + t) % 8388608 = t := by omega
  rw [k1, k2, if_neg (show ¬ e = 256 - 1 by omega)]
  by_cases k : e = 0
  · rw [if_pos k]; exact ⟨_, _, _, rfl, by omega⟩
  · rw [if_neg k]; exact ⟨_, _, _, rfl, by omega⟩
/-- a small number is rounded to itself -/
theorem near1 (n : Nat) : FP.Core.nearest n 1 = n := by
  unfold FP.Core.nearest
  rw [if_pos (by omega)]
  omega
theorem rr_small {f : FP.Core.Fmt} (s : Bool) {A : Nat} (hA : 0 < A) (hq0 : f.qmin ≤ -2) (hqm : 1 ≤ f.qmax) (ht : 0 < f.tails) (hl : (A.log2 : Int) - ((f.p : Int) - 1) ≤ 0) : ∃ c q, FP.Core.roundRatio f s A 1 0 = .fin s c q ∧ 0 < c := by
  have hq : FP.Core.quantum f A 1 0 ≤ 0 := by
    unfold FP.Core.quantum FP.Core.leading
    have e1 : Nat.log2 1 = 0 := by decide
    dsimp only
    rw [e1]
    split <;> omega
  unfold FP.Core.roundRatio
  rw [if_neg (by omega)]
  unfold FP.Core.roundAt
  have hu : FP.Core.unitsDen 1 0 (FP.Core.quantum f A 1 0) = 1 := by
    unfold FP.Core.unitsDen
    rw [show (FP.Core.quantum f A 1 0 - 0).toNat = 0 by omega]
  have hn : 0 < FP.Core.unitsNum A 0 (FP.Core.quantum f A 1 0) := Nat.mul_pos hA (Nat.two_pow_pos _)
  rw [hu, near1]
  revert hq hn
  generalize FP.Core.unitsNum A 0 (FP.Core.quantum f A 1 0) = N
  generalize FP.Core.quantum f A 1 0 = q
  intro hq hn
  unfold FP.Core.settle FP.Core.bound
  by_cases k : N < 2 ^ f.p
  · rw [if_pos k, if_pos (by omega)]
    exact ⟨_, _, rfl, hn⟩
  · rw [if_neg k, if_pos (by omega)]
    exact ⟨_, _, rfl, ht⟩
theorem log2_le {A k : Nat} (h : A < 2 ^ (k + 1)) : A.log2 ≤ k := by
  by_cases c : A = 0
  · rw [c]; exact Nat.zero_le _
  · have := (Nat.log2_lt c).mpr h
    omega
theorem i2d_n (a : Int32) : n64 (FP.i2d a) = true := n64_enc (okD_round b64q b64t (fun e => by cases e))
theorem i2f_n (a : Int32) : n32 (FP.i2f a) = true := n32_enc (okD_round b32q b32t (fun e => by cases e))
/-- no NaN comes of these divisions -/
theorem ddiv_n (a : Int32) {b : Nat} (h1 : 1 ≤ b) (h2 : b ≤ 1000000) : n64 (FP.ddiv (FP.i2d a) (FP.i2d (I (b : Int)))) = true := by
  have hl : b.log2 ≤ 20 := log2_le (by omega)
  have hI : (I (b : Int)).toInt = (b : Int) := I_int (by omega) (by omega)
  have hr : FP.Core.round FP.Core.b64 (FP.Core.ofInt (I (b : Int)).toInt) = FP.Core.roundRatio FP.Core.b64 false b 1 0 := by
    rw [hI]
    unfold FP.Core.ofInt
    rw [decide_eq_false (show ¬ (b : Int) < 0 by omega), Int.natAbs_natCast]
    rfl
  obtain ⟨c, q, e1, e2⟩ := rr_small (f := FP.Core.b64) false (A := b) (by omega) (by decide) (by decide) (by decide) (by show (b.log2 : Int) - ((53 : Int) - 1) ≤ 0; omega)
  have hok : okD FP.Core.b64 (.fin false c q) := by rw [← e1]; exact okD_rr b64q b64t _ _ _ _
  obtain ⟨s, c', q', e3, e4⟩ := dec64_pos hok e2
  have hd : FP.Core.decode FP.Core.b64 (FP.i2d (I (b : Int))).toNat = .fin s c' q' := by
    show FP.Core.decode FP.Core.b64 (UInt64.ofNat (FP.Core.encode FP.Core.b64 (FP.Core.round FP.Core.b64 (FP.Core.ofInt (I (b : Int)).toInt)))).toNat = _
    rw [hr, e1]; exact e3
  show n64 (UInt64.ofNat (FP.Core.encode FP.Core.b64 (FP.Core.quotient FP.Core.b64 (FP.Core.decode FP.Core.b64 (FP.i2d a).toNat) (FP.Core.decode FP.Core.b64 (FP.i2d (I (b : Int))).toNat)))) = true
  rw [hd]
  exact n64_enc (okD_quot b64q b64t (dec64_n (i2d_n a)) s e4 q')
theorem fdiv_n (a : Int32) {b : Nat} (h1 : 1 ≤ b) (h2 : b ≤ 1000000) : n32 (FP.fdiv (FP.i2f a) (FP.i2f (I (b : Int)))) = true := by
  have hl : b.log2 ≤ 20 := log2_le (by omega)
  have hI : (I (b : Int)).toInt = (b : Int) := I_int (by omega) (by omega)
  have hr : FP.Core.round FP.Core.b32 (FP.Core.ofInt (I (b : Int)).toInt) = FP.Core.roundRatio FP.Core.b32 false b 1 0 := by
    rw [hI]
    unfold FP.Core.ofInt
    rw [decide_eq_false (show ¬ (b : Int) < 0 by omega), Int.natAbs_natCast]
    rfl
  obtain ⟨c, q, e1, e2⟩ := rr_small (f := FP.Core.b32) false (A := b) (by omega) (by decide) (by decide) (by decide) (by show (b.log2 : Int) - ((24 : Int) - 1) ≤ 0; omega)
  have hok : okD FP.Core.b32 (.fin false c q) := by rw [← e1]; exact okD_rr b32q b32t _ _ _ _
  obtain ⟨s, c', q', e3, e4⟩ := dec32_pos hok e2
  have hd : FP.Core.decode FP.Core.b32 (FP.i2f (I (b : Int))).toNat = .fin s c' q' := by
    show FP.Core.decode FP.Core.b32 (UInt32.ofNat (FP.Core.encode FP.Core.b32 (FP.Core.round FP.Core.b32 (FP.Core.ofInt (I (b : Int)).toInt)))).toNat = _
    rw [hr, e1]; exact e3
  show n32 (UInt32.ofNat (FP.Core.encode FP.Core.b32 (FP.Core.quotient FP.Core.b32 (FP.Core.decode FP.Core.b32 (FP.i2f a).toNat) (FP.Core.decode FP.Core.b32 (FP.i2f (I (b : Int))).toNat)))) = true
  rw [hd]
  exact n32_enc (okD_quot b32q b32t (dec32_n (i2f_n a)) s e4 q')
theorem f2d_n {r : UInt32} (h : n32 r = true) : n64 (FP.f2d r) = true := by
  have h1 := dec32_n h
  have h2 : FP.Core.fIsNaN r = false := decide_eq_false h1
  unfold FP.f2d
  rw [h2]
  show n64 (if false = true then _ else FP.Core.f2d r) = true
  rw [if_neg (by decide)]
  exact n64_enc (okD_round b64q b64t h1)
end FLOATS
