/-! ===== a quotient of two whole numbers is a number ===== -/
section Fpm
theorem fp_tails : FP.Core.b64.tails = 4503599627370496 := by decide
theorem fp_exps : FP.Core.b64.exps = 2048 := by decide
theorem fp_qmin : FP.Core.b64.qmin = -1074 := by decide
theorem fp_qmax : FP.Core.b64.qmax = 971 := by decide
theorem fp_p : (2 : Nat) ^ FP.Core.b64.p = 9007199254740992 := by decide
theorem fp_asm {s : Bool} {E T : Nat} (hE : E ≤ 2046) (hT : T < 4503599627370496) : (UInt64.ofNat (FP.Core.assemble FP.Core.b64 s E T)).toNat = (s.toNat * 2048 + E) * 4503599627370496 + T := by
  have h : FP.Core.assemble FP.Core.b64 s E T = (s.toNat * 2048 + E) * 4503599627370496 + T := by
    unfold FP.Core.assemble
    rw [fp_tails, fp_exps]
  rw [h]
  have : s.toNat ≤ 1 := by cases s <;> decide
  exact UInt64.toNat_ofNat_of_lt' (by show _ < 18446744073709551616; omega)
theorem fp_n64 {s : Bool} {E T : Nat} (hE : E ≤ 2046) (hT : T < 4503599627370496) : vf_n64 (UInt64.ofNat (FP.Core.assemble FP.Core.b64 s E T)) := by
  show UInt64.ofNat (FP.Core.assemble FP.Core.b64 s E T) &&& 0x7fffffffffffffff ≤ 0x7ff0000000000000
  rw [UInt64.le_iff_toNat_le, UInt64.toNat_and, fp_asm hE hT]
  show _ &&& (2 ^ 63 - 1) ≤ 9218868437227405312
  rw [Nat.and_two_pow_sub_one_eq_mod]
  omega
theorem fp_dec {s : Bool} {E T : Nat} (hE : 1 ≤ E ∧ E ≤ 2046) (hT : T < 4503599627370496) : FP.Core.decode FP.Core.b64 (UInt64.ofNat (FP.Core.assemble FP.Core.b64 s E T)).toNat = .fin s (4503599627370496 + T) (-1074 + ((E : Int) - 1)) := by
  rw [fp_asm hE.2 hT]
  have hs : s.toNat = 0 ∨ s.toNat = 1 := by cases s <;> decide
  have a1 : ((s.toNat * 2048 + E) * 4503599627370496 + T) / 4503599627370496 = s.toNat * 2048 + E := by omega
  have a2 : ((s.toNat * 2048 + E) * 4503599627370496 + T) % 4503599627370496 = T := by omega
  have e1 : FP.Core.fieldE FP.Core.b64 ((s.toNat * 2048 + E) * 4503599627370496 + T) = E := by
    unfold FP.Core.fieldE
    rw [fp_tails, fp_exps, a1, Nat.mul_comm, Nat.mul_add_mod, Nat.mod_eq_of_lt (by omega)]
  have e2 : FP.Core.fieldT FP.Core.b64 ((s.toNat * 2048 + E) * 4503599627370496 + T) = T := by
    unfold FP.Core.fieldT
    rw [fp_tails, a2]
  have e3 : FP.Core.fieldS FP.Core.b64 ((s.toNat * 2048 + E) * 4503599627370496 + T) = s := by
    unfold FP.Core.fieldS
    rw [fp_tails, fp_exps, a1]
    have : (s.toNat * 2048 + E) / 2048 % 2 = s.toNat := by omega
    rw [this]
    cases s <;> decide
  unfold FP.Core.decode
  rw [e1, e2, e3, fp_exps, fp_tails, fp_qmin, if_neg (by omega), if_neg (by omega)]
/-- what a rounded number of 53 digits is, written -/
theorem fp_settle {s : Bool} {c : Nat} {q : Int} (h1 : 4503599627370496 ≤ c) (h2 : c ≤ 9007199254740992) (hq : -1000 ≤ q ∧ q ≤ 900) : ∃ E T, 1 ≤ E ∧ E ≤ 2046 ∧ T < 4503599627370496 ∧ FP.Core.encode FP.Core.b64 (FP.Core.settle FP.Core.b64 s c q) = FP.Core.assemble FP.Core.b64 s E T ∧ (c < 9007199254740992 → (4503599627370496 + T = c ∧ -1074 + ((E : Int) - 1) = q)) := by
  unfold FP.Core.settle FP.Core.bound
  rw [fp_p, fp_qmax, fp_tails]
  by_cases hc : c < 9007199254740992
  · rw [if_pos hc, if_pos (by omega)]
    refine ⟨(q + 1074).toNat + 1, c - 4503599627370496, by omega, by omega, by omega, ?_, fun _ => by omega⟩
    show (if c < FP.Core.b64.tails then _ else _) = _
    rw [fp_tails, if_neg (by omega), fp_qmin]
    congr 1
  · rw [if_neg hc, if_pos (by omega)]
    refine ⟨(q + 1 + 1074).toNat + 1, 0, by omega, by omega, by omega, ?_, fun z => absurd z hc⟩
    show (if (4503599627370496 : Nat) < FP.Core.b64.tails then FP.Core.assemble FP.Core.b64 s 0 4503599627370496 else FP.Core.assemble FP.Core.b64 s ((q + 1 - FP.Core.b64.qmin).toNat + 1) (4503599627370496 - FP.Core.b64.tails)) = _
    rw [fp_tails, if_neg (by omega), fp_qmin]
    congr 1
theorem fp_near {A B : Nat} (h1 : 4503599627370496 * B ≤ A) (h2 : A < 9007199254740992 * B) : 4503599627370496 ≤ FP.Core.nearest A B ∧ FP.Core.nearest A B ≤ 9007199254740992 := by
  have hB : 0 < B := by
    rcases Nat.eq_zero_or_pos B with e | e
    · subst e; omega
    · exact e
  have a1 : 4503599627370496 ≤ A / B := (Nat.le_div_iff_mul_le hB).mpr h1
  have a2 : A / B < 9007199254740992 := (Nat.div_lt_iff_lt_mul hB).mpr h2
  unfold FP.Core.nearest
  split
  · omega
  · split
    · omega
    · omega
theorem fp_near1 {A : Nat} : FP.Core.nearest A 1 = A := by
  unfold FP.Core.nearest
  rw [if_pos (by omega)]
  omega
theorem fp_i2d (x : Int32) : ∃ s c q, FP.Core.decode FP.Core.b64 (FP.i2d x).toNat = .fin s c q ∧ ((c = 0 ∧ x = 0) ∨ (x ≠ 0 ∧ 4503599627370496 ≤ c ∧ c < 9007199254740992 ∧ -52 ≤ q ∧ q ≤ -21)) := by
  by_cases h0 : x = 0
  · subst h0
    exact ⟨false, 0, -1074, by decide, Or.inl ⟨rfl, rfl⟩⟩
  · have hn0 : x.toInt ≠ 0 := fun z => h0 (Int32.toInt_inj.mp (by rw [z]; rfl))
    have hr1 := x.toInt_lt
    have hr2 := x.le_toInt
    generalize hn : x.toInt.natAbs = n
    have n1 : 0 < n := by omega
    have n2 : n ≤ 2147483648 := by omega
    generalize hk : n.log2 = k
    have k1 : 2 ^ k ≤ n := by rw [← hk]; exact Nat.log2_self_le (by omega)
    have k2 : n < 2 ^ (k + 1) := by rw [← hk]; exact Nat.lt_log2_self
    have k3 : k ≤ 31 := by
      apply Nat.le_of_not_lt
      intro z
      have : (2 : Nat) ^ 32 ≤ 2 ^ k := Nat.pow_le_pow_right (by decide) z
      omega
    have el : FP.Core.leading n 1 = (k : Int) := by
      unfold FP.Core.leading
      rw [hk, show Nat.log2 1 = 0 from by decide]
      show (if 1 * 2 ^ ((k : Int) - ((0 : Nat) : Int)).toNat ≤ n * 2 ^ (-((k : Int) - ((0 : Nat) : Int))).toNat then (k : Int) - ((0 : Nat) : Int) else _) = _
      rw [show ((k : Int) - ((0 : Nat) : Int)).toNat = k by omega, show (-((k : Int) - ((0 : Nat) : Int))).toNat = 0 by omega, if_pos (by omega)]
      omega
    have eq1 : FP.Core.quantum FP.Core.b64 n 1 0 = (k : Int) - 52 := by
      unfold FP.Core.quantum
      rw [el, fp_qmin, show ((FP.Core.b64.p : Int) - 1) = 52 from rfl]
      omega
    have eu : FP.Core.unitsNum n 0 ((k : Int) - 52) = n * 2 ^ (52 - k) := by
      unfold FP.Core.unitsNum
      rw [show ((0 : Int) - ((k : Int) - 52)).toNat = 52 - k by omega]
    have ed : FP.Core.unitsDen 1 0 ((k : Int) - 52) = 1 := by
      unfold FP.Core.unitsDen
      rw [show (((k : Int) - 52) - 0).toNat = 0 by omega]
    have p1 : (2 : Nat) ^ k * 2 ^ (52 - k) = 4503599627370496 := by
      rw [← Nat.pow_add, show k + (52 - k) = 52 by omega]
    have p2 : (2 : Nat) ^ (k + 1) * 2 ^ (52 - k) = 9007199254740992 := by
      rw [← Nat.pow_add, show k + 1 + (52 - k) = 53 by omega]
    have c1 : 4503599627370496 ≤ n * 2 ^ (52 - k) := by
      rw [← p1]
      exact Nat.mul_le_mul_right _ k1
    have c2 : n * 2 ^ (52 - k) < 9007199254740992 := by
      rw [← p2]
      exact Nat.mul_lt_mul_of_pos_right k2 (Nat.two_pow_pos _)
    have er : FP.Core.round FP.Core.b64 (FP.Core.ofInt x.toInt) = FP.Core.settle FP.Core.b64 (decide (x.toInt < 0)) (n * 2 ^ (52 - k)) ((k : Int) - 52) := by
      show FP.Core.roundRatio FP.Core.b64 (decide (x.toInt < 0)) x.toInt.natAbs 1 0 = _
      rw [hn]
      unfold FP.Core.roundRatio
      rw [if_neg (by omega), eq1]
      unfold FP.Core.roundAt
      rw [eu, ed, fp_near1]
    obtain ⟨E, T, e1, e2, e3, e4, e5⟩ := fp_settle (s := decide (x.toInt < 0)) c1 (Nat.le_of_lt c2) (q := (k : Int) - 52) (by omega)
    obtain ⟨e6, e7⟩ := e5 c2
    refine ⟨decide (x.toInt < 0), 4503599627370496 + T, -1074 + ((E : Int) - 1), ?_, Or.inr ⟨h0, by omega, by omega, by omega, by omega⟩⟩
    have : FP.i2d x = UInt64.ofNat (FP.Core.assemble FP.Core.b64 (decide (x.toInt < 0)) E T) := by
      show UInt64.ofNat (FP.Core.encode FP.Core.b64 (FP.Core.round FP.Core.b64 (FP.Core.ofInt x.toInt))) = _
      rw [er, e4]
    rw [this]
    exact fp_dec ⟨e1, e2⟩ e3
theorem fp_log {c : Nat} (h : 4503599627370496 ≤ c ∧ c < 9007199254740992) : c.log2 = 52 := (Nat.log2_eq_iff (by omega)).mpr ⟨h.1, h.2⟩
theorem fp_mean (x m : Int32) (hm : m ≠ 0) : vf_n64 (FP.ddiv (FP.i2d x) (FP.i2d m)) := by
  obtain ⟨s, c, q, a1, a2⟩ := fp_i2d x
  obtain ⟨t, d, r, b1, b2⟩ := fp_i2d m
  have b2 : 4503599627370496 ≤ d ∧ d < 9007199254740992 ∧ -52 ≤ r ∧ r ≤ -21 := by
    rcases b2 with b2 | b2
    · exact absurd b2.2 hm
    · exact b2.2
  show vf_n64 (UInt64.ofNat (FP.Core.encode FP.Core.b64 (FP.Core.quotient FP.Core.b64 (FP.Core.decode FP.Core.b64 (FP.i2d x).toNat) (FP.Core.decode FP.Core.b64 (FP.i2d m).toNat))))
  rw [a1, b1]
  show vf_n64 (UInt64.ofNat (FP.Core.encode FP.Core.b64 (if d = 0 then _ else FP.Core.roundRatio FP.Core.b64 (s != t) c d (q - r))))
  rw [if_neg (by omega)]
  generalize (s != t) = u
  unfold FP.Core.roundRatio
  rcases a2 with a2 | a2
  · rw [if_pos a2.1]
    show vf_n64 (UInt64.ofNat (if 0 < FP.Core.b64.tails then FP.Core.assemble FP.Core.b64 u 0 0 else FP.Core.assemble FP.Core.b64 u ((FP.Core.b64.qmin - FP.Core.b64.qmin).toNat + 1) (0 - FP.Core.b64.tails)))
    rw [fp_tails, if_pos (by decide)]
    exact fp_n64 (by decide) (by decide)
  · obtain ⟨-, c1, c2, q1, q2⟩ := a2
    rw [if_neg (by omega)]
    unfold FP.Core.roundAt
    have fin : ∀ (l : Int), l = 0 ∨ l = -1 → FP.Core.leading c d = l → (4503599627370496 * d ≤ c * 2 ^ (52 - l).toNat ∧ c * 2 ^ (52 - l).toNat < 9007199254740992 * d) → vf_n64 (UInt64.ofNat (FP.Core.encode FP.Core.b64 (FP.Core.settle FP.Core.b64 u (FP.Core.nearest (FP.Core.unitsNum c (q - r) (FP.Core.quantum FP.Core.b64 c d (q - r))) (FP.Core.unitsDen d (q - r) (FP.Core.quantum FP.Core.b64 c d (q - r)))) (FP.Core.quantum FP.Core.b64 c d (q - r))))) := by
      intro l hl hl2 hb
      have e1 : FP.Core.quantum FP.Core.b64 c d (q - r) = l + (q - r) - 52 := by
        unfold FP.Core.quantum
        rw [hl2, fp_qmin, show ((FP.Core.b64.p : Int) - 1) = 52 from rfl]
        omega
      have e2 : FP.Core.unitsNum c (q - r) (l + (q - r) - 52) = c * 2 ^ (52 - l).toNat := by
        unfold FP.Core.unitsNum
        rw [show ((q - r) - (l + (q - r) - 52)) = 52 - l by omega]
      have e3 : FP.Core.unitsDen d (q - r) (l + (q - r) - 52) = d := by
        unfold FP.Core.unitsDen
        rw [show ((l + (q - r) - 52) - (q - r)).toNat = 0 by omega]
        omega
      rw [e1, e2, e3]
      obtain ⟨n1, n2⟩ := fp_near hb.1 hb.2
      obtain ⟨E, T, f1, f2, f3, f4, -⟩ := fp_settle (s := u) n1 n2 (q := l + (q - r) - 52) (by omega)
      rw [f4]
      exact fp_n64 f2 f3
    have hlead : FP.Core.leading c d = if d ≤ c then 0 else -1 := by
      unfold FP.Core.leading
      rw [fp_log ⟨c1, c2⟩, fp_log ⟨b2.1, b2.2.1⟩]
      show (if d * 2 ^ 0 ≤ c * 2 ^ 0 then (0 : Int) else -1) = _
      simp
    by_cases z : d ≤ c
    · refine fin 0 (Or.inl rfl) (by rw [hlead, if_pos z]) ?_
      show 4503599627370496 * d ≤ c * 4503599627370496 ∧ c * 4503599627370496 < 9007199254740992 * d
      omega
    · refine fin (-1) (Or.inr rfl) (by rw [hlead, if_neg z]) ?_
      show 4503599627370496 * d ≤ c * 9007199254740992 ∧ c * 9007199254740992 < 9007199254740992 * d
      omega
end Fpm
