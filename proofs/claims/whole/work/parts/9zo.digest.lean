/-! ===== mean and digest, on both sides ===== -/
def smf (f : Nat → Int32) : Nat → Nat → Int32 → Int32
  | 0, _, x => x
  | n + 1, i, x => smf f n (i + 1) (x + f i)
def dgf (f : Nat → Int32) : Nat → Nat → Int64 → Int64
  | 0, _, x => x
  | n + 1, i, x => dgf f n (i + 1) (x * 31 + (f i).toInt64)
def dgr (f : Nat → Nat → Int32) (c : Nat) : Nat → Nat → Int64 → Int64
  | 0, _, x => x
  | n + 1, i, x => dgr f c n (i + 1) (dgf (f i) c 0 x)
theorem dgr_4 {f : Nat → Nat → Int32} {g : Nat → Int32} (h : ∀ i w : Nat, w < 4 → f i w = g (4 * i + w)) : ∀ (n i : Nat) (x : Int64), dgr f 4 n i x = dgf g (4 * n) (4 * i) x := by
  intro n
  induction n with
  | zero => exact fun i x => rfl
  | succ n ih =>
    intro i x
    show dgr f 4 n (i + 1) (((((x * 31 + (f i 0).toInt64) * 31 + (f i 1).toInt64) * 31 + (f i 2).toInt64) * 31 + (f i 3).toInt64)) = _
    rw [ih, h i 0 (by omega), h i 1 (by omega), h i 2 (by omega), h i 3 (by omega)]
    rfl
theorem dg_s (i : Nat) : zi (i : Int) + 1 = zi ((i + 1 : Nat) : Int) := by
  rw [show (1 : Int32) = zi 1 from rfl, zi_add]
  rfl
section Dig
variable {RO : zRo} {d : Nat} {P : zP} {I : zI} {J : zJ} {D : zD} {bc bs : Nat} {s : lS}
theorem d_127 {m a : Nat} {f : Nat → Int32} (hm : m ≤ 4 ∧ 1 ≤ m) (ha : a < 6) (hf : ∀ j : Nat, j < m → I 21 (6 * j + a) = f j) : ∀ (n i : Nat) (x : Int32), i + n = m → P (.inl (some (.double (FP.ddiv (FP.i2d (smf f n i x)) (FP.i2d (zi (m : Int))))))) I J D → zw RO (d + 1) 127 P 46 [(0, .ref 0), (1, .int (zi (a : Int))), (2, .int (zi (m : Int))), (3, .int x), (4, .int (zi (i : Int)))] [] I J D bc bs := by
  intro n
  induction n with
  | zero =>
    intro i x hi K
    refine wl_127_46 ⟨fun _ => ⟨fp_mean _ _ (fun z => ?_), K⟩, fun z => absurd ((zi_le (by omega) (by omega)).mpr (by omega)) z⟩
    rw [show (0 : Int32) = zi 0 from rfl, zi_eq (by omega) (by omega)] at z
    omega
  | succ n ih =>
    intro i x hi K
    refine wl_127_46 ⟨fun z => absurd ((zi_le (by omega) (by omega)).mp z) (by omega), fun _ => ?_⟩
    rw [show zi (i : Int) * 6 + zi (a : Int) = zi ((6 * i + a : Nat) : Int) by rw [show (6 : Int32) = zi 6 from rfl, zi_mul, zi_add]; congr 1; omega, zv84_at (by omega), hf i (by omega), dg_s]
    exact ih (i + 1) _ (by omega) K
theorem d_218 {m a : Nat} {f : Nat → Int32} (hm : m ≤ 4 ∧ 1 ≤ m) (h30 : I 28 30 = zi (m : Int)) (ha : a < 6) (hf : ∀ j : Nat, j < m → I 46 (6 * j + a) = f j) : ∀ (n i : Nat) (x : Int32), i + n = m → P (.inl (some (.double (FP.ddiv (FP.i2d (smf f n i x)) (FP.i2d (zi (m : Int))))))) I J D → zw RO (d + 1) 218 P 47 [(0, .ref 28), (1, .int (zi (a : Int))), (2, .int x), (3, .int (zi (i : Int)))] [] I J D bc bs := by
  intro n
  induction n with
  | zero =>
    intro i x hi K
    refine wl_218_47 ?_
    rw [h30]
    refine ⟨fun _ => ⟨fp_mean _ _ (fun z => ?_), K⟩, fun z => absurd ((zi_le (by omega) (by omega)).mpr (by omega)) z⟩
    rw [show (0 : Int32) = zi 0 from rfl, zi_eq (by omega) (by omega)] at z
    omega
  | succ n ih =>
    intro i x hi K
    have e : 6 * zi (i : Int) + zi (a : Int) = zi ((6 * i + a : Nat) : Int) := by
      rw [show (6 : Int32) = zi 6 from rfl, zi_mul, zi_add]
      congr 1
    refine wl_218_47 ?_
    rw [h30, e, zi_cl (by omega) (by omega), Int.toNat_natCast, hf i (by omega), dg_s]
    exact ⟨fun z => absurd ((zi_le (by omega) (by omega)).mp z) (by omega), fun _ => ⟨zi_in (by omega) (by omega) (by decide), ih (i + 1) _ (by omega) K⟩⟩
theorem d_128a {f : Nat → Int32} (hf : ∀ k : Nat, k ≤ 9 → zv_112 I J (zi (k : Int)) = f k) : ∀ (n i : Nat) (x : Int64), i + n = 10 → zw RO (d + 2) 128 P 48 [(0, .ref 0), (1, .long (dgf f n i x * 31 + (I 23 5).toInt64)), (3, .int 0)] [] I J D bc bs → zw RO (d + 2) 128 P 6 [(0, .ref 0), (1, .long x), (3, .int (zi (i : Int)))] [] I J D bc bs := by
  intro n
  induction n with
  | zero =>
    intro i x hi K
    exact wl_128_6 ⟨fun _ => K, fun z => absurd (show zi 9 < zi (i : Int) from (zi_lt (by omega) (by omega)).mpr (by omega)) z⟩
  | succ n ih =>
    intro i x hi K
    refine wl_128_6 ⟨fun z => absurd ((zi_lt (by omega) (by omega)).mp (show zi 9 < zi (i : Int) from z)) (by omega), fun _ => ?_⟩
    rw [hf i (by omega), dg_s]
    exact ih (i + 1) _ (by omega) K
theorem d_128b {f : Nat → Int32} (hf : ∀ k : Nat, k ≤ 7 → zv_131 I J (zi (k : Int)) = f k) : ∀ (n i : Nat) (x : Int64), i + n = 8 → zz RO (d + 2) 129 [.ref 0, .long (dgf f n i x * 31 + J 20 9)] I J D 0 0 (zNl P fun v1 I1 J1 D1 => zw RO (d + 2) 128 P 95 [(0, .ref 0), (1, .long v1), (3, .int 0)] [] I1 J1 D1 bc bs) → zw RO (d + 2) 128 P 48 [(0, .ref 0), (1, .long x), (3, .int (zi (i : Int)))] [] I J D bc bs := by
  intro n
  induction n with
  | zero =>
    intro i x hi K
    exact wl_128_48 ⟨fun _ => K, fun z => absurd (show zi 7 < zi (i : Int) from (zi_lt (by omega) (by omega)).mpr (by omega)) z⟩
  | succ n ih =>
    intro i x hi K
    refine wl_128_48 ⟨fun z => absurd ((zi_lt (by omega) (by omega)).mp (show zi 7 < zi (i : Int) from z)) (by omega), fun _ => ?_⟩
    rw [hf i (by omega), dg_s]
    exact ih (i + 1) _ (by omega) K
theorem d_128c {r : Nat} {f : Nat → Int32} (hf : ∀ w : Nat, w < 4 → zv_86 I J (zi (r : Int)) (zi (w : Int)) = f w) : ∀ (n i : Nat) (x : Int64), i + n = 4 → zw RO (d + 2) 128 P 95 [(0, .ref 0), (1, .long (dgf f n i x)), (3, .int (zi ((r + 1 : Nat) : Int)))] [] I J D bc bs → zw RO (d + 2) 128 P 109 [(0, .ref 0), (1, .long x), (3, .int (zi (r : Int))), (4, .int (zi (i : Int)))] [] I J D bc bs := by
  intro n
  induction n with
  | zero =>
    intro i x hi K
    refine wl_128_109 ⟨fun _ => ?_, fun z => absurd (show zi 4 ≤ zi (i : Int) from (zi_le (by omega) (by omega)).mpr (by omega)) z⟩
    rw [dg_s]
    exact K
  | succ n ih =>
    intro i x hi K
    refine wl_128_109 ⟨fun z => absurd ((zi_le (by omega) (by omega)).mp (show zi 4 ≤ zi (i : Int) from z)) (by omega), fun _ => ?_⟩
    rw [hf i (by omega), dg_s i]
    exact ih (i + 1) _ (by omega) K
theorem d_128e {r : Nat} {f : Nat → Int32} (hf : ∀ w : Nat, w < 4 → zv_31 I J (zi (r : Int)) (zi (w : Int)) = f w) : ∀ (n i : Nat) (x : Int64), i + n = 4 → zw RO (d + 2) 128 P 147 [(0, .ref 0), (1, .long (dgf f n i x)), (3, .int (zi ((r + 1 : Nat) : Int)))] [] I J D bc bs → zw RO (d + 2) 128 P 161 [(0, .ref 0), (1, .long x), (3, .int (zi (r : Int))), (4, .int (zi (i : Int)))] [] I J D bc bs := by
  intro n
  induction n with
  | zero =>
    intro i x hi K
    refine wl_128_161 ⟨fun _ => ?_, fun z => absurd (show zi 4 ≤ zi (i : Int) from (zi_le (by omega) (by omega)).mpr (by omega)) z⟩
    rw [dg_s]
    exact K
  | succ n ih =>
    intro i x hi K
    refine wl_128_161 ⟨fun z => absurd ((zi_le (by omega) (by omega)).mp (show zi 4 ≤ zi (i : Int) from z)) (by omega), fun _ => ?_⟩
    rw [hf i (by omega), dg_s i]
    exact ih (i + 1) _ (by omega) K
theorem d_128d {m : Nat} {f : Nat → Nat → Int32} (hm : m ≤ 10) (hl : I 20 3 = zi (m : Int)) (hf : ∀ k w : Nat, k < m → w < 4 → zv_86 I J (zi (k : Int)) (zi (w : Int)) = f k w) : ∀ (n i : Nat) (x : Int64), i + n = m → zw RO (d + 2) 128 P 147 [(0, .ref 0), (1, .long (dgr f 4 n i x)), (3, .int 0)] [] I J D bc bs → zw RO (d + 2) 128 P 95 [(0, .ref 0), (1, .long x), (3, .int (zi (i : Int)))] [] I J D bc bs := by
  intro n
  induction n with
  | zero =>
    intro i x hi K
    refine wl_128_95 ?_
    rw [hl]
    exact ⟨fun _ => K, fun z => absurd ((zi_le (by omega) (by omega)).mpr (by omega)) z⟩
  | succ n ih =>
    intro i x hi K
    refine wl_128_95 ?_
    rw [hl]
    refine ⟨fun z => absurd ((zi_le (by omega) (by omega)).mp z) (by omega), fun _ => ?_⟩
    exact d_128c (fun w hw => hf i w (by omega) hw) 4 0 x rfl (ih (i + 1) _ (by omega) K)
theorem d_128f {m : Nat} {f : Nat → Nat → Int32} (hm : m ≤ 250) (hl : I 23 4 = zi (m : Int)) (hf : ∀ k w : Nat, k < m → w < 4 → zv_31 I J (zi (k : Int)) (zi (w : Int)) = f k w) : ∀ (n i : Nat) (x : Int64), i + n = m → P (.inl (some (.long (dgr f 4 n i x)))) I J D → zw RO (d + 2) 128 P 147 [(0, .ref 0), (1, .long x), (3, .int (zi (i : Int)))] [] I J D bc bs := by
  intro n
  induction n with
  | zero =>
    intro i x hi K
    refine wl_128_147 ?_
    rw [hl]
    exact ⟨fun _ => K, fun z => absurd ((zi_le (by omega) (by omega)).mpr (by omega)) z⟩
  | succ n ih =>
    intro i x hi K
    refine wl_128_147 ?_
    rw [hl]
    refine ⟨fun z => absurd ((zi_le (by omega) (by omega)).mp z) (by omega), fun _ => ?_⟩
    exact d_128e (fun w hw => hf i w (by omega) hw) 4 0 x rfl (ih (i + 1) _ (by omega) K)
theorem d_129a {r c : Nat} {y : Int64} {f : Nat → Int32} (hr : r < 4) (hc : c ≤ 6) (h13 : I 13 0 = zi (c : Int)) (hf : ∀ w : Nat, w < c → I 21 (6 * r + w) = f w) : ∀ (n i : Nat) (x : Int64), i + n = c → zw RO (d + 1) 129 P 5 [(0, .ref 0), (1, .long y), (3, .long (dgf f n i x)), (5, .int (zi ((r + 1 : Nat) : Int)))] [] I J D bc bs → zw RO (d + 1) 129 P 20 [(0, .ref 0), (1, .long y), (3, .long x), (5, .int (zi (r : Int))), (6, .int (zi (i : Int)))] [] I J D bc bs := by
  have e75 : zv_75 I J 0 = zi (c : Int) := by rw [show (0 : Int32) = zi ((0 : Nat) : Int) from rfl, zv75_at (by omega), h13]
  intro n
  induction n with
  | zero =>
    intro i x hi K
    refine wl_129_20 ?_
    rw [e75, dg_s r]
    exact ⟨fun _ => K, fun z => absurd ((zi_le (by omega) (by omega)).mpr (by omega)) z⟩
  | succ n ih =>
    intro i x hi K
    refine wl_129_20 ?_
    rw [e75, show zi (r : Int) * 6 + zi (i : Int) = zi ((6 * r + i : Nat) : Int) by rw [show (6 : Int32) = zi 6 from rfl, zi_mul, zi_add]; congr 1; omega, zv84_at (by omega), hf i (by omega), dg_s i]
    exact ⟨fun z => absurd ((zi_le (by omega) (by omega)).mp z) (by omega), fun _ => ih (i + 1) _ (by omega) K⟩
theorem d_129c {c : Nat} {y : Int64} {f : Nat → Int32} (hc : c ≤ 6) (h13 : I 13 1 = zi (c : Int)) (hf : ∀ w : Nat, w < c → I 21 (24 + w) = f w) : ∀ (n i : Nat) (x : Int64), i + n = c → P (.inl (some (.long (dgf f n i x)))) I J D → zw RO (d + 1) 129 P 82 [(0, .ref 0), (1, .long y), (3, .long x), (5, .int (zi (i : Int)))] [] I J D bc bs := by
  have e75 : zv_75 I J 1 = zi (c : Int) := by rw [show (1 : Int32) = zi ((1 : Nat) : Int) from rfl, zv75_at (by omega), h13]
  intro n
  induction n with
  | zero =>
    intro i x hi K
    refine wl_129_82 ?_
    rw [e75]
    exact ⟨fun _ => K, fun z => absurd ((zi_le (by omega) (by omega)).mpr (by omega)) z⟩
  | succ n ih =>
    intro i x hi K
    refine wl_129_82 ?_
    rw [e75, show 24 + zi (i : Int) = zi ((24 + i : Nat) : Int) by rw [show (24 : Int32) = zi 24 from rfl, zi_add]; congr 1, zv84_at (by omega), hf i (by omega), dg_s i]
    exact ⟨fun z => absurd ((zi_le (by omega) (by omega)).mp z) (by omega), fun _ => ih (i + 1) _ (by omega) K⟩
theorem d_129b {m c : Nat} {y : Int64} {f : Nat → Nat → Int32} (hm : m ≤ 4) (hc : c ≤ 6) (h2 : I 20 2 = zi (m : Int)) (h13 : I 13 0 = zi (c : Int)) (hf : ∀ r w : Nat, r < m → w < c → I 21 (6 * r + w) = f r w) : ∀ (n i : Nat) (x : Int64), i + n = m → (((I 23 5) = (-1) → P (.inl (some (.long (dgr f c n i x)))) I J D) ∧ (¬ ((I 23 5) = (-1)) → zw RO (d + 1) 129 P 82 [(0, .ref 0), (1, .long y), (3, .long (dgr f c n i x)), (5, .int 0)] [] I J D bc bs)) → zw RO (d + 1) 129 P 5 [(0, .ref 0), (1, .long y), (3, .long x), (5, .int (zi (i : Int)))] [] I J D bc bs := by
  intro n
  induction n with
  | zero =>
    intro i x hi K
    refine wl_129_5 ?_
    rw [h2]
    exact ⟨fun _ => K, fun z => absurd ((zi_le (by omega) (by omega)).mpr (by omega)) z⟩
  | succ n ih =>
    intro i x hi K
    refine wl_129_5 ?_
    rw [h2]
    refine ⟨fun z => absurd ((zi_le (by omega) (by omega)).mp z) (by omega), fun _ => ?_⟩
    exact d_129a (r := i) (by omega) hc h13 (fun w hw => hf i w (by omega) hw) c 0 x (by omega) (ih (i + 1) _ (by omega) K)
theorem d_219a {f : Nat → Int32} (hf : ∀ k : Nat, k ≤ 9 → zv_206 I J (zi (k : Int)) = f k) : ∀ (n i : Nat) (x : Int64), i + n = 10 → zw RO (d + 2) 219 P 50 [(0, .ref 28), (1, .long (dgf f n i x * 31 + (zv_208 I J).toInt64)), (3, .int 0)] [] I J D bc bs → zw RO (d + 2) 219 P 11 [(0, .ref 28), (1, .long x), (3, .int (zi (i : Int)))] [] I J D bc bs := by
  intro n
  induction n with
  | zero =>
    intro i x hi K
    exact wl_219_11 ⟨fun _ => K, fun z => absurd (show zi 10 ≤ zi (i : Int) from (zi_le (by omega) (by omega)).mpr (by omega)) z⟩
  | succ n ih =>
    intro i x hi K
    refine wl_219_11 ⟨fun z => absurd ((zi_le (by omega) (by omega)).mp (show zi 10 ≤ zi (i : Int) from z)) (by omega), fun _ => ?_⟩
    rw [hf i (by omega), dg_s]
    exact ih (i + 1) _ (by omega) K
theorem d_219b {f : Nat → Int32} (hf : ∀ k : Nat, k ≤ 7 → zv_210 I J (zi (k : Int)) = f k) : ∀ (n i : Nat) (x : Int64), i + n = 8 → (((zv_195 I J) = 0 → zw RO (d + 2) 219 P 99 [(0, .ref 28), (1, .long (dgf f n i x * 31 + 0)), (3, .int 0)] [] I J D bc bs) ∧ (¬ ((zv_195 I J) = 0) → zw RO (d + 2) 219 P 99 [(0, .ref 28), (1, .long (dgf f n i x * 31 + (J 28 32))), (3, .int 0)] [] I J D bc bs)) → zw RO (d + 2) 219 P 50 [(0, .ref 28), (1, .long x), (3, .int (zi (i : Int)))] [] I J D bc bs := by
  intro n
  induction n with
  | zero =>
    intro i x hi K
    exact wl_219_50 ⟨fun _ => K, fun z => absurd (show zi 8 ≤ zi (i : Int) from (zi_le (by omega) (by omega)).mpr (by omega)) z⟩
  | succ n ih =>
    intro i x hi K
    refine wl_219_50 ⟨fun z => absurd ((zi_le (by omega) (by omega)).mp (show zi 8 ≤ zi (i : Int) from z)) (by omega), fun _ => ?_⟩
    rw [hf i (by omega), dg_s]
    exact ih (i + 1) _ (by omega) K
theorem d_219c {r c : Nat} {f : Nat → Int32} (hr : r < 4) (hc : c ≤ 6) (h37 : I 37 0 = zi (c : Int)) (hf : ∀ w : Nat, w < c → I 46 (6 * r + w) = f w) : ∀ (n i : Nat) (x : Int64), i + n = c → zw RO (d + 2) 219 P 99 [(0, .ref 28), (1, .long (dgf f n i x)), (3, .int (zi ((r + 1 : Nat) : Int)))] [] I J D bc bs → zw RO (d + 2) 219 P 110 [(0, .ref 28), (1, .long x), (3, .int (zi (r : Int))), (4, .int (zi (i : Int)))] [] I J D bc bs := by
  intro n
  induction n with
  | zero =>
    intro i x hi K
    refine wl_219_110 ?_
    rw [h37, dg_s r]
    exact ⟨fun _ => K, fun z => absurd ((zi_le (by omega) (by omega)).mpr (by omega)) z⟩
  | succ n ih =>
    intro i x hi K
    have e : 6 * zi (r : Int) + zi (i : Int) = zi ((6 * r + i : Nat) : Int) := by
      rw [show (6 : Int32) = zi 6 from rfl, zi_mul, zi_add]
      congr 1
    refine wl_219_110 ?_
    rw [h37, e, zi_cl (by omega) (by omega), Int.toNat_natCast, hf i (by omega), dg_s i]
    exact ⟨fun z => absurd ((zi_le (by omega) (by omega)).mp z) (by omega), fun _ => ⟨zi_in (by omega) (by omega) (by decide), ih (i + 1) _ (by omega) K⟩⟩
theorem d_219d {m c : Nat} {f : Nat → Nat → Int32} (hm : m ≤ 4) (hc : c ≤ 6) (h30 : I 28 30 = zi (m : Int)) (h37 : I 37 0 = zi (c : Int)) (hf : ∀ r w : Nat, r < m → w < c → I 46 (6 * r + w) = f r w) : ∀ (n i : Nat) (x : Int64), i + n = m → zw RO (d + 2) 219 P 155 [(0, .ref 28), (1, .long (dgr f c n i x)), (3, .int 0)] [] I J D bc bs → zw RO (d + 2) 219 P 99 [(0, .ref 28), (1, .long x), (3, .int (zi (i : Int)))] [] I J D bc bs := by
  intro n
  induction n with
  | zero =>
    intro i x hi K
    refine wl_219_99 ?_
    rw [h30]
    exact ⟨fun _ => K, fun z => absurd ((zi_le (by omega) (by omega)).mpr (by omega)) z⟩
  | succ n ih =>
    intro i x hi K
    refine wl_219_99 ?_
    rw [h30]
    refine ⟨fun z => absurd ((zi_le (by omega) (by omega)).mp z) (by omega), fun _ => ?_⟩
    exact d_219c (r := i) (by omega) hc h37 (fun w hw => hf i w (by omega) hw) c 0 x (by omega) (ih (i + 1) _ (by omega) K)
theorem d_219e {c : Nat} {f : Nat → Int32} (hc : c ≤ 6) (h37 : I 37 1 = zi (c : Int)) (h195 : ¬ zv_195 I J = 0) (hf : ∀ w : Nat, w < c → I 47 w = f w) : ∀ (n i : Nat) (x : Int64), i + n = c → zw RO (d + 2) 219 P 194 [(0, .ref 28), (1, .long (dgf f n i x)), (3, .int 0)] [] I J D bc bs → zw RO (d + 2) 219 P 155 [(0, .ref 28), (1, .long x), (3, .int (zi (i : Int)))] [] I J D bc bs := by
  intro n
  induction n with
  | zero =>
    intro i x hi K
    refine wl_219_155 ?_
    rw [h37]
    exact ⟨fun _ => K, fun z => absurd ((zi_le (by omega) (by omega)).mpr (by omega)) z⟩
  | succ n ih =>
    intro i x hi K
    refine wl_219_155 ?_
    rw [h37, zi_cl (by omega) (by omega), Int.toNat_natCast, hf i (by omega), dg_s i]
    exact ⟨fun z => absurd ((zi_le (by omega) (by omega)).mp z) (by omega), fun _ => ⟨fun z => absurd z h195, fun _ => ⟨zi_in (by omega) (by omega) (by decide), ih (i + 1) _ (by omega) K⟩⟩⟩
theorem d_219n {c : Nat} (hc : c ≤ 6) (h37 : I 37 1 = zi (c : Int)) (h195 : zv_195 I J = 0) {x : Int64} (K : zw RO (d + 2) 219 P 194 [(0, .ref 28), (1, .long x), (3, .int 0)] [] I J D bc bs) : zw RO (d + 2) 219 P 155 [(0, .ref 28), (1, .long x), (3, .int 0)] [] I J D bc bs := by
  refine wl_219_155 ?_
  exact ⟨fun _ => K, fun _ => ⟨fun _ => K, fun z => absurd h195 z⟩⟩
theorem d_219f {m : Nat} {f : Nat → Int32} (hm : m ≤ 10) (hl : I 28 45 = zi (m : Int)) (hf : ∀ k : Nat, k < 4 * m → I 48 k = f k) : ∀ (n i : Nat) (x : Int64), i + n = 4 * m → zw RO (d + 2) 219 P 226 [(0, .ref 28), (1, .long (dgf f n i x)), (3, .int 0)] [] I J D bc bs → zw RO (d + 2) 219 P 194 [(0, .ref 28), (1, .long x), (3, .int (zi (i : Int)))] [] I J D bc bs := by
  have e : 4 * zi (m : Int) = zi ((4 * m : Nat) : Int) := by
    rw [show (4 : Int32) = zi 4 from rfl, zi_mul]
    congr 1
  intro n
  induction n with
  | zero =>
    intro i x hi K
    refine wl_219_194 ?_
    rw [hl, e]
    exact ⟨fun _ => K, fun z => absurd ((zi_le (by omega) (by omega)).mpr (by omega)) z⟩
  | succ n ih =>
    intro i x hi K
    refine wl_219_194 ?_
    rw [hl, e, zi_cl (by omega) (by omega), Int.toNat_natCast, hf i (by omega), dg_s i]
    exact ⟨fun z => absurd ((zi_le (by omega) (by omega)).mp z) (by omega), fun _ => ⟨zi_in (by omega) (by omega) (by decide), ih (i + 1) _ (by omega) K⟩⟩
theorem d_219g {m : Nat} {f : Nat → Int32} (hm : m ≤ 250) (hl : I 28 47 = zi (m : Int)) (hf : ∀ k : Nat, k < 4 * m → I 49 k = f k) : ∀ (n i : Nat) (x : Int64), i + n = 4 * m → P (.inl (some (.long (dgf f n i x)))) I J D → zw RO (d + 2) 219 P 226 [(0, .ref 28), (1, .long x), (3, .int (zi (i : Int)))] [] I J D bc bs := by
  have e : 4 * zi (m : Int) = zi ((4 * m : Nat) : Int) := by
    rw [show (4 : Int32) = zi 4 from rfl, zi_mul]
    congr 1
  intro n
  induction n with
  | zero =>
    intro i x hi K
    refine wl_219_226 ?_
    rw [hl, e]
    exact ⟨fun _ => K, fun z => absurd ((zi_le (by omega) (by omega)).mpr (by omega)) z⟩
  | succ n ih =>
    intro i x hi K
    refine wl_219_226 ?_
    rw [hl, e, zi_cl (by omega) (by omega), Int.toNat_natCast, hf i (by omega), dg_s i]
    exact ⟨fun z => absurd ((zi_le (by omega) (by omega)).mp z) (by omega), fun _ => ⟨zi_in (by omega) (by omega) (by decide), ih (i + 1) _ (by omega) K⟩⟩
end Dig
