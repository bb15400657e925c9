/-! ===== reading faces: track, stack, move ===== -/
section Face8
variable {RO : zRo} {d : Nat} {P : zP} {I : zI} {J : zJ} {D : zD} {bc bs : Nat} {pl c0 st made : Nat} {v : Nat → Int32} {L : List zR4}
theorem f_121 {a b : Int} (ha : -2147483648 ≤ a ∧ a < 2147483648) (hb : -2147483648 ≤ b ∧ b < 2147483648) (hbb : 1 ≤ bc ∧ 6 ≤ bs) (hpl : pl ≤ 4) (hc0 : c0 ≤ 6) (h2 : I 20 2 = zi (pl : Int)) (h13 : I 13 0 = zi (c0 : Int)) (hv : ∀ k, k < 24 → k % 6 < c0 → I 21 k = v k)
    (k1 : ¬ (0 ≤ a ∧ a < pl ∧ 0 ≤ b ∧ b < c0) → P (.inr (2, 0, 0)) I J D) (k2 : (0 ≤ a ∧ a < pl ∧ 0 ≤ b ∧ b < c0) → P (.inl (some (.int (v (6 * a.toNat + b.toNat))))) I J D) :
    zz RO (d + 2) 121 [.ref 0, .int (zi a), .int (zi b)] I J D bc bs P := by
  have i1 : zi a < 0 ↔ a < 0 := by rw [show (0 : Int32) = zi 0 from rfl, zi_lt ha (by omega)]
  have i2 : zi b < 0 ↔ b < 0 := by rw [show (0 : Int32) = zi 0 from rfl, zi_lt hb (by omega)]
  have e75 : zv_75 I J 0 = zi (c0 : Int) := by rw [show (0 : Int32) = zi ((0 : Nat) : Int) from rfl, zv75_at (by omega), h13]
  refine w_121 ?_
  rw [e75, h2, i1, i2, zi_le (by omega) ha, zi_lt hb (by omega)]
  refine ⟨fun q => ⟨hbb, k1 (by omega)⟩, fun q => ⟨fun q2 => ⟨hbb, k1 (by omega)⟩, fun q2 => ⟨fun q3 => ⟨hbb, k1 (by omega)⟩, fun q3 => ⟨fun q4 => ?_, fun q4 => ⟨hbb, k1 (by omega)⟩⟩⟩⟩⟩
  have k9 := k2 (by omega)
  rw [show zi a * 6 + zi b = zi ((6 * a.toNat + b.toNat : Nat) : Int) by rw [show (6 : Int32) = zi 6 from rfl, zi_mul, zi_add]; congr 1; omega, zv84_at (by omega), hv _ (by omega) (by omega)]
  exact k9
theorem f_212 {a b : Int} (ha : -2147483648 ≤ a ∧ a < 2147483648) (hb : -2147483648 ≤ b ∧ b < 2147483648) (hpl : pl ≤ 4) (hc0 : c0 ≤ 6) (h2 : I 28 30 = zi (pl : Int)) (h37 : I 37 0 = zi (c0 : Int)) (hv : ∀ k, k < 24 → k % 6 < c0 → I 46 k = v k)
    (k1 : ¬ (0 ≤ a ∧ a < pl ∧ 0 ≤ b ∧ b < c0) → P (.inl (some (.int 0))) (zu I 28 0 1) J D) (k2 : (0 ≤ a ∧ a < pl ∧ 0 ≤ b ∧ b < c0) → P (.inl (some (.int (v (6 * a.toNat + b.toNat))))) (zu I 28 0 0) J D) :
    zz RO (d + 3) 212 [.ref 28, .int (zi a), .int (zi b)] I J D bc bs P := by
  have e1 : zv_136 (zu I 28 0 0) J (zi b).toInt64 0 ((zi (c0 : Int) - 1).toInt64) = if 0 ≤ b ∧ b ≤ (c0 : Int) - 1 then 1 else 0 := by
    rw [show (1 : Int32) = zi 1 from rfl, zi_sub]
    exact n_136 (lo := 0) (hi := (c0 : Int) - 1) hb (by omega) (by omega)
  have e0 : zv_199 (zu I 28 0 0) J (zi a) = if 0 ≤ a ∧ a ≤ (pl : Int) - 1 then 1 else 0 := by
    unfold zv_199
    rw [zu_n _ _ (by omega), h2, show zi (pl : Int) - 1 = zi ((pl : Int) - 1) by rw [show (1 : Int32) = zi 1 from rfl, zi_sub]]
    exact n_136 (lo := 0) (hi := (pl : Int) - 1) ha (by omega) (by omega)
  refine w_212 ?_
  rw [h37, e0, e1]
  by_cases ca : 0 ≤ a ∧ a ≤ (pl : Int) - 1
  · rw [if_pos ca]
    refine ⟨fun z => absurd z (by decide), fun _ => ?_⟩
    by_cases cb : 0 ≤ b ∧ b ≤ (c0 : Int) - 1
    · rw [if_pos cb]
      refine ⟨fun z => absurd z (by decide), fun _ => ?_⟩
      have k9 := k2 (by omega)
      rw [show 6 * zi a + zi b = zi ((6 * a.toNat + b.toNat : Nat) : Int) by rw [show (6 : Int32) = zi 6 from rfl, zi_mul, zi_add]; congr 1; omega, zi_cl (by omega) (by omega)]
      refine ⟨zi_in (by omega) (by omega) (by omega), ?_⟩
      rw [show ((6 * a.toNat + b.toNat : Nat) : Int).toNat = 6 * a.toNat + b.toNat from rfl, hv _ (by omega) (by omega)]
      exact k9
    · rw [if_neg cb]
      refine ⟨fun _ => w_135 ?_, fun z => absurd rfl z⟩
      rw [zu_2]
      exact k1 (by omega)
  · rw [if_neg ca]
    refine ⟨fun _ => w_135 ?_, fun z => absurd rfl z⟩
    rw [zu_2]
    exact k1 (by omega)
theorem f_123 {a b : Int} (ha : -2147483648 ≤ a ∧ a < 2147483648) (hb : -2147483648 ≤ b ∧ b < 2147483648) (hbb : 1 ≤ bc ∧ 6 ≤ bs) (hl : L.length ≤ 10) (h3 : I 20 3 = zi (L.length : Int)) (hv : ∀ k w, k < L.length → w < 4 → I 22 (4 * k + w) = zi (L.getD k z4 w))
    (k1 : ¬ (0 ≤ a ∧ a < L.length ∧ 0 ≤ b ∧ b < 4) → P (.inr (2, 0, 0)) I J D) (k2 : (0 ≤ a ∧ a < L.length ∧ 0 ≤ b ∧ b < 4) → P (.inl (some (.int (zi (L.getD a.toNat z4 b.toNat))))) I J D) :
    zz RO (d + 2) 123 [.ref 0, .int (zi a), .int (zi b)] I J D bc bs P := by
  have i1 : zi a < 0 ↔ a < 0 := by rw [show (0 : Int32) = zi 0 from rfl, zi_lt ha (by omega)]
  have i2 : zi b < 0 ↔ b < 0 := by rw [show (0 : Int32) = zi 0 from rfl, zi_lt hb (by omega)]
  have i4 : zi b < 4 ↔ b < 4 := by rw [show (4 : Int32) = zi 4 from rfl, zi_lt hb (by omega)]
  refine w_123 ?_
  rw [h3, i1, i2, i4, zi_le (by omega) ha]
  refine ⟨fun q => ⟨hbb, k1 (by omega)⟩, fun q => ⟨fun q2 => ⟨hbb, k1 (by omega)⟩, fun q2 => ⟨fun q3 => ⟨hbb, k1 (by omega)⟩, fun q3 => ⟨fun q4 => ?_, fun q4 => ⟨hbb, k1 (by omega)⟩⟩⟩⟩⟩
  have k9 := k2 (by omega)
  rw [show zi a = zi ((a.toNat : Nat) : Int) by congr 1; omega, show zi b = zi ((b.toNat : Nat) : Int) by congr 1; omega, zv86_at (by omega), hv _ _ (by omega) (by omega)]
  exact k9
theorem f_124 {a b : Int} (ha : -2147483648 ≤ a ∧ a < 2147483648) (hb : -2147483648 ≤ b ∧ b < 2147483648) (hbb : 1 ≤ bc ∧ 6 ≤ bs) (hl : L.length ≤ 250) (h3 : I 23 4 = zi (L.length : Int)) (hv : ∀ k w, k < L.length → w < 4 → I 27 (4 * k + w) = zi (L.getD k z4 w))
    (k1 : ¬ (0 ≤ a ∧ a < L.length ∧ 0 ≤ b ∧ b < 4) → P (.inr (2, 0, 0)) I J D) (k2 : (0 ≤ a ∧ a < L.length ∧ 0 ≤ b ∧ b < 4) → P (.inl (some (.int (zi (L.getD a.toNat z4 b.toNat))))) I J D) :
    zz RO (d + 2) 124 [.ref 0, .int (zi a), .int (zi b)] I J D bc bs P := by
  have i1 : zi a < 0 ↔ a < 0 := by rw [show (0 : Int32) = zi 0 from rfl, zi_lt ha (by omega)]
  have i2 : zi b < 0 ↔ b < 0 := by rw [show (0 : Int32) = zi 0 from rfl, zi_lt hb (by omega)]
  have i4 : zi b < 4 ↔ b < 4 := by rw [show (4 : Int32) = zi 4 from rfl, zi_lt hb (by omega)]
  refine w_124 ?_
  rw [h3, i1, i2, i4, zi_le (by omega) ha]
  refine ⟨fun q => ⟨hbb, k1 (by omega)⟩, fun q => ⟨fun q2 => ⟨hbb, k1 (by omega)⟩, fun q2 => ⟨fun q3 => ⟨hbb, k1 (by omega)⟩, fun q3 => ⟨fun q4 => ?_, fun q4 => ⟨hbb, k1 (by omega)⟩⟩⟩⟩⟩
  have k9 := k2 (by omega)
  rw [show zi a = zi ((a.toNat : Nat) : Int) by congr 1; omega, show zi b = zi ((b.toNat : Nat) : Int) by congr 1; omega, n_31 (by omega), hv _ _ (by omega) (by omega)]
  exact k9
end Face8
