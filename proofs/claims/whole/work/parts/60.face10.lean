/-! ===== reading faces: pool ===== -/
section Face10
variable {RO : zRo} {d : Nat} {P : zP} {I : zI} {J : zJ} {D : zD} {bc bs c1 : Nat} {v : Nat → Int32} {g : Bool}
theorem f_122 {a : Int} (ha : -2147483648 ≤ a ∧ a < 2147483648) (hbb : 1 ≤ bc ∧ 6 ≤ bs) (hc1 : c1 ≤ 6) (h13 : I 13 1 = zi (c1 : Int)) (hg : I 23 5 = -1 ↔ g = false) (hv : g = true → ∀ k, k < 6 → k < c1 → I 21 (24 + k) = v k) (hv0 : g = false → ∀ k, k < 6 → k < c1 → I 14 (3 * (6 + k) + 2) = v k)
    (k1 : ¬ (0 ≤ a ∧ a < c1) → P (.inr (2, 0, 0)) I J D) (k2 : (0 ≤ a ∧ a < c1) → P (.inl (some (.int (v a.toNat)))) I J D) :
    zz RO (d + 2) 122 [.ref 0, .int (zi a)] I J D bc bs P := by
  have i1 : zi a < 0 ↔ a < 0 := by rw [show (0 : Int32) = zi 0 from rfl, zi_lt ha (by omega)]
  have e75 : zv_75 I J 1 = zi (c1 : Int) := by rw [show (1 : Int32) = zi ((1 : Nat) : Int) from rfl, zv75_at (by omega), h13]
  refine w_122 ?_
  rw [e75, i1, hg, zi_lt ha (by omega)]
  refine ⟨fun q => ⟨hbb, k1 (by omega)⟩, fun q => ⟨fun q2 => ⟨fun q3 => ?_, fun q3 => ?_⟩, fun q2 => ⟨hbb, k1 (by omega)⟩⟩⟩
  · have k9 := k2 (by omega)
    rw [show (24 : Int32) + zi a = zi ((24 + a.toNat : Nat) : Int) by rw [show (24 : Int32) = zi 24 from rfl, zi_add]; congr 1; omega, zv84_at (by omega), hv (by simpa using q3) _ (by omega) (by omega)]
    exact k9
  · have k9 := k2 (by omega)
    rw [show (6 : Int32) + zi a = zi ((6 + a.toNat : Nat) : Int) by rw [show (6 : Int32) = zi 6 from rfl, zi_add]; congr 1; omega, show (2 : Int32) = zi ((2 : Nat) : Int) from rfl, zv76_at (by omega) (by omega), hv0 (Classical.not_not.mp q3) _ (by omega) (by omega)]
    exact k9
theorem f_213 {a : Int} (ha : -2147483648 ≤ a ∧ a < 2147483648) (hc1 : c1 ≤ 6) (h37 : I 37 1 = zi (c1 : Int)) (hg : zv_195 (zu I 28 0 0) J = 0 ↔ g = false) (hv : g = true → ∀ k, k < 6 → k < c1 → I 47 k = v k) (hv0 : g = false → ∀ k, k < 6 → k < c1 → I 38 (3 * (6 + k) + 2) = v k)
    (k1 : ¬ (0 ≤ a ∧ a < c1) → P (.inl (some (.int 0))) (zu I 28 0 1) J D) (k2 : (0 ≤ a ∧ a < c1) → P (.inl (some (.int (v a.toNat)))) (zu I 28 0 0) J D) :
    zz RO (d + 2) 213 [.ref 28, .int (zi a)] I J D bc bs P := by
  have e0 : zv_136 (zu I 28 0 0) J (zi a).toInt64 0 ((zi (c1 : Int) - 1).toInt64) = if 0 ≤ a ∧ a ≤ (c1 : Int) - 1 then 1 else 0 := by
    rw [show zi (c1 : Int) - 1 = zi ((c1 : Int) - 1) by rw [show (1 : Int32) = zi 1 from rfl, zi_sub]]
    exact n_136 (lo := 0) (hi := (c1 : Int) - 1) ha (by omega) (by omega)
  refine w_213 ?_
  rw [h37, e0, hg]
  by_cases ca : 0 ≤ a ∧ a ≤ (c1 : Int) - 1
  · rw [if_pos ca]
    have k9 := k2 (by omega)
    refine ⟨fun _ => ⟨fun q3 => ?_, fun q3 => ?_⟩, fun z => absurd (by decide) z⟩
    · rw [show (3 : Int32) * (6 + zi a) + 2 = zi ((3 * (6 + a.toNat) + 2 : Nat) : Int) by rw [show (6 : Int32) = zi 6 from rfl, show (3 : Int32) = zi 3 from rfl, show (2 : Int32) = zi 2 from rfl, zi_add, zi_mul, zi_add]; congr 1; omega, zi_cl (by omega) (by omega)]
      refine ⟨zi_in (by omega) (by omega) (by omega), ?_⟩
      rw [show ((3 * (6 + a.toNat) + 2 : Nat) : Int).toNat = 3 * (6 + a.toNat) + 2 from rfl, hv0 q3 _ (by omega) (by omega)]
      exact k9
    · rw [zi_cl (by omega) (by omega)]
      refine ⟨zi_in (by omega) (by omega) (by omega), ?_⟩
      rw [hv (by simpa using q3) _ (by omega) (by omega)]
      exact k9
  · rw [if_neg ca]
    refine ⟨fun z => absurd rfl z, fun _ => w_135 ?_⟩
    rw [zu_2]
    exact k1 (by omega)
end Face10
