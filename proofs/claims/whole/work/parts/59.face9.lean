/-! ===== reading faces of the reference: stack, move, z ===== -/
section Face9
variable {RO : zRo} {d : Nat} {P : zP} {I : zI} {J : zJ} {D : zD} {bc bs m : Nat} {G : zGm} {L : List zR4}
theorem f_214 {a b : Int} (ha : -2147483648 ≤ a ∧ a < 2147483648) (hb : -2147483648 ≤ b ∧ b < 2147483648) (hl : L.length ≤ 10) (h3 : I 28 45 = zi (L.length : Int)) (hv : ∀ k w, k < L.length → w < 4 → I 48 (4 * k + w) = zi (L.getD k z4 w))
    (k1 : ¬ (0 ≤ a ∧ a < L.length ∧ 0 ≤ b ∧ b < 4) → P (.inl (some (.int 0))) (zu I 28 0 1) J D) (k2 : (0 ≤ a ∧ a < L.length ∧ 0 ≤ b ∧ b < 4) → P (.inl (some (.int (zi (L.getD a.toNat z4 b.toNat))))) (zu I 28 0 0) J D) :
    zz RO (d + 2) 214 [.ref 28, .int (zi a), .int (zi b)] I J D bc bs P := by
  have e1 : zv_136 (zu I 28 0 0) J (zi b).toInt64 0 3 = if 0 ≤ b ∧ b ≤ 3 then 1 else 0 := n_136 (lo := 0) (hi := 3) hb (by omega) (by omega)
  have e0 : zv_136 (zu I 28 0 0) J (zi a).toInt64 0 ((zi (L.length : Int) - 1).toInt64) = if 0 ≤ a ∧ a ≤ (L.length : Int) - 1 then 1 else 0 := by
    rw [show zi (L.length : Int) - 1 = zi ((L.length : Int) - 1) by rw [show (1 : Int32) = zi 1 from rfl, zi_sub]]
    exact n_136 (lo := 0) (hi := (L.length : Int) - 1) ha (by omega) (by omega)
  refine w_214 ?_
  rw [h3, e0, e1]
  by_cases ca : 0 ≤ a ∧ a ≤ (L.length : Int) - 1
  · rw [if_pos ca]
    refine ⟨fun z => absurd z (by decide), fun _ => ?_⟩
    by_cases cb : 0 ≤ b ∧ b ≤ 3
    · rw [if_pos cb]
      refine ⟨fun z => absurd z (by decide), fun _ => ?_⟩
      have k9 := k2 (by omega)
      rw [show 4 * zi a + zi b = zi ((4 * a.toNat + b.toNat : Nat) : Int) by rw [show (4 : Int32) = zi 4 from rfl, zi_mul, zi_add]; congr 1; omega, zi_cl (by omega) (by omega)]
      refine ⟨zi_in (by omega) (by omega) (by omega), ?_⟩
      rw [show ((4 * a.toNat + b.toNat : Nat) : Int).toNat = 4 * a.toNat + b.toNat from rfl, hv _ _ (by omega) (by omega)]
      exact k9
    · rw [if_neg cb]
      refine ⟨fun _ => w_135 ?_, fun z => absurd rfl z⟩
      rw [zu_2]
      exact k1 (by omega)
  · rw [if_neg ca]
    refine ⟨fun _ => w_135 ?_, fun z => absurd rfl z⟩
    rw [zu_2]
    exact k1 (by omega)
theorem f_215 {a b : Int} (ha : -2147483648 ≤ a ∧ a < 2147483648) (hb : -2147483648 ≤ b ∧ b < 2147483648) (hl : L.length ≤ 250) (h3 : I 28 47 = zi (L.length : Int)) (hv : ∀ k w, k < L.length → w < 4 → I 49 (4 * k + w) = zi (L.getD k z4 w))
    (k1 : ¬ (0 ≤ a ∧ a < L.length ∧ 0 ≤ b ∧ b < 4) → P (.inl (some (.int 0))) (zu I 28 0 1) J D) (k2 : (0 ≤ a ∧ a < L.length ∧ 0 ≤ b ∧ b < 4) → P (.inl (some (.int (zi (L.getD a.toNat z4 b.toNat))))) (zu I 28 0 0) J D) :
    zz RO (d + 2) 215 [.ref 28, .int (zi a), .int (zi b)] I J D bc bs P := by
  have e1 : zv_136 (zu I 28 0 0) J (zi b).toInt64 0 3 = if 0 ≤ b ∧ b ≤ 3 then 1 else 0 := n_136 (lo := 0) (hi := 3) hb (by omega) (by omega)
  have e0 : zv_136 (zu I 28 0 0) J (zi a).toInt64 0 ((zi (L.length : Int) - 1).toInt64) = if 0 ≤ a ∧ a ≤ (L.length : Int) - 1 then 1 else 0 := by
    rw [show zi (L.length : Int) - 1 = zi ((L.length : Int) - 1) by rw [show (1 : Int32) = zi 1 from rfl, zi_sub]]
    exact n_136 (lo := 0) (hi := (L.length : Int) - 1) ha (by omega) (by omega)
  refine w_215 ?_
  rw [h3, e0, e1]
  by_cases ca : 0 ≤ a ∧ a ≤ (L.length : Int) - 1
  · rw [if_pos ca]
    refine ⟨fun z => absurd z (by decide), fun _ => ?_⟩
    by_cases cb : 0 ≤ b ∧ b ≤ 3
    · rw [if_pos cb]
      refine ⟨fun z => absurd z (by decide), fun _ => ?_⟩
      have k9 := k2 (by omega)
      rw [show 4 * zi a + zi b = zi ((4 * a.toNat + b.toNat : Nat) : Int) by rw [show (4 : Int32) = zi 4 from rfl, zi_mul, zi_add]; congr 1; omega, zi_cl (by omega) (by omega)]
      refine ⟨zi_in (by omega) (by omega) (by omega), ?_⟩
      rw [show ((4 * a.toNat + b.toNat : Nat) : Int).toNat = 4 * a.toNat + b.toNat from rfl, hv _ _ (by omega) (by omega)]
      exact k9
    · rw [if_neg cb]
      refine ⟨fun _ => w_135 ?_, fun z => absurd rfl z⟩
      rw [zu_2]
      exact k1 (by omega)
  · rw [if_neg ca]
    refine ⟨fun _ => w_135 ?_, fun z => absurd rfl z⟩
    rw [zu_2]
    exact k1 (by omega)
theorem f_217 {nt np : Nat} (hm4 : 2 ≤ m ∧ m ≤ 4) (hm : G.1 8 = (m : Int)) (hM : zMb nt np G I J) (k : P (.inl (some (.long G.2.2.2.2))) (zu I 28 0 0) J D) : zz RO (d + 2) 217 [.ref 28] I J D bc bs P := by
  refine w_217 ?_
  rw [n_195 hm4 hm (zMb_0 hM 0), hM.2.2.2.2.2.2.2.1]
  exact ⟨fun z => absurd z (by decide), fun _ => k⟩
theorem f_217n (h : I 28 30 = 0) (k : P (.inl (some (.long 0))) (zu I 28 0 0) J D) : zz RO (d + 2) 217 [.ref 28] I J D bc bs P := by
  refine w_217 ?_
  rw [n_195n (by rw [zu_n _ _ (by omega)]; exact h)]
  exact ⟨fun _ => k, fun z => absurd rfl z⟩
end Face9
