/-! ===== reading faces: told, state ===== -/
section Face7
variable {RO : zRo} {d : Nat} {P : zP} {I : zI} {J : zJ} {D : zD} {bc bs : Nat} {m : Nat} {G : zGm} {p : zPg} {z0 : Int64}
theorem n_01 {v : Int} (h : v = 0 ∨ v = 1) : (if zi v = 0 then (0 : Int32) else 1) = zi v := by
  rcases h with h | h <;> subst h <;> decide
theorem n_131 {x : Nat} (hx : x ≤ 7) (hR : gRg p G) (hT : zTb G I J) (hC : zCs G z0 I J) : zv_131 I J (zi (x : Int)) = zi (G.1 x) := by
  have r9 := hR.2.2.2.2
  unfold zv_131
  rw [if_pos (by rw [hC.2.1, show (-1 : Int32) = zi (-1) from rfl, zi_eq (by omega) (by omega)]; omega), hT.2.2.1, hT.2.2.2.1, hT.2.2.2.2.1, hT.2.2.2.2.2.1, hT.2.2.2.2.2.2.1, hC.2.2.1, hC.2.2.2.1, hC.2.2.2.2.1, n_01 hR.2.2.1, n_01 hR.2.2.2.1]
  have hx8 : x = 0 ∨ x = 1 ∨ x = 2 ∨ x = 3 ∨ x = 4 ∨ x = 5 ∨ x = 6 ∨ x = 7 := by omega
  rcases hx8 with h | h | h | h | h | h | h | h <;> subst h <;> rfl
theorem f_120 {a : Int} (ha : -2147483648 ≤ a ∧ a < 2147483648) (hbb : 1 ≤ bc ∧ 6 ≤ bs) {w : Nat → Int} (h131 : ∀ x : Nat, x ≤ 7 → zv_131 I J (zi (x : Int)) = zi (w x))
    (k1 : ¬ (0 ≤ a ∧ a ≤ 7) → P (.inr (2, 0, 0)) I J D) (k2 : (0 ≤ a ∧ a ≤ 7) → P (.inl (some (.int (zi (w a.toNat))))) I J D) :
    zz RO (d + 2) 120 [.ref 0, .int (zi a)] I J D bc bs P := by
  have i1 : zi a < 0 ↔ a < 0 := by rw [show (0 : Int32) = zi 0 from rfl, zi_lt ha (by omega)]
  have i2 : zi a ≤ 7 ↔ a ≤ 7 := by rw [show (7 : Int32) = zi 7 from rfl, zi_le ha (by omega)]
  refine w_120 ?_
  rw [i1, i2]
  refine ⟨fun q => ⟨hbb, k1 (by omega)⟩, fun q => ⟨fun q2 => ?_, fun q2 => ⟨hbb, k1 (by omega)⟩⟩⟩
  have ea : zi a = zi ((a.toNat : Nat) : Int) := by congr 1; omega
  rw [ea, h131 a.toNat (by omega)]
  exact k2 (by omega)
theorem n_131n (h : I 23 5 = -1) {y : Int32} : zv_131 I J y = -1 := by
  unfold zv_131
  rw [if_neg (fun q => q h)]
theorem n_195 {nt np : Nat} (hm4 : 2 ≤ m ∧ m ≤ 4) (hm : G.1 8 = (m : Int)) (hM : zMb nt np G I J) : zv_195 I J = 1 := by
  unfold zv_195
  rw [if_neg (by rw [hM.1, hm, show (0 : Int32) = zi 0 from rfl, zi_le (by omega) (by omega)]; omega)]
theorem n_195n (h : I 28 30 = 0) : zv_195 I J = 0 := by
  unfold zv_195
  rw [if_pos (by rw [h]; decide)]
theorem n_210 {x nt np : Nat} (hx : x ≤ 7) (hm4 : 2 ≤ m ∧ m ≤ 4) (hm : G.1 8 = (m : Int)) (hR : gRg p G) (hM : zMb nt np G I J) (hS : zMg G z0 I J) : zv_210 I J (zi (x : Int)) = zi (G.1 x) := by
  unfold zv_210
  rw [n_195 hm4 hm hM, if_pos (by decide), hM.2.2.1, hM.2.2.2.1, hM.2.2.2.2.1, hM.2.2.2.2.2.1, hM.2.2.2.2.2.2.1, hS.2.1, hS.2.2.2.2.2.1, hS.2.2.2.2.2.2, n_01 hR.2.2.1, n_01 hR.2.2.2.1]
  have hx8 : x = 0 ∨ x = 1 ∨ x = 2 ∨ x = 3 ∨ x = 4 ∨ x = 5 ∨ x = 6 ∨ x = 7 := by omega
  rcases hx8 with h | h | h | h | h | h | h | h <;> subst h <;> rfl
theorem n_210n (h : I 28 30 = 0) {y : Int32} : zv_210 I J y = -1 := by
  unfold zv_210
  rw [n_195n h, if_neg (fun q => q rfl)]
theorem f_211 {a : Int} (ha : -2147483648 ≤ a ∧ a < 2147483648) {w : Nat → Int} (h210 : ∀ x : Nat, x ≤ 7 → zv_210 (zu I 28 0 0) J (zi (x : Int)) = zi (w x))
    (k1 : ¬ (0 ≤ a ∧ a ≤ 7) → P (.inl (some (.int 0))) (zu I 28 0 1) J D) (k2 : (0 ≤ a ∧ a ≤ 7) → P (.inl (some (.int (zi (w a.toNat))))) (zu I 28 0 0) J D) :
    zz RO (d + 3) 211 [.ref 28, .int (zi a)] I J D bc bs P := by
  have e136 : zv_136 (zu I 28 0 0) J (zi a).toInt64 0 7 = if 0 ≤ a ∧ a ≤ 7 then 1 else 0 := n_136 (lo := 0) (hi := 7) ha (by omega) (by omega)
  refine w_211 ?_
  rw [e136]
  by_cases q : 0 ≤ a ∧ a ≤ 7
  · rw [if_pos q]
    refine ⟨fun z => absurd z (by decide), fun _ => ?_⟩
    have ea : zi a = zi ((a.toNat : Nat) : Int) := by congr 1; omega
    rw [ea, h210 a.toNat (by omega)]
    exact k2 q
  · rw [if_neg q]
    refine ⟨fun _ => w_135 ?_, fun z => absurd rfl z⟩
    rw [zu_2]
    exact k1 q
theorem f_209 {nt np : Nat} (hm4 : 2 ≤ m ∧ m ≤ 4) (hm : G.1 8 = (m : Int)) (hM : zMb nt np G I J) (hS : zMg G z0 I J) (k : P (.inl (some (.int (zi (G.1 9))))) (zu I 28 0 0) J D) : zz RO (d + 3) 209 [.ref 28] I J D bc bs P := by
  refine w_209 ?_
  have e : zv_208 (zu I 28 0 0) J = zi (G.1 9) := by
    unfold zv_208
    rw [n_195 hm4 hm (zMb_0 hM 0), if_neg (by decide)]
    exact (zMg_0 hS 0).1
  rw [e]
  exact k
theorem f_209n (h : I 28 30 = 0) (k : P (.inl (some (.int (-1)))) (zu I 28 0 0) J D) : zz RO (d + 3) 209 [.ref 28] I J D bc bs P := by
  refine w_209 ?_
  have e : zv_208 (zu I 28 0 0) J = -1 := by
    unfold zv_208
    rw [n_195n (by rw [zu_n _ _ (by omega)]; exact h), if_pos rfl]
  rw [e]
  exact k
end Face7
