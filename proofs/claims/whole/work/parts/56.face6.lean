/-! ===== reading faces: count, state, told ===== -/
def fC (c : Nat → Nat) (tp pl made st : Nat) (x : Nat) : Nat := if x = 6 then tp else if x = 7 then pl else if x = 8 then made else if x = 9 then st else c x
section Face6
variable {RO : zRo} {d : Nat} {P : zP} {I : zI} {J : zJ} {D : zD} {bc bs : Nat} {c : Nat → Nat} {tp pl made st : Nat}
theorem n_112 {x : Nat} (hx : x ≤ 9) (h13 : ∀ k, k < 6 → I 13 k = zi (c k : Int)) (h1 : I 1 1 = zi (tp : Int)) (h2 : I 20 2 = zi (pl : Int)) (h4 : I 23 4 = zi (made : Int)) (h3 : I 20 3 = zi (st : Int)) : zv_112 I J (zi (x : Int)) = zi (fC c tp pl made st x : Int) := by
  unfold zv_112 fC
  rw [h1, h2, h4, h3]
  have e : ∀ k : Nat, k ≤ 9 → (zi (x : Int) = zi (k : Int) ↔ x = k) := fun k hk => by rw [zi_eq (by omega) (by omega)]; omega
  have e6 : zi (x : Int) = 6 ↔ x = 6 := e 6 (by omega)
  have e7 : zi (x : Int) = 7 ↔ x = 7 := e 7 (by omega)
  have e8 : zi (x : Int) = 8 ↔ x = 8 := e 8 (by omega)
  have e9 : zi (x : Int) = 9 ↔ x = 9 := e 9 (by omega)
  by_cases c6 : x = 6
  · rw [if_pos (e6.mpr c6), if_pos c6]
  · rw [if_neg (fun q => c6 (e6.mp q)), if_neg c6]
    by_cases c7 : x = 7
    · rw [if_pos (e7.mpr c7), if_pos c7]
    · rw [if_neg (fun q => c7 (e7.mp q)), if_neg c7]
      by_cases c8 : x = 8
      · rw [if_pos (e8.mpr c8), if_pos c8]
      · rw [if_neg (fun q => c8 (e8.mp q)), if_neg c8]
        by_cases c9 : x = 9
        · rw [if_pos (e9.mpr c9), if_pos c9]
        · rw [if_neg (fun q => c9 (e9.mp q)), if_neg c9, zv75_at (by omega), h13 x (by omega)]
theorem f_111 {a : Int} (ha : -2147483648 ≤ a ∧ a < 2147483648) (hbb : 1 ≤ bc ∧ 6 ≤ bs) (h13 : ∀ k, k < 6 → I 13 k = zi (c k : Int)) (h1 : I 1 1 = zi (tp : Int)) (h2 : I 20 2 = zi (pl : Int)) (h4 : I 23 4 = zi (made : Int)) (h3 : I 20 3 = zi (st : Int))
    (k1 : ¬ (0 ≤ a ∧ a ≤ 9) → P (.inr (2, 0, 0)) I J D) (k2 : (0 ≤ a ∧ a ≤ 9) → P (.inl (some (.int (zi (fC c tp pl made st a.toNat : Int))))) I J D) :
    zz RO (d + 3) 111 [.ref 0, .int (zi a)] I J D bc bs P := by
  have i1 : zi a < 0 ↔ a < 0 := by rw [show (0 : Int32) = zi 0 from rfl, zi_lt ha (by omega)]
  have i2 : zi a ≤ 9 ↔ a ≤ 9 := by rw [show (9 : Int32) = zi 9 from rfl, zi_le ha (by omega)]
  refine w_111 ?_
  rw [i1, i2]
  refine ⟨fun q => ⟨hbb, k1 (by omega)⟩, fun q => ⟨fun q2 => ?_, fun q2 => ⟨hbb, k1 (by omega)⟩⟩⟩
  have ea : zi a = zi ((a.toNat : Nat) : Int) := by congr 1; omega
  rw [ea, n_112 (by omega) h13 h1 h2 h4 h3]
  exact k2 (by omega)
theorem n_206 {x : Nat} (hx : x ≤ 9) (h0 : I 37 0 = zi (c 0 : Int)) (h1 : I 37 1 = zi (c 1 : Int)) (hk : ∀ k, 2 ≤ k → k < 6 → I 37 (k + 2) = zi (c k : Int)) (ht : I 28 3 = zi (tp : Int)) (h2 : I 28 30 = zi (pl : Int)) (h4 : I 28 47 = zi (made : Int)) (h3 : I 28 45 = zi (st : Int)) : zv_206 I J (zi (x : Int)) = zi (fC c tp pl made st x : Int) := by
  unfold zv_206
  rw [h0, h1, show I 37 4 = zi (c 2 : Int) from hk 2 (by omega) (by omega), show I 37 5 = zi (c 3 : Int) from hk 3 (by omega) (by omega), show I 37 6 = zi (c 4 : Int) from hk 4 (by omega) (by omega), show I 37 7 = zi (c 5 : Int) from hk 5 (by omega) (by omega), ht, h2, h4, h3]
  have hx10 : x = 0 ∨ x = 1 ∨ x = 2 ∨ x = 3 ∨ x = 4 ∨ x = 5 ∨ x = 6 ∨ x = 7 ∨ x = 8 ∨ x = 9 := by omega
  rcases hx10 with h | h | h | h | h | h | h | h | h | h <;> subst h <;> rfl
theorem f_207 {a : Int} (ha : -2147483648 ≤ a ∧ a < 2147483648) (h0 : I 37 0 = zi (c 0 : Int)) (h1 : I 37 1 = zi (c 1 : Int)) (hk : ∀ k, 2 ≤ k → k < 6 → I 37 (k + 2) = zi (c k : Int)) (ht : I 28 3 = zi (tp : Int)) (h2 : I 28 30 = zi (pl : Int)) (h4 : I 28 47 = zi (made : Int)) (h3 : I 28 45 = zi (st : Int))
    (k1 : ¬ (0 ≤ a ∧ a ≤ 9) → P (.inl (some (.int 0))) (zu I 28 0 1) J D) (k2 : (0 ≤ a ∧ a ≤ 9) → P (.inl (some (.int (zi (fC c tp pl made st a.toNat : Int))))) (zu I 28 0 0) J D) :
    zz RO (d + 2) 207 [.ref 28, .int (zi a)] I J D bc bs P := by
  have f0 : zfm [0] [] I (zu I 28 0 0) := zfm_z (zfm_refl _) _ _ (by decide)
  have e136 : zv_136 (zu I 28 0 0) J (zi a).toInt64 0 9 = if 0 ≤ a ∧ a ≤ 9 then 1 else 0 := n_136 (lo := 0) (hi := 9) ha (by omega) (by omega)
  refine w_207 ?_
  rw [e136]
  by_cases q : 0 ≤ a ∧ a ≤ 9
  · rw [if_pos q]
    refine ⟨fun z => absurd z (by decide), fun _ => ?_⟩
    have ea : zi a = zi ((a.toNat : Nat) : Int) := by congr 1; omega
    have e37 : (zu I 28 0 0) 37 = I 37 := f0.1 37 (by decide) (by decide)
    rw [ea, n_206 (I := zu I 28 0 0) (x := a.toNat) (by omega) (by rw [e37]; exact h0) (by rw [e37]; exact h1) (by rw [e37]; exact hk) (by rw [f0.2 3 (by decide)]; exact ht) (by rw [f0.2 30 (by decide)]; exact h2) (by rw [f0.2 47 (by decide)]; exact h4) (by rw [f0.2 45 (by decide)]; exact h3)]
    exact k2 q
  · rw [if_neg q]
    refine ⟨fun _ => w_135 ?_, fun z => absurd rfl z⟩
    rw [zu_2]
    exact k1 q
end Face6
