/-! ===== faces with no game: put, can of the reference; back of both ===== -/
section Face12
variable {RO : zRo} {d : Nat} {P : zP} {I : zI} {J : zJ} {D : zD} {bc bs : Nat} {x a b : Int32}
theorem n_199n {c : Int} (hc : -2147483648 ≤ c ∧ c < 2147483648) (h : I 28 30 = 0) : zv_199 I J (zi c) = 0 := by
  unfold zv_199
  rw [h, show (0 : Int32) - 1 = zi (-1) from rfl, show (0 : Int64) = (zi 0).toInt64 from rfl, n_136 (lo := 0) (hi := -1) hc (by omega) (by omega), if_neg (by omega)]
theorem f_200n {c e : Int} {SS : Nat} (hSS : SS = 0 ∨ SS = 1) (he : -2147483648 ≤ e ∧ e < 2147483648) (h : I 28 30 = 0) (k : P (.inl (some (.int 0))) (zu I 28 0 1) J D) : zz RO (d + 3) 200 [.ref 28, .int (zi (SS : Nat)), .int (zi c), .int (zi e)] I J D bc bs P := by
  refine w_200 ?_
  rw [n_199n he (by rw [zu_n _ _ (by omega)]; exact h)]
  refine ⟨?_, fun _ => w_135 ?_, fun _ => ⟨fun q => absurd rfl q, fun _ => w_135 ?_⟩⟩
  · rw [show (5 : Int32) + zi (SS : Int) = zi ((5 + SS : Nat) : Int) by rw [show (5 : Int32) = zi 5 from rfl, zi_add]; congr 1]
    exact zi_in (by omega) (by omega) (by omega)
  · rw [zu_2]
    exact k
  · rw [zu_2]
    exact k
theorem f_204n {e : Int} (he : -2147483648 ≤ e ∧ e < 2147483648) (h : I 28 30 = 0) (k : P (.inl (some (.int 0))) (zu I 28 0 1) J D) : zz RO (d + 3) 204 [.ref 28, .int x, .int a, .int (zi e)] I J D bc bs P := by
  refine w_204 ?_
  rw [n_199n he h]
  exact ⟨fun _ => ⟨fun _ => k, fun _ => ⟨fun _ => k, fun q => absurd rfl q⟩⟩, fun _ => ⟨fun _ => k, fun _ => ⟨fun _ => k, fun q => absurd rfl q⟩⟩⟩
theorem f_216n {e : Int} (h : I 28 30 = 0) (k1 : ¬ zi e = 0 → P (.inl (some (.int 0))) (zu I 28 0 1) J D) (k2 : zi e = 0 → P (.inl (some (.int 0))) (zu I 28 0 2) J D) : zz RO (d + 2) 216 [.ref 28, .int (zi e)] I J D bc bs P := by
  refine w_216 ?_
  rw [n_195n (by rw [zu_n _ _ (by omega)]; exact h)]
  refine ⟨fun _ => ⟨fun q => w_135 ?_, fun q => w_135 ?_⟩, fun q => absurd rfl q⟩
  · rw [zu_2]
    exact k2 q
  · rw [zu_2]
    exact k1 q
theorem f_125n {e : Int} (he : -2147483648 ≤ e ∧ e < 2147483648) (hbb : 1 ≤ bc ∧ 6 ≤ bs) (h5 : I 23 5 = -1) (h4 : I 23 4 = 0) (k1 : ¬ e = 0 → P (.inr (1, 0, 0)) I J D) (k2 : e = 0 → P (.inr (0, 0, 0)) I J D) : zz RO (d + 2) 125 [.ref 0, .int (zi e)] I J D bc bs P := by
  refine w_125 ?_
  rw [h4, h5, show (0 : Int32) = zi 0 from rfl, zi_lt he (by omega), zi_le he (by omega)]
  exact ⟨fun q => ⟨hbb, k1 (by omega)⟩, fun q => ⟨fun q2 => ⟨fun z => absurd rfl z, fun _ => ⟨hbb, k2 (by omega)⟩⟩, fun q2 => ⟨hbb, k1 (by omega)⟩⟩⟩
end Face12
