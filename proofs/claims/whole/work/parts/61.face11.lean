/-! ===== faces with no game: act, reply, pass, can of the class ===== -/
section Face11
variable {RO : zRo} {d : Nat} {P : zP} {I : zI} {J : zJ} {D : zD} {bc bs : Nat} {x a b : Int32}
theorem n_v130n (h : I 20 2 = 0) : zv_130 I J x a b = 0 := by
  unfold zv_130
  by_cases c1 : a < 0
  · rw [if_pos c1]
  · rw [if_neg c1]
    by_cases c2 : zv_75 I J (3 + x) ≤ a
    · rw [if_pos c2]
    · rw [if_neg c2]
      by_cases c3 : b < 0
      · rw [if_pos c3]
      · rw [if_neg c3, h, if_pos (Int32.not_lt.mp c3)]
theorem f_114n (h : I 20 2 = 0) (hbb : 1 ≤ bc ∧ 6 ≤ bs) (k : P (.inr (2, 0, 0)) I J D) : zz RO (d + 3) 114 [.ref 0, .int a, .int b] I J D bc bs P := by
  refine w_114 ?_
  rw [n_v130n h]
  exact ⟨fun q => absurd rfl q, fun _ => ⟨hbb, k⟩⟩
theorem f_115n (h : I 20 2 = 0) (hbb : 1 ≤ bc ∧ 6 ≤ bs) (k : P (.inr (2, 0, 0)) I J D) : zz RO (d + 3) 115 [.ref 0, .int a, .int b] I J D bc bs P := by
  refine w_115 ?_
  rw [n_v130n h]
  exact ⟨fun q => absurd rfl q, fun _ => ⟨hbb, k⟩⟩
theorem f_117n (h : I 20 2 = 0) (hbb : 1 ≤ bc ∧ 6 ≤ bs) (k : P (.inr (2, 0, 0)) I J D) : zz RO (d + 3) 117 [.ref 0, .int x, .int a, .int b] I J D bc bs P := by
  refine w_117 ?_
  rw [n_v130n h, n_v130n h]
  exact ⟨fun _ => ⟨fun q => absurd rfl q, fun _ => ⟨hbb, k⟩⟩, fun _ => ⟨fun q => absurd rfl q, fun _ => ⟨hbb, k⟩⟩⟩
theorem f_116n (h : I 23 5 = -1) (hbb : 1 ≤ bc ∧ 6 ≤ bs) (k : P (.inr (0, 0, 0)) I J D) : zz RO (d + 1) 116 [.ref 0] I J D bc bs P := by
  refine w_116 ?_
  rw [h]
  exact ⟨fun q => absurd q (by decide), fun _ => ⟨hbb, k⟩⟩
theorem f_118n (h : I 23 5 = -1) (k : P (.inl (some (.int 0))) I J D) : zz RO (d + 2) 118 [.ref 0] I J D bc bs P := by
  refine w_118 ?_
  rw [h]
  exact ⟨fun q => absurd q (by decide), fun _ => k⟩
theorem n_196n (h : I 28 30 = 0) : zv_196 I J = 0 := by
  unfold zv_196
  rw [n_195n h, if_pos rfl]
theorem f_203n (h : I 28 30 = 0) (k : P (.inl (some (.int 0))) (zu I 28 0 1) J D) : zz RO (d + 3) 203 [.ref 28] I J D bc bs P := by
  refine w_203 ?_
  rw [n_196n (by rw [zu_n _ _ (by omega)]; exact h)]
  refine ⟨fun q => absurd rfl q, fun _ => w_135 ?_⟩
  rw [zu_2]
  exact k
end Face11
