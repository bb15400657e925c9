/-! ===== the class's game: notes, the stack, who is asked, what is done ===== -/
theorem zgd_last {α : Type} {l : List α} {r d : α} (h : l.getLast? = some r) : 0 < l.length ∧ l.getD (l.length - 1) d = r := by
  rw [List.getLast?_eq_getElem?] at h
  have h2 := (List.getElem?_eq_some_iff.mp h).1
  refine ⟨by omega, ?_⟩
  rw [List.getD_eq_getElem?_getD, h]
  rfl
theorem zgd_none {α : Type} {l : List α} (h : l.getLast? = none) : l = [] := List.getLast?_eq_none_iff.mp h
/-- the rows of the stack are those of bodies and players that there are -/
def gRow1 (p : zPg) (m : Nat) (r : zR4) : Prop := ((r 0 = 0 ∧ 0 ≤ r 1 ∧ r 1 < gPc p 3) ∨ (r 0 = 1 ∧ 0 ≤ r 1 ∧ r 1 < gPc p 4)) ∧ 0 ≤ r 2 ∧ r 2 < m ∧ 0 ≤ r 3 ∧ r 3 < m
section CGame4
variable {RO : zRo} {d : Nat} {P : zP} {I : zI} {J : zJ} {D : zD} {bc bs : Nat} {m t : Nat} {G : zGm} {p : zPg} {z0 : Int64}
theorem zv86_at {k w : Nat} (h : 4 * k + w < 40) : zv_86 I J (zi k) (zi w) = I 22 (4 * k + w) := by
  unfold zv_86
  simp (disch := omega) only [zlit, zi_le, zi_lt, zi_mul, zi_add, zi_cl]
  rw [if_neg (by omega), if_neg (by omega)]
  congr 1
  omega
theorem s_35 {a b c e : Int} (hC : zCs G z0 I J) (hT : zTb G I J) (hl : G.2.2.2.1.length < 250) (k : ∀ I', zCs (gNote G a b c e) z0 I' J → zTb (gNote G a b c e) I' J → zfr [23, 27] I I' → (∀ j, 4 * G.2.2.2.1.length + 4 ≤ j → I' 27 j = I 27 j) → P (.inl none) I' J D) : zz RO (d + 1) 35 [.ref 23, .int (zi a), .int (zi b), .int (zi c), .int (zi e)] I J D bc bs P := by
  obtain ⟨c1, c2, c3, c4, c5, c6, c7⟩ := hC
  have k9 := k (zu (zu (zu (zu (zu I 27 (4 * G.2.2.2.1.length) (zi a)) 27 (4 * G.2.2.2.1.length + 1) (zi b)) 27 (4 * G.2.2.2.1.length + 2) (zi c)) 27 (4 * G.2.2.2.1.length + 3) (zi e)) 23 4 (zi (G.2.2.2.1.length + 1 : Nat)))
  refine w_35 ?_
  rw [c1, zi_succ]
  simp (disch := omega) only [zlit, zi_le, zi_lt, zi_mul, zi_add, zi_cl]
  rw [show ((G.2.2.2.1.length : Int) * 4).toNat = 4 * G.2.2.2.1.length by omega, show ((G.2.2.2.1.length : Int) * 4 + 1).toNat = 4 * G.2.2.2.1.length + 1 by omega, show ((G.2.2.2.1.length : Int) * 4 + 2).toNat = 4 * G.2.2.2.1.length + 2 by omega, show ((G.2.2.2.1.length : Int) * 4 + 3).toNat = 4 * G.2.2.2.1.length + 3 by omega]
  refine ⟨fun q => absurd q (by omega), fun _ => ⟨fun q => absurd q (by omega), fun _ => ⟨zi_in (by omega) (by omega) (by omega), zi_in (by omega) (by omega) (by omega), zi_in (by omega) (by omega) (by omega), zi_in (by omega) (by omega) (by omega), k9 ?_ ?_ ?_ ?_⟩⟩⟩
  · refine ⟨?_, ?_, ?_, ?_, ?_, c6, ?_⟩
    · rw [zu_s]
      show zi ((G.2.2.2.1.length + 1 : Nat) : Int) = zi ((G.2.2.2.1 ++ [_]).length : Int)
      rw [List.length_append]
      rfl
    · rw [zu_n _ _ (by omega), zu_row _ _ (by omega), zu_row _ _ (by omega), zu_row _ _ (by omega), zu_row _ _ (by omega)]; exact c2
    · rw [zu_n _ _ (by omega), zu_row _ _ (by omega), zu_row _ _ (by omega), zu_row _ _ (by omega), zu_row _ _ (by omega)]; exact c3
    · rw [zu_n _ _ (by omega), zu_row _ _ (by omega), zu_row _ _ (by omega), zu_row _ _ (by omega), zu_row _ _ (by omega)]; exact c4
    · rw [zu_n _ _ (by omega), zu_row _ _ (by omega), zu_row _ _ (by omega), zu_row _ _ (by omega), zu_row _ _ (by omega)]; exact c5
    · intro j w hj hw
      show _ = zi ((G.2.2.2.1 ++ [_]).getD j z4 w)
      have hj2 : j < G.2.2.2.1.length + 1 := by
        have h9 : j < (G.2.2.2.1 ++ [_]).length := hj
        rw [List.length_append] at h9
        exact h9
      rw [zgd_app, zu_row _ _ (by omega)]
      by_cases hjs : j < G.2.2.2.1.length
      · rw [if_pos hjs, zu_n _ _ (by omega), zu_n _ _ (by omega), zu_n _ _ (by omega), zu_n _ _ (by omega)]
        exact c7 j w hjs hw
      · have ej : j = G.2.2.2.1.length := by omega
        rw [if_neg hjs, if_pos ej]
        subst ej
        have hw4 : w = 0 ∨ w = 1 ∨ w = 2 ∨ w = 3 := by omega
        rcases hw4 with e | e | e | e <;> subst e
        · rw [zu_n _ _ (by omega), zu_n _ _ (by omega), zu_n _ _ (by omega), Nat.add_zero, zu_s]; rfl
        · rw [zu_n _ _ (by omega), zu_n _ _ (by omega), zu_s]; rfl
        · rw [zu_n _ _ (by omega), zu_s]; rfl
        · rw [zu_s]; rfl
  · exact zTb_keep (G := gNote G a b c e) (I := I) (J := J) hT (by rw [zu_row _ _ (by omega), zu_row _ _ (by omega), zu_row _ _ (by omega), zu_row _ _ (by omega), zu_row _ _ (by omega)]) (by rw [zu_row _ _ (by omega), zu_row _ _ (by omega), zu_row _ _ (by omega), zu_row _ _ (by omega), zu_row _ _ (by omega)]) (by rw [zu_row _ _ (by omega), zu_row _ _ (by omega), zu_row _ _ (by omega), zu_row _ _ (by omega), zu_row _ _ (by omega)]) rfl
  · exact zfr_zu (zfr_zu (zfr_zu (zfr_zu (zfr_zu (zfr_refl _) _ _ (by simp)) _ _ (by simp)) _ _ (by simp)) _ _ (by simp)) _ _ (by simp)
  · intro j hj
    rw [zu_row _ _ (by omega), zu_n _ _ (by omega), zu_n _ _ (by omega), zu_n _ _ (by omega), zu_n _ _ (by omega)]
theorem s_87 {a b c e : Int} (hT : zTb G I J) (hl : G.2.2.1.length < 10) (k : ∀ I', zTb (sK G (G.2.2.1 ++ [gRow a b c e])) I' J → zfr [20, 22] I I' → P (.inl none) I' J D) : zz RO (d + 1) 87 [.ref 20, .int (zi a), .int (zi b), .int (zi c), .int (zi e)] I J D bc bs P := by
  obtain ⟨t2, t3, t4, t5, t6, t7, t8, tz, tv, ts⟩ := hT
  have k9 := k (zu (zu (zu (zu (zu I 22 (4 * G.2.2.1.length) (zi a)) 22 (4 * G.2.2.1.length + 1) (zi b)) 22 (4 * G.2.2.1.length + 2) (zi c)) 22 (4 * G.2.2.1.length + 3) (zi e)) 20 3 (zi (G.2.2.1.length + 1 : Nat)))
  refine w_87 ?_
  rw [t3, zi_succ]
  simp (disch := omega) only [zlit, zi_le, zi_lt, zi_mul, zi_add, zi_cl]
  rw [show ((G.2.2.1.length : Int) * 4).toNat = 4 * G.2.2.1.length by omega, show ((G.2.2.1.length : Int) * 4 + 1).toNat = 4 * G.2.2.1.length + 1 by omega, show ((G.2.2.1.length : Int) * 4 + 2).toNat = 4 * G.2.2.1.length + 2 by omega, show ((G.2.2.1.length : Int) * 4 + 3).toNat = 4 * G.2.2.1.length + 3 by omega]
  refine ⟨fun q => absurd q (by omega), fun _ => ⟨fun q => absurd q (by omega), fun _ => ⟨zi_in (by omega) (by omega) (by omega), zi_in (by omega) (by omega) (by omega), zi_in (by omega) (by omega) (by omega), zi_in (by omega) (by omega) (by omega), k9 ?_ ?_⟩⟩⟩
  · refine ⟨?_, ?_, ?_, ?_, ?_, ?_, ?_, tz, ?_, ?_⟩
    · rw [zu_n _ _ (by omega), zu_row _ _ (by omega), zu_row _ _ (by omega), zu_row _ _ (by omega), zu_row _ _ (by omega)]; exact t2
    · rw [zu_s]
      show zi ((G.2.2.1.length + 1 : Nat) : Int) = zi ((G.2.2.1 ++ [_]).length : Int)
      rw [List.length_append]
      rfl
    · rw [zu_n _ _ (by omega), zu_row _ _ (by omega), zu_row _ _ (by omega), zu_row _ _ (by omega), zu_row _ _ (by omega)]; exact t4
    · rw [zu_n _ _ (by omega), zu_row _ _ (by omega), zu_row _ _ (by omega), zu_row _ _ (by omega), zu_row _ _ (by omega)]; exact t5
    · rw [zu_n _ _ (by omega), zu_row _ _ (by omega), zu_row _ _ (by omega), zu_row _ _ (by omega), zu_row _ _ (by omega)]; exact t6
    · rw [zu_n _ _ (by omega), zu_row _ _ (by omega), zu_row _ _ (by omega), zu_row _ _ (by omega), zu_row _ _ (by omega)]; exact t7
    · rw [zu_n _ _ (by omega), zu_row _ _ (by omega), zu_row _ _ (by omega), zu_row _ _ (by omega), zu_row _ _ (by omega)]; exact t8
    · intro j hj
      rw [zu_row _ _ (by omega), zu_row _ _ (by omega), zu_row _ _ (by omega), zu_row _ _ (by omega), zu_row _ _ (by omega)]
      exact tv j hj
    · intro j w hj hw
      show _ = zi ((G.2.2.1 ++ [_]).getD j z4 w)
      have hj2 : j < G.2.2.1.length + 1 := by
        have h9 : j < (G.2.2.1 ++ [_]).length := hj
        rw [List.length_append] at h9
        exact h9
      rw [zgd_app, zu_row _ _ (by omega)]
      by_cases hjs : j < G.2.2.1.length
      · rw [if_pos hjs, zu_n _ _ (by omega), zu_n _ _ (by omega), zu_n _ _ (by omega), zu_n _ _ (by omega)]
        exact ts j w hjs hw
      · have ej : j = G.2.2.1.length := by omega
        rw [if_neg hjs, if_pos ej]
        subst ej
        have hw4 : w = 0 ∨ w = 1 ∨ w = 2 ∨ w = 3 := by omega
        rcases hw4 with e | e | e | e <;> subst e
        · rw [zu_n _ _ (by omega), zu_n _ _ (by omega), zu_n _ _ (by omega), Nat.add_zero, zu_s]; rfl
        · rw [zu_n _ _ (by omega), zu_n _ _ (by omega), zu_s]; rfl
        · rw [zu_n _ _ (by omega), zu_s]; rfl
        · rw [zu_s]; rfl
  · exact zfr_zu (zfr_zu (zfr_zu (zfr_zu (zfr_zu (zfr_refl _) _ _ (by simp)) _ _ (by simp)) _ _ (by simp)) _ _ (by simp)) _ _ (by simp)
theorem zCs_ask {x : Int} (hC : zCq G z0 I J) : zCs (sS (sS G 7 0) 3 x) z0 (zu (zu I 23 8 0) 23 7 (zi x)) J := by
  obtain ⟨c1, c2, c3, c4, c5⟩ := hC
  refine ⟨?_, ?_, ?_, ?_, ?_, c4, ?_⟩
  · rw [zu_n _ _ (by omega), zu_n _ _ (by omega)]; exact c1
  · rw [zu_n _ _ (by omega), zu_n _ _ (by omega)]; exact c2
  · rw [zu_n _ _ (by omega), zu_n _ _ (by omega)]; exact c3
  · rw [zu_s]; rfl
  · rw [zu_n _ _ (by omega), zu_s]; rfl
  · intro k w hk hw
    rw [zu_n _ _ (by omega), zu_n _ _ (by omega)]
    exact c5 k w hk hw
theorem s_37 (hm : G.1 8 = (m : Int)) (hm4 : 2 ≤ m ∧ m ≤ 4) (hl : G.2.2.1.length ≤ 10) (hr : ∀ r ∈ G.2.2.1, gRow1 p m r) (hT : zTb G I J) (hC : zCq G z0 I J)
    (k : ∀ I', zTb (gAsk G) I' J → zCs (gAsk G) z0 I' J → zfr [23] I I' → P (.inl none) I' J D) : zz RO (d + 2) 37 [.ref 23] I J D bc bs P := by
  refine w_37 ?_
  rw [hT.2.1]
  unfold gAsk at k
  cases e : G.2.2.1.getLast? with
  | none =>
    rw [e] at k
    rw [zgd_none e]
    refine ⟨fun _ => ?_, fun q => absurd (by decide) q⟩
    exact k _ (zTb_keep (zTb_s (zTb_s hT (by omega)) (by omega)) (by rw [zu_row _ _ (by omega), zu_row _ _ (by omega)]) (by rw [zu_row _ _ (by omega), zu_row _ _ (by omega)]) (by rw [zu_row _ _ (by omega), zu_row _ _ (by omega)]) rfl) (zCs_ask (x := -1) hC) (zfr_zu (zfr_zu (zfr_refl _) _ _ (by simp)) _ _ (by simp))
  | some r =>
    rw [e] at k
    obtain ⟨h0, hlast⟩ := zgd_last (d := z4) e
    have hmem : r ∈ G.2.2.1 := List.mem_of_getLast? e
    obtain ⟨-, r2, r3, -, -⟩ := hr r hmem
    rw [show (0 : Int32) = zi 0 from rfl, zi_le (by omega) (by omega), show (1 : Int32) = zi 1 from rfl, zi_sub]
    refine ⟨fun q => absurd q (by omega), fun _ => ?_⟩
    have ew : zv_86 (zu I 23 8 (zi 0)) J (zi ((G.2.2.1.length : Int) - 1)) 2 = zi (r 2) := by
      rw [show ((G.2.2.1.length : Int) - 1) = ((G.2.2.1.length - 1 : Nat) : Int) by omega, show (2 : Int32) = zi (2 : Nat) from rfl, zv86_at (by omega), zu_row _ _ (by omega), hT.2.2.2.2.2.2.2.2.2 _ 2 (by omega) (by omega), hlast]
    have eb : zv_83 (zu I 23 8 (zi 0)) J (zi (r 2)) = zi (gB G (r 2).toNat : Nat) := by
      rw [show r 2 = (((r 2).toNat : Nat) : Int) by omega, zv83_at (m := m) (by rw [zu_row _ _ (by omega), hT.1, hm]) hm4.2 (by omega), gB_eq hm]
      rw [show (((r 2).toNat : Nat) : Int).toNat = (r 2).toNat by omega]
    rw [ew, eb]
    exact k _ (zTb_keep (zTb_s (zTb_s hT (by omega)) (by omega)) (by rw [zu_row _ _ (by omega), zu_row _ _ (by omega)]) (by rw [zu_row _ _ (by omega), zu_row _ _ (by omega)]) (by rw [zu_row _ _ (by omega), zu_row _ _ (by omega)]) rfl) (zCs_ask (x := (gB G (r 2).toNat : Nat)) hC) (zfr_zu (zfr_zu (zfr_refl _) _ _ (by simp)) _ _ (by simp))
end CGame4
