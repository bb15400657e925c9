/-! ===== the class's machine: operands, expressions ===== -/
def zTb (G : zGm) (I : zI) (J : zJ) : Prop :=
  I 20 2 = zi (G.1 8) ∧ I 20 3 = zi G.2.2.1.length ∧ I 20 4 = zi (G.1 0) ∧ I 20 5 = zi (G.1 1) ∧ I 20 6 = zi (G.1 2) ∧ I 20 7 = zi (G.1 5) ∧ I 20 8 = zi (G.1 6) ∧ J 20 9 = G.2.2.2.2 ∧ (∀ k, k < 30 → I 21 k = G.2.1 k) ∧ (∀ k w, k < G.2.2.1.length → w < 4 → I 22 (4 * k + w) = zi (G.2.2.1.getD k z4 w))
def zMc (s : List Int64) (ow tg : Nat) (sv : List Nat) (I : zI) (J : zJ) : Prop :=
  I 24 5 = zi s.length ∧ (∀ k, k < s.length → J 25 k = s.reverse.getD k 0) ∧ I 24 7 = zi ow ∧ I 24 8 = zi tg ∧ I 24 6 = zi sv.length ∧ (∀ k, k < sv.length → I 26 k = zi (sv.reverse.getD k 0))
/-- the code from a on is L, within its length -/
def zcR (I : zI) (a : Nat) (L : List zOp) : Prop := (∀ k, k < L.length → I 9 (a + k) = zi (L.getD k (0, 0)).1 ∧ I 10 (a + k) = (L.getD k (0, 0)).2) ∧ ∃ n : Nat, I 8 2 = zi n ∧ a + L.length ≤ n ∧ n ≤ 450
theorem zcR_of {I I' : zI} {a : Nat} {L : List zOp} (h : zcR I a L) (h8 : I' 8 = I 8) (h9 : I' 9 = I 9) (h10 : I' 10 = I 10) : zcR I' a L := by
  unfold zcR
  rw [h8, h9, h10]
  exact h
theorem zcR_left {I : zI} {a : Nat} {L M : List zOp} (h : zcR I a (L ++ M)) : zcR I a L := by
  obtain ⟨h1, n, h2, h3, h4⟩ := h
  rw [List.length_append] at h1 h3
  refine ⟨fun k hk => ?_, n, h2, by omega, h4⟩
  have h9 := h1 k (by omega)
  rw [List.getD_eq_getElem?_getD, List.getElem?_append_left hk, ← List.getD_eq_getElem?_getD] at h9
  exact h9
theorem zcR_right {I : zI} {a : Nat} {L M : List zOp} (h : zcR I a (L ++ M)) : zcR I (a + L.length) M := by
  obtain ⟨h1, n, h2, h3, h4⟩ := h
  rw [List.length_append] at h1 h3
  refine ⟨fun k hk => ?_, n, h2, by omega, h4⟩
  have h9 := h1 (L.length + k) (by omega)
  rw [List.getD_eq_getElem?_getD, List.getElem?_append_right (by omega), Nat.add_sub_cancel_left, ← List.getD_eq_getElem?_getD, ← Nat.add_assoc] at h9
  exact h9
section CMach
variable {RO : zRo} {d : Nat} {P : zP} {I : zI} {J : zJ} {D : zD} {bc bs : Nat} {s : List Int64} {ow tg : Nat} {sv : List Nat} {G : zGm}
/-- the code at a place -/
theorem zop_at {a : Nat} {q : zOp} {r : List zOp} (h : zcR I a (q :: r)) : zv_3 I J (zi a) = zi q.1 ∧ zv_4 I J (zi a) = q.2 := by
  obtain ⟨h1, n, h2, h3, h4⟩ := h
  have h9 := h1 0 (by simp)
  simp only [List.length_cons] at h3
  have e1 : (zi (a : Int)).toNatClampNeg = a := by rw [zi_cl (by omega) (by omega)]; omega
  unfold zv_3 zv_4
  rw [h2, e1]
  simp (disch := omega) only [zlit, zi_lt, zi_le]
  rw [if_neg (by omega), if_neg (by omega), if_neg (by omega), if_neg (by omega), if_neg (by omega), if_neg (by omega)]
  exact h9
theorem s_push {v : Int64} (hM : zMc s ow tg sv I J) (hs : s.length < 60)
    (k : ∀ I' J', zMc (v :: s) ow tg sv I' J' → zfr [24] I I' → zfr [25] J J' → P (.inl none) I' J' D) : zz RO (d + 1) 47 [.ref 24, .long v] I J D bc bs P := by
  obtain ⟨h1, h2, h3, h4, h5, h6⟩ := hM
  refine w_47 ?_
  rw [h1]
  simp (disch := omega) only [zlit, zi_add, zi_lt, zi_le, zi_cl]
  refine ⟨fun q => absurd q (by omega), fun _ => ⟨fun q => absurd q (by omega), fun _ => k _ _ ⟨?_, ?_, ?_, ?_, ?_, ?_⟩ (zfr_zu (zfr_refl _) _ _ (by simp)) (zfr_zu (zfr_refl _) _ _ (by simp))⟩⟩
  · rw [zu_s, List.length_cons]
    congr 1
  · intro j hj
    rw [List.length_cons] at hj
    rw [List.reverse_cons, zgd_app, List.length_reverse]
    have e : ((s.length : Int)).toNat = s.length := by omega
    rw [e]
    by_cases hjs : j < s.length
    · rw [if_pos hjs, zu_n _ _ (by omega)]
      exact h2 j hjs
    · have hj2 : j = s.length := by omega
      rw [if_neg hjs, if_pos hj2, hj2, zu_s]
  · rw [zu_n _ _ (by omega)]; exact h3
  · rw [zu_n _ _ (by omega)]; exact h4
  · rw [zu_n _ _ (by omega)]; exact h5
  · intro j hj
    rw [zu_n _ _ (by omega)]
    exact h6 j hj
theorem s_pop {v : Int64} (hM : zMc (v :: s) ow tg sv I J) (hs : s.length < 60)
    (k : ∀ I', zMc s ow tg sv I' J → zfr [24] I I' → P (.inl (some (.long v))) I' J D) : zz RO (d + 1) 48 [.ref 24] I J D bc bs P := by
  obtain ⟨h1, h2, h3, h4, h5, h6⟩ := hM
  rw [List.length_cons] at h1
  refine w_48 ?_
  rw [h1]
  simp (disch := omega) only [zlit, zi_sub, zi_lt, zi_le, zi_cl]
  refine ⟨fun q => absurd q (by omega), fun _ => ⟨fun _ => ⟨zi_in (by omega) (by omega) (by omega), ?_⟩, fun q => absurd q (by omega)⟩⟩
  have hv : J 25 ((((s.length + 1 : Nat) : Int) - 1).toNat) = v := by
    have e : (((s.length + 1 : Nat) : Int) - 1).toNat = s.length := by omega
    rw [e, h2 s.length (by simp), List.reverse_cons, zgd_app, List.length_reverse, if_neg (by omega), if_pos rfl]
  rw [hv]
  refine k _ ⟨?_, ?_, ?_, ?_, ?_, ?_⟩ (zfr_zu (zfr_refl _) _ _ (by simp))
  · rw [zu_s]
    congr 1
    omega
  · intro j hj
    rw [h2 j (by rw [List.length_cons]; omega), List.reverse_cons, zgd_app, List.length_reverse, if_pos hj]
  · rw [zu_n _ _ (by omega)]; exact h3
  · rw [zu_n _ _ (by omega)]; exact h4
  · rw [zu_n _ _ (by omega)]; exact h5
  · intro j hj
    rw [zu_n _ _ (by omega)]
    exact h6 j hj
theorem s_pop0 (hM : zMc [] ow tg sv I J) (k : P (.inl (some (.long 0))) I J D) : zz RO (d + 1) 48 [.ref 24] I J D bc bs P := by
  obtain ⟨h1, -⟩ := hM
  rw [List.length_nil] at h1
  refine w_48 ?_
  rw [h1]
  simp (disch := omega) only [zlit, zi_sub, zi_lt, zi_le, zi_cl]
  exact ⟨fun _ => k, fun q => absurd (by decide) q⟩
theorem zTb_keep {I' : zI} {J' : zJ} (h : zTb G I J) (e20 : I' 20 = I 20) (e21 : I' 21 = I 21) (e22 : I' 22 = I 22) (ej : J' 20 = J 20) : zTb G I' J' := by
  unfold zTb
  rw [e20, e21, e22, ej]
  exact h
theorem zv84_at {n : Nat} (h : n < 30) : zv_84 I J (zi n) = I 21 n := by
  unfold zv_84
  simp (disch := omega) only [zlit, zi_le, zi_lt, zi_cl]
  rw [if_neg (by omega), if_neg (by omega)]
  congr 1
theorem zpl_lt {p : Nat} (h : p < 18) (h1 : ow < 4) (h2 : tg < 4) : zpl ow tg p < 30 := by
  unfold zpl
  split
  · omega
  · split <;> omega
theorem zv50_at {p : Nat} (h : p < 18) (h1 : ow < 4) (h2 : tg < 4) (m3 : I 24 7 = zi ow) (m4 : I 24 8 = zi tg) : zv_50 I J (zi p) = zi (zpl ow tg p) := by
  unfold zv_50 zpl
  rw [m3, m4]
  simp (disch := omega) only [zlit, zi_le, zi_lt, zi_mul, zi_add, zi_sub]
  by_cases p6 : p < 6
  · rw [if_neg (by omega), if_pos p6]
    congr 1
  · rw [if_pos (by omega), if_neg p6]
    by_cases p12 : p < 12
    · rw [if_neg (by omega), if_pos p12]
      congr 1
      omega
    · rw [if_pos (by omega), if_neg p12]
      congr 1
      omega
/-- what a leaf is worth -/
theorem zlf_at {op : Nat} {a : Int32} (hT : zTb G I J) (hM : zMc s ow tg sv I J) (ho : zlfK op) (ha : op = 2 → ∃ p : Nat, p < 18 ∧ a = zi p) (h1 : ow < 4) (h2 : tg < 4) : zv_49 I J (zi op) a = zlf G ow tg op a := by
  obtain ⟨t2, t3, t4, t5, t6, t7, t8, tz, tv, ts⟩ := hT
  obtain ⟨m1, m2, m3, m4, m5, m6⟩ := hM
  unfold zv_49 zlf
  unfold zlfK at ho
  rw [t2, t3, t4, m3, m4]
  simp (disch := omega) only [zlit, zi_eq]
  by_cases e2 : op = 2
  · obtain ⟨p, hp, rfl⟩ := ha e2
    rw [if_pos (by omega), if_pos e2, zv50_at hp h1 h2 m3 m4, zv84_at (zpl_lt hp h1 h2), tv _ (zpl_lt hp h1 h2)]
    have e1 : (zi (p : Int)).toNatClampNeg = p := by rw [zi_cl (by omega) (by omega)]; omega
    rw [e1]
  · rw [if_neg (by omega), if_neg e2]
    by_cases e28 : op = 28
    · rw [if_pos (by omega), if_pos e28]
    · rw [if_neg (by omega), if_neg e28]
      by_cases e29 : op = 29
      · rw [if_pos (by omega), if_pos e29]
      · rw [if_neg (by omega), if_neg e29]
        by_cases e30 : op = 30
        · rw [if_pos (by omega), if_pos e30]
        · rw [if_neg (by omega), if_neg e30]
          by_cases e31 : op = 31
          · rw [if_pos (by omega), if_pos e31]
          · rw [if_neg (by omega), if_neg e31]
            by_cases e32 : op = 32
            · rw [if_pos (by omega), if_pos e32]
            · rw [if_neg (by omega), if_neg e32]
theorem zk44 {op : Nat} (h : op < 100) : zv_44 I J (zi op) = 0 ↔ ¬ zlfK op := by
  unfold zv_44 zlfK
  simp (disch := omega) only [zlit, zi_eq, zi_lt]
  (repeat' split) <;> simp (disch := omega) only [zi_eq] <;> first | omega | (simp only [true_iff, false_iff]; omega) | (simp; omega)
theorem zk45 {op : Nat} (h : op < 100) : zv_45 I J (zi op) = 0 ↔ ¬ zunK op := by
  unfold zv_45 zunK
  simp (disch := omega) only [zlit, zi_eq, zi_lt]
  (repeat' split) <;> simp (disch := omega) only [zi_eq] <;> first | omega | (simp only [true_iff, false_iff]; omega) | (simp; omega)
theorem zk46 {op : Nat} (h : op < 100) : zv_46 I J (zi op) = 0 ↔ ¬ zbnK op := by
  unfold zv_46 zbnK
  simp (disch := omega) only [zlit, zi_eq, zi_lt]
  (repeat' split) <;> simp (disch := omega) only [zi_eq] <;> first | omega | (simp only [true_iff, false_iff]; omega) | (simp; omega)
end CMach
