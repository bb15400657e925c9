/-! ===== the reference: the program is cleared ===== -/
section MRead
variable {RO : zRo} {d : Nat} {P : zP} {J : zJ} {D : zD} {bc bs : Nat}
theorem s_147_28 : ∀ {m l : Nat} {I : zI}, l + m = 6 → (∀ x, x < l → I 39 x = 0) → (∀ I', zfm [19, 23, 30, 45, 47] [39] I I' → I' 28 19 = 0 → I' 28 23 = 0 → I' 28 30 = 0 → I' 28 47 = 0 → I' 28 45 = 0 → (∀ x, x < 6 → I' 39 x = 0) → P (.inl none) I' J D) → zw RO d 147 P 28 [(0, .ref 28), (1, .int (zi (l : Int)))] [] I J D bc bs
  | 0, l, I, hl, h, K => by
    have e : (6 : Int32) ≤ zi (l : Int) := by
      rw [show (6 : Int32) = zi ((6 : Nat) : Int) from rfl, zi_le (by omega) (by omega)]
      omega
    refine wl_147_28 ⟨fun _ => ?_, fun q => absurd e q⟩
    refine K _ (zfm_z (zfm_z (zfm_z (zfm_z (zfm_z (zfm_refl _) _ _ (by decide)) _ _ (by decide)) _ _ (by decide)) _ _ (by decide)) _ _ (by decide)) ?_ ?_ ?_ ?_ ?_ (fun x hx => ?_)
    · rw [zu_n _ _ (by omega), zu_n _ _ (by omega), zu_n _ _ (by omega), zu_n _ _ (by omega), zu_s]
    · rw [zu_n _ _ (by omega), zu_n _ _ (by omega), zu_n _ _ (by omega), zu_s]
    · rw [zu_n _ _ (by omega), zu_n _ _ (by omega), zu_s]
    · rw [zu_n _ _ (by omega), zu_s]
    · rw [zu_s]
    · rw [zu_row _ _ (by decide), zu_row _ _ (by decide), zu_row _ _ (by decide), zu_row _ _ (by decide), zu_row _ _ (by decide)]
      exact h x (by omega)
  | m + 1, l, I, hl, h, K => by
    have e : ¬ (6 : Int32) ≤ zi (l : Int) := by
      rw [show (6 : Int32) = zi ((6 : Nat) : Int) from rfl, zi_le (by omega) (by omega)]
      omega
    have cl : (zi (l : Int)).toNatClampNeg = l := zi_clk (by omega)
    refine wl_147_28 ⟨fun q => absurd q e, fun _ => ⟨zi_in (by omega) (by omega) (by omega), ?_⟩⟩
    rw [cl, zi_succ]
    refine s_147_28 (m := m) (by omega) (fun x hx => ?_) (fun I' f a1 a2 a3 a4 a5 a6 => K I' (zfm_trans (zfm_zu (zfm_refl _) _ _ (by decide) (by decide)) f) a1 a2 a3 a4 a5 a6)
    by_cases z : x = l
    · rw [z, zu_s]
    · rw [zu_n _ _ (fun q => z q.2)]
      exact h x (by omega)
theorem s_147_7 : ∀ {m l : Nat} {I : zI}, l + m = 9 → (∀ x, x < l → I 37 x = 0) → (∀ I', zfm [] [37] I I' → (∀ x, x < 9 → I' 37 x = 0) → zw RO d 147 P 28 [(0, .ref 28), (1, .int 0)] [] I' J D bc bs) → zw RO d 147 P 7 [(0, .ref 28), (1, .int (zi (l : Int)))] [] I J D bc bs
  | 0, l, I, hl, h, K => by
    have e : (8 : Int32) < zi (l : Int) := by
      rw [show (8 : Int32) = zi ((8 : Nat) : Int) from rfl, zi_lt (by omega) (by omega)]
      omega
    exact wl_147_7 ⟨fun _ => K I (zfm_refl _) (fun x hx => h x (by omega)), fun q => absurd e q⟩
  | m + 1, l, I, hl, h, K => by
    have e : ¬ (8 : Int32) < zi (l : Int) := by
      rw [show (8 : Int32) = zi ((8 : Nat) : Int) from rfl, zi_lt (by omega) (by omega)]
      omega
    have cl : (zi (l : Int)).toNatClampNeg = l := zi_clk (by omega)
    refine wl_147_7 ⟨fun q => absurd q e, fun _ => ⟨zi_in (by omega) (by omega) (by omega), ?_⟩⟩
    rw [cl, zi_succ]
    refine s_147_7 (m := m) (by omega) (fun x hx => ?_) (fun I' f a1 => K I' (zfm_trans (zfm_zu (zfm_refl _) _ _ (by decide) (by decide)) f) a1)
    by_cases z : x = l
    · rw [z, zu_s]
    · rw [zu_n _ _ (fun q => z q.2)]
      exact h x (by omega)
theorem s_147 {I : zI} (K : ∀ I', zfm [8, 19, 23, 30, 45, 47] [37, 39] I I' → I' 28 8 = 0 → I' 28 19 = 0 → I' 28 23 = 0 → I' 28 30 = 0 → I' 28 47 = 0 → I' 28 45 = 0 → (∀ x, x < 9 → I' 37 x = 0) → (∀ x, x < 6 → I' 39 x = 0) → P (.inl none) I' J D) : zz RO (d + 1) 147 [.ref 28] I J D bc bs P := by
  refine w_147 ?_
  refine s_147_7 (m := 9) (l := 0) rfl (fun x hx => absurd hx (Nat.not_lt_zero x)) (fun I1 f1 a1 => ?_)
  refine s_147_28 (m := 6) (l := 0) rfl (fun x hx => absurd hx (Nat.not_lt_zero x)) (fun I2 f2 b1 b2 b3 b4 b5 b6 => ?_)
  refine K I2 (zfm_trans (zfm_z (zfm_refl _) _ _ (by decide)) (zfm_trans (zfm_sub f1 (by simp) (by simp)) (zfm_sub f2 (by simp) (by simp)))) ?_ b1 b2 b3 b4 b5 (fun x hx => ?_) b6
  · rw [f2.2 8 (by decide), f1.2 8 (by decide), zu_s]
  · rw [f2.1 37 (by decide) (by decide)]
    exact a1 x hx
end MRead
