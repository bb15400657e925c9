/-! ===== the class's machine: stores, jumps, loops over players ===== -/
theorem zi_mod {a b : Int} (h1 : 0 ≤ a) (h2 : a < 2147483648) (h3 : 0 < b) (h4 : b < 2147483648) : zi a - zi a / zi b * zi b = zi (a % b) := by
  apply Int32.toInt_inj.mp
  have h5 : a % b < b := Int.emod_lt_of_pos a h3
  have h6 : 0 ≤ a % b := Int.emod_nonneg a (by omega)
  rw [rem_toInt, zi_toInt (by omega) h2, zi_toInt (by omega) h4, zi_toInt (by omega) (by omega), Int.tmod_eq_emod_of_nonneg h1]
theorem zq3 {lo hi : Int32} {v : Int64} {Z : Int32 → Prop} (h : Z (zclp lo hi v)) : (lo.toInt64 ≤ v → (v ≤ hi.toInt64 → Z v.toInt32) ∧ (¬ v ≤ hi.toInt64 → Z hi)) ∧ (¬ lo.toInt64 ≤ v → Z lo) := by
  unfold zclp at h
  refine ⟨fun a => ⟨fun b => ?_, fun b => ?_⟩, fun a => ?_⟩
  · rw [if_neg (Int64.not_lt.mpr a), if_neg (Int64.not_lt.mpr b)] at h
    exact h
  · rw [if_neg (Int64.not_lt.mpr a), if_pos (Int64.not_le.mp b)] at h
    exact h
  · rw [if_pos (Int64.not_le.mp a)] at h
    exact h
section CMach3
variable {RO : zRo} {d : Nat} {P : zP} {I : zI} {J : zJ} {D : zD} {bc bs : Nat} {s : List Int64} {ow tg : Nat} {sv : List Nat} {G : zGm} {B : Nat → Int32}
theorem zv76_at {t w : Nat} (ht : t < 12) (hw : w < 3) : zv_76 I J (zi t) (zi w) = I 14 (3 * t + w) := by
  unfold zv_76
  simp (disch := omega) only [zlit, zi_le, zi_lt, zi_mul, zi_add, zi_cl]
  rw [if_neg (by omega), if_neg (by omega)]
  congr 1
  omega
theorem s_85 {p : Nat} {v : Int32} (hp : p < 30) (k : P (.inl none) (zu I 21 p v) J D) : zz RO (d + 1) 85 [.ref 20, .int (zi p), .int v] I J D bc bs P := by
  refine w_85 ?_
  simp (disch := omega) only [zlit, zi_le, zi_lt, zi_cl]
  exact ⟨fun q => absurd q (by omega), fun _ => ⟨fun q => absurd q (by omega), fun _ => k⟩⟩
theorem zTb_sV {p : Nat} {v : Int32} (hp : p < 30) (hT : zTb G I J) : zTb (sV G p v) (zu I 21 p v) J := by
  obtain ⟨t2, t3, t4, t5, t6, t7, t8, tz, tv, ts⟩ := hT
  unfold zTb sV
  refine ⟨?_, ?_, ?_, ?_, ?_, ?_, ?_, tz, ?_, ?_⟩
  · rw [zu_n _ _ (by omega)]; exact t2
  · rw [zu_n _ _ (by omega)]; exact t3
  · rw [zu_n _ _ (by omega)]; exact t4
  · rw [zu_n _ _ (by omega)]; exact t5
  · rw [zu_n _ _ (by omega)]; exact t6
  · rw [zu_n _ _ (by omega)]; exact t7
  · rw [zu_n _ _ (by omega)]; exact t8
  · intro k hk
    show zu I 21 p v 21 k = if k = p then v else G.2.1 k
    by_cases e : k = p
    · rw [if_pos e, e, zu_s]
    · rw [if_neg e, zu_n _ _ (by omega)]
      exact tv k hk
  · intro k w hk hw
    rw [zu_n _ _ (by omega)]
    exact ts k w hk hw
theorem s_56 {op p : Nat} {v : Int64} (hop : op = 16 ∨ op = 17) (hp : p < 30) (hT : zTb G I J) (hB : ∀ k, k < 36 → I 14 k = B k)
    (k : ∀ I', zTb (zsto B G p (if op = 17 then (G.2.1 p).toInt64 + v else v)) I' J → zfr [21] I I' → P (.inl none) I' J D) : zz RO (d + 2) 56 [.ref 24, .int (zi op), .int (zi p), .long v] I J D bc bs P := by
  have hv : zv_84 I J (zi (p : Int)) = G.2.1 p := by rw [zv84_at hp]; exact hT.2.2.2.2.2.2.2.2.1 p hp
  have hZ : zz RO (d + 1) 85 [.ref 20, .int (zi p), .int (zclp (B (3 * zth p)) (B (3 * zth p + 1)) (if op = 17 then (G.2.1 p).toInt64 + v else v))] I J D 0 0 (zNv P fun I1 J1 D1 => P (.inl none) I1 J1 D1) :=
    s_85 hp (k _ (zTb_sV hp hT) (zfr_zu (zfr_refl _) _ _ (by simp)))
  refine w_56 ?_
  rw [hv]
  simp (disch := omega) only [zlit, zi_le, zi_eq, zi_sub, zi_add]
  have e24 : ∀ w : Nat, w < 3 → 24 ≤ p → zv_76 I J (zi ((p : Int) - 24 + 6)) (zi w) = B (3 * zth p + w) := by
    intro w hw h24
    have e : (p : Int) - 24 + 6 = ((p - 18 : Nat) : Int) := by omega
    rw [e, zv76_at (by omega) hw, hB _ (by omega)]
    unfold zth
    rw [if_neg (by omega)]
  have e6 : ∀ w : Nat, w < 3 → ¬ 24 ≤ p → zv_76 I J (zi (p : Int) - zi (p : Int) / zi 6 * zi 6) (zi w) = B (3 * zth p + w) := by
    intro w hw h24
    rw [zi_mod (by omega) (by omega) (by omega) (by omega)]
    have e : (p : Int) % 6 = ((p % 6 : Nat) : Int) := by omega
    rw [e, zv76_at (by omega) hw, hB _ (by omega)]
    unfold zth
    rw [if_pos (by omega)]
  have c0 : (zi 0) = zi ((0 : Nat) : Int) := rfl
  have c1 : (zi 1) = zi ((1 : Nat) : Int) := rfl
  rw [c0, c1]
  by_cases h17 : op = 17
  · refine ⟨fun q => absurd q (by omega), fun _ => ⟨fun q => ?_, fun q => ?_⟩⟩
    · rw [e24 0 (by omega) (by omega), e24 1 (by omega) (by omega)]
      rw [if_pos h17] at hZ
      exact zq3 (Z := fun x => zz RO (d + 1) 85 [.ref 20, .int (zi p), .int x] I J D 0 0 (zNv P fun I1 J1 D1 => P (.inl none) I1 J1 D1)) hZ
    · rw [e6 0 (by omega) (by omega), e6 1 (by omega) (by omega)]
      rw [if_pos h17] at hZ
      exact zq3 (Z := fun x => zz RO (d + 1) 85 [.ref 20, .int (zi p), .int x] I J D 0 0 (zNv P fun I1 J1 D1 => P (.inl none) I1 J1 D1)) hZ
  · refine ⟨fun _ => ⟨fun q => ?_, fun q => ?_⟩, fun q => absurd q (by omega)⟩
    · rw [e24 0 (by omega) (by omega), e24 1 (by omega) (by omega)]
      rw [if_neg h17] at hZ
      exact zq3 (Z := fun x => zz RO (d + 1) 85 [.ref 20, .int (zi p), .int x] I J D 0 0 (zNv P fun I1 J1 D1 => P (.inl none) I1 J1 D1)) hZ
    · rw [e6 0 (by omega) (by omega), e6 1 (by omega) (by omega)]
      rw [if_neg h17] at hZ
      exact zq3 (Z := fun x => zz RO (d + 1) 85 [.ref 20, .int (zi p), .int x] I J D 0 0 (zNv P fun I1 J1 D1 => P (.inl none) I1 J1 D1)) hZ
/-- the player behind -/
theorem zv83_at {m p : Nat} (hm : I 20 2 = zi m) (h1 : m ≤ 4) (h2 : p < m) : zv_83 I J (zi p) = zi ((p + 1) % m : Nat) := by
  unfold zv_83
  rw [hm]
  simp (disch := omega) only [zlit, zi_add, zi_le]
  by_cases e : (m : Int) ≤ p + 1
  · rw [if_pos e]
    have e2 : p + 1 = m := by omega
    rw [e2, Nat.mod_self]
    rfl
  · rw [if_neg e, Nat.mod_eq_of_lt (by omega)]
    congr 1
theorem s_57 {t : Nat} (hM : zMc s ow tg sv I J) (hs : sv.length < 4) (k : ∀ I', zMc s ow t (tg :: sv) I' J → zfr [24, 26] I I' → P (.inl none) I' J D) : zz RO (d + 1) 57 [.ref 24, .int (zi t)] I J D bc bs P := by
  obtain ⟨h1, h2, h3, h4, h5, h6⟩ := hM
  refine w_57 ?_
  rw [h5, h4]
  simp (disch := omega) only [zlit, zi_le, zi_lt, zi_cl, zi_add]
  refine ⟨fun q => absurd q (by omega), fun _ => ⟨fun q => absurd q (by omega), fun _ => k _ ⟨?_, h2, ?_, ?_, ?_, ?_⟩ (zfr_zu (zfr_zu (zfr_zu (zfr_refl _) _ _ (by simp)) _ _ (by simp)) _ _ (by simp))⟩⟩
  · rw [zu_n _ _ (by omega), zu_n _ _ (by omega), zu_n _ _ (by omega)]; exact h1
  · rw [zu_n _ _ (by omega), zu_n _ _ (by omega), zu_n _ _ (by omega)]; exact h3
  · rw [zu_s]
  · rw [zu_n _ _ (by omega), zu_s, List.length_cons]
    congr 1
  · intro j hj
    rw [List.length_cons] at hj
    rw [zu_n _ _ (by omega), zu_n _ _ (by omega), List.reverse_cons, zgd_app, List.length_reverse]
    have e : ((sv.length : Int)).toNat = sv.length := by omega
    rw [e]
    by_cases hjs : j < sv.length
    · rw [if_pos hjs, zu_n _ _ (by omega)]
      exact h6 j hjs
    · have hj2 : j = sv.length := by omega
      rw [if_neg hjs, if_pos hj2, hj2, zu_s]
theorem s_58a {m : Nat} (hm : I 20 2 = zi m) (h1 : m ≤ 4) (ht : tg < m) (hM : zMc s ow tg sv I J) (hne : tg ≠ ow) (ho : ow < 4) (k : ∀ I', zMc s ow ((tg + 1) % m) sv I' J → zfr [24] I I' → P (.inl (some (.int 1))) I' J D) : zz RO (d + 2) 58 [.ref 24] I J D bc bs P := by
  obtain ⟨a1, a2, a3, a4, a5, a6⟩ := hM
  refine w_58 ?_
  rw [a3, a4, zv83_at hm h1 ht]
  simp (disch := omega) only [zi_eq]
  refine ⟨fun q => absurd q (by omega), fun _ => k _ ⟨?_, a2, ?_, zu_s _ _ _ _, ?_, ?_⟩ (zfr_zu (zfr_refl _) _ _ (by simp))⟩
  · rw [zu_n _ _ (by omega)]; exact a1
  · rw [zu_n _ _ (by omega)]; exact a3
  · rw [zu_n _ _ (by omega)]; exact a5
  · intro j hj
    rw [zu_n _ _ (by omega)]; exact a6 j hj
theorem s_58b {t0 : Nat} (hM : zMc s ow ow (t0 :: sv) I J) (hs : sv.length < 4) (ho : ow < 4) (k : ∀ I', zMc s ow t0 sv I' J → zfr [24] I I' → P (.inl (some (.int 0))) I' J D) : zz RO (d + 2) 58 [.ref 24] I J D bc bs P := by
  obtain ⟨a1, a2, a3, a4, a5, a6⟩ := hM
  rw [List.length_cons] at a5
  refine w_58 ?_
  rw [a3, a4, a5]
  simp (disch := omega) only [zi_eq, zlit, zi_le, zi_lt, zi_sub, zi_cl]
  refine ⟨fun _ => ⟨fun q => absurd q (by omega), fun _ => ⟨fun q => absurd q (by omega), fun _ => ⟨zi_in (by omega) (by omega) (by omega), k _ ⟨?_, a2, ?_, ?_, ?_, ?_⟩ (zfr_zu (zfr_zu (zfr_refl _) _ _ (by simp)) _ _ (by simp))⟩⟩⟩, fun q => absurd trivial q⟩
  · rw [zu_n _ _ (by omega), zu_n _ _ (by omega)]; exact a1
  · rw [zu_n _ _ (by omega), zu_n _ _ (by omega)]; exact a3
  · rw [zu_s]
    have e : (((sv.length + 1 : Nat) : Int) - 1).toNat = sv.length := by omega
    rw [e, a6 sv.length (by simp), List.reverse_cons, zgd_app, List.length_reverse, if_neg (by omega), if_pos rfl]
  · rw [zu_n _ _ (by omega), zu_s]
    congr 1
    omega
  · intro j hj
    rw [zu_n _ _ (by omega), zu_n _ _ (by omega), a6 j (by rw [List.length_cons]; omega), List.reverse_cons, zgd_app, List.length_reverse, if_pos hj]
end CMach3
