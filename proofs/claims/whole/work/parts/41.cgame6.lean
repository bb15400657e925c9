/-! ===== the class's game: a move ===== -/
theorem gLook_r {p : zPg} {G : zGm} : (gLook p G).2.2.2.1 = G.2.2.2.1 := by
  rcases gLook_or (p := p) (G := G) with e | ⟨w, e⟩ <;> rw [e] <;> rfl
theorem gRule_r {p : zPg} {G : zGm} {r : Nat} : (gRule p G r).2.2.2.1 = G.2.2.2.1 := by
  unfold gRule
  split
  · rw [gLook_r, zdns_r]
  · rfl
theorem gRules_r {p : zPg} {G : zGm} : (gRules p G).2.2.2.1 = G.2.2.2.1 := zfold_k (φ := fun G => G.2.2.2.1) (fun _ _ => gRule_r) _ G
theorem gTurns_u (p : zPg) (k : Nat) (G : zGm) : ∃ (nx : Nat) (R : Int), R ≤ G.1 0 + 1 ∧ G.1 0 ≤ R ∧ (nx = (if G.1 6 = 0 then gB G (gT G) else gT G)) ∧ gTurns p (k + 1) G = (if 50 < R ∨ k = 0 then gEnd G 2 (-1) else if (gRules p (gNew (sS G 0 R) nx)).1 9 = 0 ∧ (gRules p (gNew (sS G 0 R) nx)).1 5 = 1 then gTurns p k (gRules p (gNew (sS G 0 R) nx)) else gRules p (gNew (sS G 0 R) nx)) := by
  refine ⟨if G.1 6 = 0 then gB G (gT G) else gT G, if (if G.1 6 = 0 then gB G (gT G) else gT G) = 0 ∧ G.1 6 = 0 then G.1 0 + 1 else G.1 0, ?_, ?_, rfl, rfl⟩
  · split <;> omega
  · split <;> omega
theorem gTurns_r {p : zPg} : ∀ (k : Nat) {G : zGm}, (gTurns p k G).2.2.2.1 = G.2.2.2.1
  | 0, _ => rfl
  | k + 1, G => by
    obtain ⟨nx, R, h1, h0, hx, h2⟩ := gTurns_u p k G
    rw [h2]
    by_cases c1 : 50 < R ∨ k = 0
    · rw [if_pos c1]
      rfl
    · rw [if_neg c1]
      by_cases c2 : (gRules p (gNew (sS G 0 R) nx)).1 9 = 0 ∧ (gRules p (gNew (sS G 0 R) nx)).1 5 = 1
      · rw [if_pos c2, gTurns_r k, gRules_r]
        rfl
      · rw [if_neg c2, gRules_r]
        rfl
theorem gTurns_Rg {p : zPg} (hk : zPok p) : ∀ (k : Nat) {G : zGm}, gRg p G → gRg p (gTurns p k G)
  | 0, _, h => h
  | k + 1, G, h => by
    obtain ⟨nx, R, h1, h0, hx, h2⟩ := gTurns_u p k G
    rw [h2]
    by_cases c1 : 50 < R ∨ k = 0
    · rw [if_pos c1]
      exact ⟨h.1, h.2.1, h.2.2.1, h.2.2.2.1, Or.inr (Or.inr rfl)⟩
    · rw [if_neg c1]
      have h9 := gRg_rules (gRg_new (q := nx) hk h (R := R) (by have := h.1; omega))
      by_cases c2 : (gRules p (gNew (sS G 0 R) nx)).1 9 = 0 ∧ (gRules p (gNew (sS G 0 R) nx)).1 5 = 1
      · rw [if_pos c2]
        exact gTurns_Rg hk k h9
      · rw [if_neg c2]
        exact h9
section CGame6
variable {RO : zRo} {d : Nat} {P : zP} {I : zI} {J : zJ} {D : zD} {bc bs : Nat} {m : Nat} {G : zGm} {p : zPg} {z0 : Int64} {l1 l2 l3 l4 : Int32}
def gFin (p : zPg) (G1 : zGm) (over : Bool) : zGm :=
  let G2 := if G1.1 9 = 0 ∧ G1.2.2.1.isEmpty = true ∧ (over = true ∨ G1.1 5 = 1) then gTurns p 101 G1 else G1
  if G2.1 9 = 0 ∧ 250 ≤ G2.2.2.2.1.length then gEnd G2 2 (-1) else G2
theorem gFin_p {p : zPg} {G : zGm} {over : Bool} (h : G.1 9 = 0 ∧ G.2.2.1.isEmpty = true ∧ (over = true ∨ G.1 5 = 1)) : gFin p G over = (if (gTurns p 101 G).1 9 = 0 ∧ 250 ≤ (gTurns p 101 G).2.2.2.1.length then gEnd (gTurns p 101 G) 2 (-1) else gTurns p 101 G) := by
  unfold gFin
  simp only [if_pos h]
theorem gFin_n {p : zPg} {G : zGm} {over : Bool} (h : ¬ (G.1 9 = 0 ∧ G.2.2.1.isEmpty = true ∧ (over = true ∨ G.1 5 = 1))) : gFin p G over = (if G.1 9 = 0 ∧ 250 ≤ G.2.2.2.1.length then gEnd G 2 (-1) else G) := by
  unfold gFin
  simp only [if_neg h]
theorem r_122 (hk : zPok p) (hm4 : 2 ≤ m ∧ m ≤ 4) {over : Bool} (hR : gRg p G) (hl : G.2.2.1.length ≤ 10) (hrec : G.2.2.2.1.length ≤ 250) (hQ : G.1 9 = 0 → G.2.2.1 = [] → ∃ t, t < m ∧ gQ m t G) (hp : zCp p I) (hT : zTb G I J) (hC : zCs G z0 I J)
    (k : ∀ I' J', zTb (gFin p G over) I' J' → zCs (gFin p G over) z0 I' J' → zfr [20, 21, 23, 24, 26] I I' → zfr [20, 25] J J' → P (.inl none) I' J' D) :
    zw RO (d + 6) 34 P 122 [(0, .ref 23), (1, .int l1), (2, .int l2), (3, .int l3), (4, .int l4), (5, .int (if over = true then 1 else 0))] [] I J D bc bs := by
  have r9 := hR.2.2.2.2
  have r5 := hR.2.2.1
  -- the last look: whether it was the 250th move
  have last : ∀ (G2 : zGm) (I2 : zI) (J2 : zJ), zTb G2 I2 J2 → zCs G2 z0 I2 J2 → G2.1 9 = 0 → G2.2.2.2.1.length ≤ 250 → zfr [20, 21, 23, 24, 26] I I2 → zfr [20, 25] J J2 → gFin p G over = (if G2.1 9 = 0 ∧ 250 ≤ G2.2.2.2.1.length then gEnd G2 2 (-1) else G2) →
      ((I2 23 4) < 250 → P (.inl none) I2 J2 D) ∧ (¬ ((I2 23 4) < 250) → (zz RO (d + 6) 36 [.ref 23, .int 2, .int (-1)] I2 J2 D 0 0 (zNv P fun I1 J1 D1 => P (.inl none) I1 J1 D1))) := by
    intro G2 I2 J2 hT2 hC2 h92 hr2 f2 g2 he
    rw [hC2.1, show (250 : Int32) = zi 250 from rfl, zi_lt (by omega) (by omega)]
    refine ⟨fun q => ?_, fun q => ?_⟩
    · rw [if_neg (by omega)] at he
      exact k I2 J2 (by rw [he]; exact hT2) (by rw [he]; exact hC2) f2 g2
    · rw [if_pos ⟨h92, by omega⟩] at he
      refine s_36 (how := 2) (by9 := -1) hT2 (zCq_of hC2) (fun I3 hT3 hC3 f3 => ?_)
      exact k I3 J2 (by rw [he]; exact hT3) (by rw [he]; exact hC3) (zfr_trans f2 (zfr_sub f3 (by simp))) g2
  -- over as soon as it has ended
  have over2 : ∀ (G2 : zGm) (I2 : zI) (J2 : zJ), zTb G2 I2 J2 → zCs G2 z0 I2 J2 → ¬ G2.1 9 = 0 → zfr [20, 21, 23, 24, 26] I I2 → zfr [20, 25] J J2 → gFin p G over = (if G2.1 9 = 0 ∧ 250 ≤ G2.2.2.2.1.length then gEnd G2 2 (-1) else G2) → P (.inl none) I2 J2 D := by
    intro G2 I2 J2 hT2 hC2 h92 f2 g2 he
    rw [if_neg (fun q => h92 q.1)] at he
    exact k I2 J2 (by rw [he]; exact hT2) (by rw [he]; exact hC2) f2 g2
  refine wl_34_122 ?_
  rw [hC.2.1, hT.2.1, show (0 : Int32) = zi 0 from rfl, zi_eq (by omega) (by omega), zi_eq (by omega) (by omega)]
  refine ⟨fun h9 => over2 G I J hT hC h9 (zfr_refl _) (zfr_refl _) (gFin_n (fun q => h9 q.1)), fun h9 => ?_⟩
  have h90 : G.1 9 = 0 := Classical.not_not.mp h9
  refine ⟨fun hs => ?_, fun hs => ?_⟩
  · have hse : ¬ G.2.2.1.isEmpty = true := by
      intro q
      rw [List.isEmpty_iff.mp q] at hs
      exact hs rfl
    exact last G I J hT hC h90 hrec (zfr_refl _) (zfr_refl _) (gFin_n (fun q => hse q.2.1))
  · have hs0 : G.2.2.1 = [] := by
      have h : (G.2.2.1.length : Int) = 0 := Classical.not_not.mp hs
      exact List.length_eq_zero_iff.mp (by omega)
    have hse : G.2.2.1.isEmpty = true := by rw [hs0]; rfl
    obtain ⟨t, htm, hQt⟩ := hQ h90 hs0
    -- turns begin
    have turns : (over = true ∨ G.1 5 = 1) → (zz RO (d + 6) 41 [.ref 23] I J D 0 0 (zNv P fun I2 J2 D2 => ((¬ (I2 23 5) = zi 0 → P (.inl none) I2 J2 D2) ∧ (¬ (¬ (I2 23 5) = zi 0) → (((I2 23 4) < 250 → P (.inl none) I2 J2 D2) ∧ (¬ ((I2 23 4) < 250) → (zz RO (d + 6) 36 [.ref 23, .int 2, .int (-1)] I2 J2 D2 0 0 (zNv P fun I3 J3 D3 => P (.inl none) I3 J3 D3)))))))) := by
      intro ho
      refine s_41 hk hm4 htm h90 hQt hR hp hT hC (fun I2 J2 hT2 hC2 f2 g2 => ?_)
      have he := gFin_p (p := p) ⟨h90, hse, ho⟩
      have hR2 := (gTurns_Rg hk 101 hR).2.2.2.2
      refine ⟨fun q => over2 _ I2 J2 hT2 hC2 (fun z => q ?_) f2 g2 he, fun q => last _ I2 J2 hT2 hC2 ?_ (by rw [gTurns_r]; exact hrec) f2 g2 he⟩
      · rw [hC2.2.1, z]
      · have h8 : zi ((gTurns p 101 G).1 9) = zi 0 := by rw [← hC2.2.1]; exact Classical.not_not.mp q
        rw [zi_eq (by omega) (by omega)] at h8
        exact h8
    rw [hT.2.2.2.2.2.1, zi_eq (by omega) (by omega)]
    refine ⟨fun ho => turns (Or.inl ?_), fun ho => ⟨fun h5 => ?_, fun h5 => turns (Or.inr ?_)⟩⟩
    · cases over with
      | true => rfl
      | false => exact absurd rfl ho
    · have ho2 : ¬ over = true := by
        intro q
        apply ho
        rw [q]
        exact (by decide : ¬ ((1 : Int32) = zi 0))
      exact last G I J hT hC h90 hrec (zfr_refl _) (zfr_refl _) (gFin_n (fun q => by rcases q.2.2 with h | h; exact ho2 h; omega))
    · omega
end CGame6
