/-! ===== the reference's game: the phase is over ===== -/
abbrev zKt : List Nat := [33, 34, 35, 36, 39, 40, 41, 42, 45]
section MGame3
variable {RO : zRo} {d : Nat} {P : zP} {I : zI} {J : zJ} {D : zD} {bc bs : Nat} {m t ow tg : Nat} {G : zGm} {p : zPg} {z0 : Int64} {l1 l2 l3 l4 : Int32}
/-- behind the rules: whether the loop goes on -/
theorem n_190o {K : Prop} (hR : gRg p G) (hM : zMb (gPc p 0) (gPc p 1) G I J) (hS : zMg G z0 I J) (h0 : ¬ (G.1 9 = 0 ∧ G.1 5 = 1) → P (.inl none) I J D) (h1 : G.1 9 = 0 → G.1 5 = 1 → zw RO d 190 P 2 [(0, .ref 28), (1, .int 1)] [] I J D bc bs) :
    ((¬ (I 28 33) = 0 → zw RO d 190 P 2 [(0, .ref 28), (1, .int 0)] [] I J D bc bs) ∧ (¬ (¬ (I 28 33) = 0) → (((I 28 40) = 0 → zw RO d 190 P 2 [(0, .ref 28), (1, .int 0)] [] I J D bc bs) ∧ (¬ ((I 28 40) = 0) → zw RO d 190 P 2 [(0, .ref 28), (1, .int 1)] [] I J D bc bs)))) := by
  have r9 := hR.2.2.2.2
  have r5 := hR.2.2.1
  have out : ¬ (G.1 9 = 0 ∧ G.1 5 = 1) → zw RO d 190 P 2 [(0, .ref 28), (1, .int 0)] [] I J D bc bs := fun q => wl_190_2 ⟨fun _ => h0 q, fun q => absurd rfl q⟩
  rw [hS.1, hM.2.2.2.2.2.1, show zi (G.1 9) = 0 ↔ G.1 9 = 0 by rw [show (0 : Int32) = zi 0 from rfl, zi_eq (by omega) (by omega)], show zi (G.1 5) = 0 ↔ G.1 5 = 0 by rw [show (0 : Int32) = zi 0 from rfl, zi_eq (by omega) (by omega)]]
  exact ⟨fun q => out (fun z => q z.1), fun q => ⟨fun q5 => out (fun z => by omega), fun q5 => h1 (Classical.not_not.mp q) (by omega)⟩⟩
theorem n_190r (hk : zPok p) (hm4 : 2 ≤ m ∧ m ≤ 4) : ∀ (k tb t : Nat) {G : zGm} {I : zI} {J : zJ}, tb + k = 100 → t < m → gQ m t G → G.1 9 = 0 → gWn G → gRg p G → I 28 42 = zi (tb : Int) → zMp p I → zMb (gPc p 0) (gPc p 1) G I J → zMg G z0 I J → (G.1 5 = 1 ∨ G.1 2 + 1 = gPc p 2) →
    (∀ I' J', zMb (gPc p 0) (gPc p 1) (gTurns p (k + 1) G) I' J' → zMg (gTurns p (k + 1) G) z0 I' J' → zfm zKt [46, 47] I I' → zfm [32] [50] J J' → P (.inl none) I' J' D) →
    zw RO (d + 9) 190 P 2 [(0, .ref 28), (1, .int 1)] [] I J D bc bs
  | k, tb, t, G, I, J, hkt, htm, hQ, h90, hW, hR, h42, hp, hM, hS, hover, K => by
    have r5 := hR.2.2.1
    have r2 := hR.2.1
    have hc2 := hk.1.2.2.2.1
    have body : zz RO (d + 9) 189 [.ref 28] I J D 0 0 (zNi P fun v1 I1 J1 D1 => ((¬ v1 = 0 → (zz RO (d + 9) 188 [.ref 28] I1 J1 D1 0 0 (zNv P fun I2 J2 D2 => ((¬ (I2 28 33) = 0 → zw RO (d + 9) 190 P 2 [(0, .ref 28), (1, .int 0)] [] I2 J2 D2 bc bs) ∧ (¬ (¬ (I2 28 33) = 0) → (((I2 28 40) = 0 → zw RO (d + 9) 190 P 2 [(0, .ref 28), (1, .int 0)] [] I2 J2 D2 bc bs) ∧ (¬ ((I2 28 40) = 0) → zw RO (d + 9) 190 P 2 [(0, .ref 28), (1, .int 1)] [] I2 J2 D2 bc bs))))))) ∧ (¬ (¬ v1 = 0) → P (.inl none) I1 J1 D1))) := by
      obtain ⟨nx, R, hR1, hR0, hnx, hRR, hgt⟩ : ∃ (nx : Nat) (R : Int), R ≤ G.1 0 + 1 ∧ G.1 0 ≤ R ∧ (nx = if G.1 6 = 0 then (t + 1) % m else t) ∧ (R = if nx = 0 ∧ G.1 6 = 0 then G.1 0 + 1 else G.1 0) ∧ gTurns p (k + 1) G = (if 50 < R ∨ k = 0 then gEnd G 2 (-1) else if (gRules p (gNew (sS G 0 R) nx)).1 9 = 0 ∧ (gRules p (gNew (sS G 0 R) nx)).1 5 = 1 then gTurns p k (gRules p (gNew (sS G 0 R) nx)) else gRules p (gNew (sS G 0 R) nx)) := by
        have e1 : (if G.1 6 = 0 then gB G (gT G) else gT G) = if G.1 6 = 0 then (t + 1) % m else t := by
          have egT : gT G = t := by
            unfold gT
            rw [hQ.2.1]
            rfl
          rw [egT, gB_eq hQ.1]
        refine ⟨if G.1 6 = 0 then gB G (gT G) else gT G, if (if G.1 6 = 0 then gB G (gT G) else gT G) = 0 ∧ G.1 6 = 0 then G.1 0 + 1 else G.1 0, ?_, ?_, e1, rfl, rfl⟩
        · split <;> omega
        · split <;> omega
      have hnxm : nx < m := by
        rw [hnx]
        have := Nat.mod_lt (t + 1) (show m > 0 by omega)
        split <;> omega
      rw [hgt] at K
      refine n_189 (d := d + 7) (tb := tb) (nx := nx) (R := R) hm4 htm hQ (hW h90) hR h42 (by omega) hnx hRR hM hS (fun I1 q hM1 hS1 f1 => ?_) (fun I1 q hM1 hS1 h421 f1 => ?_)
      · rw [if_pos (by omega)] at K
        exact ⟨fun z => absurd rfl z, fun _ => K I1 J hM1 hS1 (zfm_sub f1 (by simp) (by simp)) (zfm_refl _)⟩
      · rw [if_neg (by omega)] at K
        refine ⟨fun _ => ?_, fun z => absurd (by decide) z⟩
        have hp1 : zMp p I1 := zMp_keep hp (zfm_sub f1 (by simp) (by simp))
        have hQ1 : gQ m nx (gNew (sS G 0 R) nx) := gQ_new hQ
        have hRn : gRg p (gNew (sS G 0 R) nx) := gRg_new hk hR (by have := hR.1; omega)
        refine n_188 (G := gNew (sS G 0 R) nx) hk hm4 hnxm hQ1 h90 (by show (-100 : Int) ≤ 0 ∧ (0 : Int) ≤ 100; omega) hp1 hM1 hS1 (fun I2 J2 hM2 hS2 f2 g2 => ?_)
        have f12 : zfm zKt [46, 47] I I2 := zfm_trans (zfm_sub f1 (by simp) (by simp)) (zfm_sub f2 (by simp) (by simp))
        refine n_190o (K := True) (gRg_rules hRn) hM2 hS2 (fun z => ?_) (fun z9 z5 => ?_)
        · rw [if_neg z] at K
          exact K I2 J2 hM2 hS2 f12 g2
        · rw [if_pos ⟨z9, z5⟩] at K
          obtain ⟨k', rfl⟩ : ∃ k', k = k' + 1 := ⟨k - 1, by omega⟩
          refine n_190r hk hm4 k' (tb + 1) nx (by omega) hnxm (gQ_rules _ hQ1) z9 (gWn_rules (fun q => hW q)) (gRg_rules hRn) ?_ (zMp_keep hp1 (zfm_sub f2 (by simp) (by simp))) hM2 hS2 (Or.inl z5) (fun I3 J3 hM3 hS3 f3 g3 => ?_)
          · rw [f2.2 42 (by decide)]
            exact h421
          · exact K I3 J3 hM3 hS3 (zfm_trans f12 f3) (zfm_trans g2 g3)
    refine wl_190_2 ⟨fun z => absurd z (by decide), fun _ => ?_⟩
    rw [hM.2.2.2.2.2.1, hM.2.2.2.2.1, hp.1.2.2 2 (by omega) (by omega), show zi (G.1 5) = 0 ↔ G.1 5 = 0 by rw [show (0 : Int32) = zi 0 from rfl, zi_eq (by omega) (by omega)], show (1 : Int32) = zi 1 from rfl, zi_sub, zi_eq (by omega) (by omega)]
    refine ⟨fun _ => body, fun z5 => ⟨fun z2 => absurd z2 ?_, fun _ => body⟩⟩
    omega
theorem n_190a (hk : zPok p) (hm4 : 2 ≤ m ∧ m ≤ 4) (htm : t < m) (hQ : gQ m t G) (h90 : G.1 9 = 0) (hW : gWn G) (hR : gRg p G) (h42 : I 28 42 = 0) (hp : zMp p I) (hM : zMb (gPc p 0) (gPc p 1) G I J) (hS : zMg G z0 I J) (ho : G.1 5 = 1 ∨ G.1 2 + 1 = gPc p 2)
    (K : ∀ I' J', zMb (gPc p 0) (gPc p 1) (gTurns p 101 G) I' J' → zMg (gTurns p 101 G) z0 I' J' → zfm zKt [46, 47] I I' → zfm [32] [50] J J' → P (.inl none) I' J' D) : zz RO (d + 10) 190 [.ref 28] I J D bc bs P :=
  w_190 (n_190r hk hm4 100 0 t (by omega) htm hQ h90 hW hR h42 hp hM hS ho K)
theorem n_190b (hk : zPok p) (hm4 : 2 ≤ m ∧ m ≤ 4) (htm : t < m) (hQ : gQ m t G) (h90 : G.1 9 = 0) (hW : gWn G) (hR : gRg p G) (h42 : I 28 42 = 0) (hp : zMp p I) (hM : zMb (gPc p 0) (gPc p 1) G I J) (hS : zMg G z0 I J) (h5 : G.1 5 = 0) (h2 : G.1 2 + 1 < gPc p 2)
    (K : ∀ I' J', zMb (gPc p 0) (gPc p 1) (if (gRules p (sS G 2 (G.1 2 + 1))).1 9 = 0 ∧ (gRules p (sS G 2 (G.1 2 + 1))).1 5 = 1 then gTurns p 101 (gRules p (sS G 2 (G.1 2 + 1))) else gRules p (sS G 2 (G.1 2 + 1))) I' J' → zMg (if (gRules p (sS G 2 (G.1 2 + 1))).1 9 = 0 ∧ (gRules p (sS G 2 (G.1 2 + 1))).1 5 = 1 then gTurns p 101 (gRules p (sS G 2 (G.1 2 + 1))) else gRules p (sS G 2 (G.1 2 + 1))) z0 I' J' → zfm zKt [46, 47] I I' → zfm [32] [50] J J' → P (.inl none) I' J' D) : zz RO (d + 10) 190 [.ref 28] I J D bc bs P := by
  have r2 := hR.2.1
  have hc2 := hk.1.2.2.2.1
  refine w_190 (wl_190_2 ⟨fun z => absurd z (by decide), fun _ => ?_⟩)
  rw [hM.2.2.2.2.2.1, hM.2.2.2.2.1, hp.1.2.2 2 (by omega) (by omega), show zi (G.1 5) = 0 ↔ G.1 5 = 0 by rw [show (0 : Int32) = zi 0 from rfl, zi_eq (by omega) (by omega)], show (1 : Int32) = zi 1 from rfl, zi_sub, zi_add, zi_eq (by omega) (by omega)]
  refine ⟨fun z => absurd h5 z, fun _ => ⟨fun _ => ?_, fun z => absurd (by omega) z⟩⟩
  have f1 : zfm [36] [] I (zu I 28 36 (zi (G.1 2 + 1))) := zfm_z (zfm_refl _) _ _ (by decide)
  have hM1 : zMb (gPc p 0) (gPc p 1) (sS G 2 (G.1 2 + 1)) (zu I 28 36 (zi (G.1 2 + 1))) J := by
    obtain ⟨m1, m2, m3, m4, m5, m6, m7, mz, mv, mp, ms⟩ := hM
    refine ⟨?_, ?_, ?_, ?_, ?_, ?_, ?_, mz, ?_, ?_, ?_⟩
    · rw [f1.2 30 (by decide)]; exact m1
    · rw [f1.2 45 (by decide)]; exact m2
    · rw [f1.2 34 (by decide)]; exact m3
    · rw [f1.2 35 (by decide)]; exact m4
    · rw [zu_s]; rfl
    · rw [f1.2 40 (by decide)]; exact m6
    · rw [f1.2 41 (by decide)]; exact m7
    · rw [f1.1 46 (by decide) (by decide)]; exact mv
    · rw [f1.1 47 (by decide) (by decide)]; exact mp
    · rw [f1.1 48 (by decide) (by decide)]; exact ms
  have hS1 : zMg (sS G 2 (G.1 2 + 1)) z0 (zu I 28 36 (zi (G.1 2 + 1))) J := zMg_keep (G := sS G 2 (G.1 2 + 1)) hS (zfm_sub f1 (by simp) (by simp)) (zfm_refl _)
  have hp1 : zMp p (zu I 28 36 (zi (G.1 2 + 1))) := zMp_keep hp (zfm_sub f1 (by simp) (by simp))
  have hQ1 : gQ m t (sS G 2 (G.1 2 + 1)) := ⟨hQ.1, hQ.2.1, hQ.2.2.1, hQ.2.2.2.1, hQ.2.2.2.2⟩
  have hR1 : gRg p (sS G 2 (G.1 2 + 1)) := ⟨hR.1, by show 0 ≤ G.1 2 + 1 ∧ G.1 2 + 1 < gPc p 2; omega, hR.2.2⟩
  refine n_188 (G := sS G 2 (G.1 2 + 1)) hk hm4 htm hQ1 h90 (by show -100 ≤ G.1 2 + 1 ∧ G.1 2 + 1 ≤ 100; omega) hp1 hM1 hS1 (fun I2 J2 hM2 hS2 f2 g2 => ?_)
  have f12 : zfm zKt [46, 47] I I2 := zfm_trans (zfm_sub f1 (by simp) (by simp)) (zfm_sub f2 (by simp) (by simp))
  refine n_190o (K := True) (gRg_rules hR1) hM2 hS2 (fun z => ?_) (fun z9 z5 => ?_)
  · rw [if_neg z] at K
    exact K I2 J2 hM2 hS2 f12 g2
  · rw [if_pos ⟨z9, z5⟩] at K
    refine n_190r hk hm4 100 0 t (by omega) htm (gQ_rules _ hQ1) z9 (gWn_rules (fun q => hW q)) (gRg_rules hR1) ?_ (zMp_keep hp1 (zfm_sub f2 (by simp) (by simp))) hM2 hS2 (Or.inl z5) (fun I3 J3 hM3 hS3 f3 g3 => ?_)
    · rw [f2.2 42 (by decide), f1.2 42 (by decide)]
      exact h42
    · exact K I3 J3 hM3 hS3 (zfm_trans f12 f3) (zfm_trans g2 g3)
end MGame3
