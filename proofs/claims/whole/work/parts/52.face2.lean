/-! ===== faces of the game: begin, can, pass of the reference ===== -/
section Face2
variable {RO : zRo} {d : Nat} {P : zP} {I : zI} {J : zJ} {D : zD} {bc bs : Nat} {m : Nat} {G : zGm} {p : zPg} {z0 : Int64}
theorem f_113 {a : Int} {z : Int64} (ha : -2147483648 ≤ a ∧ a < 2147483648) (hbb : 1 ≤ bc ∧ 6 ≤ bs) (hst : ¬ I 12 7 = 0 → zPok p ∧ zCp p I)
    (k1 : ¬ (2 ≤ a ∧ a ≤ 4) → P (.inr (1, 0, 0)) I J D)
    (k2 : (2 ≤ a ∧ a ≤ 4) → I 12 7 = 0 → P (.inr (0, 0, 0)) I J D)
    (k3 : (2 ≤ a ∧ a ≤ 4) → ¬ I 12 7 = 0 → ∀ I' J', zTb (gStart p a.toNat z) I' J' → zCs (gStart p a.toNat z) z I' J' → zfr [20, 21, 23, 24, 26] I I' → zfr [20, 23, 25] J J' → P (.inl (some (.int (zi ((gStart p a.toNat z).1 9))))) I' J' D) :
    zz RO (d + 8) 113 [.ref 0, .int (zi a), .long z] I J D bc bs P := by
  refine w_113 ?_
  rw [show (2 : Int32) = zi 2 from rfl, show (4 : Int32) = zi 4 from rfl, zi_lt ha (by omega), zi_le ha (by omega)]
  refine ⟨fun q => ⟨hbb, k1 (by omega)⟩, fun q => ⟨fun q4 => ⟨fun hs => ?_, fun hs => ⟨hbb, k2 (by omega) (Classical.not_not.mp hs)⟩⟩, fun q4 => ⟨hbb, k1 (by omega)⟩⟩⟩
  obtain ⟨hk, hp⟩ := hst hs
  have ea : zi a = zi ((a.toNat : Nat) : Int) := by congr 1; omega
  rw [ea]
  refine s_28 (m := a.toNat) hk (by omega) hp (fun I1 J1 hT1 hC1 f1 g1 => ?_)
  have k9 := k3 (by omega) hs I1 J1 hT1 hC1 f1 g1
  rw [← hC1.2.1] at k9
  exact k9
theorem zu_2 (I : zI) (x y : Int32) : zu (zu I 28 0 x) 28 0 y = zu I 28 0 y := by
  funext o k
  unfold zu
  split <;> rfl
theorem f_197 {a : Int} {z : Int64} (ha : -2147483648 ≤ a ∧ a < 2147483648) (hst : ¬ I 28 23 = 0 → zPok p ∧ zMp p I)
    (k1 : ¬ (2 ≤ a ∧ a ≤ 4) → P (.inl (some (.int 0))) (zu I 28 0 1) J D)
    (k2 : (2 ≤ a ∧ a ≤ 4) → I 28 23 = 0 → P (.inl (some (.int 0))) (zu I 28 0 2) J D)
    (k3 : (2 ≤ a ∧ a ≤ 4) → ¬ I 28 23 = 0 → ∀ I' J', zMb (gPc p 0) (gPc p 1) (gStart p a.toNat z) I' J' → zMg (gStart p a.toNat z) z I' J' → I' 28 0 = 0 → zfm zKm zLM I I' → zfm [31, 32] [50] J J' → P (.inl (some (.int (zi ((gStart p a.toNat z).1 9))))) I' J' D) :
    zz RO (d + 12) 197 [.ref 28, .int (zi a), .long z] I J D bc bs P := by
  have f0 : zfm [0] [] I (zu I 28 0 0) := zfm_z (zfm_refl _) _ _ (by decide)
  have e136 : zv_136 (zu I 28 0 0) J (zi a).toInt64 2 4 = if 2 ≤ a ∧ a ≤ 4 then 1 else 0 := n_136 (lo := 2) (hi := 4) ha (by omega) (by omega)
  refine w_197 ?_
  rw [e136]
  by_cases c : 2 ≤ a ∧ a ≤ 4
  · rw [if_pos c]
    refine ⟨fun _ => ⟨fun hs => ?_, fun hs => w_135 ?_⟩, fun q => absurd (by decide) q⟩
    · obtain ⟨hk, hp⟩ := hst hs
      have ea : zi a = zi ((a.toNat : Nat) : Int) := by congr 1; omega
      rw [ea]
      refine n_194 (m := a.toNat) hk (by omega) (zMp_keep hp (zfm_sub f0 (by simp) (by simp))) (fun I1 J1 hM1 hS1 f1 g1 => ?_)
      have k9 := k3 c hs I1 J1 hM1 hS1 (by rw [f1.2 0 (by decide), zu_s]) (zfm_trans (zfm_sub f0 (by simp) (by simp)) (zfm_sub f1 (by simp) (by simp))) g1
      rw [← hS1.1] at k9
      exact k9
    · rw [zu_2]
      exact k2 c (Classical.not_not.mp hs)
  · rw [if_neg c]
    refine ⟨fun q => absurd rfl q, fun _ => w_135 ?_⟩
    rw [zu_2]
    exact k1 c
theorem zMg_0 (hS : zMg G z0 I J) (x : Int32) : zMg G z0 (zu I 28 0 x) J := by
  have f0 : zfm [0] [] I (zu I 28 0 x) := zfm_z (zfm_refl _) _ _ (by decide)
  obtain ⟨c1, c2, c3, c4, c5, c6, c7⟩ := hS
  exact ⟨by rw [f0.2 33 (by decide)]; exact c1, by rw [f0.2 39 (by decide)]; exact c2, by rw [f0.2 47 (by decide)]; exact c3, c4, by rw [f0.1 49 (by decide) (by decide)]; exact c5, by rw [f0.2 37 (by decide)]; exact c6, by rw [f0.2 38 (by decide)]; exact c7⟩
theorem zMb_0 {nt np : Nat} (hM : zMb nt np G I J) (x : Int32) : zMb nt np G (zu I 28 0 x) J := zMb_keep hM (zfm_sub (zfm_z (K := [0]) (L := []) (zfm_refl _) 0 x (by decide)) (by simp) (by simp)) (zfm_refl _)
theorem zMp_0 (hp : zMp p I) (x : Int32) : zMp p (zu I 28 0 x) := zMp_keep hp (zfm_sub (zfm_z (K := [0]) (L := []) (zfm_refl _) 0 x (by decide)) (by simp) (by simp))
theorem n_196 {nt np : Nat} (hm4 : 2 ≤ m ∧ m ≤ 4) (hV : gVd p m G) (hM : zMb nt np G I J) (hS : zMg G z0 I J) : zv_196 I J = if G.1 9 = 0 then 1 else 0 := by
  have r9 := hV.1.2.2.1.2.2.2.2
  have e195 : zv_195 I J = 1 := by
    unfold zv_195
    rw [if_neg (by rw [hM.1, hV.1.1, show (0 : Int32) = zi 0 from rfl, zi_le (by omega) (by omega)]; omega)]
  unfold zv_196
  rw [e195, if_neg (by decide)]
  by_cases c : G.1 9 = 0
  · rw [if_pos c, if_neg (fun q => q (by rw [hS.1, c]; rfl))]
  · rw [if_neg c, if_pos (fun q => c (by rw [hS.1, show (0 : Int32) = zi 0 from rfl, zi_eq (by omega) (by omega)] at q; exact q))]
theorem f_203 (hk : zPok p) (hm4 : 2 ≤ m ∧ m ≤ 4) (hO : gOK p m G) (hbb : 2 ≤ bc ∧ 8 ≤ bs) (hp : zMp p I) (hM : zMb (gPc p 0) (gPc p 1) G I J) (hS : zMg G z0 I J)
    (k2 : ¬ G.1 9 = 0 → P (.inl (some (.int 0))) (zu I 28 0 1) J D)
    (k3 : G.1 9 = 0 → ∀ I' J', zMb (gPc p 0) (gPc p 1) (gMake p G 2 (-1) (-1)) I' J' → zMg (gMake p G 2 (-1) (-1)) z0 I' J' → I' 28 0 = 0 → zfm zKm zLM I I' → zfm [32] [50] J J' → P (.inl (some (.int (zi ((gMake p G 2 (-1) (-1)).1 9))))) I' J' D) :
    zz RO (d + 13) 203 [.ref 28] I J D bc bs P := by
  refine w_203 ?_
  rw [n_196 hm4 hO.1 (zMb_0 hM 0) (zMg_0 hS 0)]
  by_cases h9 : G.1 9 = 0
  · rw [if_pos h9]
    refine ⟨fun _ => ⟨2, 8, hbb.1, hbb.2, ?_⟩, fun q => absurd (by decide) q⟩
    refine n_193 (bc := 2) (bs := 8) (m := m) (sort := 2) (num := -1) (tgt := -1) hk hm4 hO.1 h9 (Or.inl rfl) (hO.2.2.2.1 h9) hO.2.1 (hO.2.2.1 h9) ⟨by omega, by omega⟩ (zMp_0 hp 0) (zMb_0 hM 0) (zMg_0 hS 0) (fun I2 J2 hM2 hS2 f2 g2 => ?_)
    have k9 := k3 h9 I2 J2 hM2 hS2 (by rw [f2.2 0 (by decide), zu_s]) (zfm_trans (zfm_z (zfm_refl _) _ _ (by decide)) (zfm_sub f2 (by simp) (by simp))) g2
    rw [← hS2.1] at k9
    exact k9
  · rw [if_neg h9]
    refine ⟨fun q => absurd rfl q, fun _ => w_135 ?_⟩
    rw [zu_2]
    exact k2 h9
theorem f_204 {a b : Int} {SS : Nat} {x : Int32} (hSS : x = 0 ∧ SS = 0 ∨ ¬ x = 0 ∧ SS = 1) (ha : -2147483648 ≤ a ∧ a < 2147483648) (hb : -2147483648 ≤ b ∧ b < 2147483648) (hk : zPok p) (hm4 : 2 ≤ m ∧ m ≤ 4) (hO : gOK p m G) (hp : zMp p I) (hM : zMb (gPc p 0) (gPc p 1) G I J) (hS : zMg G z0 I J)
    (k1 : ¬ (0 ≤ a ∧ a < gPc p (3 + SS) ∧ 0 ≤ b ∧ b < m) → P (.inl (some (.int 0))) (zu I 28 0 1) J D)
    (k2 : (0 ≤ a ∧ a < gPc p (3 + SS) ∧ 0 ≤ b ∧ b < m) → ∀ J', zMb (gPc p 0) (gPc p 1) G (zu I 28 0 0) J' → zMg G z0 (zu I 28 0 0) J' → zfm [32] [50] J J' → P (.inl (some (.int (if gAllow p G SS a.toNat b.toNat = true then 1 else 0)))) (zu I 28 0 0) J' D) :
    zz RO (d + 7) 204 [.ref 28, .int x, .int (zi a), .int (zi b)] I J D bc bs P := by
  have hc := hk.1
  have e199 : zv_199 I J (zi b) = if 0 ≤ b ∧ b < m then 1 else 0 := by
    unfold zv_199
    rw [hM.1, hO.1.1.1]
    exact n_130 (SS := 0) (MM := 0) (b := 0) hb hk (by omega)
  have piece : ∀ (K : Nat) (y : Int32), SS < 2 → y = zi (SS : Int) → K < 1000 → K = gPc p (3 + SS) → (((zv_136 I J (zi a).toInt64 0 ((zi (K : Int) - 1).toInt64)) = 0 → P (.inl (some (.int 0))) (zu I 28 0 1) J D) ∧ (¬ ((zv_136 I J (zi a).toInt64 0 ((zi (K : Int) - 1).toInt64)) = 0) → (((zv_199 I J (zi b)) = 0 → P (.inl (some (.int 0))) (zu I 28 0 1) J D) ∧ (¬ ((zv_199 I J (zi b)) = 0) → (zz RO (d + 6) 198 [.ref 28, .int y, .int (zi a), .int (zi b)] (zu I 28 0 0) J D 0 0 (zNi P fun v1 I1 J1 D1 => ((v1 = 0 → P (.inl (some (.int 0))) I1 J1 D1) ∧ (¬ (v1 = 0) → P (.inl (some (.int 1))) I1 J1 D1)))))))) := by
    intro K y hS2 hy hK hKe
    rw [n_130 (SS := 0) (MM := 0) (b := 0) ha hk hK, e199]
    by_cases ca : 0 ≤ a ∧ a < K
    · rw [if_pos ca]
      refine ⟨fun q => absurd q (by decide), fun _ => ?_⟩
      by_cases cb : 0 ≤ b ∧ b < m
      · rw [if_pos cb]
        refine ⟨fun q => absurd q (by decide), fun _ => ?_⟩
        have ea : zi a = zi ((a.toNat : Nat) : Int) := by congr 1; omega
        have eb : zi b = zi ((b.toNat : Nat) : Int) := by congr 1; omega
        have hs : (SS = 0 ∧ a.toNat < gPc p 3) ∨ (SS = 1 ∧ a.toNat < gPc p 4) := by
          have h01 : SS = 0 ∨ SS = 1 := by omega
          rcases h01 with h | h <;> subst h
          · exact Or.inl ⟨rfl, by have e3 : K = gPc p 3 := hKe; omega⟩
          · exact Or.inr ⟨rfl, by have e3 : K = gPc p 4 := hKe; omega⟩
        rw [ea, eb, hy]
        refine n_198 (m := m) (d := d + 2) (sort := SS) (num := a.toNat) (tg := b.toNat) hk hm4 hO.1 hs (by omega) (zMp_0 hp 0) (zMb_0 hM 0) (zMg_0 hS 0) (fun J1 hM1 hS1 g1 => ?_)
        have k9 := k2 ⟨ca.1, by omega, cb.1, cb.2⟩ J1 hM1 hS1 g1
        by_cases hal : gAllow p G SS a.toNat b.toNat = true
        · rw [if_pos hal] at k9 ⊢
          exact ⟨fun q => absurd q (by decide), fun _ => k9⟩
        · rw [if_neg hal] at k9 ⊢
          exact ⟨fun _ => k9, fun q => absurd rfl q⟩
      · rw [if_neg cb]
        exact ⟨fun _ => k1 (fun z => cb ⟨z.2.2.1, z.2.2.2⟩), fun q => absurd rfl q⟩
    · rw [if_neg ca]
      exact ⟨fun _ => k1 (fun z => ca ⟨z.1, by omega⟩), fun q => absurd rfl q⟩
  refine w_204 ?_
  rw [show I 37 5 = zi (gPc p 3 : Int) from hp.1.2.2 3 (by omega) (by omega), show I 37 6 = zi (gPc p 4 : Int) from hp.1.2.2 4 (by omega) (by omega)]
  refine ⟨fun hx => ?_, fun hx => ?_⟩
  · have hS0 : SS = 0 := by
      rcases hSS with h | h
      · exact h.2
      · exact absurd hx h.1
    subst hS0
    exact piece (gPc p 3) 0 (by omega) rfl (by omega) rfl
  · have hS1 : SS = 1 := by
      rcases hSS with h | h
      · exact absurd h.1 hx
      · exact h.2
    subst hS1
    exact piece (gPc p 4) 1 (by omega) rfl (by omega) rfl
theorem n_v130 {a b : Int} {SS : Nat} (hSS : SS = 0 ∨ SS = 1) (ha : -2147483648 ≤ a ∧ a < 2147483648) (hb : -2147483648 ≤ b ∧ b < 2147483648) (hk : zPok p) (hm4 : m ≤ 4) (hp : zCp p I) (h20 : I 20 2 = zi (m : Int)) : zv_130 I J (zi (SS : Int)) (zi a) (zi b) = if 0 ≤ a ∧ a < gPc p (3 + SS) ∧ 0 ≤ b ∧ b < m then 1 else 0 := by
  have hc := hk.1
  have hKK : gPc p (3 + SS) < 1000 := by
    rcases hSS with h | h <;> subst h
    · show gPc p 3 < 1000; omega
    · show gPc p 4 < 1000; omega
  unfold zv_130
  rw [show (3 : Int32) + zi (SS : Int) = zi ((3 + SS : Nat) : Int) by rw [show (3 : Int32) = zi 3 from rfl, zi_add]; congr 1, zv75_at (by omega), hp.1 (3 + SS) (by omega), h20]
  have i1 : zi a < 0 ↔ a < 0 := by rw [show (0 : Int32) = zi 0 from rfl, zi_lt ha (by omega)]
  have i2 : zi b < 0 ↔ b < 0 := by rw [show (0 : Int32) = zi 0 from rfl, zi_lt hb (by omega)]
  have i3 : zi (gPc p (3 + SS) : Int) ≤ zi a ↔ (gPc p (3 + SS) : Int) ≤ a := zi_le (by omega) ha
  have i4 : zi (m : Int) ≤ zi b ↔ (m : Int) ≤ b := zi_le (by omega) hb
  by_cases c : 0 ≤ a ∧ a < gPc p (3 + SS) ∧ 0 ≤ b ∧ b < m
  · rw [if_pos c, if_neg (fun q => by have := i1.mp q; omega), if_neg (fun q => by have := i3.mp q; omega), if_neg (fun q => by have := i2.mp q; omega), if_neg (fun q => by have := i4.mp q; omega)]
  · rw [if_neg c]
    by_cases q1 : a < 0
    · rw [if_pos (i1.mpr q1)]
    · rw [if_neg (fun q => q1 (i1.mp q))]
      by_cases q2 : (gPc p (3 + SS) : Int) ≤ a
      · rw [if_pos (i3.mpr q2)]
      · rw [if_neg (fun q => q2 (i3.mp q))]
        by_cases q3 : b < 0
        · rw [if_pos (i2.mpr q3)]
        · rw [if_neg (fun q => q3 (i2.mp q)), if_pos (i4.mpr (by omega))]
theorem f_117 {a b : Int} {SS : Nat} {x : Int32} (hSS : x = 0 ∧ SS = 0 ∨ ¬ x = 0 ∧ SS = 1) (ha : -2147483648 ≤ a ∧ a < 2147483648) (hb : -2147483648 ≤ b ∧ b < 2147483648) (hk : zPok p) (hm4 : 2 ≤ m ∧ m ≤ 4) (hO : gOK p m G) (hbb : 1 ≤ bc ∧ 6 ≤ bs) (hp : zCp p I) (hT : zTb G I J) (hC : zCs G z0 I J)
    (k1 : ¬ (0 ≤ a ∧ a < gPc p (3 + SS) ∧ 0 ≤ b ∧ b < m) → P (.inr (2, 0, 0)) I J D)
    (k2 : (0 ≤ a ∧ a < gPc p (3 + SS) ∧ 0 ≤ b ∧ b < m) → ∀ I' J', zTb G I' J' → zCs G z0 I' J' → zfr [24] I I' → zfr [20, 25] J J' → P (.inl (some (.int (if gAllow p G SS a.toNat b.toNat = true then 1 else 0)))) I' J' D) :
    zz RO (d + 6) 117 [.ref 0, .int x, .int (zi a), .int (zi b)] I J D bc bs P := by
  have hc := hk.1
  have h20 : I 20 2 = zi (m : Int) := by rw [hT.1, hO.1.1.1]
  have piece : ∀ (y : Int32), SS < 2 → y = zi (SS : Int) → ((¬ (zv_130 I J y (zi a) (zi b)) = 0 → (zz RO (d + 5) 32 [.ref 23, .int y, .int (zi a), .int (zi b)] I J D 0 0 (zNi P fun v1 I1 J1 D1 => ((v1 = 0 ∨ v1 = 1) ∧ P (.inl (some (.int v1))) I1 J1 D1)))) ∧ (¬ (¬ (zv_130 I J y (zi a) (zi b)) = 0) → ((1 ≤ bc ∧ 6 ≤ bs) ∧ P (.inr (2, 0, 0)) I J D))) := by
    intro y hS2 hy
    rw [hy, n_v130 (m := m) (by omega) ha hb hk hm4.2 hp h20]
    by_cases c : 0 ≤ a ∧ a < gPc p (3 + SS) ∧ 0 ≤ b ∧ b < m
    · rw [if_pos c]
      refine ⟨fun _ => ?_, fun q => absurd (by decide) q⟩
      have ea : zi a = zi ((a.toNat : Nat) : Int) := by congr 1; omega
      have eb : zi b = zi ((b.toNat : Nat) : Int) := by congr 1; omega
      have hs : (SS = 0 ∧ a.toNat < gPc p 3) ∨ (SS = 1 ∧ a.toNat < gPc p 4) := by
        have h01 : SS = 0 ∨ SS = 1 := by omega
        rcases h01 with h | h <;> subst h
        · exact Or.inl ⟨rfl, by have e3 : a < gPc p 3 := c.2.1; omega⟩
        · exact Or.inr ⟨rfl, by have e3 : a < gPc p 4 := c.2.1; omega⟩
      rw [ea, eb]
      refine s_32 (m := m) (d := d) (sort := SS) (num := a.toNat) (tg := b.toNat) hk hm4 hO.1 hs (by omega) hp hT hC (fun I1 J1 hT1 hC1 f1 g1 => ?_)
      refine ⟨?_, k2 c I1 J1 hT1 hC1 f1 g1⟩
      by_cases hal : gAllow p G SS a.toNat b.toNat = true
      · rw [if_pos hal]
        exact Or.inr rfl
      · rw [if_neg hal]
        exact Or.inl rfl
    · rw [if_neg c]
      exact ⟨fun q => absurd rfl q, fun _ => ⟨hbb, k1 c⟩⟩
  refine w_117 ?_
  refine ⟨fun hx => ?_, fun hx => ?_⟩
  · have hS0 : SS = 0 := by
      rcases hSS with h | h
      · exact h.2
      · exact absurd hx h.1
    exact piece 0 (by omega) (by rw [hS0]; rfl)
  · have hS1 : SS = 1 := by
      rcases hSS with h | h
      · exact absurd h.1 hx
      · exact h.2
    exact piece 1 (by omega) (by rw [hS1]; rfl)
end Face2
