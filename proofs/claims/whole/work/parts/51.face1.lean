/-! ===== faces of the game: act, reply, pass ===== -/
theorem gAllow_10 {p : zPg} {G : zGm} {sort num tg : Nat} (h : gAllow p G sort num tg = true) : G.1 9 = 0 ∧ G.2.2.1.length < 10 := by
  unfold gAllow at h
  by_cases c : G.1 9 = 0 ∧ (sort = 0 ∧ G.2.2.1.isEmpty = true ∧ ((gPa p (G.1 2).toNat >>> (zi num &&& 31)) &&& 1) = 1 ∧ gWhen p num G (gT G) tg = true ∨ sort = 1 ∧ ¬ G.2.2.1.isEmpty = true ∧ G.2.2.1.length < 10 ∧ gWhen p (12 + num) G (G.1 3).toNat tg = true)
  · refine ⟨c.1, ?_⟩
    rcases c.2 with q | q
    · rw [List.isEmpty_iff.mp q.2.1]
      show (0 : Nat) < 10
      omega
    · exact q.2.2.1
  · rw [if_neg c] at h
    exact absurd h (by decide)
theorem zL_lt {a b : Int} (h1 : -2147483648 ≤ a ∧ a < 2147483648) (h2 : -2147483648 ≤ b ∧ b < 2147483648) : (zi a).toInt64 < (zi b).toInt64 ↔ a < b := by
  rw [Int64.lt_iff_toInt_lt, Int32.toInt_toInt64, Int32.toInt_toInt64, zi_toInt h1.1 h1.2, zi_toInt h2.1 h2.2]
theorem zMb_of0 {nt np : Nat} {G : zGm} {I : zI} {J : zJ} {x : Int32} (h : zMb nt np G (zu I 28 0 x) J) : zMb nt np G I J := by
  have f : zfm [0] [] (zu I 28 0 x) I := ⟨fun o h1 h2 => (zu_row _ _ h2).symm, fun k hk => (zu_n _ _ (fun e => hk (by rw [e.2]; decide))).symm⟩
  exact zMb_keep h (zfm_sub f (by simp) (by simp)) (zfm_refl _)
section Face1
variable {RO : zRo} {d : Nat} {P : zP} {I : zI} {J : zJ} {D : zD} {bc bs : Nat} {m : Nat} {G : zGm} {p : zPg} {z0 : Int64}
theorem n_136 {a lo hi : Int} (ha : -2147483648 ≤ a ∧ a < 2147483648) (hl : -100000 ≤ lo ∧ lo ≤ 100000) (hh : -100000 ≤ hi ∧ hi ≤ 100000) : zv_136 I J (zi a).toInt64 (zi lo).toInt64 (zi hi).toInt64 = if lo ≤ a ∧ a ≤ hi then 1 else 0 := by
  unfold zv_136
  by_cases c : lo ≤ a ∧ a ≤ hi
  · rw [if_pos c, if_neg (by rw [zL_lt ha (by omega)]; omega), if_neg (by rw [zL_lt (by omega) ha]; omega)]
  · rw [if_neg c]
    by_cases c1 : a < lo
    · rw [if_pos (by rw [zL_lt ha (by omega)]; exact c1)]
    · rw [if_neg (by rw [zL_lt ha (by omega)]; exact c1), if_pos (by rw [zL_lt (by omega) ha]; omega)]
theorem f_114 {a b : Int} (ha : -2147483648 ≤ a ∧ a < 2147483648) (hb : -2147483648 ≤ b ∧ b < 2147483648) (hk : zPok p) (hm4 : 2 ≤ m ∧ m ≤ 4) (hO : gOK p m G) (hbb : 1 ≤ bc ∧ 6 ≤ bs) (hp : zCp p I) (hT : zTb G I J) (hC : zCs G z0 I J)
    (k1 : ¬ (0 ≤ a ∧ a < gPc p 3 ∧ 0 ≤ b ∧ b < m) → P (.inr (2, 0, 0)) I J D)
    (k2 : (0 ≤ a ∧ a < gPc p 3 ∧ 0 ≤ b ∧ b < m) → ¬ gAllow p G 0 a.toNat b.toNat = true → ∀ I' J', zTb G I' J' → zCs G z0 I' J' → zfr [24] I I' → zfr [20, 25] J J' → P (.inr (0, 0, 0)) I' J' D)
    (k3 : (0 ≤ a ∧ a < gPc p 3 ∧ 0 ≤ b ∧ b < m) → gAllow p G 0 a.toNat b.toNat = true → ∀ I' J', zTb (gMake p G 0 a b) I' J' → zCs (gMake p G 0 a b) z0 I' J' → zfr [20, 21, 22, 23, 24, 26, 27] I I' → zfr [20, 25] J J' → P (.inl (some (.int (zi (gMake p G 0 a b).2.2.1.length)))) I' J' D) :
    zz RO (d + 8) 114 [.ref 0, .int (zi a), .int (zi b)] I J D bc bs P := by
  have hc := hk.1
  have e130 : zv_130 I J 0 (zi a) (zi b) = if 0 ≤ a ∧ a < gPc p 3 ∧ 0 ≤ b ∧ b < m then 1 else 0 := by
    unfold zv_130
    rw [show (3 : Int32) + 0 = zi ((3 : Nat) : Int) from rfl, zv75_at (by omega), hp.1 3 (by omega), hT.1, hO.1.1.1]
    have i1 : zi a < 0 ↔ a < 0 := by rw [show (0 : Int32) = zi 0 from rfl, zi_lt ha (by omega)]
    have i2 : zi b < 0 ↔ b < 0 := by rw [show (0 : Int32) = zi 0 from rfl, zi_lt hb (by omega)]
    have i3 : zi (gPc p 3 : Int) ≤ zi a ↔ (gPc p 3 : Int) ≤ a := zi_le (by omega) ha
    have i4 : zi (m : Int) ≤ zi b ↔ (m : Int) ≤ b := zi_le (by omega) hb
    by_cases c : 0 ≤ a ∧ a < gPc p 3 ∧ 0 ≤ b ∧ b < m
    · rw [if_pos c, if_neg (fun q => by have := i1.mp q; omega), if_neg (fun q => by have := i3.mp q; omega), if_neg (fun q => by have := i2.mp q; omega), if_neg (fun q => by have := i4.mp q; omega)]
    · rw [if_neg c]
      by_cases q1 : a < 0
      · rw [if_pos (i1.mpr q1)]
      · rw [if_neg (fun q => q1 (i1.mp q))]
        by_cases q2 : (gPc p 3 : Int) ≤ a
        · rw [if_pos (i3.mpr q2)]
        · rw [if_neg (fun q => q2 (i3.mp q))]
          by_cases q3 : b < 0
          · rw [if_pos (i2.mpr q3)]
          · rw [if_neg (fun q => q3 (i2.mp q)), if_pos (i4.mpr (by omega))]
  refine w_114 ?_
  rw [e130]
  by_cases c : 0 ≤ a ∧ a < gPc p 3 ∧ 0 ≤ b ∧ b < m
  · rw [if_pos c]
    refine ⟨fun _ => ?_, fun q => absurd (by decide) q⟩
    have ea : zi a = zi ((a.toNat : Nat) : Int) := by congr 1; omega
    have eb : zi b = zi ((b.toNat : Nat) : Int) := by congr 1; omega
    have hs : (0 = 0 ∧ a.toNat < gPc p 3) ∨ (0 = 1 ∧ a.toNat < gPc p 4) := by omega
    rw [ea, eb]
    refine s_32 (m := m) (d := d + 2) (sort := 0) (num := a.toNat) (tg := b.toNat) hk hm4 hO.1 hs (by omega) hp hT hC (fun I1 J1 hT1 hC1 f1 g1 => ?_)
    by_cases hal : gAllow p G 0 a.toNat b.toNat = true
    · rw [if_pos hal]
      refine ⟨fun _ => ?_, fun q => absurd (by decide) q⟩
      rw [← ea, ← eb]
      have h10 := gAllow_10 hal
      refine s_34 (m := m) (sort := 0) (num := a) (tg := b) hk hm4 hO.1 h10.1 (Or.inr ⟨by omega, by omega, by omega, h10.2⟩) (hO.2.2.2.1 h10.1) (zCp_keep hp (zfr_sub f1 (by simp))) hT1 hC1 (fun I2 J2 hT2 hC2 f2 g2 _ => ?_)
      have k9 := k3 c hal I2 J2 hT2 hC2 (zfr_trans (zfr_sub f1 (by simp)) f2) (zfr_trans g1 g2)
      rw [← hT2.2.1] at k9
      exact k9
    · rw [if_neg hal]
      exact ⟨fun q => absurd rfl q, fun _ => ⟨hbb, k2 c hal I1 J1 hT1 hC1 f1 g1⟩⟩
  · rw [if_neg c]
    exact ⟨fun q => absurd rfl q, fun _ => ⟨hbb, k1 c⟩⟩
theorem f_115 {a b : Int} (ha : -2147483648 ≤ a ∧ a < 2147483648) (hb : -2147483648 ≤ b ∧ b < 2147483648) (hk : zPok p) (hm4 : 2 ≤ m ∧ m ≤ 4) (hO : gOK p m G) (hbb : 1 ≤ bc ∧ 6 ≤ bs) (hp : zCp p I) (hT : zTb G I J) (hC : zCs G z0 I J)
    (k1 : ¬ (0 ≤ a ∧ a < gPc p 4 ∧ 0 ≤ b ∧ b < m) → P (.inr (2, 0, 0)) I J D)
    (k2 : (0 ≤ a ∧ a < gPc p 4 ∧ 0 ≤ b ∧ b < m) → ¬ gAllow p G 1 a.toNat b.toNat = true → ∀ I' J', zTb G I' J' → zCs G z0 I' J' → zfr [24] I I' → zfr [20, 25] J J' → P (.inr (0, 0, 0)) I' J' D)
    (k3 : (0 ≤ a ∧ a < gPc p 4 ∧ 0 ≤ b ∧ b < m) → gAllow p G 1 a.toNat b.toNat = true → ∀ I' J', zTb (gMake p G 1 a b) I' J' → zCs (gMake p G 1 a b) z0 I' J' → zfr [20, 21, 22, 23, 24, 26, 27] I I' → zfr [20, 25] J J' → P (.inl (some (.int (zi (gMake p G 1 a b).2.2.1.length)))) I' J' D) :
    zz RO (d + 8) 115 [.ref 0, .int (zi a), .int (zi b)] I J D bc bs P := by
  have hc := hk.1
  have e130 : zv_130 I J 1 (zi a) (zi b) = if 0 ≤ a ∧ a < gPc p 4 ∧ 0 ≤ b ∧ b < m then 1 else 0 := by
    unfold zv_130
    rw [show (3 : Int32) + 1 = zi ((4 : Nat) : Int) from rfl, zv75_at (by omega), hp.1 4 (by omega), hT.1, hO.1.1.1]
    have i1 : zi a < 0 ↔ a < 0 := by rw [show (0 : Int32) = zi 0 from rfl, zi_lt ha (by omega)]
    have i2 : zi b < 0 ↔ b < 0 := by rw [show (0 : Int32) = zi 0 from rfl, zi_lt hb (by omega)]
    have i3 : zi (gPc p 4 : Int) ≤ zi a ↔ (gPc p 4 : Int) ≤ a := zi_le (by omega) ha
    have i4 : zi (m : Int) ≤ zi b ↔ (m : Int) ≤ b := zi_le (by omega) hb
    by_cases c : 0 ≤ a ∧ a < gPc p 4 ∧ 0 ≤ b ∧ b < m
    · rw [if_pos c, if_neg (fun q => by have := i1.mp q; omega), if_neg (fun q => by have := i3.mp q; omega), if_neg (fun q => by have := i2.mp q; omega), if_neg (fun q => by have := i4.mp q; omega)]
    · rw [if_neg c]
      by_cases q1 : a < 0
      · rw [if_pos (i1.mpr q1)]
      · rw [if_neg (fun q => q1 (i1.mp q))]
        by_cases q2 : (gPc p 4 : Int) ≤ a
        · rw [if_pos (i3.mpr q2)]
        · rw [if_neg (fun q => q2 (i3.mp q))]
          by_cases q3 : b < 0
          · rw [if_pos (i2.mpr q3)]
          · rw [if_neg (fun q => q3 (i2.mp q)), if_pos (i4.mpr (by omega))]
  refine w_115 ?_
  rw [e130]
  by_cases c : 0 ≤ a ∧ a < gPc p 4 ∧ 0 ≤ b ∧ b < m
  · rw [if_pos c]
    refine ⟨fun _ => ?_, fun q => absurd (by decide) q⟩
    have ea : zi a = zi ((a.toNat : Nat) : Int) := by congr 1; omega
    have eb : zi b = zi ((b.toNat : Nat) : Int) := by congr 1; omega
    have hs : (1 = 0 ∧ a.toNat < gPc p 3) ∨ (1 = 1 ∧ a.toNat < gPc p 4) := by omega
    rw [ea, eb]
    refine s_32 (m := m) (d := d + 2) (sort := 1) (num := a.toNat) (tg := b.toNat) hk hm4 hO.1 hs (by omega) hp hT hC (fun I1 J1 hT1 hC1 f1 g1 => ?_)
    by_cases hal : gAllow p G 1 a.toNat b.toNat = true
    · rw [if_pos hal]
      refine ⟨fun _ => ?_, fun q => absurd (by decide) q⟩
      rw [← ea, ← eb]
      have h10 := gAllow_10 hal
      refine s_34 (m := m) (sort := 1) (num := a) (tg := b) hk hm4 hO.1 h10.1 (Or.inr ⟨by omega, by omega, by omega, h10.2⟩) (hO.2.2.2.1 h10.1) (zCp_keep hp (zfr_sub f1 (by simp))) hT1 hC1 (fun I2 J2 hT2 hC2 f2 g2 _ => ?_)
      have k9 := k3 c hal I2 J2 hT2 hC2 (zfr_trans (zfr_sub f1 (by simp)) f2) (zfr_trans g1 g2)
      rw [← hT2.2.1] at k9
      exact k9
    · rw [if_neg hal]
      exact ⟨fun q => absurd rfl q, fun _ => ⟨hbb, k2 c hal I1 J1 hT1 hC1 f1 g1⟩⟩
  · rw [if_neg c]
    exact ⟨fun q => absurd rfl q, fun _ => ⟨hbb, k1 c⟩⟩
theorem f_116 (hk : zPok p) (hm4 : 2 ≤ m ∧ m ≤ 4) (hO : gOK p m G) (hbb : 1 ≤ bc ∧ 6 ≤ bs) (hp : zCp p I) (hT : zTb G I J) (hC : zCs G z0 I J)
    (k2 : ¬ G.1 9 = 0 → P (.inr (0, 0, 0)) I J D)
    (k3 : G.1 9 = 0 → ∀ I' J', zTb (gMake p G 2 (-1) (-1)) I' J' → zCs (gMake p G 2 (-1) (-1)) z0 I' J' → zfr [20, 21, 22, 23, 24, 26, 27] I I' → zfr [20, 25] J J' → P (.inl (some (.int (zi ((gMake p G 2 (-1) (-1)).1 9))))) I' J' D) :
    zz RO (d + 8) 116 [.ref 0] I J D bc bs P := by
  have r9 := hO.1.1.2.2.1.2.2.2.2
  refine w_116 ?_
  rw [hC.2.1, show zi (G.1 9) = 0 ↔ G.1 9 = 0 by rw [show (0 : Int32) = zi 0 from rfl, zi_eq (by omega) (by omega)]]
  refine ⟨fun h9 => ?_, fun h9 => ⟨hbb, k2 h9⟩⟩
  refine s_34 (m := m) (sort := 2) (num := -1) (tg := -1) hk hm4 hO.1 h9 (Or.inl rfl) (hO.2.2.2.1 h9) hp hT hC (fun I2 J2 hT2 hC2 f2 g2 _ => ?_)
  have k9 := k3 h9 I2 J2 hT2 hC2 f2 g2
  rw [← hC2.2.1] at k9
  exact k9
theorem n_130 {a b : Int} {SS KK MM : Nat} (ha : -2147483648 ≤ a ∧ a < 2147483648) (hk : zPok p) (hK : KK < 1000) : zv_136 I J (zi a).toInt64 0 ((zi (KK : Int) - 1).toInt64) = if 0 ≤ a ∧ a < KK then 1 else 0 := by
  have e := n_136 (I := I) (J := J) (a := a) (lo := 0) (hi := (KK : Int) - 1) ha (by omega) (by omega)
  rw [show (zi 0).toInt64 = 0 from rfl] at e
  rw [show zi (KK : Int) - 1 = zi ((KK : Int) - 1) by rw [show (1 : Int32) = zi 1 from rfl, zi_sub], e]
  by_cases c : 0 ≤ a ∧ a < KK
  · rw [if_pos c, if_pos (by omega)]
  · rw [if_neg c, if_neg (by omega)]
theorem f_200 {a b : Int} {SS : Nat} (hSS : SS = 0 ∨ SS = 1) (ha : -2147483648 ≤ a ∧ a < 2147483648) (hb : -2147483648 ≤ b ∧ b < 2147483648) (hk : zPok p) (hm4 : 2 ≤ m ∧ m ≤ 4) (hO : gOK p m G) (hbb : 2 ≤ bc ∧ 8 ≤ bs) (hp : zMp p I) (hM : zMb (gPc p 0) (gPc p 1) G I J) (hS : zMg G z0 I J)
    (k1 : ¬ (0 ≤ a ∧ a < gPc p (3 + SS) ∧ 0 ≤ b ∧ b < m) → P (.inl (some (.int 0))) (zu I 28 0 1) J D)
    (k2 : (0 ≤ a ∧ a < gPc p (3 + SS) ∧ 0 ≤ b ∧ b < m) → ¬ gAllow p G SS a.toNat b.toNat = true → ∀ J', zMb (gPc p 0) (gPc p 1) G I J' → zMg G z0 I J' → zfm [32] [50] J J' → P (.inl (some (.int 0))) (zu I 28 0 2) J' D)
    (k3 : (0 ≤ a ∧ a < gPc p (3 + SS) ∧ 0 ≤ b ∧ b < m) → gAllow p G SS a.toNat b.toNat = true → ∀ I' J', zMb (gPc p 0) (gPc p 1) (gMake p G SS a b) I' J' → zMg (gMake p G SS a b) z0 I' J' → I' 28 0 = 0 → zfm zKm zLM I I' → zfm [32] [50] J J' → P (.inl (some (.int (zi (gMake p G SS a b).2.2.1.length)))) I' J' D) :
    zz RO (d + 13) 200 [.ref 28, .int (zi (SS : Nat)), .int (zi a), .int (zi b)] I J D bc bs P := by
  have hc := hk.1
  have zu2 : ∀ (x y : Int32), zu (zu I 28 0 x) 28 0 y = zu I 28 0 y := by
    intro x y
    funext o k
    unfold zu
    split <;> rfl
  have e5 : (5 : Int32) + zi (SS : Int) = zi ((5 + SS : Nat) : Int) := by
    rw [show (5 : Int32) = zi 5 from rfl, zi_add]
    congr 1
  have ecl : (zi ((5 + SS : Nat) : Int)).toNatClampNeg = 5 + SS := by rw [zi_cl (by omega) (by omega)]; omega
  have e37 : I 37 (5 + SS) = zi (gPc p (3 + SS) : Int) := by
    rcases hSS with h | h <;> subst h
    · exact hp.1.2.2 3 (by omega) (by omega)
    · exact hp.1.2.2 4 (by omega) (by omega)
  have hKK : gPc p (3 + SS) < 1000 := by
    rcases hSS with h | h <;> subst h
    · show gPc p 3 < 1000; omega
    · show gPc p 4 < 1000; omega
  have f0 : zfm [0] [] I (zu I 28 0 0) := zfm_z (zfm_refl _) _ _ (by decide)
  have e199 : zv_199 (zu I 28 0 0) J (zi b) = if 0 ≤ b ∧ b < m then 1 else 0 := by
    unfold zv_199
    rw [f0.2 30 (by decide), hM.1, hO.1.1.1]
    exact n_130 (SS := 0) (MM := 0) (b := 0) hb hk (by omega)
  have hM0 : zMb (gPc p 0) (gPc p 1) G (zu I 28 0 0) J := zMb_keep hM (zfm_sub f0 (by simp) (by simp)) (zfm_refl _)
  have hS0 : zMg G z0 (zu I 28 0 0) J := by
    obtain ⟨c1, c2, c3, c4, c5, c6, c7⟩ := hS
    exact ⟨by rw [f0.2 33 (by decide)]; exact c1, by rw [f0.2 39 (by decide)]; exact c2, by rw [f0.2 47 (by decide)]; exact c3, c4, by rw [f0.1 49 (by decide) (by decide)]; exact c5, by rw [f0.2 37 (by decide)]; exact c6, by rw [f0.2 38 (by decide)]; exact c7⟩
  have hp0 := zMp_keep hp (zfm_sub f0 (by simp) (by simp))
  refine w_200 ?_
  rw [e5, ecl, e37, n_130 (SS := 0) (MM := 0) (b := 0) ha hk hKK, e199]
  refine ⟨zi_in (by omega) (by omega) (by omega), ?_⟩
  by_cases ca : 0 ≤ a ∧ a < gPc p (3 + SS)
  · rw [if_pos ca]
    refine ⟨fun q => absurd q (by decide), fun _ => ?_⟩
    by_cases cb : 0 ≤ b ∧ b < m
    · rw [if_pos cb]
      refine ⟨fun _ => ?_, fun q => absurd (by decide) q⟩
      have c : 0 ≤ a ∧ a < gPc p (3 + SS) ∧ 0 ≤ b ∧ b < m := ⟨ca.1, ca.2, cb.1, cb.2⟩
      have ea : zi a = zi ((a.toNat : Nat) : Int) := by congr 1; omega
      have eb : zi b = zi ((b.toNat : Nat) : Int) := by congr 1; omega
      have hs : (SS = 0 ∧ a.toNat < gPc p 3) ∨ (SS = 1 ∧ a.toNat < gPc p 4) := by
        rcases hSS with h | h <;> subst h
        · exact Or.inl ⟨rfl, by have : a < gPc p 3 := ca.2; omega⟩
        · exact Or.inr ⟨rfl, by have : a < gPc p 4 := ca.2; omega⟩
      rw [ea, eb]
      refine n_198 (m := m) (d := d + 8) (sort := SS) (num := a.toNat) (tg := b.toNat) hk hm4 hO.1 hs (by omega) hp0 hM0 hS0 (fun J1 hM1 hS1 g1 => ?_)
      by_cases hal : gAllow p G SS a.toNat b.toNat = true
      · rw [if_pos hal]
        refine ⟨fun _ => ⟨2, 8, hbb.1, hbb.2, ?_⟩, fun q => absurd (by decide) q⟩
        rw [← ea, ← eb]
        have h10 := gAllow_10 hal
        have hmay : gMay p m G SS a b := by
          refine Or.inr ⟨?_, cb.1, cb.2, h10.2⟩
          rcases hSS with h | h <;> subst h
          · exact Or.inl ⟨rfl, ca.1, ca.2⟩
          · exact Or.inr ⟨rfl, ca.1, ca.2⟩
        refine n_193 (m := m) (sort := SS) (num := a) (tgt := b) hk hm4 hO.1 h10.1 hmay (hO.2.2.2.1 h10.1) hO.2.1 (hO.2.2.1 h10.1) ⟨by omega, by omega⟩ hp0 hM1 hS1 (fun I2 J2 hM2 hS2 f2 g2 => ?_)
        have k9 := k3 c hal I2 J2 hM2 hS2 (by rw [f2.2 0 (by decide), zu_s]) (zfm_trans (zfm_sub f0 (by simp) (by simp)) (zfm_sub f2 (by simp) (by simp))) (zfm_trans g1 g2)
        rw [← hM2.2.1] at k9
        exact k9
      · rw [if_neg hal]
        refine ⟨fun q => absurd rfl q, fun _ => w_135 ?_⟩
        rw [zu2]
        exact k2 c hal J1 (zMb_of0 hM1) (zMg_keep hS (zfm_refl _) g1) g1
    · rw [if_neg cb]
      refine ⟨fun q => absurd rfl q, fun _ => w_135 ?_⟩
      rw [zu2]
      exact k1 (fun z => cb ⟨z.2.2.1, z.2.2.2⟩)
  · rw [if_neg ca]
    refine ⟨fun _ => w_135 ?_, fun q => absurd rfl q⟩
    rw [zu2]
    exact k1 (fun z => ca ⟨z.1, z.2.1⟩)
end Face1
