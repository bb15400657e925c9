/-! ===== the class's game: a game begins; whether something can be done ===== -/
section CGame8
variable {RO : zRo} {d : Nat} {P : zP} {I : zI} {J : zJ} {D : zD} {bc bs : Nat} {m : Nat} {G : zGm} {p : zPg} {z0 : Int64} {l1 l2 l3 l4 : Int32} {I0 : zI} {V : Nat → Int32}
theorem s_29_51 (hb : ∀ k, k < 36 → I0 14 k = gPb p k) (K : ∀ I', zfr [21] I0 I' → (∀ k, k < 30 → I' 21 k = if k < 24 then gPb p (3 * (k % 6) + 2) else gPb p (3 * (k - 18) + 2)) → P (.inl none) I' J D) :
    ∀ (j a : Nat) {I : zI}, a + j = 6 → zfr [21] I0 I → (∀ k, k < 24 + a → I 21 k = if k < 24 then gPb p (3 * (k % 6) + 2) else gPb p (3 * (k - 18) + 2)) →
    zw RO (d + 2) 29 P 51 [(0, .ref 23), (1, .int (zi a))] [] I J D bc bs
  | 0, a, I, ha, f, h => by
    have ha6 : a = 6 := by omega
    subst ha6
    refine wl_29_51 ⟨fun _ => K I f (fun k hk => h k (by omega)), fun q => absurd (by decide) q⟩
  | j + 1, a, I, ha, f, h => by
    have hq : ¬ (6 : Int32) ≤ zi a := by
      rw [show (6 : Int32) = zi 6 from rfl, zi_le (by omega) (by omega)]
      omega
    refine wl_29_51 ⟨fun q => absurd q hq, fun _ => ?_⟩
    have e14 : I 14 = I0 14 := f 14 (by simp)
    have e1 : zv_76 I J (6 + zi a) 2 = gPb p (3 * (6 + a) + 2) := by
      rw [show (6 : Int32) + zi a = zi ((6 + a : Nat) : Int) by rw [show (6 : Int32) = zi 6 from rfl, zi_add]; congr 1, show (2 : Int32) = zi ((2 : Nat) : Int) from rfl, zv76_at (by omega) (by omega), e14, hb _ (by omega)]
    rw [e1, show (24 : Int32) + zi a = zi ((24 + a : Nat) : Int) by rw [show (24 : Int32) = zi 24 from rfl, zi_add]; congr 1]
    refine s_85 (by omega) ?_
    rw [show zi (a : Int) + 1 = zi ((a + 1 : Nat) : Int) by rw [show (1 : Int32) = zi 1 from rfl, zi_add]; congr 1]
    refine s_29_51 hb K j (a + 1) (by omega) (zfr_zu f _ _ (by simp)) (fun k hk => ?_)
    by_cases e : k = 24 + a
    · subst e
      rw [zu_s, if_neg (by omega)]
      congr 1
      omega
    · rw [zu_n _ _ (by omega)]
      exact h k (by omega)
theorem s_29_10 (a : Nat) (ha6 : a < 6) (hb : ∀ k, k < 36 → I0 14 k = gPb p k) (K : ∀ I', zfr [21] I0 I' → (∀ k, k < 24 → k % 6 < a + 1 → I' 21 k = gPb p (3 * (k % 6) + 2)) → zw RO (d + 2) 29 P 2 [(0, .ref 23), (1, .int (zi ((a + 1 : Nat) : Int)))] [] I' J D bc bs) :
    ∀ (j b : Nat) {I : zI}, b + j = 4 → zfr [21] I0 I → (∀ k, k < 24 → (k % 6 < a ∨ k % 6 = a ∧ k / 6 < b) → I 21 k = gPb p (3 * (k % 6) + 2)) →
    zw RO (d + 2) 29 P 10 [(0, .ref 23), (1, .int (zi a)), (2, .int (zi b))] [] I J D bc bs
  | 0, b, I, hb4, f, h => by
    have hb5 : b = 4 := by omega
    subst hb5
    have K' := K I f (fun k hk hk2 => h k hk (by omega))
    rw [show zi ((a + 1 : Nat) : Int) = zi (a : Int) + 1 by rw [show (1 : Int32) = zi 1 from rfl, zi_add]; congr 1] at K'
    refine wl_29_10 ⟨fun _ => K', fun q => absurd (by decide) q⟩
  | j + 1, b, I, hb4, f, h => by
    have hq : ¬ (4 : Int32) ≤ zi b := by
      rw [show (4 : Int32) = zi 4 from rfl, zi_le (by omega) (by omega)]
      omega
    refine wl_29_10 ⟨fun q => absurd q hq, fun _ => ?_⟩
    have e14 : I 14 = I0 14 := f 14 (by simp)
    have e1 : zv_76 I J (zi a) 2 = gPb p (3 * a + 2) := by
      rw [show (2 : Int32) = zi ((2 : Nat) : Int) from rfl, zv76_at (by omega) (by omega), e14, hb _ (by omega)]
    rw [e1, show zi (b : Int) * 6 + zi a = zi ((b * 6 + a : Nat) : Int) by rw [show (6 : Int32) = zi 6 from rfl, zi_mul, zi_add]; congr 1]
    refine s_85 (by omega) ?_
    rw [show zi (b : Int) + 1 = zi ((b + 1 : Nat) : Int) by rw [show (1 : Int32) = zi 1 from rfl, zi_add]; congr 1]
    refine s_29_10 a ha6 hb K j (b + 1) (by omega) (zfr_zu f _ _ (by simp)) (fun k hk hk2 => ?_)
    by_cases e : k = b * 6 + a
    · rw [e, zu_s]
      congr 1
      omega
    · rw [zu_n _ _ (by omega)]
      exact h k hk (by omega)
theorem s_29_2 (hb : ∀ k, k < 36 → I0 14 k = gPb p k) (K : ∀ I', zfr [21] I0 I' → (∀ k, k < 24 → I' 21 k = gPb p (3 * (k % 6) + 2)) → zw RO (d + 2) 29 P 51 [(0, .ref 23), (1, .int 0)] [] I' J D bc bs) :
    ∀ (j a : Nat) {I : zI}, a + j = 6 → zfr [21] I0 I → (∀ k, k < 24 → k % 6 < a → I 21 k = gPb p (3 * (k % 6) + 2)) →
    zw RO (d + 2) 29 P 2 [(0, .ref 23), (1, .int (zi a))] [] I J D bc bs
  | 0, a, I, ha, f, h => by
    have ha6 : a = 6 := by omega
    subst ha6
    refine wl_29_2 ⟨fun _ => K I f (fun k hk => h k hk (by omega)), fun q => absurd (by decide) q⟩
  | j + 1, a, I, ha, f, h => by
    have hq : ¬ (6 : Int32) ≤ zi a := by
      rw [show (6 : Int32) = zi 6 from rfl, zi_le (by omega) (by omega)]
      omega
    refine wl_29_2 ⟨fun q => absurd q hq, fun _ => ?_⟩
    exact s_29_10 (I0 := I0) a (by omega) hb (fun I' f' h' => s_29_2 hb K j (a + 1) (by omega) f' h') 4 0 (by omega) f (fun k hk hk2 => h k hk (by omega))
theorem s_29 (hb : ∀ k, k < 36 → I 14 k = gPb p k) (K : ∀ I', zfr [21] I I' → (∀ k, k < 30 → I' 21 k = if k < 24 then gPb p (3 * (k % 6) + 2) else gPb p (3 * (k - 18) + 2)) → P (.inl none) I' J D) : zz RO (d + 3) 29 [.ref 23] I J D bc bs P := by
  refine w_29 ?_
  refine s_29_2 (I0 := I) hb (fun I1 f1 h1 => ?_) 6 0 (by omega) (zfr_refl _) (fun k hk hk2 => by omega)
  refine s_29_51 (I0 := I) hb K 6 0 (by omega) f1 (fun k hk => ?_)
  rw [if_pos (by omega)]
  exact h1 k (by omega)
theorem s_28 {z : Int64} (hk : zPok p) (hm4 : 2 ≤ m ∧ m ≤ 4) (hp : zCp p I)
    (k : ∀ I' J', zTb (gStart p m z) I' J' → zCs (gStart p m z) z I' J' → zfr [20, 21, 23, 24, 26] I I' → zfr [20, 23, 25] J J' → P (.inl none) I' J' D) : zz RO (d + 7) 28 [.ref 23, .int (zi m), .long z] I J D bc bs P := by
  refine w_28 ?_
  have f0 : zfr [20, 23] I (zu (zu (zu (zu (zu (zu (zu (zu I 23 4 0) 23 5 0) 23 6 (-1)) 23 7 (-1)) 23 8 0) 20 2 (zi m)) 20 3 0) 20 4 1) := zfr_zu (zfr_zu (zfr_zu (zfr_zu (zfr_zu (zfr_zu (zfr_zu (zfr_zu (zfr_refl _) _ _ (by simp)) _ _ (by simp)) _ _ (by simp)) _ _ (by simp)) _ _ (by simp)) _ _ (by simp)) _ _ (by simp)) _ _ (by simp)
  have g0 : zfr [20, 23] J (zu (zu J 23 9 z) 20 9 z) := zfr_zu (zfr_zu (zfr_refl _) _ _ (by simp)) _ _ (by simp)
  have hp0 := zCp_keep hp (zfr_sub f0 (by simp))
  refine s_29 hp0.2.1 (fun I1 f1 h1 => ?_)
  refine w_30 ?_
  have hx : ∀ o w, ¬ o = 21 → I1 o w = (zu (zu (zu (zu (zu (zu (zu (zu I 23 4 0) 23 5 0) 23 6 (-1)) 23 7 (-1)) 23 8 0) 20 2 (zi m)) 20 3 0) 20 4 1) o w := by
    intro o w ho
    rw [f1 o (by simpa using ho)]
  have f2 : zfr [20, 21, 23] I (zu (zu (zu (zu I1 20 5 0) 20 6 0) 20 7 0) 20 8 0) := zfr_zu (zfr_zu (zfr_zu (zfr_zu (zfr_trans (zfr_sub f0 (by simp)) (zfr_sub f1 (by simp))) _ _ (by simp)) _ _ (by simp)) _ _ (by simp)) _ _ (by simp)
  have hp2 := zCp_keep hp (zfr_sub f2 (by simp))
  have hT2 : zTb (gStart0 p m z) (zu (zu (zu (zu I1 20 5 0) 20 6 0) 20 7 0) 20 8 0) (zu (zu J 23 9 z) 20 9 z) := by
    refine ⟨?_, ?_, ?_, ?_, ?_, ?_, ?_, ?_, ?_, ?_⟩
    · rw [zu_n _ _ (by omega), zu_n _ _ (by omega), zu_n _ _ (by omega), zu_n _ _ (by omega), hx _ _ (by omega), zu_n _ _ (by omega), zu_n _ _ (by omega), zu_s]
      rfl
    · rw [zu_n _ _ (by omega), zu_n _ _ (by omega), zu_n _ _ (by omega), zu_n _ _ (by omega), hx _ _ (by omega), zu_n _ _ (by omega), zu_s]
      rfl
    · rw [zu_n _ _ (by omega), zu_n _ _ (by omega), zu_n _ _ (by omega), zu_n _ _ (by omega), hx _ _ (by omega), zu_s]
      rfl
    · rw [zu_n _ _ (by omega), zu_n _ _ (by omega), zu_n _ _ (by omega), zu_s]
      rfl
    · rw [zu_n _ _ (by omega), zu_n _ _ (by omega), zu_s]
      rfl
    · rw [zu_n _ _ (by omega), zu_s]
      rfl
    · rw [zu_s]
      rfl
    · rw [zu_s]
      rfl
    · intro k hk
      rw [zu_n _ _ (by omega), zu_n _ _ (by omega), zu_n _ _ (by omega), zu_n _ _ (by omega), h1 k hk]
      rfl
    · intro k w hk hw
      exact absurd hk (Nat.not_lt_zero k)
  have hC2 : zCs (gStart0 p m z) z (zu (zu (zu (zu I1 20 5 0) 20 6 0) 20 7 0) 20 8 0) (zu (zu J 23 9 z) 20 9 z) := by
    refine ⟨?_, ?_, ?_, ?_, ?_, ?_, ?_⟩
    · rw [zu_n _ _ (by omega), zu_n _ _ (by omega), zu_n _ _ (by omega), zu_n _ _ (by omega), hx _ _ (by omega), zu_n _ _ (by omega), zu_n _ _ (by omega), zu_n _ _ (by omega), zu_n _ _ (by omega), zu_n _ _ (by omega), zu_n _ _ (by omega), zu_n _ _ (by omega), zu_s]
      rfl
    · rw [zu_n _ _ (by omega), zu_n _ _ (by omega), zu_n _ _ (by omega), zu_n _ _ (by omega), hx _ _ (by omega), zu_n _ _ (by omega), zu_n _ _ (by omega), zu_n _ _ (by omega), zu_n _ _ (by omega), zu_n _ _ (by omega), zu_n _ _ (by omega), zu_s]
      rfl
    · rw [zu_n _ _ (by omega), zu_n _ _ (by omega), zu_n _ _ (by omega), zu_n _ _ (by omega), hx _ _ (by omega), zu_n _ _ (by omega), zu_n _ _ (by omega), zu_n _ _ (by omega), zu_n _ _ (by omega), zu_n _ _ (by omega), zu_s]
      rfl
    · rw [zu_n _ _ (by omega), zu_n _ _ (by omega), zu_n _ _ (by omega), zu_n _ _ (by omega), hx _ _ (by omega), zu_n _ _ (by omega), zu_n _ _ (by omega), zu_n _ _ (by omega), zu_n _ _ (by omega), zu_s]
      rfl
    · rw [zu_n _ _ (by omega), zu_n _ _ (by omega), zu_n _ _ (by omega), zu_n _ _ (by omega), hx _ _ (by omega), zu_n _ _ (by omega), zu_n _ _ (by omega), zu_n _ _ (by omega), zu_s]
      rfl
    · rw [zu_n _ _ (by omega), zu_s]
    · intro k w hk hw
      exact absurd hk (Nat.not_lt_zero k)
  have hc := hk.1
  have hR0 : gRg p (gStart0 p m z) := ⟨by show (0 : Int) ≤ 1 ∧ (1 : Int) ≤ 50; omega, by show (0 : Int) ≤ 0 ∧ (0 : Int) < gPc p 2; omega, Or.inl rfl, Or.inl rfl, Or.inl rfl⟩
  have hQ0 : gQ m 0 (gStart0 p m z) := ⟨rfl, rfl, rfl, rfl, rfl⟩
  refine s_40 hk hm4 (t := 0) (by omega) hQ0 (by show (-100 : Int) ≤ 0 ∧ (0 : Int) ≤ 100; omega) (by show (-100 : Int) ≤ 0 ∧ (0 : Int) ≤ 100; omega) hp2 hT2 hC2 (fun I3 J3 hT3 hC3 f3 g3 => ?_)
  have hR3 := gRg_rules hR0
  have r9 := hR3.2.2.2.2
  have r5 := hR3.2.2.1
  have fin : ¬ ((gRules p (gStart0 p m z)).1 9 = 0 ∧ (gRules p (gStart0 p m z)).1 5 = 1) → P (.inl none) I3 J3 D := by
    intro q
    have he : gStart p m z = gRules p (gStart0 p m z) := by
      unfold gStart
      simp only [if_neg q]
    refine k I3 J3 (by rw [he]; exact hT3) (by rw [he]; exact hC3) (zfr_trans (zfr_sub f2 (by simp)) f3) (zfr_trans (zfr_sub g0 (by simp)) (zfr_sub g3 (by simp)))
  show (¬ I3 23 5 = 0 → _) ∧ (¬ ¬ I3 23 5 = 0 → (I3 20 7 = 0 → _) ∧ (¬ I3 20 7 = 0 → _))
  rw [hC3.2.1, hT3.2.2.2.2.2.1, show (0 : Int32) = zi 0 from rfl, zi_eq (by omega) (by omega), zi_eq (by omega) (by omega)]
  refine ⟨fun q => fin (fun z => q z.1), fun q => ⟨fun q5 => fin (fun z => by omega), fun q5 => ?_⟩⟩
  have q9 : (gRules p (gStart0 p m z)).1 9 = 0 := Classical.not_not.mp q
  refine s_41 hk hm4 (t := 0) (by omega) q9 (gQ_rules _ hQ0) hR3 (zCp_keep hp2 (zfr_sub f3 (by simp))) hT3 hC3 (fun I4 J4 hT4 hC4 f4 g4 => ?_)
  have he : gStart p m z = gTurns p 101 (gRules p (gStart0 p m z)) := by
    unfold gStart
    simp only [if_pos (⟨q9, by omega⟩ : (gRules p (gStart0 p m z)).1 9 = 0 ∧ (gRules p (gStart0 p m z)).1 5 = 1)]
  refine k I4 J4 (by rw [he]; exact hT4) (by rw [he]; exact hC4) (zfr_trans (zfr_sub f2 (by simp)) (zfr_trans f3 f4)) (zfr_trans (zfr_sub g0 (by simp)) (zfr_trans (zfr_sub g3 (by simp)) (zfr_sub g4 (by simp))))
theorem zv78_at {k : Nat} {n : Int32} (hk : k < 6) : zv_78 I J (zi k) n = if ((I 15 k >>> (n &&& 31)) &&& 1) = 1 then 1 else 0 := by
  unfold zv_78
  rw [if_neg (by rw [show (0 : Int32) = zi 0 from rfl, zi_lt (by omega) (by omega)]; omega), if_neg (by rw [show (6 : Int32) = zi 6 from rfl, zi_le (by omega) (by omega)]; omega), zi_cl (by omega) (by omega)]
  by_cases c : ((I 15 k >>> (n &&& 31)) &&& 1) = 1
  · rw [if_pos c, if_neg (by rw [show (↑k : Int).toNat = k from rfl]; exact fun q => q c)]
  · rw [if_neg c, if_pos (by rw [show (↑k : Int).toNat = k from rfl]; exact c)]
theorem s_32 {sort num tg : Nat} (hk : zPok p) (hm4 : 2 ≤ m ∧ m ≤ 4) (hV : gVd p m G) (hs : sort = 0 ∧ num < gPc p 3 ∨ sort = 1 ∧ num < gPc p 4) (ht : tg < m) (hp : zCp p I) (hT : zTb G I J) (hC : zCs G z0 I J)
    (k : ∀ I' J', zTb G I' J' → zCs G z0 I' J' → zfr [24] I I' → zfr [20, 25] J J' → P (.inl (some (.int (if gAllow p G sort num tg = true then 1 else 0)))) I' J' D) : zz RO (d + 5) 32 [.ref 23, .int (zi sort), .int (zi num), .int (zi tg)] I J D bc bs P := by
  have r9 := hV.1.2.2.1.2.2.2.2
  have r2 := hV.1.2.2.1.2.1
  have hll := hV.1.2.2.2.1
  have hc := hk.1
  have htn := hV.1.2.1
  have no : ¬ gAllow p G sort num tg = true → P (.inl (some (.int 0))) I J D := by
    intro q
    have k1 := k I J hT hC (zfr_refl _) (zfr_refl _)
    rw [if_neg q] at k1
    exact k1
  have kC : ∀ I' J', zfr [24] I I' → zfr [20, 25] J J' → zCs G z0 I' J' := fun I' J' f g => zCs_keep hC (f 23 (by simp)) (f 27 (by simp)) (g 23 (by simp))
  have yes : ∀ (c : Bool) (I' : zI) (J' : zJ), gAllow p G sort num tg = c → zTb G I' J' → zfr [24] I I' → zfr [20, 25] J J' → (((if c = true then (1 : Int32) else 0) = 0 → P (.inl (some (.int 0))) I' J' D) ∧ (¬ (if c = true then (1 : Int32) else 0) = 0 → P (.inl (some (.int 1))) I' J' D)) := by
    intro c I' J' hc hT' f g
    have k1 := k I' J' hT' (kC I' J' f g) f g
    rw [hc] at k1
    cases c with
    | true => exact ⟨fun q => absurd q (by decide), fun _ => k1⟩
    | false => exact ⟨fun _ => k1, fun q => absurd (by decide) q⟩
  refine w_32 ?_
  rw [hC.2.1, hT.2.1, hT.2.2.2.1, hT.2.2.2.2.1, hC.2.2.2.1, show (0 : Int32) = zi 0 from rfl, show (10 : Int32) = zi 10 from rfl, zi_eq (by omega) (by omega), zi_eq (by omega) (by omega), zi_eq (by omega) (by omega), zi_le (by omega) (by omega), zi_le (by omega) (by omega)]
  refine ⟨fun h9 => ⟨fun hs1 => ?_, fun hs0 => ?_⟩, fun h9 => no (fun q => ?_)⟩
  · have hsort : sort = 1 ∧ num < gPc p 4 := by omega
    refine ⟨fun q => no (fun z => ?_), fun q => ⟨fun q2 => no (fun z => ?_), fun q2 => ?_⟩⟩
    · unfold gAllow at z
      have hs : G.2.2.1.isEmpty = true := by
        rw [List.length_eq_zero_iff.mp (show G.2.2.1.length = 0 by omega)]
        rfl
      rw [hs] at z
      simp [hsort.1] at z
    · unfold gAllow at z
      have : ¬ G.2.2.1.length < 10 := by omega
      simp [hsort.1, this] at z
    · have hne : ¬ G.2.2.1 = [] := by
        intro e
        rw [e] at q
        exact q (by decide)
      have ha := (hV.2 h9).2 hne
      rw [show (12 : Int32) + zi (num : Int) = zi ((12 + num : Nat) : Int) by rw [show (12 : Int32) = zi 12 from rfl, zi_add]; congr 1, zv80_at (by omega), show zi (G.1 3) = zi ((G.1 3).toNat : Int) by congr 1; omega]
      refine s_33 (b := 12 + num) hp hk (Or.inr (Or.inl (by omega))) (by omega) (by omega) hT (fun I1 J1 hT1 f1 g1 => ?_)
      refine yes (gWhen p (12 + num) G (G.1 3).toNat tg) I1 J1 ?_ hT1 f1 g1
      unfold gAllow
      have he : G.2.2.1.isEmpty = false := by
        cases e : G.2.2.1 with
        | nil => exact absurd e hne
        | cons _ _ => rfl
      have h10 : G.2.2.1.length < 10 := by omega
      cases gWhen p (12 + num) G (G.1 3).toNat tg <;> simp [h9, hsort.1, he, h10]
  · have hsort : sort = 0 ∧ num < gPc p 3 := by omega
    refine ⟨fun q => no (fun z => ?_), fun q => ?_⟩
    · unfold gAllow at z
      have he : G.2.2.1.isEmpty = false := by
        cases e : G.2.2.1 with
        | nil => rw [e] at q; exact absurd rfl q
        | cons _ _ => rfl
      simp [hsort.1, he] at z
    · have hse : G.2.2.1.isEmpty = true := by
        rw [List.length_eq_zero_iff.mp (show G.2.2.1.length = 0 by omega)]
        rfl
      rw [show zi (G.1 2) = zi ((G.1 2).toNat : Int) by congr 1; omega, zv78_at (by omega), hp.2.2.1 _ (by omega)]
      by_cases cm : ((gPa p (G.1 2).toNat >>> (zi (num : Int) &&& 31)) &&& 1) = 1
      · rw [if_pos cm]
        refine ⟨fun q => absurd q (by decide), fun _ => ?_⟩
        rw [zv80_at (by omega), show zi (G.1 1) = zi ((G.1 1).toNat : Int) by congr 1; omega]
        refine s_33 (b := num) hp hk (Or.inl (by omega)) (by omega) (by omega) hT (fun I1 J1 hT1 f1 g1 => ?_)
        refine yes (gWhen p num G (gT G) tg) I1 J1 ?_ hT1 f1 g1
        unfold gAllow
        cases gWhen p num G (gT G) tg <;> simp [h9, hsort.1, hse, cm]
      · rw [if_neg cm]
        refine ⟨fun _ => no (fun z => ?_), fun q => absurd (by decide) q⟩
        unfold gAllow at z
        simp [hsort.1, cm] at z
  · unfold gAllow at q
    simp [h9] at q
end CGame8
