/-! ===== the reference's meaning: new items, whole numbers in a range ===== -/
/-- numbers of at most four digits -/
def qTv (T : qTk) : Prop := ∀ k, T.1 k = 3 → ∃ m : Nat, m ≤ 9999 ∧ T.2.2.1 k = (zi (m : Int)).toInt64
section MMean2
variable {RO : zRo} {d : Nat} {P : zP} {I : zI} {J : zJ} {D : zD} {bc bs : Nat} {T : qTk} {tb : List (Int64 × Nat × Nat)} {mn ct k dp a j c : Nat} {I0 : zI} {J0 : zJ}
theorem s_137b {w : Int64} (ht : qTb tb I J) (K : ∀ v, (v = -1 ↔ ∀ i, i < tb.length → ¬ (tb.getD i (0, 0, 0)).1 = w) → P (.inl (some (.int v))) I J D) : ∀ (m i : Nat), i + m = tb.length → (∀ j, j < i → ¬ (tb.getD j (0, 0, 0)).1 = w) → zw RO d 137 P 3 [(0, .ref 34), (1, .int (zi (tb.length : Int))), (2, .long w), (4, .int (zi (i : Int)))] [] I J D bc bs
  | 0, i, hi, h => by
    have hl := ht.1
    refine wl_137b_3 ⟨fun _ => K _ ⟨fun _ j hj => h j (by omega), fun _ => rfl⟩, fun q => absurd (by rw [zi_le (by omega) (by omega)]; omega) q⟩
  | m + 1, i, hi, h => by
    have hl := ht.1
    have cl : (zi (i : Int)).toNatClampNeg = i := by rw [zi_cl (by omega) (by omega)]; omega
    refine wl_137b_3 ⟨fun q => absurd q (by rw [zi_le (by omega) (by omega)]; omega), fun _ => ⟨zi_in (by omega) (by omega) (by omega), ?_⟩⟩
    rw [cl, (ht.2.2 i (by omega)).1]
    refine ⟨fun q => ?_, fun q => ?_⟩
    · rw [zi_succ]
      refine s_137b ht K m (i + 1) (by omega) (fun j hj => ?_)
      by_cases e : j = i
      · rw [e]
        exact q
      · exact h j (by omega)
    · refine K _ ⟨fun z => ?_, fun z => absurd (z i (by omega)) q⟩
      rw [show (-1 : Int32) = zi (-1) from rfl, zi_eq (by omega) (by omega)] at z
      omega
theorem tb_any {w : Int64} : (tb.any (fun q => decide (q.1 = w)) = true) ↔ ¬ ∀ i, i < tb.length → ¬ (tb.getD i (0, 0, 0)).1 = w := by
  constructor
  · intro h
    obtain ⟨q, h1, h2⟩ := List.any_eq_true.mp h
    obtain ⟨i, hi, e⟩ := List.getElem_of_mem h1
    intro z
    refine z i hi ?_
    rw [List.getD_eq_getElem?_getD, List.getElem?_eq_getElem hi]
    show (tb[i]).1 = w
    rw [e]
    exact of_decide_eq_true h2
  · intro h
    by_cases z : tb.any (fun q => decide (q.1 = w)) = true
    · exact z
    · refine absurd (fun i hi e => z ?_) h
      refine List.any_eq_true.mpr ⟨tb[i], List.getElem_mem hi, decide_eq_true ?_⟩
      rw [List.getD_eq_getElem?_getD, List.getElem?_eq_getElem hi] at e
      exact e
theorem s_166 {num : Nat} (hw : qTw T) (ht : qTm T I J) (h24 : I 28 24 = zi (k : Int)) (h25 : I 28 25 = zi (mn : Int)) (hm : mn = 0 ∨ mn = 1) (hn : k < T.2.2.2) (hc : 4 ≤ c ∧ c ≤ 9) (htb : qTb tb I J) (h37 : I 37 (qkm c) = zi (num : Int)) (hln : mn = 1 → tb.length < 46)
    (Hf : ¬ T.1 k = 2 → (1 ≤ bc ∧ 8 ≤ bs) ∧ P (.inr (3, 1, zi (T.2.1 k : Int))) I J D) (He : T.1 k = 2 → mn = 1 → tb.any (fun q => decide (q.1 = T.2.2.1 k)) = true → (1 ≤ bc ∧ 8 ≤ bs) ∧ P (.inr (3, 3, zi (T.2.1 k : Int))) I J D)
    (Hk : T.1 k = 2 → (mn = 1 → ¬ tb.any (fun q => decide (q.1 = T.2.2.1 k)) = true) → ∀ I' J', I' 28 24 = zi ((k + 1 : Nat) : Int) → zfm [8, 24] [35, 36] I I' → zfr [34] J J' → qTb (if mn = 1 then tb ++ [(T.2.2.1 k, qkm c, num)] else tb) I' J' → P (.inl none) I' J' D) : zz RO (d + 3) 166 [.ref 28, .int (zi (qkm c : Int))] I J D bc bs P := by
  have hN := hw.2.1
  obtain ⟨o, h1, h2⟩ := n_148 (a := 2) hw ht h24 hn (by omega)
  have vi := n_in hw h24 hn
  refine w_166 (d := d + 1) ⟨o, fun q => ?_, fun q => ?_⟩
  · have c2 : T.1 k = 2 := by
      by_cases z : T.1 k = 2
      · exact z
      · exact absurd (h1.mpr z) q
    have clk : (zi (k : Int)).toNatClampNeg = k := by rw [zi_cl (by omega) (by omega)]; omega
    have hl := htb.1
    refine ⟨vi, ?_⟩
    have ew : J 33 ((I 28 24).toNatClampNeg) = T.2.2.1 k := by
      rw [h24, clk]
      exact (ht.2 k hn).2.2 (Or.inl c2)
    rw [ew, htb.2.1]
    refine w_137b (d := d + 1) ?_
    refine s_137b htb (fun v hv => ?_) tb.length 0 (by omega) (fun j hj => absurd hj (Nat.not_lt_zero j))
    have lq : qkm c ≤ 7 := by
      unfold qkm
      (repeat' split) <;> omega
    have clc : (zi (qkm c : Int)).toNatClampNeg = qkm c := by rw [zi_cl (by omega) (by omega)]; omega
    have cll : (zi (tb.length : Int)).toNatClampNeg = tb.length := by rw [zi_cl (by omega) (by omega)]; omega
    -- what follows
    have K : (mn = 1 → ¬ tb.any (fun q => decide (q.1 = T.2.2.1 k)) = true) → (((I 28 25) = 0 → P (.inl none) (zu I 28 24 ((I 28 24) + 1)) J D) ∧ (¬ ((I 28 25) = 0) → (vp_in (I 28 24) 452 ∧ (vp_in (I 28 8) 46 ∧ (vp_in (I 28 8) 46 ∧ (vp_in (zi (qkm c : Int)) 9 ∧ (vp_in (I 28 8) 46 ∧ P (.inl none) (zu (zu (zu (zu I 35 ((I 28 8).toNatClampNeg) (zi (qkm c : Int))) 36 ((I 28 8).toNatClampNeg) (I 37 (zi (qkm c : Int)).toNatClampNeg)) 28 8 ((I 28 8) + 1)) 28 24 ((I 28 24) + 1)) (zu J 34 ((I 28 8).toNatClampNeg) (J 33 ((I 28 24).toNatClampNeg))) D))))))) := by
      intro hz
      rcases hm with m0 | m1
      · refine ⟨fun _ => ?_, fun q => absurd (by rw [h25, m0]; rfl) q⟩
        refine Hk c2 hz _ _ (by rw [zu_s, h24, zi_succ]) (zfm_z (zfm_refl _) _ _ (by decide)) (zfr_refl _) ?_
        rw [if_neg (by omega)]
        unfold qTb
        rw [zu_n _ _ (by omega), zu_row _ _ (by decide), zu_row _ _ (by decide)]
        exact htb
      · refine ⟨fun q => absurd q (by rw [h25, m1]; decide), fun _ => ?_⟩
        have hl2 := hln m1
        rw [ew, htb.2.1, cll, clc, h37]
        have vl : vp_in (zi (tb.length : Int)) 46 := zi_in (by omega) (by omega) (by omega)
        refine ⟨vi, vl, vl, zi_in (by omega) (by omega) (by omega), vl, ?_⟩
        refine Hk c2 hz _ _ (by rw [zu_s, h24, zi_succ]) (zfm_z (zfm_z (zfm_zu (zfm_zu (zfm_refl _) _ _ (by decide) (by decide)) _ _ (by decide) (by decide)) _ _ (by decide)) _ _ (by decide)) (zfr_zu (zfr_refl _) _ _ (by simp)) ?_
        rw [if_pos m1]
        refine ⟨by rw [List.length_append, List.length_singleton]; omega, ?_, fun i hi => ?_⟩
        · rw [zu_n _ _ (by omega), zu_s, zi_succ, List.length_append, List.length_singleton]
        · rw [List.length_append, List.length_singleton] at hi
          rw [zgd_app]
          by_cases z : i < tb.length
          · rw [if_pos z]
            have w := htb.2.2 i z
            refine ⟨by rw [zu_n _ _ (by omega)]; exact w.1, ?_, ?_, w.2.2.2⟩
            · rw [zu_n _ _ (by omega), zu_n _ _ (by omega), zu_n _ _ (by omega), zu_n _ _ (by omega)]
              exact w.2.1
            · rw [zu_n _ _ (by omega), zu_n _ _ (by omega), zu_n _ _ (by omega), zu_n _ _ (by omega)]
              exact w.2.2.1
          · have ei : i = tb.length := by omega
            rw [if_neg z, if_pos ei, ei]
            refine ⟨zu_s _ _ _ _, ?_, ?_, by show qkm c ≤ 10; omega⟩
            · rw [zu_n _ _ (by omega), zu_n _ _ (by omega), zu_n _ _ (by omega), zu_s]
            · rw [zu_n _ _ (by omega), zu_n _ _ (by omega), zu_s]
    show _ ∧ _
    have pl := n_pl ht h24 hw hn
    refine ⟨fun q1 => ⟨vi, ?_⟩, fun q1 => ⟨vi, 0, 0, Nat.zero_le _, Nat.zero_le _, s_150t (Or.inr (by decide)) (K (fun _ z => absurd (hv.mpr (by
      by_cases y : v = -1
      · exact hv.mp y
      · exact absurd y q1)) (fun y => (tb_any.mp z) (hv.mp y))))⟩⟩
    have taken : tb.any (fun q => decide (q.1 = T.2.2.1 k)) = true := tb_any.mpr (fun z => q1 (hv.mpr z))
    rcases hm with m0 | m1
    · exact ⟨0, 0, Nat.zero_le _, Nat.zero_le _, s_150t (Or.inl (by rw [h25, m0]; rfl)) (K (fun z => by omega))⟩
    · obtain ⟨b1, b2⟩ := He c2 m1 taken
      refine ⟨bc, bs, Nat.le_refl _, Nat.le_refl _, ?_⟩
      rw [pl]
      exact s_150f (by rw [h25, m1]; rfl) rfl b1 b2
  · have c2 : ¬ T.1 k = 2 := fun z => q (fun w => h1.mp w z)
    obtain ⟨b1, b2⟩ := Hf c2
    refine ⟨b1, vi, ?_⟩
    rw [n_pl ht h24 hw hn]
    exact b2
theorem Int64_small {m : Nat} (h : m ≤ 9999) : ((zi (m : Int)).toInt64).toInt32 = zi (m : Int) ∧ (-((zi (m : Int)).toInt64)).toInt32 = zi (-(m : Int)) := by
  have e1 : (zi (m : Int)).toInt64 = Int64.ofInt (m : Int) := zi_L (by omega) (by omega)
  rw [e1]
  refine ⟨?_, ?_⟩
  · apply Int32.toInt_inj.mp
    rw [zi_toInt (by omega) (by omega), Int64.toInt_toInt32, Int64.toInt_ofInt_of_le (by omega) (by omega)]
    exact Int.bmod_eq_of_le (by omega) (by omega)
  · rw [← Int64.ofInt_neg]
    apply Int32.toInt_inj.mp
    rw [zi_toInt (by omega) (by omega), Int64.toInt_toInt32, Int64.toInt_ofInt_of_le (by omega) (by omega)]
    exact Int.bmod_eq_of_le (by omega) (by omega)
/-- a whole number within two others -/
theorem s_167 {lo hi : Int} {r : Nat ⊕ (Nat × Unit)} (hw : qTw T) (hv : qTv T) (h : pWh T.1 k = some r) (ht : qTm T I J) (h24 : I 28 24 = zi (k : Int)) (h25 : I 28 25 = zi (mn : Int)) (hm : mn = 0 ∨ mn = 1) (hn : k < T.2.2.2) (hk1 : ¬ T.1 (k - 1) = 43) (hlo : -100000 ≤ lo ∧ lo ≤ 100000) (hhi : -100000 ≤ hi ∧ hi ≤ 100000)
    (Hf : ∀ j, r = .inl j → (1 ≤ bc ∧ 8 ≤ bs) ∧ ∀ I', zfm [24] [] I I' → P (.inr (3, 1, zi (T.2.1 j : Int))) I' J D) (He : ∀ q, r = .inr q → mn = 1 → ¬ (lo ≤ qWv T (q.1 - 1) ∧ qWv T (q.1 - 1) ≤ hi) → (1 ≤ bc ∧ 8 ≤ bs) ∧ ∀ I', zfm [24] [] I I' → P (.inr (3, 5, zi (T.2.1 (q.1 - 1) : Int))) I' J D)
    (Hk : ∀ q, r = .inr q → (mn = 1 → lo ≤ qWv T (q.1 - 1) ∧ qWv T (q.1 - 1) ≤ hi) → -9999 ≤ qWv T (q.1 - 1) ∧ qWv T (q.1 - 1) ≤ 9999 → ∀ I', I' 28 24 = zi (q.1 : Int) → zfm [24] [] I I' → P (.inl (some (.int (zi (qWv T (q.1 - 1)))))) I' J D) : zz RO (d + 3) 167 [.ref 28, .int (zi lo), .int (zi hi)] I J D bc bs P := by
  have hN := hw.2.1
  -- the number at j
  have A : ∀ (j : Nat) (I1 : zI) (v1 : Int32), I1 28 24 = zi (j : Int) → zfm [24] [] I I1 → j < T.2.2.2 → (v1 = 0 ∧ ¬ T.1 (j - 1) = 43 ∨ v1 = 1 ∧ T.1 (j - 1) = 43) → pT T.1 3 j = some r → (zo_148 I1 J 201 ∧ ((¬ (zv_148 I1 J 201) = 0 → ((v1 = 0 → (vp_in (I1 28 24) 452 ∧ (vp_in (I1 28 24) 452 ∧ (∃ c2 s2, c2 ≤ bc ∧ s2 ≤ bs ∧ zz RO (d + 2) 150 [.ref 28, .int (zv_136 I1 J (((J 33 ((I1 28 24).toNatClampNeg)).toInt32).toInt64) (zi lo).toInt64 (zi hi).toInt64), .int 5, .int (I1 32 ((I1 28 24).toNatClampNeg))] I1 J D c2 s2 (zNv P fun I2 J2 D2 => P (.inl (some (.int ((J 33 ((I1 28 24).toNatClampNeg)).toInt32)))) (zu I2 28 24 ((I2 28 24) + 1)) J2 D2))))) ∧ (¬ (v1 = 0) → (vp_in (I1 28 24) 452 ∧ (vp_in (I1 28 24) 452 ∧ (∃ c3 s3, c3 ≤ bc ∧ s3 ≤ bs ∧ zz RO (d + 2) 150 [.ref 28, .int (zv_136 I1 J (((-(J 33 ((I1 28 24).toNatClampNeg))).toInt32).toInt64) (zi lo).toInt64 (zi hi).toInt64), .int 5, .int (I1 32 ((I1 28 24).toNatClampNeg))] I1 J D c3 s3 (zNv P fun I3 J3 D3 => P (.inl (some (.int ((-(J 33 ((I1 28 24).toNatClampNeg))).toInt32)))) (zu I3 28 24 ((I3 28 24) + 1)) J3 D3))))))) ∧ (¬ (¬ (zv_148 I1 J 201) = 0) → ((1 ≤ bc ∧ 8 ≤ bs) ∧ vp_in (I1 28 24) 452 ∧ P (.inr (3, 1, I1 32 ((I1 28 24).toNatClampNeg))) I1 J D)))) := by
    intro j I1 v1 e24 f1 hj hv1 hp
    have t1 : qTm T I1 J := by
      unfold qTm
      rw [f1.2 4 (by decide), f1.1 31 (by decide) (by decide), f1.1 32 (by decide) (by decide)]
      exact ht
    have m1 : I1 28 25 = zi (mn : Int) := by rw [f1.2 25 (by decide)]; exact h25
    obtain ⟨o, h1, h2⟩ := n_148 (a := 3) hw t1 e24 hj (by omega)
    have vi := n_in hw e24 hj
    have clj : (zi (j : Int)).toNatClampNeg = j := by rw [zi_cl (by omega) (by omega)]; omega
    unfold pT at hp
    by_cases c3 : T.1 j = 3
    · rw [if_pos c3] at hp
      have er := pO_inv hp
      obtain ⟨m, hm9, em⟩ := hv j c3
      obtain ⟨s1, s2⟩ := Int64_small hm9
      have ew : J 33 ((I1 28 24).toNatClampNeg) = (zi (m : Int)).toInt64 := by
        rw [e24, clj, (t1.2 j hj).2.2 (Or.inr c3), em]
      have step : ∀ x : Int, qWv T j = x → -9999 ≤ x ∧ x ≤ 9999 → ∃ c2 s2, c2 ≤ bc ∧ s2 ≤ bs ∧ zz RO (d + 2) 150 [.ref 28, .int (zv_136 I1 J (zi x).toInt64 (zi lo).toInt64 (zi hi).toInt64), .int 5, .int (I1 32 ((I1 28 24).toNatClampNeg))] I1 J D c2 s2 (zNv P fun I2 J2 D2 => P (.inl (some (.int (zi x)))) (zu I2 28 24 ((I2 28 24) + 1)) J2 D2) := by
        intro x hx hx9
        have e136 : zv_136 I1 J (zi x).toInt64 (zi lo).toInt64 (zi hi).toInt64 = if lo ≤ x ∧ x ≤ hi then 1 else 0 := n_136 (by omega) hlo hhi
        rw [e136]
        have eq1 : (j + 1 - 1) = j := by omega
        have K : (mn = 1 → lo ≤ x ∧ x ≤ hi) → P (.inl (some (.int (zi x)))) (zu I1 28 24 ((I1 28 24) + 1)) J D := fun z => by
          have := Hk (j + 1, ()) er (by
            show mn = 1 → lo ≤ qWv T (j + 1 - 1) ∧ qWv T (j + 1 - 1) ≤ hi
            rw [eq1, hx]
            exact z) (by
            show -9999 ≤ qWv T (j + 1 - 1) ∧ qWv T (j + 1 - 1) ≤ 9999
            rw [eq1, hx]
            exact hx9) (zu I1 28 24 ((I1 28 24) + 1)) (by rw [zu_s, e24, zi_succ]) (zfm_z f1 _ _ (by decide))
          have e9 : qWv T ((j + 1, ()).1 - 1) = x := by
            show qWv T (j + 1 - 1) = x
            rw [eq1, hx]
          rw [e9] at this
          exact this
        by_cases z : lo ≤ x ∧ x ≤ hi
        · rw [if_pos z]
          exact ⟨0, 0, Nat.zero_le _, Nat.zero_le _, s_150t (Or.inr (by decide)) (K (fun _ => z))⟩
        · rw [if_neg z]
          rcases hm with n0 | n1
          · exact ⟨0, 0, Nat.zero_le _, Nat.zero_le _, s_150t (Or.inl (by rw [m1, n0]; rfl)) (K (fun z => by omega))⟩
          · have := He (j + 1, ()) er n1 (by
              show ¬ (lo ≤ qWv T (j + 1 - 1) ∧ qWv T (j + 1 - 1) ≤ hi)
              rw [eq1, hx]
              exact z)
            refine ⟨bc, bs, Nat.le_refl _, Nat.le_refl _, ?_⟩
            rw [n_pl t1 e24 hw hj]
            refine s_150f (by rw [m1, n1]; rfl) rfl this.1 ?_
            have q9 := this.2 I1 f1
            rw [show ((j + 1, ()) : Nat × Unit).1 - 1 = j from eq1] at q9
            exact q9
      refine ⟨o, fun _ => ?_, fun q => absurd (fun z => h1.mp z c3) q⟩
      rw [ew, s1, s2]
      rcases hv1 with ⟨a1, a2⟩ | ⟨a1, a2⟩
      · refine ⟨fun _ => ⟨vi, vi, step (m : Int) ?_ (by omega)⟩, fun q => absurd a1 q⟩
        unfold qWv
        rw [if_neg a2, em, s1, zi_toInt (by omega) (by omega)]
      · refine ⟨fun q => absurd q (by rw [a1]; decide), fun _ => ⟨vi, vi, step (-(m : Int)) ?_ (by omega)⟩⟩
        unfold qWv
        rw [if_pos a2, em, s1, zi_toInt (by omega) (by omega)]
    · rw [if_neg c3] at hp
      have er := pF_inv hp
      obtain ⟨b1, b2⟩ := Hf j er
      refine ⟨o, fun q => absurd (h1.mpr c3) q, fun _ => ⟨b1, vi, ?_⟩⟩
      rw [n_pl t1 e24 hw hj]
      exact b2 I1 f1
  unfold pWh at h
  refine w_167 (d := d + 1) ?_
  by_cases c1 : T.1 k = 43
  · rw [if_pos c1] at h
    have hlt := qTw_lt hw (k := k) (by omega)
    refine s_152t (d := d) (a := 43) hw ht h24 hn (by omega) c1 (fun I1 e24 f1 => ?_)
    exact A (k + 1) I1 1 e24 f1 hlt (Or.inr ⟨rfl, by rw [Nat.add_sub_cancel]; exact c1⟩) h
  · rw [if_neg c1] at h
    refine s_152f (d := d) (a := 43) hw ht h24 hn (by omega) c1 ?_
    exact A k I 0 h24 (zfm_refl _) hn (Or.inl ⟨rfl, hk1⟩) h
end MMean2
