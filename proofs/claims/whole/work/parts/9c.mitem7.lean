/-! ===== the reference's items: how each begins and ends ===== -/
theorem qIm_len {T : qTk} : ∀ k, (qIm T (k + 1)).length ≤ qCn T.1 4 k + qCn T.1 5 k + qCn T.1 6 k + qCn T.1 7 k + qCn T.1 8 k + qCn T.1 9 k
  | 0 => by
    show (if 1 ≤ 0 ∧ _ then _ else qIm T 0).length ≤ _
    rw [if_neg (by omega)]
    exact Nat.zero_le _
  | k + 1 => by
    have ih := qIm_len (T := T) k
    have l4 := qCn_le (s := T.1) (c := 4) (show k ≤ k + 1 by omega)
    have l5 := qCn_le (s := T.1) (c := 5) (show k ≤ k + 1 by omega)
    have l6 := qCn_le (s := T.1) (c := 6) (show k ≤ k + 1 by omega)
    have l7 := qCn_le (s := T.1) (c := 7) (show k ≤ k + 1 by omega)
    have l8 := qCn_le (s := T.1) (c := 8) (show k ≤ k + 1 by omega)
    have l9 := qCn_le (s := T.1) (c := 9) (show k ≤ k + 1 by omega)
    show (if 1 ≤ k + 1 ∧ 4 ≤ T.1 (k + 1 - 1) ∧ T.1 (k + 1 - 1) ≤ 9 then qIm T (k + 1) ++ [_] else qIm T (k + 1)).length ≤ _
    rw [Nat.add_sub_cancel]
    by_cases z : 1 ≤ k + 1 ∧ 4 ≤ T.1 k ∧ T.1 k ≤ 9
    · rw [if_pos z, List.length_append, List.length_singleton]
      have e : ∀ c, qCn T.1 c (k + 1) = if T.1 k = c then qCn T.1 c k + 1 else qCn T.1 c k := fun c => rfl
      have hz : T.1 k = 4 ∨ T.1 k = 5 ∨ T.1 k = 6 ∨ T.1 k = 7 ∨ T.1 k = 8 ∨ T.1 k = 9 := by omega
      rw [e 4, e 5, e 6, e 7, e 8, e 9]
      rcases hz with z | z | z | z | z | z <;> rw [z] <;> simp <;> omega
    · rw [if_neg z]
      omega
theorem zM1_at {c : Nat} (h : 4 ≤ c ∧ c ≤ 10) : zM1 (qkm c) = zi (qMost (c - 4) : Int) := by
  have : c = 4 ∨ c = 5 ∨ c = 6 ∨ c = 7 ∨ c = 8 ∨ c = 9 ∨ c = 10 := by omega
  rcases this with z | z | z | z | z | z | z <;> rw [z] <;> rfl
theorem qMost_le (c : Nat) : qMost c ≤ 12 := by
  unfold qMost
  (repeat' split) <;> omega
theorem qkm_it {c : Nat} (h : 4 ≤ c ∧ c ≤ 10) : qkm c ≤ 8 := by
  have : c = 4 ∨ c = 5 ∨ c = 6 ∨ c = 7 ∨ c = 8 ∨ c = 9 ∨ c = 10 := by omega
  rcases this with z | z | z | z | z | z | z <;> rw [z] <;> decide
/-- the end of an item: one more of its sort -/
def tTl (P : zP) (l1 : Int32) : zI → zJ → zD → Prop := fun I J D => (((I 28 25) = 0 → P (.inl none) I J D) ∧ (¬ ((I 28 25) = 0) → (vp_in l1 9 ∧ (vp_in l1 9 ∧ P (.inl none) (zu I 37 l1.toNatClampNeg ((I 37 l1.toNatClampNeg) + 1)) J D))))
section MItem7
variable {RO : zRo} {d : Nat} {P : zP} {I : zI} {J : zJ} {D : zD} {bc bs : Nat} {T : qTk} {mn ct k dp a j c : Nat} {I0 : zI} {J0 : zJ}
theorem s_tTl (hc : 4 ≤ c ∧ c ≤ 10) (hm : mn = 0 ∨ mn = 1) (h25 : I 28 25 = zi (mn : Int)) (K0 : mn = 0 → P (.inl none) I J D) (K1 : mn = 1 → P (.inl none) (zu I 37 (qkm c) ((I 37 (qkm c)) + 1)) J D) : tTl P (zi (qkm c : Int)) I J D := by
  have lq := qkm_it hc
  have cl : (zi (qkm c : Int)).toNatClampNeg = qkm c := zi_clk (by omega)
  rcases hm with m0 | m1
  · exact ⟨fun _ => K0 m0, fun q => absurd (show I 28 25 = 0 by rw [h25, m0]; rfl) q⟩
  · refine ⟨fun q => absurd q (by rw [h25, m1]; decide), fun _ => ?_⟩
    rw [cl]
    have vi : vp_in (zi (qkm c : Int)) 9 := zi_in (by omega) (by omega) (by omega)
    exact ⟨vi, vi, K1 m1⟩
/-- an item begins: its keyword, whether there may be one more -/
theorem s_168 {r : Nat ⊕ (Nat × Unit)} (hRO : zROk RO) (hw : qTw T) (hm : mn = 0 ∨ mn = 1) (h : pI T.1 k = some r) (hok : mn = 1 → ∃ q, r = .inr q) (hn : k < T.2.2.2) (hs : qMi T mn I0 J0 k a I J) (h37 : ∀ x, x ≤ 6 → ∃ n : Nat, n ≤ 12 ∧ I 37 (qkm (x + 4)) = zi (n : Int) ∧ (mn = 1 → n = (qMm T k).1 x)) (hpr : (4 ≤ T.1 k ∧ T.1 k ≤ 10) → k < qPos r) (H1 : qTh T P D bc bs I0 J0 (qOut (qEp9 T mn) k r))
    (K : 4 ≤ T.1 k ∧ T.1 k ≤ 10 → (mn = 1 → qEE T k = 0) → ∀ I1 v, I1 28 24 = zi ((k + 1 : Nat) : Int) → zfm [24] [] I I1 → zw RO (d + 3) 168 P 93 [(0, .ref 28), (1, .int (zi (qkm (T.1 k) : Int))), (2, .int v), (3, .int 1)] [] I1 J D bc bs) : zz RO (d + 4) 168 [.ref 28] I J D bc bs P := by
  have hN := hw.2.1
  have hle := qTw_le hw k
  have lq := qkm_le hle
  have vi := n_in hw hs.2.1 hn
  have kd := n_kd hs.1 hs.2.1 hw hn
  have pl := n_pl hs.1 hs.2.1 hw hn
  have e0 : zi (qkm (T.1 k) : Int) = 0 ↔ T.1 k = 4 := by
    rw [show (0 : Int32) = zi ((qkm 4 : Nat) : Int) from rfl, zi_eq (by omega) (by have := qkm_le (c := 4) (by omega); omega), ← qkm_eq hle (by omega : 4 ≤ 51)]
    omega
  have e1 : zi (qkm (T.1 k) : Int) = 1 ↔ T.1 k = 5 := by
    rw [show (1 : Int32) = zi ((qkm 5 : Nat) : Int) from rfl, zi_eq (by omega) (by have := qkm_le (c := 5) (by omega); omega), ← qkm_eq hle (by omega : 5 ≤ 51)]
    omega
  have km : (4 ≤ qkm (T.1 k) ∧ qkm (T.1 k) ≤ 8) ↔ 6 ≤ T.1 k ∧ T.1 k ≤ 10 := by
    unfold qkm
    (repeat' split) <;> omega
  have e136 : zv_136 I J (zi (qkm (T.1 k) : Int)).toInt64 4 8 = if (4 : Int) ≤ qkm (T.1 k) ∧ (qkm (T.1 k) : Int) ≤ 8 then 1 else 0 := n_136 (lo := 4) (hi := 8) (by omega) (by omega) (by omega)
  -- an item
  have yes : 4 ≤ T.1 k ∧ T.1 k ≤ 10 → zw RO (d + 3) 168 P 49 [(0, .ref 28), (1, .int (zi (qkm (T.1 k) : Int))), (2, .int (zi (T.2.1 k : Int))), (3, .int 1)] [] I J D bc bs := by
    intro hc
    have lq8 := qkm_it hc
    have cl : (zi (qkm (T.1 k) : Int)).toNatClampNeg = qkm (T.1 k) := zi_clk (by omega)
    have v9 : vp_in (zi (qkm (T.1 k) : Int)) 9 := zi_in (by omega) (by omega) (by omega)
    obtain ⟨n, hn12, hn37, hnm⟩ := h37 (T.1 k - 4) (by omega)
    rw [show T.1 k - 4 + 4 = T.1 k by omega] at hn37
    have lm := qMost_le (T.1 k - 4)
    have ec : zM1 (qkm (T.1 k)) ≤ I 37 (qkm (T.1 k)) ↔ qMost (T.1 k - 4) ≤ n := by
      rw [zM1_at hc, hn37, zi_le (by omega) (by omega)]
      omega
    have f1 : zfm [24] [] I (zu I 28 24 ((I 28 24) + 1)) := zfm_z (zfm_refl _) _ _ (by decide)
    have e24 : (zu I 28 24 ((I 28 24) + 1)) 28 24 = zi ((k + 1 : Nat) : Int) := by rw [zu_s, hs.2.1, zi_succ]
    have m1e : (zu I 28 24 ((I 28 24) + 1)) 28 25 = zi (mn : Int) := by rw [f1.2 25 (by decide)]; exact hs.2.2.1
    have EE : mn = 1 → qEE T k = if qMost (T.1 k - 4) ≤ n then 4 else 0 := fun m1 => by
      unfold qEE qE1
      rw [if_pos hc, hnm m1]
    refine wl_168_49 (d := d + 2) hRO ⟨fun _ => ⟨v9, v9, ?_⟩, fun q => absurd (by decide) q⟩
    rw [cl]
    refine ⟨fun q => ?_, fun q => ?_⟩
    · rcases hm with m0 | m1
      · refine wl_168_88 ⟨0, 0, Nat.zero_le _, Nat.zero_le _, s_150t (Or.inl (by rw [m1e, m0]; rfl)) ?_⟩
        exact K hc (fun z => by omega) _ _ e24 f1
      · have hE := EE m1
        rw [if_pos (ec.mp q)] at hE
        have := qTh_e (e := 4) (j := k) m1 (fun i h1 h2 => by omega) hE (by omega) ⟨Nat.le_refl _, hpr hc⟩ H1
        refine wl_168_88 ⟨bc, bs, Nat.le_refl _, Nat.le_refl _, ?_⟩
        exact s_150f (by rw [m1e, m1]; rfl) rfl this.1 (this.2 _ J (zfm_trans hs.2.2.2.2.2.1 (zfm_sub f1 (by simp) (by simp))) hs.2.2.2.2.2.2)
    · refine wl_168_88 ⟨0, 0, Nat.zero_le _, Nat.zero_le _, s_150t (Or.inr (by decide)) ?_⟩
      refine K hc (fun m1 => ?_) _ _ e24 f1
      rw [EE m1, if_neg (fun z => q (ec.mpr z))]
  refine w_168 (d := d + 2) ⟨vi, vi, ?_⟩
  rw [kd, e136, pl]
  refine ⟨fun q => yes (by have := e0.mp q; omega), fun q => ⟨fun q2 => yes (by have := e1.mp q2; omega), fun q2 => ?_⟩⟩
  by_cases c3 : 6 ≤ T.1 k ∧ T.1 k ≤ 10
  · rw [if_pos (by have := km.mpr c3; omega)]
    exact ⟨fun z => absurd z (by decide), fun _ => yes (by omega)⟩
  · rw [if_neg (fun z => c3 (km.mp (by omega)))]
    refine ⟨fun _ => ?_, fun z => absurd rfl z⟩
    have n4 : ¬ T.1 k = 4 := fun z => q (e0.mpr z)
    have n5 : ¬ T.1 k = 5 := fun z => q2 (e1.mpr z)
    unfold pI at h
    rw [if_neg (by omega), if_neg (by omega)] at h
    have er := pF_inv h
    have b := qTh_f hm hok H1 k er
    refine wl_168_49 (d := d + 2) hRO ⟨fun z => absurd rfl z, fun _ => ⟨b.1, vi, ?_⟩⟩
    rw [pl]
    exact b.2 I J hs.2.2.2.2.2.1 hs.2.2.2.2.2.2
end MItem7
