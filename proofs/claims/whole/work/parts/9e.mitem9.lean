/-! ===== the reference's items: a name ===== -/
section MItem9
variable {RO : zRo} {d : Nat} {P : zP} {I : zI} {J : zJ} {D : zD} {bc bs : Nat} {T : qTk} {mn ct k dp a j c : Nat} {I0 : zI} {J0 : zJ} {ok : Prop}
theorem qIm_46 {T : qTk} {k : Nat} (hc : 4 ≤ T.1 k ∧ T.1 k ≤ 9) (h : ∀ i, i < k + 1 → qEE T i = 0) : (qIm T (k + 1)).length < 46 := by
  have l := qIm_len (T := T) k
  have e : ∀ c, qCn T.1 c (k + 1) = if T.1 k = c then qCn T.1 c k + 1 else qCn T.1 c k := fun c => rfl
  have m0 := qCn_most (T := T) (c := 0) (k := k + 1) (by omega) h
  have m1 := qCn_most (T := T) (c := 1) (k := k + 1) (by omega) h
  have m2 := qCn_most (T := T) (c := 2) (k := k + 1) (by omega) h
  have m3 := qCn_most (T := T) (c := 3) (k := k + 1) (by omega) h
  have m4 := qCn_most (T := T) (c := 4) (k := k + 1) (by omega) h
  have m5 := qCn_most (T := T) (c := 5) (k := k + 1) (by omega) h
  rw [e] at m0 m1 m2 m3 m4 m5
  have q0 : qMost 0 = 6 := rfl
  have q1 : qMost 1 = 6 := rfl
  have q2 : qMost 2 = 6 := rfl
  have q3 : qMost 3 = 12 := rfl
  have q4 : qMost 4 = 8 := rfl
  have q5 : qMost 5 = 8 := rfl
  rw [q0] at m0
  rw [q1] at m1
  rw [q2] at m2
  rw [q3] at m3
  rw [q4] at m4
  rw [q5] at m5
  have hz : T.1 k = 4 ∨ T.1 k = 5 ∨ T.1 k = 6 ∨ T.1 k = 7 ∨ T.1 k = 8 ∨ T.1 k = 9 := by omega
  rcases hz with z | z | z | z | z | z <;> rw [z] at m0 m1 m2 m3 m4 m5 <;> simp at m0 m1 m2 m3 m4 m5 <;> omega
theorem s_nw {N : Nat} {I1 : zI} {Q : Nat → Nat → zI → zJ → zD → Prop} {F : Nat → Unit → zRs Unit} {r : Nat ⊕ (Nat × Unit)} (hw : qTw T) (hm : mn = 0 ∨ mn = 1) (hc : 4 ≤ T.1 k ∧ T.1 k ≤ 9) (h : pB (pT T.1 2 (k + 1)) F = some r) (hok : mn = 1 → ∃ q, r = .inr q) (hn : k < T.2.2.2) (hs : qMi T mn I0 J0 k a I J) (h37 : I 37 (qkm (T.1 k)) = zi (N : Int)) (hN : mn = 1 → N = (qMm T k).1 (T.1 k - 4)) (hcl : mn = 1 → ∀ i, i < k → qEE T i = 0) (hE : mn = 1 → qEE T k = 0) (hkp : 1 ≤ k → ¬ (4 ≤ T.1 (k - 1) ∧ T.1 (k - 1) ≤ 9)) (hp : T.1 (k + 1) = 2 → k + 2 ≤ qPos r) (H1 : qTh T P D bc bs I0 J0 (qOut (qEp9 T mn) k r)) (e1 : I1 28 24 = zi ((k + 1 : Nat) : Int)) (f1 : zfm [24] [] I I1)
    (K : T.1 (k + 1) = 2 → (mn = 1 → ∀ i, i < k + 2 → qEE T i = 0) → F (k + 2) () = some r → qOut (qEp9 T mn) k r = qOut (qEp9 T mn) (k + 2) r → ∀ I2 J2, qMi T mn I0 J0 (k + 2) a I2 J2 → zfm [8, 24] [35, 36] I I2 → Q 0 0 I2 J2 D) :
    ∃ c s, c ≤ bc ∧ s ≤ bs ∧ zz RO (d + 3) 166 [.ref 28, .int (zi (qkm (T.1 k) : Int))] I1 J D c s (zNv P fun I2 J2 D2 => Q c s I2 J2 D2) := by
  have hN2 := hw.2.1
  have hlt := qTw_lt hw (k := k) (by omega)
  obtain ⟨y, hy, y1, y2⟩ := pB_cases h
  have ff : ∀ j, r = .inl j → (1 ≤ bc ∧ 8 ≤ bs) ∧ ∀ I' J', rfr I0 I' → rfj J0 J' → P (.inr (3, 1, zi (T.2.1 j : Int))) I' J' D := qTh_f hm hok H1
  have hr1 : rfr I0 I1 := zfm_trans hs.2.2.2.2.2.1 (zfm_sub f1 (by simp) (by simp))
  have t1 : qTm T I1 J := qTm_n hs.1 f1
  have h25 : I1 28 25 = zi (mn : Int) := by rw [f1.2 25 (by decide)]; exact hs.2.2.1
  have et : qTb9 T mn (k + 1) = qTb9 T mn k := qTb9_1 hkp
  have b1 : qTb (qTb9 T mn (k + 1)) I1 J := by
    rw [et]
    unfold qTb
    rw [f1.2 8 (by decide), f1.1 35 (by decide) (by decide), f1.1 36 (by decide) (by decide)]
    exact hs.2.2.2.2.1
  have hcl1 : mn = 1 → ∀ i, i < k + 1 → qEE T i = 0 := fun z i hi => by
    by_cases e : i = k
    · rw [e]
      exact hE z
    · exact hcl z i (by omega)
  have h371 : I1 37 (qkm (T.1 k)) = zi (N : Int) := by rw [f1.1 37 (by decide) (by decide)]; exact h37
  have hln : mn = 1 → (qTb9 T mn (k + 1)).length < 46 := fun z => by
    unfold qTb9
    rw [if_pos z]
    exact qIm_46 hc (hcl1 z)
  have EE : T.1 (k + 1) = 2 → qEE T (k + 1) = if qTn T (k + 1) = true then 3 else 0 := fun z => by
    unfold qEE qE1
    rw [if_neg (by omega), if_pos z, Nat.add_sub_cancel, if_pos hc]
  have en : mn = 1 → qTn T (k + 1) = (qTb9 T mn (k + 1)).any (fun q => decide (q.1 = T.2.2.1 (k + 1))) := fun z => by
    unfold qTb9 qTn
    rw [if_pos z]
  by_cases bad : ¬ T.1 (k + 1) = 2 ∨ mn = 1 ∧ qTn T (k + 1) = true
  · refine ⟨bc, bs, Nat.le_refl _, Nat.le_refl _, ?_⟩
    refine s_166 (d := d) hw t1 e1 h25 hm hlt hc b1 h371 hln (fun z => ?_) (fun z m1 q => ?_) (fun z q => ?_)
    · unfold pT at hy
      rw [if_neg z] at hy
      have b := ff (k + 1) (y1 (k + 1) (pF_inv hy))
      exact ⟨b.1, b.2 I1 J hr1 hs.2.2.2.2.2.2⟩
    · have hE3 := EE z
      rw [if_pos ((en m1).trans q)] at hE3
      have b := qTh_e (e := 3) (j := k + 1) m1 (fun i _ h2 => hcl1 m1 i h2) hE3 (by omega) ⟨by omega, by have := hp z; omega⟩ H1
      exact ⟨b.1, b.2 I1 J hr1 hs.2.2.2.2.2.2⟩
    · rcases bad with z2 | ⟨m1, z2⟩
      · exact absurd z z2
      · exact absurd ((en m1).symm.trans z2) (q m1)
  · have c2 : T.1 (k + 1) = 2 := by
      by_cases z : T.1 (k + 1) = 2
      · exact z
      · exact absurd (Or.inl z) bad
    have nb : mn = 1 → ¬ qTn T (k + 1) = true := fun m1 z => bad (Or.inr ⟨m1, z⟩)
    refine ⟨0, 0, Nat.zero_le _, Nat.zero_le _, ?_⟩
    refine s_166 (d := d) hw t1 e1 h25 hm hlt hc b1 h371 hln (fun z => absurd c2 z) (fun z m1 q => absurd ((en m1).trans q) (nb m1)) (fun z q I2 J2 e2 f2 g2 b2 => ?_)
    have hcl2 : mn = 1 → ∀ i, i < k + 2 → qEE T i = 0 := fun z i hi => by
      by_cases e : i = k + 1
      · rw [e, EE c2, if_neg (nb z)]
      · exact hcl1 z i (by omega)
    unfold pT at hy
    rw [if_pos c2] at hy
    have hF : F (k + 2) () = some r := y2 (k + 2, ()) (pO_inv hy)
    have f02 : zfm [8, 24] [35, 36] I I2 := zfm_trans (zfm_sub f1 (by simp) (by simp)) f2
    refine K c2 hcl2 hF (qOut_step (fun j h1 h2 => ?_) ⟨by omega, hp c2⟩) I2 J2 ⟨?_, e2, ?_, ?_, ?_, ?_, ?_⟩ f02
    · unfold qEp9
      split
      · rename_i m1
        exact hcl2 m1 j h2
      · rfl
    · exact qTm_fr t1 (zfm_sub f2 (by simp) (by simp)) (zfr_sub g2 (by simp))
    · rw [f02.2 25 (by decide)]
      exact hs.2.2.1
    · rw [f02.2 19 (by decide)]
      exact hs.2.2.2.1
    · have e9 : (if mn = 1 then qTb9 T mn (k + 1) ++ [(T.2.2.1 (k + 1), qkm (T.1 k), N)] else qTb9 T mn (k + 1)) = qTb9 T mn (k + 2) := by
        unfold qTb9
        by_cases z : mn = 1
        · rw [if_pos z, if_pos z, if_pos z]
          show _ = if 1 ≤ k + 1 ∧ 4 ≤ T.1 (k + 1 - 1) ∧ T.1 (k + 1 - 1) ≤ 9 then qIm T (k + 1) ++ [(T.2.2.1 (k + 1), qkm (T.1 (k + 1 - 1)), qCn T.1 (T.1 (k + 1 - 1)) (k + 1 - 1))] else qIm T (k + 1)
          rw [Nat.add_sub_cancel, if_pos ⟨by omega, hc⟩, hN z, qMm_cn (by omega), show T.1 k - 4 + 4 = T.1 k by omega]
        · rw [if_neg z, if_neg z, if_neg z]
      rw [← e9]
      exact b2
    · exact zfm_trans hs.2.2.2.2.2.1 (zfm_sub f02 (by simp) (by simp))
    · exact zfr_trans hs.2.2.2.2.2.2 (zfr_sub g2 (by simp))
end MItem9
