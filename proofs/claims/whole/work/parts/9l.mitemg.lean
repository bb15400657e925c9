/-! ===== the reference's items: rules ===== -/
section MItemG
variable {RO : zRo} {d : Nat} {P : zP} {I : zI} {J : zJ} {D : zD} {bc bs : Nat} {T : qTk} {mn ct k dp a j c : Nat} {I0 : zI} {J0 : zJ} {ok : Prop}
theorem s_nm {NX : Nat → Nat → Int32 → zI → zJ → zD → Prop} (hw : qTw T) (ht : qTm T I J) (h24 : I 28 24 = zi (k : Int)) (h25 : I 28 25 = zi (mn : Int)) (hm : mn = 0 ∨ mn = 1) (hn : k < T.2.2.2) (hc : 4 ≤ c ∧ c ≤ 9) (hnm : mn = 1 → ∀ i, T.1 i = c → T.1 (i + 1) = 2)
    (Hf : ¬ T.1 k = 2 → (1 ≤ bc ∧ 8 ≤ bs) ∧ P (.inr (3, 1, zi (T.2.1 k : Int))) I J D) (He : T.1 k = 2 → mn = 1 → qFd T c (T.2.2.1 k) T.2.2.2 = none → (1 ≤ bc ∧ 8 ≤ bs) ∧ P (.inr (3, 2, zi (T.2.1 k : Int))) I J D) (Hk : T.1 k = 2 → ∀ v I', (mn = 1 → ∃ m, qFd T c (T.2.2.1 k) T.2.2.2 = some m ∧ v = zi (m : Int)) → I' 28 24 = zi ((k + 1 : Nat) : Int) → zfm [24] [] I I' → NX 0 0 v I' J D) :
    ∃ c2 s2, c2 ≤ bc ∧ s2 ≤ bs ∧ zz RO (d + 3) 165 [.ref 28, .int (zi (qkm c : Int))] I J D c2 s2 (zNi P fun v I1 J1 D1 => NX c2 s2 v I1 J1 D1) := by
  by_cases z : T.1 k = 2
  · by_cases b : mn = 1 ∧ qFd T c (T.2.2.1 k) T.2.2.2 = none
    · refine ⟨bc, bs, Nat.le_refl _, Nat.le_refl _, ?_⟩
      exact s_165 (d := d) hw ht h24 h25 hm hn hc hnm (fun y => absurd z y) (fun z m1 q => He z m1 q) (fun _ v I' hv => by
        obtain ⟨m, hm1, _⟩ := hv b.1
        rw [b.2] at hm1
        cases hm1)
    · refine ⟨0, 0, Nat.zero_le _, Nat.zero_le _, ?_⟩
      exact s_165 (d := d) hw ht h24 h25 hm hn hc hnm (fun y => absurd z y) (fun _ m1 q => absurd ⟨m1, q⟩ b) (fun z v I' hv e f => Hk z v I' hv e f)
  · refine ⟨bc, bs, Nat.le_refl _, Nat.le_refl _, ?_⟩
    exact s_165 (d := d) hw ht h24 h25 hm hn hc hnm (fun y => Hf y) (fun y => absurd y z) (fun y => absurd y z)
theorem s_93r {v : Int32} {I1 : zI} {r : Nat ⊕ (Nat × Unit)} (hw : qTw T) (hm : mn = 0 ∨ mn = 1) (c0 : T.1 k = 9) (h : pB (pT T.1 2 (k + 1)) (fun k1 _ => pRu T.1 k1) = some r) (hok : mn = 1 → ∃ q, r = .inr q) (hnm : mn = 1 → ∀ i, T.1 i = 6 → T.1 (i + 1) = 2) (hn : k < T.2.2.2) (hab : mn = 1 → a ≤ 3 * k) (hs : qMi T mn I0 J0 k a I J) (hz : mn = 0 → ∀ x, x ≤ 6 → I 37 (qkm (x + 4)) = 0) (hrp : mn = 1 → qRp ok (qPg T (qMm T k)) a I) (hcl : mn = 1 → ∀ i, i < k → qEE T i = 0) (hE : mn = 1 → qEE T k = 0) (hkp : 1 ≤ k → ¬ (4 ≤ T.1 (k - 1) ∧ T.1 (k - 1) ≤ 9)) (H1 : qTh T P D bc bs I0 J0 (qOut (qEp9 T mn) k r)) (H2 : ∀ q, r = .inr q → qFin T mn ok I0 J0 P D I a q.1) (e1 : I1 28 24 = zi ((k + 1 : Nat) : Int)) (f1 : zfm [24] [] I I1) :
    zw RO (d + 76) 168 P 93 [(0, .ref 28), (1, .int (zi (qkm (T.1 k) : Int))), (2, .int v), (3, .int 1)] [] I1 J D bc bs := by
  have hN := hw.2.1
  have hc9 : 4 ≤ T.1 k ∧ T.1 k ≤ 9 := by omega
  obtain ⟨N, n1, n2, n3⟩ := s_N hm (by omega) hz hrp hE
  have hp : T.1 (k + 1) = 2 → k + 2 ≤ qPos r ∧ qPos r < T.2.2.2 := fun z => by
    have l2 := qTw_lt hw (k := k + 1) (by omega)
    have h9 := h
    unfold pT at h9
    rw [if_pos z] at h9
    have h9 : pRu T.1 (k + 2) = some r := h9
    exact pRu_pos hw l2 h9
  have lk : zi (qkm (T.1 k) : Int) = 7 := by
    rw [c0]
    rfl
  have n8 : N < 8 := by
    rw [c0] at n3
    exact n3
  refine wl_168_93 (d := d + 75) ⟨fun q => absurd q (by rw [lk]; decide), fun _ => ?_⟩
  refine s_nw (d := d + 73) hw hm hc9 h hok hn hs n1 n2 hcl hE hkp (fun z => (hp z).1) H1 e1 f1 (fun c2 hcl2 hF ek I2 J2 s2 f2 => ?_)
  have l2 := qTw_lt hw (k := k + 1) (by omega)
  have M2 := qMm_nm c2 hc9
  have hm1 : qM1 T k (qMm T k) = qMm T (k + 1) := rfl
  have mi := qM1_it (T := T) (k := k) (m := qMm T k) (by omega)
  rw [hm1, ← M2] at mi
  have H3 : qTh T P D bc bs I0 J0 (qOut (qEp9 T mn) (k + 2) r) := by
    rw [← ek]
    exact H1
  have hF : pRu T.1 (k + 2) = some r := hF
  have ff : ∀ j, r = .inl j → (1 ≤ bc ∧ 8 ≤ bs) ∧ ∀ I' J', rfr I0 I' → rfj J0 J' → P (.inr (3, 1, zi (T.2.1 j : Int))) I' J' D := qTh_f hm hok H3
  unfold pRu at hF
  obtain ⟨y, hy, y1, y2⟩ := pB_cases hF
  show _ ∧ _
  refine ⟨fun q => absurd q (by rw [lk]; decide), fun _ => ⟨fun q => absurd q (by rw [lk]; decide), fun _ => ⟨fun q => absurd q (by rw [lk]; decide), fun _ => ⟨fun q => absurd q (by rw [lk]; decide), fun _ => ⟨fun _ => ?_, fun q => absurd lk q⟩⟩⟩⟩⟩
  refine s_tk (d := d + 74) (b := 12) hw s2.1 s2.2.1 l2 (by omega) (fun z => ?_) (fun z I3 e3 f3 => ?_)
  · unfold pT at hy
    rw [if_neg z] at hy
    have b := ff (k + 2) (y1 (k + 2) (pF_inv hy))
    exact ⟨b.1, b.2 I2 J2 s2.2.2.2.2.2.1 s2.2.2.2.2.2.2⟩
  · unfold pT at hy
    rw [if_pos z] at hy
    have h4 : pB (pT T.1 2 (k + 3)) (fun k2 _ => pAc T.1 k2) = some r := y2 (k + 3, ()) (pO_inv hy)
    have l3 := qTw_lt hw (k := k + 2) (by omega)
    obtain ⟨x, hx, x1, x2⟩ := pB_cases h4
    have t3 : qTm T I3 J2 := qTm_n s2.1 f3
    have r3 : rfr I0 I3 := zfm_trans s2.2.2.2.2.2.1 (zfm_sub f3 (by simp) (by simp))
    have m3 : I3 28 25 = zi (mn : Int) := by rw [f3.2 25 (by decide)]; exact s2.2.2.1
    have E12 : qEE T (k + 2) = 0 := qEE_0 (by omega)
    have M12 : qMm T (k + 3) = qMm T (k + 2) := qMm_0 (by omega)
    have hp3 : T.1 (k + 3) = 2 → k + 4 ≤ qPos r ∧ qPos r < T.2.2.2 := fun z => by
      have l4 := qTw_lt hw (k := k + 3) (by omega)
      have h9 := h4
      unfold pT at h9
      rw [if_pos z] at h9
      have h9 : pAc T.1 (k + 4) = some r := h9
      exact pAc_pos hw l4 h9
    refine s_nm (d := d + 73) (c := 6) hw t3 e3 m3 hm l3 (by omega) hnm (fun z3 => ?_) (fun z3 m1 hq => ?_) (fun z3 v4 I4 hv4 e4 f4 => ?_)
    · unfold pT at hx
      rw [if_neg z3] at hx
      have b := ff (k + 3) (x1 (k + 3) (pF_inv hx))
      exact ⟨b.1, b.2 I3 J2 r3 s2.2.2.2.2.2.2⟩
    · have me := (qMm_ph (T := T) (k := k + 3) z3 (by rw [show k + 3 - 1 = k + 2 by omega]; exact z)).2
      rw [hq] at me
      have me : qEE T (k + 3) = 2 := me
      have b := qTh_e (e := 2) (j := k + 3) m1 (fun i q1 q2 => by
        rw [show i = k + 2 by omega]
        exact E12) me (by omega) ⟨by omega, by have := hp3 z3; omega⟩ H3
      exact ⟨b.1, b.2 I3 J2 r3 s2.2.2.2.2.2.2⟩
    · have z3 : T.1 (k + 3) = 2 := z3
      obtain ⟨mm, me⟩ := qMm_ph (T := T) (k := k + 3) z3 (by rw [show k + 3 - 1 = k + 2 by omega]; exact z)
      have mm : qMm T (k + 4) = _ := mm
      have l4 := qTw_lt hw (k := k + 3) (by omega)
      unfold pT at hx
      rw [if_pos z3] at hx
      have hA : pAc T.1 (k + 4) = some r := x2 (k + 4, ()) (pO_inv hx)
      have f24 : zfm [24] [] I2 I4 := zfm_trans f3 f4
      have m4 : I4 28 25 = zi (mn : Int) := by rw [f4.2 25 (by decide)]; exact m3
      have hclB : mn = 1 → ∀ i, i < k + 4 → qEE T i = 0 := fun m1 i hi => by
        by_cases e : i < k + 2
        · exact hcl2 m1 i e
        · by_cases e2 : i = k + 2
          · rw [e2]
            exact E12
          · rw [show i = k + 3 by omega, me]
            obtain ⟨m, q1, _⟩ := hv4 m1
            rw [q1]
            rfl
      have ek4 : qOut (qEp9 T mn) (k + 2) r = qOut (qEp9 T mn) (k + 4) r := qOut_step (fun j q1 q2 => by
        unfold qEp9
        split
        · rename_i m1
          exact hclB m1 j q2
        · rfl) ⟨by omega, (hp3 z3).1⟩
      have H4 : qTh T P D bc bs I0 J0 (qOut (qEp9 T mn) (k + 4) r) := by
        rw [← ek4]
        exact H3
      have et4 : qTb9 T mn (k + 4) = qTb9 T mn (k + 2) := qTb9_ys (by omega) (fun j q1 q2 => by
        by_cases e : j = k + 2
        · rw [e, show k + 2 - 1 = k + 1 by omega]
          omega
        · rw [show j - 1 = k + 2 by omega]
          omega)
      have mkk : ∀ I5, zfm [24] [42] I2 I5 → I5 28 24 = zi ((k + 4 : Nat) : Int) → qMi T mn I0 J0 (k + 4) a I5 J2 := fun I5 f5 e5 => by
        refine ⟨qTm_fr s2.1 (zfm_sub f5 (by simp) (by simp)) (zfr_refl _), e5, by rw [f5.2 25 (by decide)]; exact s2.2.2.1, by rw [f5.2 19 (by decide)]; exact s2.2.2.2.1, ?_, zfm_trans s2.2.2.2.2.2.1 (zfm_sub f5 (by simp) (by simp)), s2.2.2.2.2.2.2⟩
        rw [et4]
        unfold qTb
        rw [f5.2 8 (by decide), f5.1 35 (by decide) (by decide), f5.1 36 (by decide) (by decide)]
        exact s2.2.2.2.2.1
      have go : ∀ I5, zfm [24] [42] I2 I5 → I5 28 24 = zi ((k + 4 : Nat) : Int) → (mn = 1 → (∀ i, i < (qMm T k).1 5 → I5 42 i = I 42 i) ∧ (T.1 k = 9 → I5 42 N = zi ((qMm T (k + 4)).2.2.2.1 N : Int))) → zz RO (d + 76) 171 [.ref 28, .int (zi ((20 : Nat) : Int))] I5 J2 D bc bs (zNv P fun I J D => tTl P (zi (qkm (T.1 k) : Int)) I J D) := fun I5 f5 e5 h425 =>
        s_bdE (d := d) (I := I) (N := N) hw hm (Or.inr (Or.inr ⟨rfl, c0⟩)) hA hok (by omega) l4 (by rw [show k + 4 - 1 = k + 3 by omega]; omega) hab (mkk I5 f5 e5) (by rw [f5.1 37 (by decide) (by decide), f2.1 37 (by decide) (by decide)]; exact n1) n2 n3 hclB (fun m1 => by
          rw [mm, M12]
          exact ⟨fun x hx => mi.1 x hx, mi.2.1, by rw [mi.2.2.1, n2 m1], by rw [mi.2.2.2.2.2.1, if_neg (by omega)], mi.2.2.2.2.2.2.1, by rw [mi.2.2.2.2.2.2.2.1, if_neg (by omega)], fun i hi => by
            have e11 : (qMm T (k + 2)).1 11 = N := by rw [mi.2.2.1, n2 m1]
            have ni : ¬ i = N := fun z => by
              rw [n2 m1, c0] at z
              have hi : i < (qMm T k).1 (9 - 4) := hi
              omega
            show qup (qMm T (k + 2)).2.2.2.1 ((qMm T (k + 2)).1 11) _ i = _
            rw [e11, qup_n _ _ ni, mi.2.2.2.2.2.2.2.2.1], by rw [mi.2.2.2.2.2.2.2.2.2.1, if_pos (by omega), n2 m1], mi.2.2.2.2.2.2.2.2.2.2⟩) hrp (zfm_trans (zfm_sub f2 (by simp) (by simp)) (zfm_sub f5 (by simp) (by simp))) h425 H4 H2
      show _ ∧ _
      rcases hm with m0 | m1
      · refine ⟨fun _ => ?_, fun q => absurd (show I4 28 25 = 0 by rw [m4, m0]; rfl) q⟩
        have g := go I4 (zfm_sub f24 (by simp) (by simp)) e4 (fun m1 => by omega)
        rw [show zi ((20 : Nat) : Int) = (20 : Int32) from rfl] at g
        exact ⟨bc, bs, Nat.le_refl _, Nat.le_refl _, g⟩
      · refine ⟨fun q => absurd q (by rw [m4, m1]; decide), fun _ => ?_⟩
        have e37 : I4 37 7 = zi (N : Int) := by
          rw [f24.1 37 (by decide) (by decide), f2.1 37 (by decide) (by decide), ← n1, c0]
          rfl
        have clN : (I4 37 7).toNatClampNeg = N := by rw [e37]; exact zi_clk (by omega)
        refine ⟨by rw [e37]; exact zi_in (by omega) (by omega) (by omega), ?_⟩
        rw [clN]
        have f45 : zfm [24] [42] I2 (zu I4 42 N v4) := zfm_zu (zfm_sub f24 (by simp) (by simp)) _ _ (by decide) (by decide)
        have g := go (zu I4 42 N v4) f45 (by rw [zu_n _ _ (by omega)]; exact e4) (fun _ => ⟨fun i hi => ?_, fun _ => ?_⟩)
        · rw [show zi ((20 : Nat) : Int) = (20 : Int32) from rfl] at g
          exact ⟨bc, bs, Nat.le_refl _, Nat.le_refl _, g⟩
        · have ni : ¬ i = N := fun z => by
            rw [n2 m1, c0] at z
            have hi : i < (qMm T k).1 (9 - 4) := hi
            omega
          rw [zu_n _ _ (fun z => ni z.2), f24.1 42 (by decide) (by decide), f2.1 42 (by decide) (by decide)]
        · obtain ⟨m, q1, q2⟩ := hv4 m1
          rw [zu_s, q2, mm, M12]
          show _ = zi ((qup (qMm T (k + 2)).2.2.2.1 ((qMm T (k + 2)).1 11) ((qFd T 6 (T.2.2.1 (k + 3)) T.2.2.2).getD 0) N : Nat) : Int)
          rw [show (qMm T (k + 2)).1 11 = N by rw [mi.2.2.1, n2 m1], qup_s, q1]
          rfl
end MItemG
