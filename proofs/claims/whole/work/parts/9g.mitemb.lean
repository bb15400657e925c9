/-! ===== the reference's items: tracks and pools, the item ===== -/
theorem qTg_apart {d c i N w : Nat} (hd : d = 4 ∨ d = 5) (hc : c = 4 ∨ c = 5) (hi : i < 6) (hN : N < 6) (h : d = c → i < N) (hw : w < 3) : ¬ (3 * qTg c N ≤ 3 * qTg d i + w ∧ 3 * qTg d i + w < 3 * qTg c N + 3) := by
  have e4 : ∀ x, qTg 4 x = x := fun _ => rfl
  have e5 : ∀ x, qTg 5 x = 6 + x := fun _ => rfl
  rcases hd with z | z <;> rcases hc with y | y <;> subst z <;> subst y
  · rw [e4, e4]
    have := h rfl
    omega
  · rw [e4, e5]
    omega
  · rw [e4, e5]
    omega
  · rw [e5, e5]
    have := h rfl
    omega
section MItemB
variable {RO : zRo} {d : Nat} {P : zP} {I : zI} {J : zJ} {D : zD} {bc bs : Nat} {T : qTk} {mn ct k dp a j c : Nat} {I0 : zI} {J0 : zJ} {ok : Prop}
theorem s_93v {v : Int32} {I1 : zI} {r : Nat ⊕ (Nat × Unit)} (hw : qTw T) (hv : qTv T) (hm : mn = 0 ∨ mn = 1) (c0 : T.1 k = 4 ∨ T.1 k = 5) (h : pB (pT T.1 2 (k + 1)) (fun k1 _ => pRg T.1 k1) = some r) (hok : mn = 1 → ∃ q, r = .inr q) (hn : k < T.2.2.2) (hab : mn = 1 → a ≤ 3 * k) (hs : qMi T mn I0 J0 k a I J) (hz : mn = 0 → ∀ x, x ≤ 6 → I 37 (qkm (x + 4)) = 0) (hrp : mn = 1 → qRp ok (qPg T (qMm T k)) a I) (hcl : mn = 1 → ∀ i, i < k → qEE T i = 0) (hE : mn = 1 → qEE T k = 0) (hkp : 1 ≤ k → ¬ (4 ≤ T.1 (k - 1) ∧ T.1 (k - 1) ≤ 9)) (H1 : qTh T P D bc bs I0 J0 (qOut (qEp9 T mn) k r)) (H2 : ∀ q, r = .inr q → qFin T mn ok I0 J0 P D I a q.1) (e1 : I1 28 24 = zi ((k + 1 : Nat) : Int)) (f1 : zfm [24] [] I I1) :
    zw RO (d + 66) 168 P 93 [(0, .ref 28), (1, .int (zi (qkm (T.1 k) : Int))), (2, .int v), (3, .int 1)] [] I1 J D bc bs := by
  have hN := hw.2.1
  have hlt := qTw_lt hw (k := k) (by omega)
  have hc9 : 4 ≤ T.1 k ∧ T.1 k ≤ 9 := by omega
  obtain ⟨N, n1, n2, n3⟩ := s_N hm (by omega) hz hrp hE
  have n6 : N < 6 := by
    have : qMost (T.1 k - 4) = 6 := by
      rcases c0 with z | z <;> rw [z] <;> rfl
    omega
  have hp : T.1 (k + 1) = 2 → k + 2 ≤ qPos r ∧ qPos r < T.2.2.2 := fun z => by
    have l2 := qTw_lt hw (k := k + 1) (by omega)
    have h9 := h
    unfold pT at h9
    rw [if_pos z] at h9
    have h9 : pRg T.1 (k + 2) = some r := h9
    exact pRg_pos hw l2 h9
  have lk : ¬ zi (qkm (T.1 k) : Int) = 8 := by
    rcases c0 with z | z <;> rw [z] <;> decide
  have l01 : zi (qkm (T.1 k) : Int) = 0 ∨ zi (qkm (T.1 k) : Int) = 1 := by
    rcases c0 with z | z <;> rw [z] <;> decide
  refine wl_168_93 (d := d + 65) ⟨fun q => absurd q lk, fun _ => ?_⟩
  refine s_nw (d := d + 63) hw hm hc9 h hok hn hs n1 n2 hcl hE hkp (fun z => (hp z).1) H1 e1 f1 (fun c2 hcl2 hF ek I2 J2 s2 f2 => ?_)
  have l2 := qTw_lt hw (k := k + 1) (by omega)
  have M2 := qMm_nm c2 hc9
  have hm1 : qM1 T k (qMm T k) = qMm T (k + 1) := rfl
  have mi := qM1_it (T := T) (k := k) (m := qMm T k) (by omega)
  rw [hm1, ← M2] at mi
  have H3 : qTh T P D bc bs I0 J0 (qOut (qEp9 T mn) (k + 2) r) := by
    rw [← ek]
    exact H1
  show _ ∧ _
  refine ⟨fun _ => ⟨bc, bs, Nat.le_refl _, Nat.le_refl _, ?_⟩, fun q => absurd l01 q⟩
  have hF : pRg T.1 (k + 2) = some r := hF
  refine s_169 (d := d + 62) (k := k + 2) (N := N) hw hv hm c0 hF hok l2 (by rw [show k + 2 - 1 = k + 1 by omega]; omega) s2.1 s2.2.1 s2.2.2.1 s2.2.2.2.2.2.1 s2.2.2.2.2.2.2 n6 (by rw [f2.1 37 (by decide) (by decide)]; exact n1) (fun m1 => ⟨mi.2.1, by rw [mi.2.2.1, n2 m1], mi.2.2.2.1⟩) H3 (fun q er hclq I5 f5 e5 g0 g1 => ?_)
  have tk := pRg_tk (k2 := q.1) (u := q.2) (by rw [hF, er]; rfl)
  have m5 : I5 28 25 = zi (mn : Int) := by rw [f5.2 25 (by decide)]; exact s2.2.2.1
  have f05 : zfm [8, 24] [35, 36, 38] I I5 := zfm_trans (zfm_sub f2 (by simp) (by simp)) (zfm_sub f5 (by simp) (by simp))
  have e195 : I5 28 19 = zi (a : Int) := by rw [f5.2 19 (by decide)]; exact s2.2.2.2.1
  have et2 : qTb9 T mn q.1 = qTb9 T mn (k + 2) := qTb9_ys tk.1 (fun j q1 q2 => by
    by_cases ej : j = k + 2
    · rw [ej, show k + 2 - 1 = k + 1 by omega]
      omega
    · have := tk.2 (j - 1) (by omega) (by omega)
      omega)
  have b5 : qTb (qTb9 T mn q.1) I5 J2 := by
    rw [et2]
    unfold qTb
    rw [f5.2 8 (by decide), f5.1 35 (by decide) (by decide), f5.1 36 (by decide) (by decide)]
    exact s2.2.2.2.2.1
  have t5 : qTm T I5 J2 := qTm_fr s2.1 (zfm_sub f5 (by simp) (by simp)) (zfr_refl _)
  have r5 : rfr I0 I5 := zfm_trans s2.2.2.2.2.2.1 (zfm_sub f5 (by simp) (by simp))
  refine s_tTl (c := T.1 k) (by omega) hm m5 (fun m0 => ?_) (fun m1 => ?_)
  · refine (H2 q er).1 m0 I5 J2 ⟨t5, e5, by rw [m5, m0], e195, by have b6 := b5; rw [m0] at b6; exact b6, r5, s2.2.2.2.2.2.2⟩ (f05.1 37 (by decide) (by decide)) (f05.1 39 (by decide) (by decide))
  · obtain ⟨g2, g3, g4⟩ := g1 m1
    have f06 : zfm [8, 24] [35, 36, 37, 38] I (zu I5 37 (qkm (T.1 k)) ((I5 37 (qkm (T.1 k))) + 1)) := zfm_zu (zfm_sub f05 (by simp) (by simp)) _ _ (by decide) (by decide)
    have hclA : ∀ i, i < q.1 → qEE T i = 0 := fun i hi => by
      by_cases e : i < k + 2
      · exact hcl2 m1 i e
      · exact hclq m1 i (by omega) hi
    have e37 : I5 37 = I 37 := f05.1 37 (by decide) (by decide)
    have e38 : I2 38 = I 38 := f2.1 38 (by decide) (by decide)
    have b3 := hab m1
    refine (H2 q er).2 m1 hclA _ J2 a ⟨?_, ?_, ?_, ?_, ?_, ?_, s2.2.2.2.2.2.2⟩ (by have := tk.1; omega) ?_
    · exact qTm_fr t5 (zfm_zu (zfm_refl _) _ _ (by decide) (by decide)) (zfr_refl _)
    · rw [zu_n _ _ (by omega)]
      exact e5
    · rw [zu_n _ _ (by omega), m5, m1]
    · rw [zu_n _ _ (by omega)]
      exact e195
    · rw [m1] at b5
      unfold qTb at b5 ⊢
      rw [zu_n _ _ (by omega), zu_row _ _ (by decide), zu_row _ _ (by decide)]
      exact b5
    · exact zfm_zu r5 _ _ (by decide) (by decide)
    · have cn : ∀ x, x ≤ 6 → (qMm T q.1).1 x = if x = T.1 k - 4 then (qMm T k).1 x + 1 else (qMm T k).1 x := fun x hx => by
        rw [qMm_c hx tk.1 (fun j h1 h2 => by have := tk.2 j h1 h2; omega), mi.1 x hx]
      have n9 := n2 m1
      have nt : ∀ d i w, d = 4 ∨ d = 5 → i < (qMm T k).1 (d - 4) → w < 3 → ¬ (3 * qTg (T.1 k) N ≤ 3 * qTg d i + w ∧ 3 * qTg d i + w < 3 * qTg (T.1 k) N + 3) := fun d i w hd hi hw3 => by
        have l := qCn_most (T := T) (c := d - 4) (k := k) (by omega) (hcl m1)
        rw [← qMm_cn (by omega)] at l
        have l6 : qMost (d - 4) = 6 := by
          rcases hd with z | z <;> rw [z] <;> rfl
        have li : i < 6 := by omega
        exact qTg_apart hd c0 li n6 (fun z => by rw [n9, ← z]; exact hi) hw3
      refine qRp_other (c := T.1 k) (hrp m1) (by omega) (fun x hx => cn x hx) (fun x hx => ?_) (qPg_mx (hcl m1)) (fun d i hd hi w hw3 => ⟨?_, ?_⟩) (fun i _ => ⟨?_, ?_⟩) (fun i _ => ⟨?_, ?_⟩) (fun d i hd1 hd2 _ => ⟨?_, ?_, ?_, ?_⟩) (fun _ => ⟨?_, ?_⟩) (Nat.le_refl _) (fun j hj => ?_) (fun _ w hw3 => ?_) (fun z => by omega) (fun z => by omega) (fun z1 z2 => by omega) (fun z => by omega)
      · by_cases e : x = T.1 k - 4
        · rw [if_pos e, show x + 4 = T.1 k by omega, zu_s, e37]
        · rw [if_neg e, zu_n _ _ (fun z => qkm_n hx (by omega) e z.2), e37]
      · rw [zu_row _ _ (by decide), g2 _, if_neg (nt d i w hd hi hw3), e38]
      · show zi ((qMm T q.1).2.1 _) = zi ((qMm T k).2.1 _)
        rw [g4 _ (nt d i w hd hi hw3), mi.2.2.2.2.2.2.1]
      · rw [f06.1 39 (by decide) (by decide)]
      · show (qMm T q.1).2.2.1 i = (qMm T k).2.2.1 i
        rw [g3, mi.2.2.2.2.2.2.2.1, if_neg (by omega)]
      · rw [f06.1 42 (by decide) (by decide)]
      · show (qMm T q.1).2.2.2.1 i = (qMm T k).2.2.2.1 i
        rw [g3, mi.2.2.2.2.2.2.2.2.1]
      · show ((qMm T q.1).2.2.2.2.1 _).map (qXo T) = ((qMm T k).2.2.2.2.1 _).map (qXo T)
        rw [g3, mi.2.2.2.2.2.2.2.2.2.1, if_neg (by omega)]
      · show qXl T ((qMm T q.1).2.2.2.2.2 _) = qXl T ((qMm T k).2.2.2.2.2 _)
        rw [g3, mi.2.2.2.2.2.2.2.2.2.2]
      · rw [f06.1 40 (by decide) (by decide)]
      · rw [f06.1 41 (by decide) (by decide)]
      · rw [f06.2 18 (by decide)]
      · show qXo T ((qMm T q.1).1 14) = qXo T ((qMm T k).1 14)
        rw [qMm_14 tk.1 (fun j h1 h2 => by have := tk.2 j h1 h2; omega), mi.2.2.2.2.2.1, if_neg (by omega)]
      · rw [f06.1 43 (by decide) (by decide), f06.1 44 (by decide) (by decide), f06.1 45 (by decide) (by decide)]
        exact ⟨rfl, rfl, rfl⟩
      · have n9' : gPc (qPg T (qMm T k)) (T.1 k - 4) = N := n9.symm
        rw [n9', zu_row _ _ (by decide), g2 _, if_pos ⟨by omega, by omega⟩]
        rfl
end MItemB
