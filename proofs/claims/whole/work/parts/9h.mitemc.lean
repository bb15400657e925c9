/-! ===== the reference's items: phases, the item ===== -/
abbrev ns (c : Nat) : Prop := c = 2 ∨ c = 38 ∨ c = 39 ∨ c = 40
theorem pNs_tk {s : Nat → Nat} : ∀ {f k k2 : Nat} {u : Unit}, pNs s f k = pO k2 u → tks s ns k k2
  | 0, _, _, _, h => by cases h
  | f + 1, k, k2, u, h => by
    have h : (if s k = 38 then pB (pT s 2 (k + 1)) fun k1 _ => pNs s f k1 else pT s 39 k) = pO k2 u := h
    by_cases c : s k = 38
    · rw [if_pos c] at h
      rcases pB_inv h with ⟨j, _, e⟩ | ⟨k1, u1, h1, h⟩
      · cases e
      exact tks_app (tks_one (Or.inr (Or.inl c))) (tks_app (pT_tk h1 (Or.inl rfl)) (pNs_tk h))
    · rw [if_neg c] at h
      exact pT_tk h (by omega)
theorem pPh_tk {s : Nat → Nat} {k k2 : Nat} {u : Unit} (h : pPh s k = pO k2 u) : tks s ns k k2 := by
  unfold pPh at h
  rcases pB_inv h with ⟨j, _, e⟩ | ⟨k1, u1, h1, h⟩
  · cases e
  rcases pB_inv h with ⟨j, _, e⟩ | ⟨k3, u3, h3, h⟩
  · cases e
  exact tks_app (pT_tk h1 (by omega)) (tks_app (pT_tk h3 (by omega)) (pNs_tk h))
section MItemC
variable {RO : zRo} {d : Nat} {P : zP} {I : zI} {J : zJ} {D : zD} {bc bs : Nat} {T : qTk} {mn ct k dp a j c : Nat} {I0 : zI} {J0 : zJ} {ok : Prop}
theorem pPh_pos {r : Nat ⊕ (Nat × Unit)} (hw : qTw T) (hn : k < T.2.2.2) (h : pPh T.1 k = some r) : k ≤ qPos r ∧ qPos r < T.2.2.2 := by
  unfold pPh at h
  exact pB_pos h (fun y hy => pT_pos hw (by omega) hn hy) (fun k1 _ q1 q2 x hx => pB_pos hx (fun y hy => pT_pos hw (by omega) q2 hy) (fun k1 _ q1 q2 x hx => pNs_pos hw q2 hx))
theorem s_93p {v : Int32} {I1 : zI} {r : Nat ⊕ (Nat × Unit)} (hw : qTw T) (hm : mn = 0 ∨ mn = 1) (c0 : T.1 k = 6) (h : pB (pT T.1 2 (k + 1)) (fun k1 _ => pPh T.1 k1) = some r) (hok : mn = 1 → ∃ q, r = .inr q) (hnm : mn = 1 → ∀ i, T.1 i = 7 → T.1 (i + 1) = 2) (ho : ok → qCn T.1 7 T.2.2.2 ≤ 12) (hn : k < T.2.2.2) (hab : mn = 1 → a ≤ 3 * k) (hs : qMi T mn I0 J0 k a I J) (hz : mn = 0 → ∀ x, x ≤ 6 → I 37 (qkm (x + 4)) = 0) (hrp : mn = 1 → qRp ok (qPg T (qMm T k)) a I) (hcl : mn = 1 → ∀ i, i < k → qEE T i = 0) (hE : mn = 1 → qEE T k = 0) (hkp : 1 ≤ k → ¬ (4 ≤ T.1 (k - 1) ∧ T.1 (k - 1) ≤ 9)) (H1 : qTh T P D bc bs I0 J0 (qOut (qEp9 T mn) k r)) (H2 : ∀ q, r = .inr q → qFin T mn ok I0 J0 P D I a q.1) (e1 : I1 28 24 = zi ((k + 1 : Nat) : Int)) (f1 : zfm [24] [] I I1) :
    zw RO (d + 66) 168 P 93 [(0, .ref 28), (1, .int (zi (qkm (T.1 k) : Int))), (2, .int v), (3, .int 1)] [] I1 J D bc bs := by
  have hN := hw.2.1
  have hlt := qTw_lt hw (k := k) (by omega)
  have hc9 : 4 ≤ T.1 k ∧ T.1 k ≤ 9 := by omega
  obtain ⟨N, n1, n2, n3⟩ := s_N hm (by omega) hz hrp hE
  have n6 : N < 6 := by
    have : qMost (T.1 k - 4) = 6 := by
      rw [c0]
      rfl
    omega
  have hp : T.1 (k + 1) = 2 → k + 2 ≤ qPos r ∧ qPos r < T.2.2.2 := fun z => by
    have l2 := qTw_lt hw (k := k + 1) (by omega)
    have h9 := h
    unfold pT at h9
    rw [if_pos z] at h9
    have h9 : pPh T.1 (k + 2) = some r := h9
    exact pPh_pos hw l2 h9
  have lk : zi (qkm (T.1 k) : Int) = 4 := by
    rw [c0]
    rfl
  refine wl_168_93 (d := d + 65) ⟨fun q => absurd q (by rw [lk]; decide), fun _ => ?_⟩
  refine s_nw (d := d + 63) hw hm hc9 h hok hn hs n1 n2 hcl hE hkp (fun z => (hp z).1) H1 e1 f1 (fun c2 hcl2 hF ek I2 J2 s2 f2 => ?_)
  have l2 := qTw_lt hw (k := k + 1) (by omega)
  have M2 := qMm_nm c2 hc9
  have hm1 : qM1 T k (qMm T k) = qMm T (k + 1) := rfl
  have mi := qM1_it (T := T) (k := k) (m := qMm T k) (by omega)
  rw [hm1, ← M2] at mi
  have H3 : qTh T P D bc bs I0 J0 (qOut (qEp9 T mn) (k + 2) r) := by
    rw [← ek]
    exact H1
  show _ ∧ _
  refine ⟨fun q => absurd q (by rw [lk]; decide), fun _ => ⟨fun _ => ⟨bc, bs, Nat.le_refl _, Nat.le_refl _, ?_⟩, fun q => absurd lk q⟩⟩
  have hF : pPh T.1 (k + 2) = some r := hF
  refine s_170 (d := d + 62) (k := k + 2) (N := N) hw hm hF hok hnm n6 l2 s2.1 s2.2.1 s2.2.2.1 s2.2.2.2.2.2.1 s2.2.2.2.2.2.2 (by rw [f2.1 37 (by decide) (by decide), ← n1, c0]; rfl) (fun m1 => by rw [mi.2.2.1, n2 m1]) H3 (fun q er hclq I5 f5 e5 g0 g1 => ?_)
  have tk := pPh_tk (k2 := q.1) (u := q.2) (by rw [hF, er]; rfl)
  have m5 : I5 28 25 = zi (mn : Int) := by rw [f5.2 25 (by decide)]; exact s2.2.2.1
  have f05 : zfm [8, 24] [35, 36, 39] I I5 := zfm_trans (zfm_sub f2 (by simp) (by simp)) (zfm_sub f5 (by simp) (by simp))
  have e195 : I5 28 19 = zi (a : Int) := by rw [f5.2 19 (by decide)]; exact s2.2.2.2.1
  have et2 : qTb9 T mn q.1 = qTb9 T mn (k + 2) := qTb9_ys tk.1 (fun j q1 q2 => by
    by_cases ej : j = k + 2
    · rw [ej, show k + 2 - 1 = k + 1 by omega]
      omega
    · have := tk.2 (j - 1) (by omega) (by omega)
      omega)
  have b5 : qTb (qTb9 T mn q.1) I5 J2 := by
    rw [et2]
    unfold qTb
    rw [f5.2 8 (by decide), f5.1 35 (by decide) (by decide), f5.1 36 (by decide) (by decide)]
    exact s2.2.2.2.2.1
  have t5 : qTm T I5 J2 := qTm_fr s2.1 (zfm_sub f5 (by simp) (by simp)) (zfr_refl _)
  have r5 : rfr I0 I5 := zfm_trans s2.2.2.2.2.2.1 (zfm_sub f5 (by simp) (by simp))
  refine s_tTl (c := T.1 k) (by omega) hm m5 (fun m0 => ?_) (fun m1 => ?_)
  · refine (H2 q er).1 m0 I5 J2 ⟨t5, e5, by rw [m5, m0], e195, by have b6 := b5; rw [m0] at b6; exact b6, r5, s2.2.2.2.2.2.2⟩ (f05.1 37 (by decide) (by decide)) ((g0 m0).trans (f2.1 39 (by decide) (by decide)))
  · obtain ⟨p1, p2, p3, p4, p5, p6⟩ := g1 m1
    have f06 : zfm [8, 24] [35, 36, 37, 39] I (zu I5 37 (qkm (T.1 k)) ((I5 37 (qkm (T.1 k))) + 1)) := zfm_zu (zfm_sub f05 (by simp) (by simp)) _ _ (by decide) (by decide)
    have hclA : ∀ i, i < q.1 → qEE T i = 0 := fun i hi => by
      by_cases e : i < k + 2
      · exact hcl2 m1 i e
      · exact hclq m1 i (by omega) hi
    have e37 : I5 37 = I 37 := f05.1 37 (by decide) (by decide)
    have e39 : I2 39 = I 39 := f2.1 39 (by decide) (by decide)
    have b3 := hab m1
    have n9 : gPc (qPg T (qMm T k)) 2 = N := by
      rw [n2 m1, c0]
      rfl
    have n9b : (qMm T k).1 2 = N := n9
    refine (H2 q er).2 m1 hclA _ J2 a ⟨?_, ?_, ?_, ?_, ?_, ?_, s2.2.2.2.2.2.2⟩ (by have := tk.1; omega) ?_
    · exact qTm_fr t5 (zfm_zu (zfm_refl _) _ _ (by decide) (by decide)) (zfr_refl _)
    · rw [zu_n _ _ (by omega)]
      exact e5
    · rw [zu_n _ _ (by omega), m5, m1]
    · rw [zu_n _ _ (by omega)]
      exact e195
    · rw [m1] at b5
      unfold qTb at b5 ⊢
      rw [zu_n _ _ (by omega), zu_row _ _ (by decide), zu_row _ _ (by decide)]
      exact b5
    · exact zfm_zu r5 _ _ (by decide) (by decide)
    · have ha2 : ∀ i, (qMm T (k + 2)).2.2.1 i = if i = N then 0 else (qMm T k).2.2.1 i := fun i => by
        rw [mi.2.2.2.2.2.2.2.1, if_pos c0, n9b]
        rfl
      refine qRp_other (c := T.1 k) (hrp m1) (by omega) (fun x hx => ?_) (fun x hx => ?_) (qPg_mx (hcl m1)) (fun d i hd hi w hw3 => ⟨?_, ?_⟩) (fun i hi => ?_) (fun i _ => ⟨?_, ?_⟩) (fun d i hd1 hd2 _ => ⟨?_, ?_, ?_, ?_⟩) (fun _ => ⟨?_, ?_⟩) (Nat.le_refl _) (fun j hj => ?_) (fun z => by omega) (fun _ o => ?_) (fun z => by omega) (fun z1 z2 => by omega) (fun z => by omega)
      · show (qMm T q.1).1 x = _
        rw [p4, mi.1 x hx]
        rfl
      · by_cases e : x = T.1 k - 4
        · rw [if_pos e, show x + 4 = T.1 k by omega, zu_s, e37]
        · rw [if_neg e, zu_n _ _ (fun z => qkm_n hx (by omega) e z.2), e37]
      · rw [f06.1 38 (by decide) (by decide)]
      · show zi ((qMm T q.1).2.1 _) = zi ((qMm T k).2.1 _)
        rw [p5, mi.2.2.2.2.2.2.1]
      · rw [n9] at hi
        have hi : ¬ i = N := by omega
        refine ⟨?_, ?_⟩
        · rw [zu_row _ _ (by decide), p1 i hi, e39]
        · show (qMm T q.1).2.2.1 i = (qMm T k).2.2.1 i
          rw [p3 i hi, ha2, if_neg hi]
      · rw [f06.1 42 (by decide) (by decide)]
      · show (qMm T q.1).2.2.2.1 i = (qMm T k).2.2.2.1 i
        rw [p6, mi.2.2.2.2.2.2.2.2.1]
      · show ((qMm T q.1).2.2.2.2.1 _).map (qXo T) = ((qMm T k).2.2.2.2.1 _).map (qXo T)
        rw [p6, mi.2.2.2.2.2.2.2.2.2.1, if_neg (by omega)]
      · show qXl T ((qMm T q.1).2.2.2.2.2 _) = qXl T ((qMm T k).2.2.2.2.2 _)
        rw [p6, mi.2.2.2.2.2.2.2.2.2.2]
      · rw [f06.1 40 (by decide) (by decide)]
      · rw [f06.1 41 (by decide) (by decide)]
      · rw [f06.2 18 (by decide)]
      · show qXo T ((qMm T q.1).1 14) = qXo T ((qMm T k).1 14)
        rw [p4, mi.2.2.2.2.2.1, if_neg (by omega)]
      · rw [f06.1 43 (by decide) (by decide), f06.1 44 (by decide) (by decide), f06.1 45 (by decide) (by decide)]
        exact ⟨rfl, rfl, rfl⟩
      · rw [n9, zu_row _ _ (by decide)]
        refine p2 (ho o) ?_
        rw [e39, ha2, if_pos rfl]
        exact (hrp m1).2.2.1.2 N (by rw [n9]; exact Nat.le_refl _) n6
end MItemC
