/-! ===== the reference's items: any item ===== -/
section MItemH
variable {RO : zRo} {d : Nat} {P : zP} {I : zI} {J : zJ} {D : zD} {bc bs : Nat} {T : qTk} {mn ct k dp a j c : Nat} {I0 : zI} {J0 : zJ} {ok : Prop}
theorem pWi_pos {r : Nat ⊕ (Nat × Unit)} (hw : qTw T) (hn : k + 1 < T.2.2.2) (h : pWi T.1 k = some r) : k + 1 ≤ qPos r ∧ qPos r < T.2.2.2 := by
  unfold pWi at h
  exact pB_pos (k := k + 1) h (fun y hy => by have := pEx_pos hw hy hn; exact this) (fun k1 _ _ q2 x hx => pT_pos hw (by omega) q2 hx)
theorem pI_pos {r : Nat ⊕ (Nat × Unit)} (hw : qTw T) (hn : k < T.2.2.2) (h : pI T.1 k = some r) : (k ≤ qPos r ∧ qPos r < T.2.2.2) ∧ (4 ≤ T.1 k ∧ T.1 k ≤ 10 → k + 1 ≤ qPos r) := by
  unfold pI at h
  by_cases c1 : T.1 k = 10
  · rw [if_pos c1] at h
    have l := qTw_lt hw (k := k) (by omega)
    have p := pWi_pos hw l h
    exact ⟨⟨by omega, p.2⟩, fun _ => p.1⟩
  · rw [if_neg c1] at h
    by_cases c2 : 4 ≤ T.1 k ∧ T.1 k ≤ 9
    · rw [if_pos c2] at h
      have l := qTw_lt hw (k := k) (by omega)
      have p := pB_pos (k := k + 1) h (fun y hy => pT_pos hw (by omega) l hy) (fun k1 _ q1 q2 x hx => by
        have hx : (if T.1 k ≤ 5 then pRg T.1 k1 else if T.1 k = 6 then pPh T.1 k1 else if T.1 k = 9 then pRu T.1 k1 else pAc T.1 k1) = some x := hx
        by_cases e1 : T.1 k ≤ 5
        · rw [if_pos e1] at hx
          exact pRg_pos hw q2 hx
        · rw [if_neg e1] at hx
          by_cases e2 : T.1 k = 6
          · rw [if_pos e2] at hx
            exact pPh_pos hw q2 hx
          · rw [if_neg e2] at hx
            by_cases e3 : T.1 k = 9
            · rw [if_pos e3] at hx
              exact pRu_pos hw q2 hx
            · rw [if_neg e3] at hx
              exact pAc_pos hw q2 hx)
      exact ⟨⟨by omega, p.2⟩, fun _ => p.1⟩
    · rw [if_neg c2] at h
      cases pF_inv h
      exact ⟨⟨Nat.le_refl _, hn⟩, fun z => by omega⟩
theorem s_it {r : Nat ⊕ (Nat × Unit)} (hRO : zROk RO) (hw : qTw T) (hv : qTv T) (hm : mn = 0 ∨ mn = 1) (h : pI T.1 k = some r) (hok : mn = 1 → ∃ q, r = .inr q) (hn6 : mn = 1 → ∀ i, T.1 i = 6 → T.1 (i + 1) = 2) (hn7 : mn = 1 → ∀ i, T.1 i = 7 → T.1 (i + 1) = 2) (ho : ok → qCn T.1 7 T.2.2.2 ≤ 12) (hn : k < T.2.2.2) (hab : mn = 1 → a ≤ 3 * k) (hs : qMi T mn I0 J0 k a I J) (hz : mn = 0 → ∀ x, x ≤ 6 → I 37 (qkm (x + 4)) = 0) (hrp : mn = 1 → qRp ok (qPg T (qMm T k)) a I) (hcl : mn = 1 → ∀ i, i < k → qEE T i = 0) (hkp : 1 ≤ k → ¬ (4 ≤ T.1 (k - 1) ∧ T.1 (k - 1) ≤ 9)) (H1 : qTh T P D bc bs I0 J0 (qOut (qEp9 T mn) k r)) (H2 : ∀ q, r = .inr q → qFin T mn ok I0 J0 P D I a q.1) : zz RO (d + 77) 168 [.ref 28] I J D bc bs P := by
  have pp := pI_pos hw hn h
  refine s_168 (d := d + 73) hRO hw hm h hok hn hs (fun x hx => ?_) (fun z => pp.2 z) H1 (fun hc hE I1 v e1 f1 => ?_)
  · rcases hm with m0 | m1
    · exact ⟨0, by omega, hz m0 x hx, fun z => by omega⟩
    · exact ⟨(qMm T k).1 x, qPg_mx (hcl m1) x hx, (hrp m1).1 x hx, fun _ => rfl⟩
  · have h0 := h
    unfold pI at h0
    by_cases c1 : T.1 k = 10
    · rw [if_pos c1] at h0
      exact s_93w (d := d + 10) hw hm c1 h0 hok hn hab hs hrp hcl hE hkp H1 H2 e1 f1
    · rw [if_neg c1, if_pos (by omega)] at h0
      by_cases e1' : T.1 k ≤ 5
      · simp only [if_pos e1'] at h0
        exact s_93v (d := d + 10) hw hv hm (by omega) h0 hok hn hab hs hz hrp hcl hE hkp H1 H2 e1 f1
      · simp only [if_neg e1'] at h0
        by_cases e2 : T.1 k = 6
        · simp only [if_pos e2] at h0
          exact s_93p (d := d + 10) hw hm e2 h0 hok hn7 ho hn hab hs hz hrp hcl hE hkp H1 H2 e1 f1
        · simp only [if_neg e2] at h0
          by_cases e3 : T.1 k = 9
          · simp only [if_pos e3] at h0
            exact s_93r (d := d) hw hm e3 h0 hok hn6 hn hab hs hz hrp hcl hE hkp H1 H2 e1 f1
          · simp only [if_neg e3] at h0
            exact s_93b (d := d) hw hm (by omega) h0 hok hn hab hs hz hrp hcl hE hkp H1 H2 e1 f1
end MItemH
