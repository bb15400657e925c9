/-! ===== the reference reads all items ===== -/
theorem pT_end {s : Nat → Nat} {a k k2 : Nat} {u : Unit} (h : pT s a k = pO k2 u) : s (k2 - 1) = a := by
  obtain ⟨e1, e2⟩ := pT_inv (q := (k2, u)) h
  have e2 : k2 = k + 1 := e2
  rw [e2, Nat.add_sub_cancel]
  exact e1
theorem pBd_end {s : Nat → Nat} {k k2 : Nat} {u : Unit} (h : pBd s k = pO k2 u) : s (k2 - 1) = 15 := by
  unfold pBd at h
  by_cases c : s k = 14
  · rw [if_pos c] at h
    rcases pB_inv h with ⟨j, _, e⟩ | ⟨k1, u1, h1, h⟩
    · cases e
    exact pT_end h
  · rw [if_neg c] at h
    cases pF_inv h
theorem pAc_end {s : Nat → Nat} {k k2 : Nat} {u : Unit} (h : pAc s k = pO k2 u) : s (k2 - 1) = 15 := by
  unfold pAc at h
  by_cases c : s k = 13
  · rw [if_pos c] at h
    rcases pB_inv h with ⟨j, _, e⟩ | ⟨k1, u1, h1, h⟩
    · cases e
    exact pBd_end h
  · rw [if_neg c] at h
    exact pBd_end h
theorem pRu_end {s : Nat → Nat} {k k2 : Nat} {u : Unit} (h : pRu s k = pO k2 u) : s (k2 - 1) = 15 := by
  unfold pRu at h
  rcases pB_inv h with ⟨j, _, e⟩ | ⟨k1, u1, h1, h⟩
  · cases e
  rcases pB_inv h with ⟨j, _, e⟩ | ⟨k3, u3, h3, h⟩
  · cases e
  exact pAc_end h
theorem pRg_end {s : Nat → Nat} {k k2 : Nat} {u : Unit} (h : pRg s k = pO k2 u) : s (k2 - 1) = 39 := by
  unfold pRg at h
  rcases pB_inv h with ⟨j, _, e⟩ | ⟨k1, u1, h1, h⟩
  · cases e
  rcases pB_inv h with ⟨j, _, e⟩ | ⟨k3, u3, h3, h⟩
  · cases e
  rcases pB_inv h with ⟨j, _, e⟩ | ⟨k4, u4, h4, h⟩
  · cases e
  rcases pB_inv h with ⟨j, _, e⟩ | ⟨k5, u5, h5, h⟩
  · cases e
  rcases pB_inv h with ⟨j, _, e⟩ | ⟨k6, u6, h6, h⟩
  · cases e
  exact pT_end h
theorem pNs_end {s : Nat → Nat} : ∀ {f k k2 : Nat} {u : Unit}, pNs s f k = pO k2 u → s (k2 - 1) = 39
  | 0, _, _, _, h => by cases h
  | f + 1, k, k2, u, h => by
    have h : (if s k = 38 then pB (pT s 2 (k + 1)) fun k1 _ => pNs s f k1 else pT s 39 k) = pO k2 u := h
    by_cases c : s k = 38
    · rw [if_pos c] at h
      rcases pB_inv h with ⟨j, _, e⟩ | ⟨k1, u1, h1, h⟩
      · cases e
      exact pNs_end h
    · rw [if_neg c] at h
      exact pT_end h
theorem pPh_end {s : Nat → Nat} {k k2 : Nat} {u : Unit} (h : pPh s k = pO k2 u) : s (k2 - 1) = 39 := by
  unfold pPh at h
  rcases pB_inv h with ⟨j, _, e⟩ | ⟨k1, u1, h1, h⟩
  · cases e
  rcases pB_inv h with ⟨j, _, e⟩ | ⟨k3, u3, h3, h⟩
  · cases e
  exact pNs_end h
theorem pI_end {s : Nat → Nat} {k k2 : Nat} {u : Unit} (h : pI s k = pO k2 u) : s (k2 - 1) = 39 ∨ s (k2 - 1) = 15 := by
  unfold pI at h
  by_cases c1 : s k = 10
  · rw [if_pos c1] at h
    unfold pWi at h
    rcases pB_inv h with ⟨j, _, e⟩ | ⟨k1, u1, h1, h⟩
    · cases e
    exact Or.inl (pT_end h)
  · rw [if_neg c1] at h
    by_cases c2 : 4 ≤ s k ∧ s k ≤ 9
    · rw [if_pos c2] at h
      rcases pB_inv h with ⟨j, _, e⟩ | ⟨k1, u1, h1, h⟩
      · cases e
      by_cases e1 : s k ≤ 5
      · rw [if_pos e1] at h
        exact Or.inl (pRg_end h)
      · rw [if_neg e1] at h
        by_cases e2 : s k = 6
        · rw [if_pos e2] at h
          exact Or.inl (pPh_end h)
        · rw [if_neg e2] at h
          by_cases e3 : s k = 9
          · rw [if_pos e3] at h
            exact Or.inr (pRu_end h)
          · rw [if_neg e3] at h
            exact Or.inr (pAc_end h)
    · rw [if_neg c2] at h
      cases pF_inv h
theorem pP_pos {T : qTk} (hw : qTw T) : ∀ {f k : Nat} {r : Nat ⊕ (Nat × Unit)}, k < T.2.2.2 → pP T.1 f k = some r → k ≤ qPos r ∧ qPos r < T.2.2.2
  | 0, _, _, _, h => by cases h
  | f + 1, k, r, hn, h => by
    have h : (pB (pI T.1 k) fun k1 _ => if T.1 k1 = 1 then pO k1 () else pP T.1 f k1) = some r := h
    refine pB_pos h (fun y hy => (pI_pos hw hn hy).1) (fun k1 _ q1 q2 x hx => ?_)
    by_cases c : T.1 k1 = 1
    · have hx : (if T.1 k1 = 1 then pO k1 () else pP T.1 f k1) = some x := hx
      rw [if_pos c] at hx
      cases pO_inv hx
      exact ⟨Nat.le_refl _, q2⟩
    · have hx : (if T.1 k1 = 1 then pO k1 () else pP T.1 f k1) = some x := hx
      rw [if_neg c] at hx
      exact pP_pos hw q2 hx
section MItemI
variable {RO : zRo} {d : Nat} {P : zP} {D : zD} {bc bs : Nat} {T : qTk} {mn dp j c : Nat} {I0 : zI} {J0 : zJ} {ok : Prop}
theorem s_176l {r : Nat ⊕ (Nat × Unit)} (hRO : zROk RO) (hw : qTw T) (hv : qTv T) (hm : mn = 0 ∨ mn = 1) (hok : mn = 1 → ∃ q, r = .inr q) (hn6 : mn = 1 → ∀ i, T.1 i = 6 → T.1 (i + 1) = 2) (hn7 : mn = 1 → ∀ i, T.1 i = 7 → T.1 (i + 1) = 2) (ho : ok → qCn T.1 7 T.2.2.2 ≤ 12) : ∀ {f k a : Nat} {I : zI} {J : zJ}, pP T.1 f k = some r → k < T.2.2.2 → (mn = 1 → a ≤ 3 * k) → qMi T mn I0 J0 k a I J → (mn = 0 → ∀ x, x ≤ 6 → I 37 (qkm (x + 4)) = 0) → (mn = 1 → qRp ok (qPg T (qMm T k)) a I) → (mn = 1 → ∀ i, i < k → qEE T i = 0) → (1 ≤ k → ¬ (4 ≤ T.1 (k - 1) ∧ T.1 (k - 1) ≤ 9)) → qTh T P D bc bs I0 J0 (qOut (qEp9 T mn) k r) → (∀ q, r = .inr q → T.1 q.1 = 1 → q.1 < T.2.2.2 → qFin T mn ok I0 J0 P D I a q.1) →
    ∃ c1 s1, c1 ≤ bc ∧ s1 ≤ bs ∧ zz RO (d + 77) 168 [.ref 28] I J D c1 s1 (zNv P fun I1 J1 D1 => zw RO (d + 77) 176 P 9 [(0, .ref 28)] [] I1 J1 D1 (bc - c1) (bs - s1))
  | 0, _, _, _, _, h, _, _, _, _, _, _, _, _, _ => by cases h
  | f + 1, k, a, I, J, h, hn, hab, hs, hz, hrp, hcl, hkp, H1, H2 => by
    have h : (pB (pI T.1 k) fun k1 _ => if T.1 k1 = 1 then pO k1 () else pP T.1 f k1) = some r := h
    obtain ⟨y, hy, y1, y2⟩ := pB_cases h
    have pp := (pI_pos hw hn hy).1
    have y3 : ∀ q, y = .inr q → (T.1 q.1 = 1 → r = .inr (q.1, ())) ∧ (¬ T.1 q.1 = 1 → pP T.1 f q.1 = some r) := fun q hq => by
      have hx : (if T.1 q.1 = 1 then pO q.1 () else pP T.1 f q.1) = some r := y2 q hq
      refine ⟨fun c => ?_, fun c => ?_⟩
      · rw [if_pos c] at hx
        exact pO_inv hx
      · rw [if_neg c] at hx
        exact hx
    have pxy : qPos y ≤ qPos r := qPos_le y1 (fun q hq => by
      have p2 : q.1 < T.2.2.2 := by
        have := pp.2
        rw [hq] at this
        exact this
      by_cases c : T.1 q.1 = 1
      · rw [(y3 q hq).1 c]
        exact Nat.le_refl _
      · exact (pP_pos hw p2 ((y3 q hq).2 c)).1)
    rcases hy2 : qOut (qEp9 T mn) k y with w | q
    · have hx := qOut_thr hy2 y1 ⟨pp.1, pxy⟩
      refine ⟨bc, bs, Nat.le_refl _, Nat.le_refl _, ?_⟩
      have H3 : qTh T P D bc bs I0 J0 (qOut (qEp9 T mn) k y) := qTh_to H1 hx hy2
      have no : ∀ q, y = .inr q → (∀ j, k ≤ j → j < q.1 → qEp9 T mn j = 0) → False := fun q hq hc => by
        have : qOut (qEp9 T mn) k y = .inr q := by
          rw [hq]
          refine qOut_r (qFe_none (fun j h1 h2 => hc j h1 ?_))
          have := pp.1
          rw [hq] at this
          have : k ≤ q.1 := this
          omega
        rw [this] at hy2
        cases hy2
      exact s_it (d := d) hRO hw hv hm hy (hok_sub y1 hok) hn6 hn7 ho hn hab hs hz hrp hcl hkp H3 (fun q hq => ⟨fun m0 => (no q hq (fun j _ _ => by
        unfold qEp9
        rw [if_neg (by omega)])).elim, fun m1 hc => (no q hq (fun j _ h2 => by
        unfold qEp9
        rw [if_pos m1]
        exact hc j h2)).elim⟩)
    · obtain ⟨e2, e3⟩ := qOut_go hy2 ⟨pp.1, pxy⟩
      subst e2
      have pq : q.1 < T.2.2.2 := pp.2
      refine ⟨0, 0, Nat.zero_le _, Nat.zero_le _, ?_⟩
      have next : ∀ I' J' a', qMi T mn I0 J0 q.1 a' I' J' → (mn = 0 → a' = a ∧ I' 37 = I 37 ∧ I' 39 = I 39) → (mn = 1 → (∀ i, i < q.1 → qEE T i = 0) ∧ a' ≤ 3 * q.1 ∧ qRp ok (qPg T (qMm T q.1)) a' I') → zw RO (d + 77) 176 P 9 [(0, .ref 28)] [] I' J' D bc bs := fun I' J' a' hs' h0 h1 => by
        obtain ⟨o, n1, n2⟩ := n_148 (a := 1) hw hs'.1 hs'.2.1 pq (by omega)
        refine wl_176_9 (d := d + 76) ⟨o, fun z => ?_, fun z => ?_⟩
        · have c : T.1 q.1 = 1 := by
            by_cases c : T.1 q.1 = 1
            · exact c
            · exact absurd (n1.mpr c) z
          have er := (y3 q rfl).1 c
          rcases hm with m0 | m1
          · obtain ⟨g1, g2, g3⟩ := h0 m0
            subst g1
            subst m0
            exact (H2 _ er c pq).1 rfl I' J' hs' g2 g3
          · obtain ⟨g1, g2, g3⟩ := h1 m1
            subst m1
            exact (H2 _ er c pq).2 rfl g1 I' J' a' hs' g2 g3
        · have c : ¬ T.1 q.1 = 1 := by
            by_cases c : T.1 q.1 = 1
            · exact absurd ((n2 c).symm.trans (Decidable.not_not.mp z)) (by decide)
            · exact c
          have hr := (y3 q rfl).2 c
          have he := pI_end (k2 := q.1) (u := q.2) hy
          refine s_176l hRO hw hv hm hok hn6 hn7 ho hr pq (fun m1 => (h1 m1).2.1) hs' (fun m0 => by rw [(h0 m0).2.1]; exact hz m0) (fun m1 => (h1 m1).2.2) (fun m1 => (h1 m1).1) (fun _ => by omega) (by rw [← e3]; exact H1) (fun q2 er c2 pq2 => ⟨fun m0 I5 J5 hs5 e5 e6 => ?_, fun m1 => (H2 q2 er c2 pq2).2 m1⟩)
          obtain ⟨g1, g2, g3⟩ := h0 m0
          subst g1
          exact (H2 q2 er c2 pq2).1 m0 I5 J5 hs5 (e5.trans g2) (e6.trans g3)
      refine s_it (d := d) hRO hw hv hm hy (hok_sub y1 hok) hn6 hn7 ho hn hab hs hz hrp hcl hkp (qTh_no hy2) (fun q9 hq9 => ?_)
      have e9 : q = q9 := by
        cases hq9
        rfl
      subst e9
      refine ⟨fun m0 I' J' hs' e37 e39 => ?_, fun m1 hc I' J' a' hs' ha' hrp' => ?_⟩
      · subst m0
        exact next I' J' a hs' (fun _ => ⟨rfl, e37, e39⟩) (fun z => by cases z)
      · subst m1
        exact next I' J' a' hs' (fun z => by cases z) (fun _ => ⟨hc, ha', hrp'⟩)
/-- all items are read -/
theorem s_176 {r : Nat ⊕ (Nat × Unit)} {f a : Nat} {I : zI} {J : zJ} (hRO : zROk RO) (hw : qTw T) (hv : qTv T) (hm : mn = 0 ∨ mn = 1) (h : pP T.1 f 0 = some r) (hok : mn = 1 → ∃ q, r = .inr q) (hn6 : mn = 1 → ∀ i, T.1 i = 6 → T.1 (i + 1) = 2) (hn7 : mn = 1 → ∀ i, T.1 i = 7 → T.1 (i + 1) = 2) (ho : ok → qCn T.1 7 T.2.2.2 ≤ 12) (ha : mn = 1 → a = 0) (hs : qMi T mn I0 J0 0 a (zu I 28 24 0) J) (hz : mn = 0 → ∀ x, x ≤ 6 → I 37 (qkm (x + 4)) = 0) (hrp : mn = 1 → qRp ok (qPg T (qMm T 0)) a (zu I 28 24 0)) (H1 : qTh T P D bc bs I0 J0 (qOut (qEp9 T mn) 0 r)) (H2 : ∀ q, r = .inr q → T.1 q.1 = 1 → q.1 < T.2.2.2 → qFin T mn ok I0 J0 P D (zu I 28 24 0) a q.1) : zz RO (d + 78) 176 [.ref 28] I J D bc bs P :=
  w_176 (d := d + 76) (s_176l (d := d) hRO hw hv hm hok hn6 hn7 ho h (by have := hw.1; omega) (fun m1 => by rw [ha m1]; exact Nat.zero_le _) hs (fun m0 => by rw [zu_row _ _ (by decide)]; exact hz m0) hrp (fun _ i hi => absurd hi (Nat.not_lt_zero i)) (fun z => absurd z (by decide)) H1 H2)
end MItemI
