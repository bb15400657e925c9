/-! ===== the reference's items: tracks and pools ===== -/
theorem qMost_pos (c : Nat) : 0 < qMost c := by
  unfold qMost
  (repeat' split) <;> omega
theorem qMm_14 {T : qTk} {k k2 : Nat} (h : k ≤ k2) (hy : ∀ j, k ≤ j → j < k2 → ¬ T.1 j = 10) : (qMm T k2).1 14 = (qMm T k).1 14 := by
  induction k2 with
  | zero =>
    have : k = 0 := by omega
    rw [this]
  | succ j ih =>
    by_cases e : k = j + 1
    · rw [e]
    · rw [← ih (by omega) (fun i h1 h2 => hy i h1 (by omega))]
      have n10 := hy j (by omega) (by omega)
      show (qM1 T j (qMm T j)).1 14 = _
      by_cases c : 4 ≤ T.1 j ∧ T.1 j ≤ 10
      · have mi := qM1_it (T := T) (k := j) (m := qMm T j) c
        rw [mi.2.2.2.2.2.1, if_neg n10]
      · generalize qMm T j = m
        unfold qM1
        rw [if_neg c]
        by_cases c2 : T.1 j = 2
        · rw [if_pos c2]
          (repeat' split) <;> rfl
        · rw [if_neg c2]
          by_cases c3 : T.1 j = 3
          · rw [if_pos c3]
            split
            · show qup m.1 12 (m.1 12 + 1) 14 = _
              rw [qup_n _ _ (by omega)]
            · rfl
          · rw [if_neg c3]
            by_cases c4 : T.1 j = 13
            · rw [if_pos c4]
              show qup m.1 13 1 14 = _
              rw [qup_n _ _ (by omega)]
            · rw [if_neg c4]
              by_cases c5 : T.1 j = 14
              · rw [if_pos c5]
                show qup m.1 13 0 14 = _
                rw [qup_n _ _ (by omega)]
              · rw [if_neg c5]
theorem qMm_c {T : qTk} {x k k2 : Nat} (hx : x ≤ 6) (h : k ≤ k2) (hy : ∀ j, k ≤ j → j < k2 → ¬ (4 ≤ T.1 j ∧ T.1 j ≤ 10)) : (qMm T k2).1 x = (qMm T k).1 x := by
  rw [qMm_cn hx, qMm_cn hx, qCn_ys (by omega) h (fun j h1 h2 => by have := hy j h1 h2; omega)]
theorem qMm_nm {T : qTk} {k : Nat} (h2 : T.1 (k + 1) = 2) (hc : 4 ≤ T.1 k ∧ T.1 k ≤ 9) : qMm T (k + 2) = qMm T (k + 1) := by
  show qM1 T (k + 1) (qMm T (k + 1)) = _
  unfold qM1
  rw [Nat.add_sub_cancel, if_neg (by omega), if_pos h2, if_neg (by omega), if_neg (by omega)]
abbrev vs (c : Nat) : Prop := c = 3 ∨ c = 43 ∨ c = 11 ∨ c = 12 ∨ c = 39
theorem pT_tk {s : Nat → Nat} {ok : Nat → Prop} {a k k2 : Nat} {u : Unit} (h : pT s a k = pO k2 u) (ha : ok a) : tks s ok k k2 := by
  obtain ⟨e1, e2⟩ := pT_inv (q := (k2, u)) h
  have e2 : k2 = k + 1 := e2
  rw [e2]
  exact tks_one (by rw [e1]; exact ha)
theorem pWh_tk {s : Nat → Nat} {k k2 : Nat} {u : Unit} (h : pWh s k = pO k2 u) : tks s vs k k2 := by
  unfold pWh at h
  by_cases c : s k = 43
  · rw [if_pos c] at h
    exact tks_app (tks_one (Or.inr (Or.inl c))) (pT_tk h (Or.inl rfl))
  · rw [if_neg c] at h
    exact pT_tk h (Or.inl rfl)
theorem pRg_tk {s : Nat → Nat} {k k2 : Nat} {u : Unit} (h : pRg s k = pO k2 u) : tks s vs k k2 := by
  unfold pRg at h
  rcases pB_inv h with ⟨j, _, e⟩ | ⟨k1, u1, h1, h⟩
  · cases e
  rcases pB_inv h with ⟨j, _, e⟩ | ⟨k3, u3, h3, h⟩
  · cases e
  rcases pB_inv h with ⟨j, _, e⟩ | ⟨k4, u4, h4, h⟩
  · cases e
  rcases pB_inv h with ⟨j, _, e⟩ | ⟨k5, u5, h5, h⟩
  · cases e
  rcases pB_inv h with ⟨j, _, e⟩ | ⟨k6, u6, h6, h⟩
  · cases e
  exact tks_app (pWh_tk h1) (tks_app (pT_tk h3 (by omega)) (tks_app (pWh_tk h4) (tks_app (pT_tk h5 (by omega)) (tks_app (pWh_tk h6) (pT_tk h (by omega))))))
section MItemA
variable {RO : zRo} {d : Nat} {P : zP} {I : zI} {J : zJ} {D : zD} {bc bs : Nat} {T : qTk} {mn ct k dp a j c : Nat} {I0 : zI} {J0 : zJ} {ok : Prop}
theorem pRg_pos {r : Nat ⊕ (Nat × Unit)} (hw : qTw T) (hn : k < T.2.2.2) (h : pRg T.1 k = some r) : k ≤ qPos r ∧ qPos r < T.2.2.2 := by
  unfold pRg at h
  exact pB_pos h (fun y hy => pWh_pos hw hn hy) (fun k1 _ q1 q2 x hx => pB_pos hx (fun y hy => pT_pos hw (by omega) q2 hy) (fun k1 _ q1 q2 x hx => pB_pos hx (fun y hy => pWh_pos hw q2 hy) (fun k1 _ q1 q2 x hx => pB_pos hx (fun y hy => pT_pos hw (by omega) q2 hy) (fun k1 _ q1 q2 x hx => pB_pos hx (fun y hy => pWh_pos hw q2 hy) (fun k1 _ q1 q2 x hx => pT_pos hw (by omega) q2 hx)))))
/-- how many there are of the item's sort -/
theorem s_N (hm : mn = 0 ∨ mn = 1) (hc : 4 ≤ T.1 k ∧ T.1 k ≤ 10) (hz : mn = 0 → ∀ x, x ≤ 6 → I 37 (qkm (x + 4)) = 0) (hrp : mn = 1 → qRp ok (qPg T (qMm T k)) a I) (hE : mn = 1 → qEE T k = 0) : ∃ N : Nat, I 37 (qkm (T.1 k)) = zi (N : Int) ∧ (mn = 1 → N = (qMm T k).1 (T.1 k - 4)) ∧ N < qMost (T.1 k - 4) := by
  have e4 : T.1 k - 4 + 4 = T.1 k := by omega
  rcases hm with m0 | m1
  · have h := hz m0 (T.1 k - 4) (by omega)
    rw [e4] at h
    exact ⟨0, h, fun z => by omega, qMost_pos _⟩
  · have h := (hrp m1).1 (T.1 k - 4) (by omega)
    rw [e4] at h
    refine ⟨_, h, fun _ => rfl, ?_⟩
    have hE1 := hE m1
    unfold qEE qE1 at hE1
    rw [if_pos hc] at hE1
    show (qMm T k).1 (T.1 k - 4) < _
    by_cases z : qMost (T.1 k - 4) ≤ (qMm T k).1 (T.1 k - 4)
    · rw [if_pos z] at hE1
      cases hE1
    · omega
end MItemA
