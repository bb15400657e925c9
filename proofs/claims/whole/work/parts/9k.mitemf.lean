/-! ===== the reference's items: acts, replies, rules ===== -/
theorem qMm_ph {T : qTk} {k : Nat} (h2 : T.1 k = 2) (ha : T.1 (k - 1) = 12) : qMm T (k + 1) = ((qMm T k).1, (qMm T k).2.1, (qMm T k).2.2.1, qup (qMm T k).2.2.2.1 ((qMm T k).1 11) ((qFd T 6 (T.2.2.1 k) T.2.2.2).getD 0), (qMm T k).2.2.2.2) ∧ qEE T k = if (qFd T 6 (T.2.2.1 k) T.2.2.2).isNone = true then 2 else 0 := by
  refine ⟨?_, ?_⟩
  · show qM1 T k (qMm T k) = _
    unfold qM1
    rw [if_neg (by omega), if_pos h2, if_neg (by omega), if_pos ha]
  · unfold qEE qE1
    rw [if_neg (by omega), if_pos h2, if_neg (by omega), if_neg (by omega), if_pos ha]
section MItemF
variable {RO : zRo} {d : Nat} {P : zP} {I : zI} {J : zJ} {D : zD} {bc bs : Nat} {T : qTk} {mn ct k dp a j c : Nat} {I0 : zI} {J0 : zJ} {ok : Prop}
theorem pAc_pos {r : Nat ⊕ (Nat × Unit)} (hw : qTw T) (hn : k < T.2.2.2) (h : pAc T.1 k = some r) : k ≤ qPos r ∧ qPos r < T.2.2.2 := by
  unfold pAc at h
  by_cases c : T.1 k = 13
  · rw [if_pos c] at h
    have l := qTw_lt hw (k := k) (by omega)
    have p := pB_pos (k := k + 1) h (fun y hy => by have := pEx_pos hw hy l; exact this) (fun k1 _ _ q2 x hx => pBd_pos hw q2 hx)
    omega
  · rw [if_neg c] at h
    exact pBd_pos hw hn h
theorem pRu_pos {r : Nat ⊕ (Nat × Unit)} (hw : qTw T) (hn : k < T.2.2.2) (h : pRu T.1 k = some r) : k ≤ qPos r ∧ qPos r < T.2.2.2 := by
  unfold pRu at h
  exact pB_pos h (fun y hy => pT_pos hw (by omega) hn hy) (fun k1 _ q1 q2 x hx => pB_pos hx (fun y hy => pT_pos hw (by omega) q2 hy) (fun k1 _ q1 q2 x hx => pAc_pos hw q2 hx))
theorem s_93b {v : Int32} {I1 : zI} {r : Nat ⊕ (Nat × Unit)} (hw : qTw T) (hm : mn = 0 ∨ mn = 1) (c0 : T.1 k = 7 ∨ T.1 k = 8) (h : pB (pT T.1 2 (k + 1)) (fun k1 _ => pAc T.1 k1) = some r) (hok : mn = 1 → ∃ q, r = .inr q) (hn : k < T.2.2.2) (hab : mn = 1 → a ≤ 3 * k) (hs : qMi T mn I0 J0 k a I J) (hz : mn = 0 → ∀ x, x ≤ 6 → I 37 (qkm (x + 4)) = 0) (hrp : mn = 1 → qRp ok (qPg T (qMm T k)) a I) (hcl : mn = 1 → ∀ i, i < k → qEE T i = 0) (hE : mn = 1 → qEE T k = 0) (hkp : 1 ≤ k → ¬ (4 ≤ T.1 (k - 1) ∧ T.1 (k - 1) ≤ 9)) (H1 : qTh T P D bc bs I0 J0 (qOut (qEp9 T mn) k r)) (H2 : ∀ q, r = .inr q → qFin T mn ok I0 J0 P D I a q.1) (e1 : I1 28 24 = zi ((k + 1 : Nat) : Int)) (f1 : zfm [24] [] I I1) :
    zw RO (d + 76) 168 P 93 [(0, .ref 28), (1, .int (zi (qkm (T.1 k) : Int))), (2, .int v), (3, .int 1)] [] I1 J D bc bs := by
  have hN := hw.2.1
  have hc9 : 4 ≤ T.1 k ∧ T.1 k ≤ 9 := by omega
  obtain ⟨N, n1, n2, n3⟩ := s_N hm (by omega) hz hrp hE
  have hp : T.1 (k + 1) = 2 → k + 2 ≤ qPos r ∧ qPos r < T.2.2.2 := fun z => by
    have l2 := qTw_lt hw (k := k + 1) (by omega)
    have h9 := h
    unfold pT at h9
    rw [if_pos z] at h9
    have h9 : pAc T.1 (k + 2) = some r := h9
    exact pAc_pos hw l2 h9
  have lk : ¬ zi (qkm (T.1 k) : Int) = 8 := by
    rcases c0 with z | z <;> rw [z] <;> decide
  have l01 : ¬ (zi (qkm (T.1 k) : Int) = 0 ∨ zi (qkm (T.1 k) : Int) = 1) := by
    rcases c0 with z | z <;> rw [z] <;> decide
  have l4 : ¬ zi (qkm (T.1 k) : Int) = 4 := by
    rcases c0 with z | z <;> rw [z] <;> decide
  refine wl_168_93 (d := d + 75) ⟨fun q => absurd q lk, fun _ => ?_⟩
  refine s_nw (d := d + 73) hw hm hc9 h hok hn hs n1 n2 hcl hE hkp (fun z => (hp z).1) H1 e1 f1 (fun c2 hcl2 hF ek I2 J2 s2 f2 => ?_)
  have l2 := qTw_lt hw (k := k + 1) (by omega)
  have M2 := qMm_nm c2 hc9
  have hm1 : qM1 T k (qMm T k) = qMm T (k + 1) := rfl
  have mi := qM1_it (T := T) (k := k) (m := qMm T k) (by omega)
  rw [hm1, ← M2] at mi
  have H3 : qTh T P D bc bs I0 J0 (qOut (qEp9 T mn) (k + 2) r) := by
    rw [← ek]
    exact H1
  have hF : pAc T.1 (k + 2) = some r := hF
  have go : ∀ pb : Nat, (pb = 0 ∧ T.1 k = 7 ∨ pb = 12 ∧ T.1 k = 8 ∨ pb = 20 ∧ T.1 k = 9) → zz RO (d + 76) 171 [.ref 28, .int (zi (pb : Int))] I2 J2 D bc bs (zNv P fun I J D => tTl P (zi (qkm (T.1 k) : Int)) I J D) := fun pb hpb =>
    s_bdE (d := d) (I := I) (N := N) hw hm hpb hF hok (Nat.le_refl _) l2 (by rw [show k + 2 - 1 = k + 1 by omega]; omega) hab s2 (by rw [f2.1 37 (by decide) (by decide)]; exact n1) n2 n3 hcl2 (fun m1 => ⟨fun x hx => mi.1 x hx, mi.2.1, by rw [mi.2.2.1, n2 m1], by rw [mi.2.2.2.2.2.1, if_neg (by omega)], mi.2.2.2.2.2.2.1, by rw [mi.2.2.2.2.2.2.2.1, if_neg (by omega)], fun i _ => by rw [mi.2.2.2.2.2.2.2.2.1], by rw [mi.2.2.2.2.2.2.2.2.2.1, if_pos (by omega), n2 m1], mi.2.2.2.2.2.2.2.2.2.2⟩) hrp (zfm_sub f2 (by simp) (by simp)) (fun m1 => ⟨fun i _ => by rw [f2.1 42 (by decide) (by decide)], fun z => by omega⟩) H3 H2
  show _ ∧ _
  refine ⟨fun q => absurd q l01, fun _ => ⟨fun q => absurd q l4, fun _ => ?_⟩⟩
  rcases c0 with z | z
  · have l5 : zi (qkm (T.1 k) : Int) = 5 := by
      rw [z]
      rfl
    have g := go 0 (Or.inl ⟨rfl, z⟩)
    rw [show zi ((0 : Nat) : Int) = (0 : Int32) from rfl] at g
    exact ⟨fun _ => ⟨bc, bs, Nat.le_refl _, Nat.le_refl _, g⟩, fun q => absurd l5 q⟩
  · have l6 : zi (qkm (T.1 k) : Int) = 6 := by
      rw [z]
      rfl
    have g := go 12 (Or.inr (Or.inl ⟨rfl, z⟩))
    rw [show zi ((12 : Nat) : Int) = (12 : Int32) from rfl] at g
    exact ⟨fun q => absurd q (by rw [l6]; decide), fun _ => ⟨fun _ => ⟨bc, bs, Nat.le_refl _, Nat.le_refl _, g⟩, fun q => absurd l6 q⟩⟩
end MItemF
