/-! ===== the class's game: conditions, who has won ===== -/
def zBd (p : zPg) (b : Nat) : Prop := (b < 12 ∧ b < gPc p 3) ∨ (12 ≤ b ∧ b < 20 ∧ b - 12 < gPc p 4) ∨ (20 ≤ b ∧ b < 28 ∧ b - 20 < gPc p 5)
def zdl (o : List zOp) : Prop := ∀ q ∈ o, ¬ q.1 = 27
def zCw (p : zPg) (I : zI) (b : Nat) : Prop := match gPw p b with
  | none => I 17 b = zi (-1)
  | some o => ∃ a : Nat, I 17 b = zi a ∧ zcR I a (o ++ [(54, 0)])
def zCp (p : zPg) (I : zI) : Prop :=
  (∀ k, k < 7 → I 13 k = zi (gPc p k)) ∧ (∀ k, k < 36 → I 14 k = gPb p k) ∧ (∀ k, k < 6 → I 15 k = gPa p k) ∧ (∀ k, k < 8 → k < gPc p 5 → I 16 k = zi (gPr p k)) ∧ (∀ b, zBd p b → zCw p I b) ∧
  (∀ b, zBd p b → ∃ a : Nat, I 18 b = zi a ∧ zcR I a (zcat (zkc 4) (gPd p b) a ++ [(54, 0)])) ∧ ∃ a : Nat, I 12 6 = zi a ∧ zcR I a (gPn p ++ [(54, 0)])
/-- what holds of a program, whoever holds it -/
def zPok (p : zPg) : Prop :=
  (gPc p 0 ≤ 6 ∧ gPc p 1 ≤ 6 ∧ 1 ≤ gPc p 2 ∧ gPc p 2 ≤ 6 ∧ gPc p 3 ≤ 12 ∧ gPc p 4 ≤ 8 ∧ gPc p 5 ≤ 8 ∧ gPc p 6 = 1) ∧ (∀ b, zBd p b → ∀ o, gPw p b = some o → zwE o ∧ zdl o ∧ zvO (gPc p 0) (gPc p 1) o) ∧ (∀ b, zBd p b → ∀ s ∈ gPd p b, zwS 4 s ∧ zvS (gPc p 0) (gPc p 1) 4 s) ∧
  (zwE (gPn p) ∧ zdl (gPn p) ∧ zvO (gPc p 0) (gPc p 1) (gPn p)) ∧ (∀ t, t < 12 → zbv (gPc p 0) (gPc p 1) (3 * t) → gPb p (3 * t) ≤ gPb p (3 * t + 1)) ∧ ∀ k, k < gPc p 5 → gPr p k < gPc p 2
def zCs (G : zGm) (z0 : Int64) (I : zI) (J : zJ) : Prop :=
  I 23 4 = zi G.2.2.2.1.length ∧ I 23 5 = zi (G.1 9) ∧ I 23 6 = zi (G.1 4) ∧ I 23 7 = zi (G.1 3) ∧ I 23 8 = zi (G.1 7) ∧ J 23 9 = z0 ∧ ∀ k w, k < G.2.2.2.1.length → w < 4 → I 27 (4 * k + w) = zi (G.2.2.2.1.getD k z4 w)
theorem zCp_keep {p : zPg} {I I' : zI} (h : zCp p I) (f : zfr [20, 21, 22, 23, 24, 26, 27] I I') : zCp p I' := by
  have e8 := f 8 (by simp); have e9 := f 9 (by simp); have e10 := f 10 (by simp); have e12 := f 12 (by simp); have e13 := f 13 (by simp); have e14 := f 14 (by simp); have e15 := f 15 (by simp); have e16 := f 16 (by simp); have e17 := f 17 (by simp); have e18 := f 18 (by simp)
  obtain ⟨h1, h2, h3, h4, h5, h6, a, h7, h8⟩ := h
  refine ⟨by rw [e13]; exact h1, by rw [e14]; exact h2, by rw [e15]; exact h3, by rw [e16]; exact h4, fun b hb => ?_, fun b hb => ?_, a, by rw [e12]; exact h7, zcR_of h8 e8 e9 e10⟩
  · have h9 := h5 b hb
    unfold zCw at h9 ⊢
    split at h9
    · rw [e17]
      exact h9
    · obtain ⟨a, q1, q2⟩ := h9
      exact ⟨a, by rw [e17]; exact q1, zcR_of q2 e8 e9 e10⟩
  · obtain ⟨a, q1, q2⟩ := h6 b hb
    exact ⟨a, by rw [e18]; exact q1, zcR_of q2 e8 e9 e10⟩
theorem zCs_keep {G : zGm} {z0 : Int64} {I I' : zI} {J J' : zJ} (h : zCs G z0 I J) (e23 : I' 23 = I 23) (e27 : I' 27 = I 27) (ej : J' 23 = J 23) : zCs G z0 I' J' := by
  unfold zCs
  rw [e23, e27, ej]
  exact h
theorem zev_dl {G : zGm} {ow tg : Nat} : ∀ (o : List zOp), zdl o → ∀ (x : List Int64 × Int64), (zev G ow tg o x).2 = x.2
  | [], _, _ => rfl
  | q :: r, h, x => by
    rw [zev_cons, zev_dl r (fun y hy => h y (List.mem_cons_of_mem _ hy))]
    unfold zes
    have hq := h q List.mem_cons_self
    split
    · rfl
    · split
      · unfold zun
        split
        · rfl
        · split
          · rfl
          · omega
      · rfl
theorem zvG_dl {G : zGm} {ow tg : Nat} {o : List zOp} (h : zdl o) : zvG G ow tg o = G := by
  unfold zvG
  rw [zev_dl o h]
  rfl
theorem zTb_s {G : zGm} {I : zI} {J : zJ} {k : Nat} {v : Int} (h : zTb G I J) (hk : ¬ k = 0 ∧ ¬ k = 1 ∧ ¬ k = 2 ∧ ¬ k = 5 ∧ ¬ k = 6 ∧ ¬ k = 8) : zTb (sS G k v) I J := by
  obtain ⟨t2, t3, t4, t5, t6, t7, t8, tz, tv, ts⟩ := h
  have e : ∀ j, (j = 0 ∨ j = 1 ∨ j = 2 ∨ j = 5 ∨ j = 6 ∨ j = 8) → (sS G k v).1 j = G.1 j := by
    intro j hj
    show (if j = k then v else G.1 j) = G.1 j
    rw [if_neg (by omega)]
  unfold zTb
  rw [e 8 (by omega), e 0 (by omega), e 1 (by omega), e 2 (by omega), e 5 (by omega), e 6 (by omega)]
  exact ⟨t2, t3, t4, t5, t6, t7, t8, tz, tv, ts⟩
section CGame
variable {RO : zRo} {d : Nat} {P : zP} {I : zI} {J : zJ} {D : zD} {bc bs : Nat} {m ow tg : Nat} {G : zGm} {p : zPg} {z0 : Int64}
theorem s_33 {b : Nat} (hp : zCp p I) (hk : zPok p) (hb : zBd p b) (h1 : ow < 4) (h2 : tg < 4) (hT : zTb G I J)
    (k : ∀ I' J', zTb G I' J' → zfr [24] I I' → zfr [20, 25] J J' → P (.inl (some (.int (if gWhen p b G ow tg = true then 1 else 0)))) I' J' D) : zz RO (d + 4) 33 [.ref 23, .int (I 17 b), .int (zi ow), .int (zi tg)] I J D bc bs P := by
  have hw := hp.2.2.2.2.1 b hb
  unfold zCw at hw
  unfold gWhen at k
  refine w_33 ?_
  cases e : gPw p b with
  | none =>
    rw [e] at hw k
    have hw : I 17 b = zi (-1) := hw
    rw [hw]
    exact ⟨fun _ => k I J hT (zfr_refl _) (zfr_refl _), fun q => absurd (by decide) q⟩
  | some o =>
    rw [e] at hw k
    obtain ⟨a, q1, q2⟩ := hw
    obtain ⟨w1, w2, w3⟩ := hk.2.1 b hb o e
    have ha : a < 450 := by
      obtain ⟨-, n, -, h3, h4⟩ := q2
      rw [List.length_append, List.length_cons] at h3
      omega
    rw [q1]
    refine ⟨fun q => ?_, fun _ => s_run_e h1 h2 w1 hT q2 (fun I' J' hT' f g => ?_)⟩
    · exfalso
      rw [show (0 : Int32) = zi 0 from rfl, zi_lt (by omega) (by omega)] at q
      omega
    · rw [zvG_dl w2] at hT'
      have k9 := k I' J' hT' f g
      dsimp only at k9
      refine ⟨fun hv => ?_, fun hv => ?_⟩
      · rw [if_neg (by simp [hv])] at k9
        exact k9
      · rw [if_pos (by simp [hv])] at k9
        exact k9
/-- the game's own numbers, but for who is asked and how many passed -/
def zCq (G : zGm) (z0 : Int64) (I : zI) (J : zJ) : Prop :=
  I 23 4 = zi G.2.2.2.1.length ∧ I 23 5 = zi (G.1 9) ∧ I 23 6 = zi (G.1 4) ∧ J 23 9 = z0 ∧ ∀ k w, k < G.2.2.2.1.length → w < 4 → I 27 (4 * k + w) = zi (G.2.2.2.1.getD k z4 w)
theorem zCq_of (h : zCs G z0 I J) : zCq G z0 I J := ⟨h.1, h.2.1, h.2.2.1, h.2.2.2.2.2.1, h.2.2.2.2.2.2⟩
theorem zCs_of (h : zCq G z0 I J) (h7 : I 23 7 = zi (G.1 3)) (h8 : I 23 8 = zi (G.1 7)) : zCs G z0 I J := ⟨h.1, h.2.1, h.2.2.1, h7, h8, h.2.2.2.1, h.2.2.2.2⟩
theorem zCq_keep {I' : zI} {J' : zJ} (h : zCq G z0 I J) (e23 : I' 23 = I 23) (e27 : I' 27 = I 27) (ej : J' 23 = J 23) : zCq G z0 I' J' := by
  unfold zCq
  rw [e23, e27, ej]
  exact h
theorem gB_lt {q : Nat} (hm : G.1 8 = (m : Int)) (hm4 : 2 ≤ m) : gB G q < m := by
  unfold gB gM
  rw [hm]
  exact Nat.mod_lt _ (by omega)
theorem gB_eq {q : Nat} (hm : G.1 8 = (m : Int)) : gB G q = (q + 1) % m := by
  unfold gB gM
  rw [hm]
  congr 1
theorem r_39 (hk : zPok p) (hm : G.1 8 = (m : Int)) (hm4 : 2 ≤ m ∧ m ≤ 4) (h90 : G.1 9 = 0) : ∀ (j q n : Nat) {I : zI} {J : zJ}, n + j = m → q < m → zCp p I → zTb G I J → zCq G z0 I J →
    (∀ I' J', zTb (gLk p G j q) I' J' → zCq (gLk p G j q) z0 I' J' → ((gLk p G j q).1 9 = 0 → I' 23 7 = I 23 7 ∧ I' 23 8 = I 23 8) → (¬ (gLk p G j q).1 9 = 0 → I' 23 7 = zi (-1) ∧ I' 23 8 = zi 0) → zfr [23, 24] I I' → zfr [20, 25] J J' → P (.inl none) I' J' D) →
    zw RO (d + 3) 39 P 10 [(0, .ref 23), (1, .int (zi q)), (2, .int (zi n))] [] I J D bc bs
  | 0, q, n, I, J, hj, hq, hp, hT, hC, k => by
    refine wl_39_10 ?_
    rw [hT.1, hm, zi_le (by omega) (by omega)]
    exact ⟨fun _ => k I J hT hC (fun _ => ⟨rfl, rfl⟩) (fun h => absurd h90 h) (zfr_refl _) (zfr_refl _), fun h => absurd (by omega) h⟩
  | j + 1, q, n, I, J, hj, hq, hp, hT, hC, k => by
    obtain ⟨a, hw1, hw2⟩ := hp.2.2.2.2.2.2
    refine wl_39_10 ?_
    rw [hT.1, hm, zi_le (by omega) (by omega), hw1, zv83_at (m := m) (by rw [hT.1, hm]) hm4.2 hq, ← gB_eq hm]
    have hbl : gB G q < m := gB_lt hm hm4.1
    refine ⟨fun h => absurd h (by omega), fun _ => s_run_e (by omega) (by omega) hk.2.2.2.1.1 hT hw2 (fun I1 J1 hT1 f1 g1 => ?_)⟩
    rw [zvG_dl hk.2.2.2.1.2.1] at hT1
    have hC1 : zCq G z0 I1 J1 := zCq_keep hC (f1 23 (by simp)) (f1 27 (by simp)) (g1 23 (by simp))
    refine ⟨fun hv => ?_, fun hv => ?_⟩
    · rw [zi_succ]
      refine r_39 hk hm hm4 h90 j (gB G q) (n + 1) (by omega) hbl (zCp_keep hp (zfr_sub f1 (by simp))) hT1 hC1 (fun I2 J2 hT2 hC2 u1 u2 f2 g2 => ?_)
      have e : gLk p G (j + 1) q = gLk p G j (gB G q) := by
        show (if zvl G q (gB G q) (gPn p) = 0 then _ else _) = _
        rw [if_pos hv]
      rw [← e] at hT2 hC2 u1 u2
      refine k I2 J2 hT2 hC2 (fun h => ?_) u2 (zfr_trans (zfr_sub f1 (by simp)) f2) (zfr_trans g1 g2)
      rw [← f1 23 (by simp)]
      exact u1 h
    · have e : gLk p G (j + 1) q = sS (sS (sS (sS G 9 1) 4 q) 3 (-1)) 7 0 := by
        show (if zvl G q (gB G q) (gPn p) = 0 then _ else _) = _
        rw [if_neg hv]
      refine w_36 ?_
      have k9 := k (zu (zu (zu (zu I1 23 5 1) 23 6 (zi q)) 23 7 (-1)) 23 8 0) J1
      rw [e] at k9
      refine k9 ?_ ?_ (fun h => ?_) (fun _ => ?_) (zfr_zu (zfr_zu (zfr_zu (zfr_zu (zfr_sub f1 (by simp)) _ _ (by simp)) _ _ (by simp)) _ _ (by simp)) _ _ (by simp)) g1
      · exact zTb_keep (zTb_s (zTb_s (zTb_s (zTb_s hT1 (by omega)) (by omega)) (by omega)) (by omega)) (by rw [zu_row _ _ (by omega), zu_row _ _ (by omega), zu_row _ _ (by omega), zu_row _ _ (by omega)]) (by rw [zu_row _ _ (by omega), zu_row _ _ (by omega), zu_row _ _ (by omega), zu_row _ _ (by omega)]) (by rw [zu_row _ _ (by omega), zu_row _ _ (by omega), zu_row _ _ (by omega), zu_row _ _ (by omega)]) rfl
      · obtain ⟨c1, c2, c3, c4, c5⟩ := hC1
        refine ⟨?_, ?_, ?_, c4, ?_⟩
        · rw [zu_n _ _ (by omega), zu_n _ _ (by omega), zu_n _ _ (by omega), zu_n _ _ (by omega)]
          exact c1
        · rw [zu_n _ _ (by omega), zu_n _ _ (by omega), zu_n _ _ (by omega), zu_s]
          rfl
        · rw [zu_n _ _ (by omega), zu_n _ _ (by omega), zu_s]
          rfl
        · intro k w hk hw
          rw [zu_n _ _ (by omega), zu_n _ _ (by omega), zu_n _ _ (by omega), zu_n _ _ (by omega)]
          exact c5 k w hk hw
      · exact absurd h (by show ¬ ((1 : Int) = 0); decide)
      · refine ⟨?_, ?_⟩
        · rw [zu_n _ _ (by omega), zu_s]
          rfl
        · rw [zu_s]
          rfl
theorem s_39 {t : Nat} (hk : zPok p) (hm : G.1 8 = (m : Int)) (hm4 : 2 ≤ m ∧ m ≤ 4) (ht : G.1 1 = (t : Int)) (htm : t < m) (h90 : G.1 9 = 0) (hp : zCp p I) (hT : zTb G I J) (hC : zCq G z0 I J)
    (k : ∀ I' J', zTb (gLook p G) I' J' → zCq (gLook p G) z0 I' J' → ((gLook p G).1 9 = 0 → I' 23 7 = I 23 7 ∧ I' 23 8 = I 23 8) → (¬ (gLook p G).1 9 = 0 → I' 23 7 = zi (-1) ∧ I' 23 8 = zi 0) → zfr [23, 24] I I' → zfr [20, 25] J J' → P (.inl none) I' J' D) :
    zz RO (d + 4) 39 [.ref 23] I J D bc bs P := by
  refine w_39 ?_
  have e : gLook p G = gLk p G m t := by
    unfold gLook gM gT
    rw [hm, ht]
    rfl
  rw [e] at k
  rw [hT.2.2.2.1, ht]
  exact r_39 hk hm hm4 h90 m t 0 (by omega) htm hp hT hC k
end CGame
