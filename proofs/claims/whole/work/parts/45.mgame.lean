/-! ===== the reference's game: its relation, conditions, who has won, rules ===== -/
def zMw (p : zPg) (I : zI) (b : Nat) : Prop := match gPw p b with
  | none => I 40 b = zi (-1)
  | some o => ∃ a : Nat, I 40 b = zi a ∧ zmR I a (o.map zmo ++ [(450, 0, 0)])
def zMp (p : zPg) (I : zI) : Prop :=
  (I 37 0 = zi (gPc p 0) ∧ I 37 1 = zi (gPc p 1) ∧ ∀ k, 2 ≤ k → k < 6 → I 37 (k + 2) = zi (gPc p k)) ∧ (∀ k, k < 36 → zbv (gPc p 0) (gPc p 1) k → I 38 k = gPb p k) ∧ (∀ k, k < gPc p 2 → I 39 k = gPa p k) ∧ (∀ k, k < gPc p 5 → I 42 k = zi (gPr p k)) ∧ (∀ b, zBd p b → zMw p I b) ∧
  (∀ b, zBd p b → ∃ a : Nat, I 41 b = zi a ∧ zmR I a (zcam (zmc 4) (gPd p b) a ++ [(303, 0, 0)])) ∧ ∃ a : Nat, I 28 18 = zi a ∧ zmR I a ((gPn p).map zmo ++ [(450, 0, 0)])
def zMg (G : zGm) (z0 : Int64) (I : zI) (J : zJ) : Prop :=
  I 28 33 = zi (G.1 9) ∧ I 28 39 = zi (G.1 4) ∧ I 28 47 = zi G.2.2.2.1.length ∧ J 28 31 = z0 ∧ (∀ k w, k < G.2.2.2.1.length → w < 4 → I 49 (4 * k + w) = zi (G.2.2.2.1.getD k z4 w)) ∧ I 28 37 = zi (G.1 3) ∧ I 28 38 = zi (G.1 7)
abbrev zKm : List Nat := [0, 30, 33, 34, 35, 36, 37, 38, 39, 40, 41, 42, 45, 47]
abbrev zLm : List Nat := [46, 47, 48, 49, 51]
theorem zMp_keep {p : zPg} {I I' : zI} (h : zMp p I) (f : zfm zKm zLm I I') : zMp p I' := by
  have e37 := f.1 37 (by decide) (by decide); have e38 := f.1 38 (by decide) (by decide); have e39 := f.1 39 (by decide) (by decide); have e40 := f.1 40 (by decide) (by decide); have e41 := f.1 41 (by decide) (by decide); have e42 := f.1 42 (by decide) (by decide); have e43 := f.1 43 (by decide) (by decide); have e44 := f.1 44 (by decide) (by decide); have e45 := f.1 45 (by decide) (by decide)
  obtain ⟨h1, h2, h3, h4, h5, h6, a, h7, h8⟩ := h
  refine ⟨by rw [e37]; exact h1, by rw [e38]; exact h2, by rw [e39]; exact h3, by rw [e42]; exact h4, fun b hb => ?_, fun b hb => ?_, a, by rw [f.2 18 (by decide)]; exact h7, zmR_of h8 e43 e44 e45⟩
  · have h9 := h5 b hb
    unfold zMw at h9 ⊢
    split at h9
    · rw [e40]
      exact h9
    · obtain ⟨a, q1, q2⟩ := h9
      exact ⟨a, by rw [e40]; exact q1, zmR_of q2 e43 e44 e45⟩
  · obtain ⟨a, q1, q2⟩ := h6 b hb
    exact ⟨a, by rw [e41]; exact q1, zmR_of q2 e43 e44 e45⟩
theorem zMg_keep {G : zGm} {z0 : Int64} {I I' : zI} {J J' : zJ} (h : zMg G z0 I J) (f : zfm [30, 34, 35, 36, 40, 41, 42, 45] [46, 47, 48] I I') (g : zfm [32] [50] J J') : zMg G z0 I' J' := by
  unfold zMg
  rw [f.2 33 (by decide), f.2 39 (by decide), f.2 47 (by decide), f.2 37 (by decide), f.2 38 (by decide), f.1 49 (by decide) (by decide), g.2 31 (by decide)]
  exact h
theorem zMg_dns {G : zGm} {z0 : Int64} {I : zI} {J : zJ} {B : Nat → Int32} {n : Nat} {l : List (zSt n)} {ow tg : Nat} (h : zMg G z0 I J) : zMg (zdns B n l ow tg G) z0 I J := by
  unfold zMg at h ⊢
  rw [zdns_r, zdns_k (k := 9) (by omega), zdns_k (k := 4) (by omega), zdns_k (k := 3) (by omega), zdns_k (k := 7) (by omega)]
  exact h
theorem zMb_s {nt np : Nat} {G : zGm} {I : zI} {J : zJ} {k : Nat} {v : Int} (h : zMb nt np G I J) (hk : ¬ k = 0 ∧ ¬ k = 1 ∧ ¬ k = 2 ∧ ¬ k = 5 ∧ ¬ k = 6 ∧ ¬ k = 8) : zMb nt np (sS G k v) I J := by
  have e : ∀ j, (j = 0 ∨ j = 1 ∨ j = 2 ∨ j = 5 ∨ j = 6 ∨ j = 8) → (sS G k v).1 j = G.1 j := by
    intro j hj
    show (if j = k then v else G.1 j) = G.1 j
    rw [if_neg (by omega)]
  unfold zMb
  rw [e 8 (by omega), e 0 (by omega), e 1 (by omega), e 2 (by omega), e 5 (by omega), e 6 (by omega)]
  exact h
theorem zMb_keep {nt np : Nat} {G : zGm} {I I' : zI} {J J' : zJ} (h : zMb nt np G I J) (f : zfm [0, 33, 37, 38, 39, 42, 47] [49, 51] I I') (g : zfm [31] [50] J J') : zMb nt np G I' J' := by
  unfold zMb
  rw [f.2 30 (by decide), f.2 45 (by decide), f.2 34 (by decide), f.2 35 (by decide), f.2 36 (by decide), f.2 40 (by decide), f.2 41 (by decide), g.2 32 (by decide), f.1 46 (by decide) (by decide), f.1 47 (by decide) (by decide), f.1 48 (by decide) (by decide)]
  exact h
section MGame
variable {RO : zRo} {d : Nat} {P : zP} {I : zI} {J : zJ} {D : zD} {bc bs : Nat} {m t ow tg nt np : Nat} {G : zGm} {p : zPg} {z0 : Int64} {l1 l2 l3 l4 : Int32}
theorem n_179 {q : Nat} (h : I 28 30 = zi (m : Int)) (hm : 2 ≤ m ∧ m ≤ 4) (hq : q < 1000) : zv_179 I J (zi q) = zi ((q + 1) % m : Nat) ∧ zo_179 I J (zi q) := by
  refine ⟨?_, ?_⟩
  · unfold zv_179
    rw [h, show (1 : Int32) = zi 1 from rfl, zi_add, zi_mod (by omega) (by omega) (by omega) (by omega)]
    congr 1
  · refine ⟨?_, trivial⟩
    rw [h, show (0 : Int32) = zi 0 from rfl, zi_eq (by omega) (by omega)]
    omega
theorem n_186 {l : List (zSt 4)} {a : Nat} (hk : zPok p) (hm : 2 ≤ m ∧ m ≤ 4) (h1 : ow < m) (h2 : tg < m) (hw : ∀ s ∈ l, zwS 4 s ∧ zvS (gPc p 0) (gPc p 1) 4 s) (h8 : G.1 8 = m) (hl : G.2.2.1.length ≤ 10) (hM : zMb (gPc p 0) (gPc p 1) G I J) (hc : zmR I a (zcam (zmc 4) l a ++ [(303, 0, 0)])) (hB : ∀ k, k < 36 → zbv (gPc p 0) (gPc p 1) k → I 38 k = gPb p k)
    (k : ∀ I' J', zMb (gPc p 0) (gPc p 1) (zdns (gPb p) 4 l ow tg G) I' J' → zfm [40, 41, 45] [46, 47] I I' → zfm [32] [50] J J' → P (.inl none) I' J' D) : zz RO (d + 8) 186 [.ref 28, .int (zi a), .int (zi ow), .int (zi tg)] I J D bc bs P := by
  refine w_186 ?_
  refine m_list (m := m) (B := gPb p) (d := d + 7) (f := zmc 4) (g := fun x tg G => zdn (gPb p) 4 x ow tg G) (fun x tg G => zdn_k (by omega) 4 x) (fun x tg G => zdn_len 4 x) l (fun x hx => m_st hm h1 hk.2.2.2.2.1 4 d x (hw x hx).1 (hw x hx).2) P bc bs (zi a) a tg G I J h2 h8 hl hM (zmR_left hc) hB (fun I1 J1 hM1 f1 g1 => ?_)
  exact m_done (zmR_keep (zmR_right hc) f1) (k I1 J1 hM1 f1 g1)
theorem n_184 {b : Nat} (hk : zPok p) (hp : zMp p I) (hb : zBd p b) (h1 : ow < 4) (h2 : tg < 4) (hM : zMb (gPc p 0) (gPc p 1) G I J)
    (k : ∀ J', zMb (gPc p 0) (gPc p 1) G I J' → zfm [32] [50] J J' → P (.inl (some (.int (if gWhen p b G ow tg = true then 1 else 0)))) I J' D) : zz RO (d + 3) 184 [.ref 28, .int (zi b), .int (zi ow), .int (zi tg)] I J D bc bs P := by
  have hc := hk.1
  have hb28 : b < 28 := by
    unfold zBd at hb
    omega
  have hw := hp.2.2.2.2.1 b hb
  have hin : vp_in (zi (b : Int)) 28 := zi_in (by omega) (by omega) (by omega)
  have ecl : (zi (b : Int)).toNatClampNeg = b := by rw [zi_cl (by omega) (by omega)]; omega
  refine w_184 ?_
  rw [ecl]
  unfold zMw at hw
  unfold gWhen at k
  cases e : gPw p b with
  | none =>
    rw [e] at hw k
    refine ⟨hin, fun _ => ?_, fun q => absurd hw q⟩
    exact k J hM (zfm_refl _)
  | some o =>
    rw [e] at hw k
    obtain ⟨a, q1, q2⟩ := hw
    have ho := hk.2.1 b hb o e
    have ha : a < 1350 := (zmR_right q2).2 |> fun h => by simp at h; omega
    refine ⟨hin, fun q => absurd q ?_, fun _ => ⟨hin, ?_⟩⟩
    · rw [q1, show (-1 : Int32) = zi (-1) from rfl, zi_eq (by omega) (by omega)]
      omega
    · rw [q1]
      refine s_180 (G := G) h1 h2 ho.1 ho.2.2 hM q2 (fun J1 hM1 g1 => ?_)
      rw [zvG_dl ho.2.1] at hM1
      have k1 := k J1 hM1 g1
      by_cases hv : zvl G ow tg o = 0
      · rw [if_neg (by simpa using hv)] at k1
        exact ⟨fun _ => k1, fun q => absurd hv q⟩
      · rw [if_pos (by simpa using hv)] at k1
        exact ⟨fun q => absurd q hv, fun _ => k1⟩
theorem n_187r (hk : zPok p) (hm : G.1 8 = (m : Int)) (hm4 : 2 ≤ m ∧ m ≤ 4) (ht : G.1 1 = (t : Int)) (htm : t < m) (h90 : G.1 9 = 0) (hA : G.1 3 = -1 ∧ G.1 7 = 0) (hp : zMp p I) : ∀ (j q n : Nat) {J : zJ}, n + j = m → q = (t + n) % m → zMb (gPc p 0) (gPc p 1) G I J → zMg G z0 I J →
    (∀ I' J', zMb (gPc p 0) (gPc p 1) (gLk p G j q) I' J' → zMg (gLk p G j q) z0 I' J' → zfm [33, 39] [] I I' → zfm [32] [50] J J' → P (.inl (some (.int (if (gLk p G j q).1 9 = 0 then 0 else 1)))) I' J' D) →
    zw RO (d + 3) 187 P 2 [(0, .ref 28), (1, .int (zi n))] [] I J D bc bs
  | 0, q, n, J, hj, hq, hM, hS, k => by
    have k1 := k I J hM hS (zfm_refl _) (zfm_refl _)
    rw [if_pos (show (gLk p G 0 q).1 9 = 0 from h90)] at k1
    refine wl_187_2 ?_
    rw [hM.1, hm, zi_le (by omega) (by omega)]
    exact ⟨fun _ => k1, fun h => absurd (by omega) h⟩
  | j + 1, q, n, J, hj, hq, hM, hS, k => by
    obtain ⟨a, hw1, hw2⟩ := hp.2.2.2.2.2.2
    have hqm : q < m := by rw [hq]; exact Nat.mod_lt _ (by omega)
    have et : (zi (t : Int) + zi (n : Int)) - (zi (t : Int) + zi (n : Int)) / zi (m : Int) * zi (m : Int) = zi (q : Int) := by
      rw [zi_add, zi_mod (by omega) (by omega) (by omega) (by omega), hq]
      congr 1
    have h30 : I 28 30 = zi (m : Int) := by rw [hM.1, hm]
    have n9 := n_179 (J := J) h30 hm4 (q := q) (by omega)
    have hbl : gB G q < m := gB_lt hm hm4.1
    refine wl_187_2 ?_
    rw [h30, zi_le (by omega) (by omega), hM.2.2.2.1, ht, et, hw1, n9.1, ← gB_eq hm]
    refine ⟨fun h => absurd h (by omega), fun _ => ⟨?_, n9.2, ?_⟩⟩
    · rw [show (0 : Int32) = zi 0 from rfl, zi_eq (by omega) (by omega)]
      omega
    refine s_180 (G := G) (by omega) (by omega) hk.2.2.2.1.1 hk.2.2.2.1.2.2 hM hw2 (fun J1 hM1 g1 => ?_)
    rw [zvG_dl hk.2.2.2.1.2.1] at hM1
    have hS1 : zMg G z0 I J1 := zMg_keep hS (zfm_refl _) g1
    refine ⟨fun hv => ?_, fun hv => ?_⟩
    · have e : gLk p G (j + 1) q = sS (sS (sS (sS G 9 1) 4 q) 3 (-1)) 7 0 := by
        show (if zvl G q (gB G q) (gPn p) = 0 then _ else _) = _
        rw [if_neg hv]
      have k9 := k (zu (zu I 28 39 (zi q)) 28 33 1) J1
      rw [e] at k9
      rw [if_neg (show ¬ (sS (sS (sS (sS G 9 1) 4 q) 3 (-1)) 7 0).1 9 = 0 from by show ¬ (1 : Int) = 0; decide)] at k9
      have f9 : zfm [33, 39] [] I (zu (zu I 28 39 (zi q)) 28 33 1) := zfm_z (zfm_z (zfm_refl _) _ _ (by decide)) _ _ (by decide)
      refine k9 ?_ ?_ f9 g1
      · exact zMb_keep (zMb_s (zMb_s (zMb_s (zMb_s hM1 (by omega)) (by omega)) (by omega)) (by omega)) (zfm_sub f9 (by simp) (by simp)) (zfm_refl _)
      · obtain ⟨c1, c2, c3, c4, c5, c6, c7⟩ := hS1
        refine ⟨?_, ?_, ?_, c4, ?_, ?_, ?_⟩
        · rw [zu_s]; rfl
        · rw [zu_n _ _ (by omega), zu_s]; rfl
        · rw [f9.2 47 (by decide)]; exact c3
        · rw [f9.1 49 (by decide) (by decide)]; exact c5
        · rw [f9.2 37 (by decide), c6, hA.1]; rfl
        · rw [f9.2 38 (by decide), c7, hA.2]; rfl
    · have hv0 : zvl G q (gB G q) (gPn p) = 0 := Classical.not_not.mp hv
      have e : gLk p G (j + 1) q = gLk p G j (gB G q) := by
        show (if zvl G q (gB G q) (gPn p) = 0 then _ else _) = _
        rw [if_pos hv0]
      rw [zi_succ]
      refine n_187r hk hm hm4 ht htm h90 hA hp j (gB G q) (n + 1) (by omega) ?_ hM1 hS1 (fun I2 J2 hM2 hS2 f2 g2 => ?_)
      · rw [gB_eq hm, hq, Nat.mod_add_mod, Nat.add_assoc]
      · rw [e] at k
        exact k I2 J2 hM2 hS2 f2 (zfm_trans g1 g2)
theorem n_187 (hk : zPok p) (hm : G.1 8 = (m : Int)) (hm4 : 2 ≤ m ∧ m ≤ 4) (ht : G.1 1 = (t : Int)) (htm : t < m) (h90 : G.1 9 = 0) (hA : G.1 3 = -1 ∧ G.1 7 = 0) (hp : zMp p I) (hM : zMb (gPc p 0) (gPc p 1) G I J) (hS : zMg G z0 I J)
    (k : ∀ I' J', zMb (gPc p 0) (gPc p 1) (gLook p G) I' J' → zMg (gLook p G) z0 I' J' → zfm [33, 39] [] I I' → zfm [32] [50] J J' → P (.inl (some (.int (if (gLook p G).1 9 = 0 then 0 else 1)))) I' J' D) :
    zz RO (d + 4) 187 [.ref 28] I J D bc bs P := by
  have e : gLook p G = gLk p G m t := by
    unfold gLook gM gT
    rw [hm, ht]
    rfl
  rw [e] at k
  exact w_187 (n_187r hk hm hm4 ht htm h90 hA hp m t 0 (by omega) (by rw [Nat.add_zero, Nat.mod_eq_of_lt htm]) hM hS k)
end MGame
