/-! ===== what statements leave as it was; the class's rules at the beginning of a phase ===== -/
theorem zfold_k {α β : Type} {f : zGm → α → zGm} {φ : zGm → β} (h : ∀ G a, φ (f G a) = φ G) : ∀ (l : List α) (G : zGm), φ (l.foldl f G) = φ G
  | [], _ => rfl
  | a :: l, G => (zfold_k h l (f G a)).trans (h G a)
theorem zb0_k {B : Nat → Int32} {b : zB0} {ow tg k : Nat} {G : zGm} (hk : ¬ k = 5 ∧ ¬ k = 6) : (zb0 B b ow tg G).1 k = G.1 k := by
  unfold zb0
  split
  · rfl
  · split
    · rfl
    · split
      · rfl
      · split
        · show (if k = 6 then _ else G.1 k) = _
          rw [if_neg hk.2]
        · show (if k = 5 then _ else G.1 k) = _
          rw [if_neg hk.1]
theorem zb0_r {B : Nat → Int32} {b : zB0} {ow tg : Nat} {G : zGm} : (zb0 B b ow tg G).2.2.2.1 = G.2.2.2.1 := by
  unfold zb0
  (repeat' split) <;> rfl
theorem zdn_k {B : Nat → Int32} {k : Nat} (hk : ¬ k = 5 ∧ ¬ k = 6) : ∀ (n : Nat) (st : zSt n) {ow tg : Nat} {G : zGm}, (zdn B n st ow tg G).1 k = G.1 k
  | 0, b, _, _, _ => zb0_k hk
  | _ + 1, .inl b, _, _, _ => zb0_k hk
  | n + 1, .inr (.inl (o, t, e)), ow, tg, G => by
    rw [zdn_if]
    have h : ∀ (l : List (zSt n)) (G : zGm), (l.foldl (fun G s => zdn B n s ow tg G) G).1 k = G.1 k := fun l G => zfold_k (φ := fun G => G.1 k) (fun G a => zdn_k hk n a) l G
    split
    · cases e with
      | none => rfl
      | some e => exact h e _
    · exact h t _
  | n + 1, .inr (.inr b), ow, _, G => by
    rw [zdn_all]
    exact zfold_k (φ := fun G => G.1 k) (fun G tg => zfold_k (φ := fun G => G.1 k) (fun G a => zdn_k hk n a) b G) _ G
theorem zdn_r {B : Nat → Int32} : ∀ (n : Nat) (st : zSt n) {ow tg : Nat} {G : zGm}, (zdn B n st ow tg G).2.2.2.1 = G.2.2.2.1
  | 0, b, _, _, _ => zb0_r
  | _ + 1, .inl b, _, _, _ => zb0_r
  | n + 1, .inr (.inl (o, t, e)), ow, tg, G => by
    rw [zdn_if]
    have h : ∀ (l : List (zSt n)) (G : zGm), (l.foldl (fun G s => zdn B n s ow tg G) G).2.2.2.1 = G.2.2.2.1 := fun l G => zfold_k (φ := fun G => G.2.2.2.1) (fun G a => zdn_r n a) l G
    split
    · cases e with
      | none => rfl
      | some e => exact h e _
    · exact h t _
  | n + 1, .inr (.inr b), ow, _, G => by
    rw [zdn_all]
    exact zfold_k (φ := fun G => G.2.2.2.1) (fun G tg => zfold_k (φ := fun G => G.2.2.2.1) (fun G a => zdn_r n a) b G) _ G
theorem zdns_k {B : Nat → Int32} {k n : Nat} (hk : ¬ k = 5 ∧ ¬ k = 6) {l : List (zSt n)} {ow tg : Nat} {G : zGm} : (zdns B n l ow tg G).1 k = G.1 k := zfold_k (φ := fun G => G.1 k) (fun G a => zdn_k hk n a) l G
theorem zdns_r {B : Nat → Int32} {n : Nat} {l : List (zSt n)} {ow tg : Nat} {G : zGm} : (zdns B n l ow tg G).2.2.2.1 = G.2.2.2.1 := zfold_k (φ := fun G => G.2.2.2.1) (fun G a => zdn_r n a) l G
theorem zdns_len {B : Nat → Int32} {n : Nat} {l : List (zSt n)} {ow tg : Nat} {G : zGm} : (zdns B n l ow tg G).2.2.1.length ≤ G.2.2.1.length := zfold_len (fun G a => zdn_len n a) l G
theorem gLk_or {p : zPg} {G : zGm} : ∀ (j q : Nat), gLk p G j q = G ∨ ∃ w : Nat, gLk p G j q = sS (sS (sS (sS G 9 1) 4 w) 3 (-1)) 7 0
  | 0, _ => Or.inl rfl
  | j + 1, q => by
    show (if zvl G q (gB G q) (gPn p) = 0 then gLk p G j (gB G q) else sS (sS (sS (sS G 9 1) 4 q) 3 (-1)) 7 0) = G ∨ ∃ w : Nat, (if zvl G q (gB G q) (gPn p) = 0 then gLk p G j (gB G q) else sS (sS (sS (sS G 9 1) 4 q) 3 (-1)) 7 0) = _
    split
    · exact gLk_or j _
    · exact Or.inr ⟨q, rfl⟩
theorem gLook_or {p : zPg} {G : zGm} : gLook p G = G ∨ ∃ w : Nat, gLook p G = sS (sS (sS (sS G 9 1) 4 w) 3 (-1)) 7 0 := gLk_or _ _
/-- what holds where nothing is on the stack and nobody is asked -/
def gQ (m t : Nat) (G : zGm) : Prop := G.1 8 = (m : Int) ∧ G.1 1 = (t : Int) ∧ G.1 3 = -1 ∧ G.1 7 = 0 ∧ G.2.2.1 = []
theorem gQ_dns {m t : Nat} {G : zGm} {B : Nat → Int32} {n : Nat} {l : List (zSt n)} {ow tg : Nat} (h : gQ m t G) : gQ m t (zdns B n l ow tg G) := by
  obtain ⟨h1, h2, h3, h4, h5⟩ := h
  refine ⟨(zdns_k (by omega)).trans h1, (zdns_k (by omega)).trans h2, (zdns_k (by omega)).trans h3, (zdns_k (by omega)).trans h4, ?_⟩
  have h9 := zdns_len (B := B) (n := n) (l := l) (ow := ow) (tg := tg) (G := G)
  rw [h5] at h9
  exact List.length_eq_zero_iff.mp (by simpa using h9)
theorem gQ_look {m t : Nat} {G : zGm} {p : zPg} (h : gQ m t G) : gQ m t (gLook p G) := by
  rcases gLook_or (p := p) (G := G) with e | ⟨w, e⟩
  · rw [e]; exact h
  · rw [e]
    obtain ⟨h1, h2, h3, h4, h5⟩ := h
    exact ⟨h1, h2, rfl, rfl, h5⟩
theorem gQ_rule {m t r : Nat} {G : zGm} {p : zPg} (h : gQ m t G) : gQ m t (gRule p G r) := by
  unfold gRule
  split
  · exact gQ_look (gQ_dns h)
  · exact h
theorem gQ_rules {m t : Nat} {p : zPg} : ∀ (l : List Nat) {G : zGm}, gQ m t G → gQ m t (l.foldl (gRule p) G)
  | [], _, h => h
  | r :: l, _, h => gQ_rules l (gQ_rule h)
theorem zCs_look {p : zPg} {G : zGm} {z0 : Int64} {I I' : zI} {J : zJ} (hC : zCq (gLook p G) z0 I' J) (h90 : G.1 9 = 0) (h7 : I 23 7 = zi (G.1 3)) (h8 : I 23 8 = zi (G.1 7)) (u1 : (gLook p G).1 9 = 0 → I' 23 7 = I 23 7 ∧ I' 23 8 = I 23 8) (u2 : ¬ (gLook p G).1 9 = 0 → I' 23 7 = zi (-1) ∧ I' 23 8 = zi 0) : zCs (gLook p G) z0 I' J := by
  rcases gLook_or (p := p) (G := G) with e | ⟨w, e⟩
  · obtain ⟨a, b⟩ := u1 (by rw [e]; exact h90)
    exact zCs_of hC (by rw [a, h7, e]) (by rw [b, h8, e])
  · obtain ⟨a, b⟩ := u2 (by rw [e]; show ¬ ((1 : Int) = 0); decide)
    exact zCs_of hC (by rw [a, e]; rfl) (by rw [b, e]; rfl)
section CGame2
variable {RO : zRo} {d : Nat} {P : zP} {I : zI} {J : zJ} {D : zD} {bc bs : Nat} {m t : Nat} {G : zGm} {p : zPg} {z0 : Int64}
theorem zv80_at {b : Nat} (hb : b < 28) : zv_80 I J (zi b) = I 17 b := by
  unfold zv_80
  simp (disch := omega) only [zlit, zi_le, zi_lt, zi_cl]
  rw [if_neg (by omega), if_neg (by omega)]
  congr 1
theorem zv81_at {b : Nat} (hb : b < 28) : zv_81 I J (zi b) = I 18 b := by
  unfold zv_81
  simp (disch := omega) only [zlit, zi_le, zi_lt, zi_cl]
  rw [if_neg (by omega), if_neg (by omega)]
  congr 1
theorem zv75_at {b : Nat} (hb : b < 7) : zv_75 I J (zi b) = I 13 b := by
  unfold zv_75
  simp (disch := omega) only [zlit, zi_le, zi_lt, zi_cl]
  rw [if_neg (by omega), if_neg (by omega)]
  congr 1
theorem r_40 (hk : zPok p) (hm4 : 2 ≤ m ∧ m ≤ 4) (htm : t < m) : ∀ (j r : Nat) {G : zGm} {I : zI} {J : zJ}, r + j = gPc p 5 → gQ m t G → -100 ≤ G.1 2 ∧ G.1 2 ≤ 100 → -100 ≤ G.1 9 ∧ G.1 9 ≤ 100 → zCp p I → zTb G I J → zCs G z0 I J →
    (∀ I' J', zTb (((List.range j).map (r + ·)).foldl (gRule p) G) I' J' → zCs (((List.range j).map (r + ·)).foldl (gRule p) G) z0 I' J' → zfr [20, 21, 23, 24, 26] I I' → zfr [20, 25] J J' → P (.inl none) I' J' D) →
    zw RO (d + 4) 40 P 26 [(0, .ref 23), (1, .int (zi (gPc p 5))), (2, .int (zi ((t + 1) % m : Nat))), (3, .int (zi r))] [] I J D bc bs
  | 0, r, G, I, J, hj, hQ, h2, h9, hp, hT, hC, k => by
    have hk5 := hk.1.2.2.2.2.2.2.1
    refine wl_40_26 ?_
    rw [zi_le (by omega) (by omega)]
    exact ⟨fun _ => k I J hT hC (zfr_refl _) (zfr_refl _), fun h => absurd (by omega) h⟩
  | j + 1, r, G, I, J, hj, hQ, h2, h9, hp, hT, hC, k => by
    have hk5 := hk.1.2.2.2.2.2.2.1
    have hbd : zBd p (20 + r) := by
      unfold zBd
      omega
    have hnb : (t + 1) % m < m := Nat.mod_lt _ (by omega)
    have egB : gB G (gT G) = (t + 1) % m := by
      rw [gB_eq hQ.1]
      unfold gT
      rw [hQ.2.1]
      rfl
    have egT : gT G = t := by
      unfold gT
      rw [hQ.2.1]
      rfl
    rw [List.range_succ_eq_map, List.map_cons, List.map_map, List.foldl_cons] at k
    have em : (List.range j).map ((r + ·) ∘ Nat.succ) = (List.range j).map ((r + 1) + ·) := by
      apply List.map_congr_left
      intro i _
      show r + (i + 1) = r + 1 + i
      omega
    rw [em, Nat.add_zero] at k
    have hrule : gRule p G r = if G.1 9 = 0 ∧ (gPr p r : Int) = G.1 2 ∧ gWhen p (20 + r) G t ((t + 1) % m) = true then gLook p (zdns (gPb p) 4 (gPd p (20 + r)) t ((t + 1) % m) G) else G := by
      unfold gRule
      rw [egB, egT]
    have next : ∀ {G1 : zGm} {I1 : zI} {J1 : zJ}, gRule p G r = G1 → G1.1 2 = G.1 2 → -100 ≤ G1.1 9 ∧ G1.1 9 ≤ 100 → zTb G1 I1 J1 → zCs G1 z0 I1 J1 → zfr [20, 21, 23, 24, 26] I I1 → zfr [20, 25] J J1 →
        zw RO (d + 4) 40 P 26 [(0, .ref 23), (1, .int (zi (gPc p 5))), (2, .int (zi ((t + 1) % m : Nat))), (3, .int (zi r + 1))] [] I1 J1 D bc bs := by
      intro G1 I1 J1 he h21 h91 hT1 hC1 f1 g1
      rw [zi_succ]
      have hQ1 : gQ m t G1 := he ▸ gQ_rule hQ
      refine r_40 hk hm4 htm j (r + 1) (by omega) hQ1 (by omega) h91 (zCp_keep hp (zfr_sub f1 (by simp))) hT1 hC1 (fun I2 J2 hT2 hC2 f2 g2 => ?_)
      rw [he] at k
      exact k I2 J2 hT2 hC2 (zfr_trans f1 f2) (zfr_trans g1 g2)
    refine wl_40_26 ?_
    rw [zi_le (by omega) (by omega)]
    refine ⟨fun h => absurd h (by omega), fun _ => ?_⟩
    rw [hC.2.1, show (0 : Int32) = zi 0 from rfl, zi_eq (by omega) (by omega)]
    refine ⟨fun hne => ?_, fun he0 => ?_⟩
    · -- the game is over: nothing more is gone through
      have hstay : ∀ (l : List Nat), l.foldl (gRule p) G = G := by
        intro l
        induction l with
        | nil => rfl
        | cons a l ih =>
          rw [List.foldl_cons]
          have e : gRule p G a = G := by
            unfold gRule
            rw [if_neg (fun q => hne q.1)]
          rw [e, ih]
      have e : gRule p G r = G := by
        unfold gRule
        rw [if_neg (fun q => hne q.1)]
      have k9 := k I J
      rw [e, hstay] at k9
      exact k9 hT hC (zfr_refl _) (zfr_refl _)
    · have h90 : G.1 9 = 0 := Classical.not_not.mp he0
      have e79 : zv_79 I J (zi r) (I 20 6) = if (gPr p r : Int) = G.1 2 then zi 1 else zi 0 := by
        have hr9 := hk.2.2.2.2.2 r (by omega)
        have hr8 := hk.1.2.2.2.1
        unfold zv_79
        rw [hT.2.2.2.2.1]
        simp (disch := omega) only [zlit, zi_le, zi_lt, zi_cl]
        rw [if_neg (by omega), if_neg (by omega), show ((r : Int)).toNat = r by omega, hp.2.2.2.1 r (by omega) (by omega)]
        have hq : zi (gPr p r : Int) = zi (G.1 2) ↔ (gPr p r : Int) = G.1 2 := zi_eq (by omega) (by omega)
        by_cases e : (gPr p r : Int) = G.1 2
        · rw [if_neg (fun q => q (hq.mpr e)), if_pos e]
        · rw [if_pos (fun q => e (hq.mp q)), if_neg e]
      rw [e79]
      by_cases hph : (gPr p r : Int) = G.1 2
      · rw [if_pos hph]
        refine ⟨fun q => absurd q (by decide), fun _ => ?_⟩
        have e20 : (20 : Int32) + zi r = zi (20 + r : Nat) := by
          rw [show (20 : Int32) = zi 20 from rfl, zi_add]
          congr 1
        rw [e20, zv80_at (by omega), hT.2.2.2.1, hQ.2.1]
        refine s_33 (G := G) hp hk hbd (by omega) (by omega) hT (fun I1 J1 hT1 f1 g1 => ?_)
        have hC1 : zCs G z0 I1 J1 := zCs_keep hC (f1 23 (by simp)) (f1 27 (by simp)) (g1 23 (by simp))
        by_cases hwh : gWhen p (20 + r) G t ((t + 1) % m) = true
        · rw [if_pos hwh]
          refine ⟨fun q => absurd q (by decide), fun _ => ?_⟩
          obtain ⟨a, q1, q2⟩ := (zCp_keep hp (zfr_sub f1 (by simp))).2.2.2.2.2.1 (20 + r) hbd
          have hB1 : ∀ k, k < 36 → I1 14 k = gPb p k := by rw [f1 14 (by simp)]; exact hp.2.1
          rw [zv81_at (by omega), q1, hT1.2.2.2.1, hQ.2.1]
          refine s_run_b (G := G) (m := m) (B := gPb p) hm4 htm hnb (fun s hs => ((hk.2.2.1 (20 + r) hbd) s hs).1) hQ.1 (by rw [hQ.2.2.2.2]; simp) hB1 hT1 q2 (fun I2 J2 hT2 f2 g2 => ?_)
          have hQ2 : gQ m t (zdns (gPb p) 4 (gPd p (20 + r)) t ((t + 1) % m) G) := gQ_dns hQ
          have hC2 : zCs (zdns (gPb p) 4 (gPd p (20 + r)) t ((t + 1) % m) G) z0 I2 J2 := by
            have h9 := zCs_keep hC1 (f2 23 (by simp)) (f2 27 (by simp)) (g2 23 (by simp))
            unfold zCs at h9 ⊢
            rw [zdns_r, zdns_k (k := 9) (by omega), zdns_k (k := 4) (by omega), zdns_k (k := 3) (by omega), zdns_k (k := 7) (by omega)]
            exact h9
          have h92 : (zdns (gPb p) 4 (gPd p (20 + r)) t ((t + 1) % m) G).1 9 = 0 := (zdns_k (by omega)).trans h90
          have f12 : zfr [20, 21, 24, 26] I I2 := zfr_trans (zfr_sub f1 (by simp)) f2
          refine s_39 (m := m) (t := t) hk hQ2.1 hm4 hQ2.2.1 htm h92 (zCp_keep hp (zfr_sub f12 (by simp))) hT2 (zCq_of hC2) (fun I3 J3 hT3 hC3 u1 u2 f3 g3 => ?_)
          have hC3' := zCs_look hC3 h92 hC2.2.2.2.1 hC2.2.2.2.2.1 u1 u2
          have e : gRule p G r = gLook p (zdns (gPb p) 4 (gPd p (20 + r)) t ((t + 1) % m) G) := by rw [hrule, if_pos ⟨h90, hph, hwh⟩]
          refine next e ?_ ?_ hT3 hC3' (zfr_trans (zfr_sub f12 (by simp)) (zfr_sub f3 (by simp))) (zfr_trans (zfr_trans g1 g2) g3)
          · rcases gLook_or (p := p) (G := zdns (gPb p) 4 (gPd p (20 + r)) t ((t + 1) % m) G) with e | ⟨w, e⟩
            · rw [e]; exact zdns_k (by omega)
            · rw [e]; exact zdns_k (by omega)
          · rcases gLook_or (p := p) (G := zdns (gPb p) 4 (gPd p (20 + r)) t ((t + 1) % m) G) with e | ⟨w, e⟩
            · rw [e, h92]; omega
            · rw [e]
              show -100 ≤ (1 : Int) ∧ (1 : Int) ≤ 100
              omega
        · rw [if_neg hwh]
          refine ⟨fun _ => ?_, fun q => absurd rfl q⟩
          exact next (by rw [hrule, if_neg (fun q => hwh q.2.2)]) rfl h9 hT1 hC1 (zfr_sub f1 (by simp)) g1
      · rw [if_neg hph]
        refine ⟨fun _ => ?_, fun q => absurd rfl q⟩
        exact next (by rw [hrule, if_neg (fun q => hph q.2.1)]) rfl h9 hT hC (zfr_refl _) (zfr_refl _)
theorem s_40 (hk : zPok p) (hm4 : 2 ≤ m ∧ m ≤ 4) (htm : t < m) (hQ : gQ m t G) (h2 : -100 ≤ G.1 2 ∧ G.1 2 ≤ 100) (h9 : -100 ≤ G.1 9 ∧ G.1 9 ≤ 100) (hp : zCp p I) (hT : zTb G I J) (hC : zCs G z0 I J)
    (k : ∀ I' J', zTb (gRules p G) I' J' → zCs (gRules p G) z0 I' J' → zfr [20, 21, 23, 24, 26] I I' → zfr [20, 25] J J' → P (.inl none) I' J' D) : zz RO (d + 5) 40 [.ref 23] I J D bc bs P := by
  refine w_40 ?_
  rw [show (5 : Int32) = zi (5 : Nat) from rfl, zv75_at (by omega), hp.1 5 (by omega), hT.2.2.2.1, hQ.2.1, zv83_at (m := m) (by rw [hT.1, hQ.1]) hm4.2 htm]
  refine r_40 (G := G) hk hm4 htm (gPc p 5) 0 (by omega) hQ h2 h9 hp hT hC (fun I1 J1 hT1 hC1 f1 g1 => ?_)
  have em : (List.range (gPc p 5)).map (0 + ·) = List.range (gPc p 5) := by
    rw [show ((0 + ·) : Nat → Nat) = id from funext (fun x => Nat.zero_add x), List.map_id]
  rw [em] at hT1 hC1
  exact k I1 J1 hT1 hC1 f1 g1
end CGame2
