/-! ===== the reference's game: rules, the next turn, the phase is over ===== -/
/-- nobody has won as long as it goes on -/
def gWn (G : zGm) : Prop := G.1 9 = 0 → G.1 4 = -1
theorem gWn_dns {G : zGm} {B : Nat → Int32} {n : Nat} {l : List (zSt n)} {ow tg : Nat} (h : gWn G) : gWn (zdns B n l ow tg G) := by
  unfold gWn
  rw [zdns_k (k := 9) (by omega), zdns_k (k := 4) (by omega)]
  exact h
theorem gWn_look {p : zPg} {G : zGm} (h : gWn G) : gWn (gLook p G) := by
  rcases gLook_or (p := p) (G := G) with e | ⟨w, e⟩
  · rw [e]
    exact h
  · rw [e]
    intro q
    exact absurd q (show ¬ (1 : Int) = 0 by decide)
theorem gWn_rule {p : zPg} {G : zGm} {r : Nat} (h : gWn G) : gWn (gRule p G r) := by
  unfold gRule
  split
  · exact gWn_look (gWn_dns h)
  · exact h
theorem gWn_rules {p : zPg} {G : zGm} (h : gWn G) : gWn (gRules p G) := zfold_i (Q := gWn) (fun _ _ q => gWn_rule q) _ G h
theorem gWn_turns {p : zPg} : ∀ (k : Nat) {G : zGm}, gWn G → gWn (gTurns p k G)
  | 0, _, h => h
  | k + 1, G, h => by
    obtain ⟨nx, R, h1, h0, hx, h2⟩ := gTurns_u p k G
    rw [h2]
    by_cases c1 : 50 < R ∨ k = 0
    · rw [if_pos c1]
      intro q
      exact absurd q (show ¬ (2 : Int) = 0 by decide)
    · rw [if_neg c1]
      have h9 : gWn (gRules p (gNew (sS G 0 R) nx)) := gWn_rules h
      by_cases c2 : (gRules p (gNew (sS G 0 R) nx)).1 9 = 0 ∧ (gRules p (gNew (sS G 0 R) nx)).1 5 = 1
      · rw [if_pos c2]
        exact gWn_turns k h9
      · rw [if_neg c2]
        exact h9
theorem zfold_stop {p : zPg} {G : zGm} (h : ¬ G.1 9 = 0) : ∀ (l : List Nat), l.foldl (gRule p) G = G := by
  intro l
  induction l with
  | nil => rfl
  | cons a l ih =>
    rw [List.foldl_cons]
    have e : gRule p G a = G := by
      unfold gRule
      rw [if_neg (fun q => h q.1)]
    rw [e, ih]
section MGame2
variable {RO : zRo} {d : Nat} {P : zP} {I : zI} {J : zJ} {D : zD} {bc bs : Nat} {m t ow tg : Nat} {G : zGm} {p : zPg} {z0 : Int64} {l1 l2 l3 l4 : Int32}
theorem n_188r (hk : zPok p) (hm4 : 2 ≤ m ∧ m ≤ 4) (htm : t < m) : ∀ (j r : Nat) {G : zGm} {I : zI} {J : zJ}, r + j = gPc p 5 → gQ m t G → G.1 9 = 0 → -100 ≤ G.1 2 ∧ G.1 2 ≤ 100 → zMp p I → zMb (gPc p 0) (gPc p 1) G I J → zMg G z0 I J →
    (∀ I' J', zMb (gPc p 0) (gPc p 1) (((List.range j).map (r + ·)).foldl (gRule p) G) I' J' → zMg (((List.range j).map (r + ·)).foldl (gRule p) G) z0 I' J' → zfm [33, 39, 40, 41, 45] [46, 47] I I' → zfm [32] [50] J J' → P (.inl none) I' J' D) →
    zw RO (d + 8) 188 P 2 [(0, .ref 28), (1, .int (zi r))] [] I J D bc bs
  | 0, r, G, I, J, hj, hQ, h90, h2, hp, hM, hS, k => by
    have hk5 := hk.1.2.2.2.2.2.2.1
    refine wl_188_2 ?_
    rw [hp.1.2.2 5 (by omega) (by omega), zi_le (by omega) (by omega)]
    exact ⟨fun _ => k I J hM hS (zfm_refl _) (zfm_refl _), fun h => absurd (by omega) h⟩
  | j + 1, r, G, I, J, hj, hQ, h90, h2, hp, hM, hS, k => by
    have hk5 := hk.1.2.2.2.2.2.2.1
    have hbd : zBd p (20 + r) := by
      unfold zBd
      omega
    have hnb : (t + 1) % m < m := Nat.mod_lt _ (by omega)
    have egB : gB G (gT G) = (t + 1) % m := by
      rw [gB_eq hQ.1]
      unfold gT
      rw [hQ.2.1]
      rfl
    have egT : gT G = t := by
      unfold gT
      rw [hQ.2.1]
      rfl
    rw [List.range_succ_eq_map, List.map_cons, List.map_map, List.foldl_cons] at k
    have em : (List.range j).map ((r + ·) ∘ Nat.succ) = (List.range j).map ((r + 1) + ·) := by
      apply List.map_congr_left
      intro i _
      show r + (i + 1) = r + 1 + i
      omega
    rw [em, Nat.add_zero] at k
    have hrule : gRule p G r = if G.1 9 = 0 ∧ (gPr p r : Int) = G.1 2 ∧ gWhen p (20 + r) G t ((t + 1) % m) = true then gLook p (zdns (gPb p) 4 (gPd p (20 + r)) t ((t + 1) % m) G) else G := by
      unfold gRule
      rw [egB, egT]
    have next : ∀ {G1 : zGm} {I1 : zI} {J1 : zJ}, gRule p G r = G1 → G1.1 9 = 0 → G1.1 2 = G.1 2 → zMb (gPc p 0) (gPc p 1) G1 I1 J1 → zMg G1 z0 I1 J1 → zfm [33, 39, 40, 41, 45] [46, 47] I I1 → zfm [32] [50] J J1 →
        zw RO (d + 8) 188 P 2 [(0, .ref 28), (1, .int (zi r + 1))] [] I1 J1 D bc bs := by
      intro G1 I1 J1 he h91 h21 hM1 hS1 f1 g1
      rw [zi_succ]
      have hQ1 : gQ m t G1 := he ▸ gQ_rule hQ
      refine n_188r hk hm4 htm j (r + 1) (by omega) hQ1 h91 (by omega) (zMp_keep hp (zfm_sub f1 (by simp) (by simp))) hM1 hS1 (fun I2 J2 hM2 hS2 f2 g2 => ?_)
      rw [he] at k
      exact k I2 J2 hM2 hS2 (zfm_trans f1 f2) (zfm_trans g1 g2)
    have ecl : (zi (r : Int)).toNatClampNeg = r := by rw [zi_cl (by omega) (by omega)]; omega
    have e20 : (20 : Int32) + zi r = zi (20 + r : Nat) := by
      rw [show (20 : Int32) = zi 20 from rfl, zi_add]
      congr 1
    have ecl2 : (zi ((20 + r : Nat) : Int)).toNatClampNeg = 20 + r := by rw [zi_cl (by omega) (by omega)]; omega
    have h30 : I 28 30 = zi (m : Int) := by rw [hM.1, hQ.1]
    have h35 : I 28 35 = zi (t : Int) := by rw [hM.2.2.2.1, hQ.2.1]
    have n9 := n_179 (J := J) h30 hm4 (q := t) (by omega)
    have hr9 := hk.2.2.2.2.2 r (by omega)
    have hr8 := hk.1.2.2.2.1
    refine wl_188_2 ?_
    rw [hp.1.2.2 5 (by omega) (by omega), zi_le (by omega) (by omega), ecl, hp.2.2.2.1 r (by omega), hM.2.2.2.2.1, zi_eq (by omega) (by omega), e20, ecl2, h35, n9.1]
    refine ⟨fun h => absurd h (by omega), fun _ => ⟨zi_in (by omega) (by omega) (by omega), fun hph => ?_, fun hph => ⟨n9.2, ?_⟩⟩⟩
    · exact next (by rw [hrule, if_neg (fun q => hph q.2.1)]) h90 rfl hM hS (zfm_refl _) (zfm_refl _)
    · have hph' : (gPr p r : Int) = G.1 2 := Classical.not_not.mp hph
      refine n_184 (G := G) (d := d + 5) hk hp hbd (by omega) (by omega) hM (fun J1 hM1 g1 => ?_)
      have hS1 : zMg G z0 I J1 := zMg_keep hS (zfm_refl _) g1
      by_cases hwh : gWhen p (20 + r) G t ((t + 1) % m) = true
      · rw [if_pos hwh]
        refine ⟨fun _ => ⟨zi_in (by omega) (by omega) (by omega), ?_⟩, fun q => absurd (by decide) q⟩
        have n91 := n_179 (J := J1) h30 hm4 (q := t) (by omega)
        rw [h35, n91.1]
        refine ⟨n91.2, ?_⟩
        obtain ⟨a, q1, q2⟩ := hp.2.2.2.2.2.1 (20 + r) hbd
        rw [q1]
        refine n_186 (G := G) hk hm4 htm hnb (fun s hs => hk.2.2.1 (20 + r) hbd s hs) hQ.1 (by rw [hQ.2.2.2.2]; simp) hM1 q2 hp.2.1 (fun I2 J2 hM2 f2 g2 => ?_)
        have hQ2 : gQ m t (zdns (gPb p) 4 (gPd p (20 + r)) t ((t + 1) % m) G) := gQ_dns hQ
        have h92 : (zdns (gPb p) 4 (gPd p (20 + r)) t ((t + 1) % m) G).1 9 = 0 := (zdns_k (by omega)).trans h90
        have hS2 : zMg (zdns (gPb p) 4 (gPd p (20 + r)) t ((t + 1) % m) G) z0 I2 J2 := zMg_dns (zMg_keep hS1 (zfm_sub f2 (by simp) (by simp)) g2)
        refine n_187 (d := d + 4) (m := m) (t := t) hk hQ2.1 hm4 hQ2.2.1 htm h92 ⟨hQ2.2.2.1, hQ2.2.2.2.1⟩ (zMp_keep hp (zfm_sub f2 (by simp) (by simp))) hM2 hS2 (fun I3 J3 hM3 hS3 f3 g3 => ?_)
        have e : gRule p G r = gLook p (zdns (gPb p) 4 (gPd p (20 + r)) t ((t + 1) % m) G) := by rw [hrule, if_pos ⟨h90, hph', hwh⟩]
        have f13 : zfm [33, 39, 40, 41, 45] [46, 47] I I3 := zfm_trans (zfm_sub f2 (by simp) (by simp)) (zfm_sub f3 (by simp) (by simp))
        have g13 : zfm [32] [50] J J3 := zfm_trans (zfm_trans g1 g2) g3
        by_cases hw9 : (gLook p (zdns (gPb p) 4 (gPd p (20 + r)) t ((t + 1) % m) G)).1 9 = 0
        · rw [if_pos hw9]
          refine ⟨fun _ => ?_, fun q => absurd rfl q⟩
          refine next e hw9 ?_ hM3 hS3 f13 g13
          rcases gLook_or (p := p) (G := zdns (gPb p) 4 (gPd p (20 + r)) t ((t + 1) % m) G) with e | ⟨w, e⟩
          · rw [e]; exact zdns_k (by omega)
          · rw [e]; exact zdns_k (by omega)
        · rw [if_neg hw9]
          refine ⟨fun q => absurd q (by decide), fun _ => ?_⟩
          have k9 := k I3 J3
          rw [e, zfold_stop hw9] at k9
          exact k9 hM3 hS3 f13 g13
      · rw [if_neg hwh]
        refine ⟨fun q => absurd rfl q, fun _ => ?_⟩
        exact next (by rw [hrule, if_neg (fun q => hwh q.2.2)]) h90 rfl hM1 hS1 (zfm_refl _) g1
theorem n_188 (hk : zPok p) (hm4 : 2 ≤ m ∧ m ≤ 4) (htm : t < m) (hQ : gQ m t G) (h90 : G.1 9 = 0) (h2 : -100 ≤ G.1 2 ∧ G.1 2 ≤ 100) (hp : zMp p I) (hM : zMb (gPc p 0) (gPc p 1) G I J) (hS : zMg G z0 I J)
    (k : ∀ I' J', zMb (gPc p 0) (gPc p 1) (gRules p G) I' J' → zMg (gRules p G) z0 I' J' → zfm [33, 39, 40, 41, 45] [46, 47] I I' → zfm [32] [50] J J' → P (.inl none) I' J' D) : zz RO (d + 9) 188 [.ref 28] I J D bc bs P := by
  refine w_188 ?_
  refine n_188r (G := G) hk hm4 htm (gPc p 5) 0 (by omega) hQ h90 h2 hp hM hS (fun I1 J1 hM1 hS1 f1 g1 => ?_)
  have em : (List.range (gPc p 5)).map (0 + ·) = List.range (gPc p 5) := by
    rw [show ((0 + ·) : Nat → Nat) = id from funext (fun x => Nat.zero_add x), List.map_id]
  rw [em] at hM1 hS1
  exact k I1 J1 hM1 hS1 f1 g1
/-- the game ends at the bounds: nothing but the state is written -/
theorem zM_end {nt np : Nat} {x : Int32} (hA : G.1 3 = -1 ∧ G.1 7 = 0) (hW : G.1 4 = -1) (hM : zMb nt np G I J) (hS : zMg G z0 I J) (hx : x = 2) : zMb nt np (gEnd G 2 (-1)) (zu I 28 33 x) J ∧ zMg (gEnd G 2 (-1)) z0 (zu I 28 33 x) J := by
  have f9 : zfm [33] [] I (zu I 28 33 x) := zfm_z (zfm_refl _) _ _ (by decide)
  refine ⟨zMb_keep (zMb_s (zMb_s (zMb_s (zMb_s hM (by omega)) (by omega)) (by omega)) (by omega)) (zfm_sub f9 (by simp) (by simp)) (zfm_refl _), ?_⟩
  obtain ⟨c1, c2, c3, c4, c5, c6, c7⟩ := hS
  refine ⟨?_, ?_, ?_, c4, ?_, ?_, ?_⟩
  · rw [zu_s, hx]; rfl
  · rw [f9.2 39 (by decide), c2, hW]; rfl
  · rw [f9.2 47 (by decide)]; exact c3
  · rw [f9.1 49 (by decide) (by decide)]; exact c5
  · rw [f9.2 37 (by decide), c6, hA.1]; rfl
  · rw [f9.2 38 (by decide), c7, hA.2]; rfl
theorem n_189 {tb nx : Nat} {R : Int} (hm4 : 2 ≤ m ∧ m ≤ 4) (htm : t < m) (hQ : gQ m t G) (hW : G.1 4 = -1) (hR : gRg p G) (h42 : I 28 42 = zi (tb : Int)) (htb : tb ≤ 100) (hnx : nx = if G.1 6 = 0 then (t + 1) % m else t) (hRR : R = if nx = 0 ∧ G.1 6 = 0 then G.1 0 + 1 else G.1 0) {nt np : Nat} (hM : zMb nt np G I J) (hS : zMg G z0 I J)
    (k0 : ∀ I', (50 < R ∨ tb = 100) → zMb nt np (gEnd G 2 (-1)) I' J → zMg (gEnd G 2 (-1)) z0 I' J → zfm [33] [] I I' → P (.inl (some (.int 0))) I' J D)
    (k1 : ∀ I', ¬ (50 < R ∨ tb = 100) → zMb nt np (gNew (sS G 0 R) nx) I' J → zMg (gNew (sS G 0 R) nx) z0 I' J → I' 28 42 = zi ((tb + 1 : Nat) : Int) → zfm [34, 35, 36, 40, 41, 42] [] I I' → P (.inl (some (.int 1))) I' J D) :
    zz RO (d + 2) 189 [.ref 28] I J D bc bs P := by
  have r0 := hR.1
  have r6 := hR.2.2.2.1
  have h30 : I 28 30 = zi (m : Int) := by rw [hM.1, hQ.1]
  have h35 : I 28 35 = zi (t : Int) := by rw [hM.2.2.2.1, hQ.2.1]
  have n9 := n_179 (J := J) h30 hm4 (q := t) (by omega)
  have hA : G.1 3 = -1 ∧ G.1 7 = 0 := ⟨hQ.2.2.1, hQ.2.2.2.1⟩
  have stop : (50 < R ∨ tb = 100) → P (.inl (some (.int 0))) (zu I 28 33 2) J D := by
    intro q
    obtain ⟨e1, e2⟩ := zM_end hA hW hM hS (x := 2) rfl
    exact k0 _ q e1 e2 (zfm_z (zfm_refl _) _ _ (by decide))
  have go : ∀ (x y : Int32), ¬ (50 < R ∨ tb = 100) → x = zi R → y = zi (nx : Int) → P (.inl (some (.int 1))) (zu (zu (zu (zu (zu (zu I 28 34 x) 28 35 y) 28 42 (zi (tb : Int) + 1)) 28 36 0) 28 40 0) 28 41 0) J D := by
    intro x y q hx hy
    have f9 : zfm [34, 35, 36, 40, 41, 42] [] I (zu (zu (zu (zu (zu (zu I 28 34 x) 28 35 y) 28 42 (zi (tb : Int) + 1)) 28 36 0) 28 40 0) 28 41 0) := zfm_z (zfm_z (zfm_z (zfm_z (zfm_z (zfm_z (zfm_refl _) _ _ (by decide)) _ _ (by decide)) _ _ (by decide)) _ _ (by decide)) _ _ (by decide)) _ _ (by decide)
    refine k1 _ q ?_ ?_ ?_ f9
    · obtain ⟨m1, m2, m3, m4, m5, m6, m7, mz, mv, mp, ms⟩ := hM
      refine ⟨?_, ?_, ?_, ?_, ?_, ?_, ?_, mz, ?_, ?_, ?_⟩
      · rw [f9.2 30 (by decide)]; exact m1
      · rw [f9.2 45 (by decide)]; exact m2
      · rw [zu_n _ _ (by omega), zu_n _ _ (by omega), zu_n _ _ (by omega), zu_n _ _ (by omega), zu_n _ _ (by omega), zu_s, hx]; rfl
      · rw [zu_n _ _ (by omega), zu_n _ _ (by omega), zu_n _ _ (by omega), zu_n _ _ (by omega), zu_s, hy]; rfl
      · rw [zu_n _ _ (by omega), zu_n _ _ (by omega), zu_s]; rfl
      · rw [zu_n _ _ (by omega), zu_s]; rfl
      · rw [zu_s]; rfl
      · rw [f9.1 46 (by decide) (by decide)]; exact mv
      · rw [f9.1 47 (by decide) (by decide)]; exact mp
      · rw [f9.1 48 (by decide) (by decide)]; exact ms
    · obtain ⟨c1, c2, c3, c4, c5, c6, c7⟩ := hS
      refine ⟨?_, ?_, ?_, c4, ?_, ?_, ?_⟩
      · rw [f9.2 33 (by decide)]; exact c1
      · rw [f9.2 39 (by decide)]; exact c2
      · rw [f9.2 47 (by decide)]; exact c3
      · rw [f9.1 49 (by decide) (by decide)]; exact c5
      · rw [f9.2 37 (by decide)]; exact c6
      · rw [f9.2 38 (by decide)]; exact c7
    · rw [zu_n _ _ (by omega), zu_n _ _ (by omega), zu_n _ _ (by omega), zu_s, zi_succ]
  have hnb : (t + 1) % m < m := Nat.mod_lt _ (by omega)
  refine w_189 ?_
  rw [h42, h35, n9.1, hM.2.2.1, hM.2.2.2.2.2.2.1, show (100 : Int32) = zi 100 from rfl, show (50 : Int32) = zi 50 from rfl, zi_eq (a := (tb : Int)) (by omega) (by omega), zi_eq (a := G.1 0) (by omega) (by omega)]
  rw [show ((0 : Int32)) = zi 0 from rfl, zi_eq (a := G.1 6) (by omega) (by omega), zi_eq (a := (((t + 1) % m : Nat) : Int)) (by omega) (by omega), zi_eq (a := (t : Int)) (by omega) (by omega), zi_add]
  refine ⟨fun h6 => ⟨n9.2, fun hn => ⟨fun hb => ?_, fun hb => ?_⟩, fun hn => ⟨fun h50 => ?_, fun h50 => ⟨fun hb => ?_, fun hb => ?_⟩⟩⟩, fun h6 => ⟨fun hn => ⟨fun hb => ?_, fun hb => ?_⟩, fun hn => ⟨fun hb => ?_, fun hb => ?_⟩⟩⟩
  · have e1 : nx = (t + 1) % m := by rw [hnx, if_pos h6]
    have e2 : R = G.1 0 := by rw [hRR, if_neg (fun q => by omega)]
    exact go _ _ (by omega) (by rw [e2, Int.add_zero]) (by rw [e1])
  · exact stop (Or.inr (by omega))
  · have e1 : nx = (t + 1) % m := by rw [hnx, if_pos h6]
    have e2 : R = G.1 0 + 1 := by rw [hRR, if_pos ⟨by omega, h6⟩]
    exact stop (Or.inl (by omega))
  · have e1 : nx = (t + 1) % m := by rw [hnx, if_pos h6]
    have e2 : R = G.1 0 + 1 := by rw [hRR, if_pos ⟨by omega, h6⟩]
    exact go _ _ (by omega) (by rw [e2, show (1 : Int32) = zi 1 from rfl, zi_add]) (by rw [e1])
  · exact stop (Or.inr (by omega))
  · have e1 : nx = t := by rw [hnx, if_neg h6]
    have e2 : R = G.1 0 := by rw [hRR, if_neg (fun q => h6 q.2)]
    exact go _ _ (by omega) (by rw [e2, Int.add_zero]) (by rw [e1])
  · exact stop (Or.inr (by omega))
  · have e1 : nx = t := by rw [hnx, if_neg h6]
    have e2 : R = G.1 0 := by rw [hRR, if_neg (fun q => h6 q.2)]
    exact go _ _ (by omega) (by rw [e2, Int.add_zero]) (by rw [e1])
  · exact stop (Or.inr (by omega))
end MGame2
