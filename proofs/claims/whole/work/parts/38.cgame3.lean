/-! ===== the class's game: turns ===== -/
theorem zfold_i {α : Type} {f : zGm → α → zGm} {Q : zGm → Prop} (h : ∀ G a, Q G → Q (f G a)) : ∀ (l : List α) (G : zGm), Q G → Q (l.foldl f G)
  | [], _, q => q
  | a :: l, G, q => zfold_i h l (f G a) (h G a q)
theorem zdn_i {B : Nat → Int32} {Q : zGm → Prop} (h0 : ∀ b ow tg G, Q G → Q (zb0 B b ow tg G)) (hz : ∀ G z, Q G → Q (sZ G z)) : ∀ (n : Nat) (st : zSt n) {ow tg : Nat} {G : zGm}, Q G → Q (zdn B n st ow tg G)
  | 0, b, _, _, _, q => h0 _ _ _ _ q
  | _ + 1, .inl b, _, _, _, q => h0 _ _ _ _ q
  | n + 1, .inr (.inl (o, t, e)), ow, tg, G, q => by
    rw [zdn_if]
    have h : ∀ (l : List (zSt n)) (G : zGm), Q G → Q (l.foldl (fun G s => zdn B n s ow tg G) G) := fun l G => zfold_i (fun G a q => zdn_i h0 hz n a q) l G
    split
    · cases e with
      | none => exact hz _ _ q
      | some e => exact h e _ (hz _ _ q)
    · exact h t _ (hz _ _ q)
  | n + 1, .inr (.inr b), ow, _, G, q => by
    rw [zdn_all]
    exact zfold_i (fun G tg q => zfold_i (fun G a q => zdn_i h0 hz n a q) b G q) _ G q
/-- the numbers keep within their ranges -/
def gRg (p : zPg) (G : zGm) : Prop := (0 ≤ G.1 0 ∧ G.1 0 ≤ 50) ∧ (0 ≤ G.1 2 ∧ G.1 2 < gPc p 2) ∧ (G.1 5 = 0 ∨ G.1 5 = 1) ∧ (G.1 6 = 0 ∨ G.1 6 = 1) ∧ (G.1 9 = 0 ∨ G.1 9 = 1 ∨ G.1 9 = 2)
theorem gRg_b0 {p : zPg} {B : Nat → Int32} (b : zB0) (ow tg : Nat) (G : zGm) (h : gRg p G) : gRg p (zb0 B b ow tg G) := by
  unfold zb0
  split
  · exact h
  · split
    · exact h
    · split
      · exact h
      · split
        · exact ⟨h.1, h.2.1, h.2.2.1, Or.inr rfl, h.2.2.2.2⟩
        · exact ⟨h.1, h.2.1, Or.inr rfl, h.2.2.2.1, h.2.2.2.2⟩
theorem gRg_dns {p : zPg} {B : Nat → Int32} {n : Nat} {l : List (zSt n)} {ow tg : Nat} {G : zGm} (h : gRg p G) : gRg p (zdns B n l ow tg G) :=
  zfold_i (Q := gRg p) (fun _ a q => zdn_i (Q := gRg p) gRg_b0 (fun _ _ q => q) n a q) l G h
theorem gRg_look {p : zPg} {G : zGm} (h : gRg p G) : gRg p (gLook p G) := by
  rcases gLook_or (p := p) (G := G) with e | ⟨w, e⟩
  · rw [e]; exact h
  · rw [e]
    exact ⟨h.1, h.2.1, h.2.2.1, h.2.2.2.1, Or.inr (Or.inl rfl)⟩
theorem gRg_rule {p : zPg} {G : zGm} {r : Nat} (h : gRg p G) : gRg p (gRule p G r) := by
  unfold gRule
  split
  · exact gRg_look (gRg_dns h)
  · exact h
theorem gRg_rules {p : zPg} {G : zGm} (h : gRg p G) : gRg p (gRules p G) := zfold_i (Q := gRg p) (fun _ _ q => gRg_rule q) _ G h
section CGame3
variable {RO : zRo} {d : Nat} {P : zP} {I : zI} {J : zJ} {D : zD} {bc bs : Nat} {m t : Nat} {G : zGm} {p : zPg} {z0 : Int64}
theorem zTb_end {how by9 : Int} {x y : Int32} (hT : zTb G I J) : zTb (gEnd G how by9) (zu (zu (zu (zu I 23 5 x) 23 6 y) 23 7 (-1)) 23 8 0) J :=
  zTb_keep (zTb_s (zTb_s (zTb_s (zTb_s hT (by omega)) (by omega)) (by omega)) (by omega)) (by rw [zu_row _ _ (by omega), zu_row _ _ (by omega), zu_row _ _ (by omega), zu_row _ _ (by omega)]) (by rw [zu_row _ _ (by omega), zu_row _ _ (by omega), zu_row _ _ (by omega), zu_row _ _ (by omega)]) (by rw [zu_row _ _ (by omega), zu_row _ _ (by omega), zu_row _ _ (by omega), zu_row _ _ (by omega)]) rfl
theorem zCs_end {how by9 : Int} (hC : zCq G z0 I J) : zCs (gEnd G how by9) z0 (zu (zu (zu (zu I 23 5 (zi how)) 23 6 (zi by9)) 23 7 (-1)) 23 8 0) J := by
  obtain ⟨c1, c2, c3, c4, c5⟩ := hC
  refine ⟨?_, ?_, ?_, ?_, ?_, c4, ?_⟩
  · rw [zu_n _ _ (by omega), zu_n _ _ (by omega), zu_n _ _ (by omega), zu_n _ _ (by omega)]
    exact c1
  · rw [zu_n _ _ (by omega), zu_n _ _ (by omega), zu_n _ _ (by omega), zu_s]
    rfl
  · rw [zu_n _ _ (by omega), zu_n _ _ (by omega), zu_s]
    rfl
  · rw [zu_n _ _ (by omega), zu_s]
    rfl
  · rw [zu_s]
    rfl
  · intro k w hk hw
    rw [zu_n _ _ (by omega), zu_n _ _ (by omega), zu_n _ _ (by omega), zu_n _ _ (by omega)]
    exact c5 k w hk hw
theorem s_36 {how by9 : Int} (hT : zTb G I J) (hC : zCq G z0 I J) (k : ∀ I', zTb (gEnd G how by9) I' J → zCs (gEnd G how by9) z0 I' J → zfr [23] I I' → P (.inl none) I' J D) : zz RO (d + 1) 36 [.ref 23, .int (zi how), .int (zi by9)] I J D bc bs P :=
  w_36 (k _ (zTb_end hT) (zCs_end hC) (zfr_zu (zfr_zu (zfr_zu (zfr_zu (zfr_refl _) _ _ (by simp)) _ _ (by simp)) _ _ (by simp)) _ _ (by simp)))
theorem zTb_new {q : Nat} {R : Int} (hT : zTb G I J) : zTb (gNew (sS G 0 R) q) (zu (zu (zu (zu (zu I 20 4 (zi R)) 20 5 (zi q)) 20 6 0) 20 7 0) 20 8 0) J := by
  obtain ⟨t2, t3, t4, t5, t6, t7, t8, tz, tv, ts⟩ := hT
  refine ⟨?_, ?_, ?_, ?_, ?_, ?_, ?_, tz, ?_, ?_⟩
  · rw [zu_n _ _ (by omega), zu_n _ _ (by omega), zu_n _ _ (by omega), zu_n _ _ (by omega), zu_n _ _ (by omega)]
    exact t2
  · rw [zu_n _ _ (by omega), zu_n _ _ (by omega), zu_n _ _ (by omega), zu_n _ _ (by omega), zu_n _ _ (by omega)]
    exact t3
  · rw [zu_n _ _ (by omega), zu_n _ _ (by omega), zu_n _ _ (by omega), zu_n _ _ (by omega), zu_s]
    rfl
  · rw [zu_n _ _ (by omega), zu_n _ _ (by omega), zu_n _ _ (by omega), zu_s]
    rfl
  · rw [zu_n _ _ (by omega), zu_n _ _ (by omega), zu_s]
    rfl
  · rw [zu_n _ _ (by omega), zu_s]
    rfl
  · rw [zu_s]
    rfl
  · intro k hk
    rw [zu_n _ _ (by omega), zu_n _ _ (by omega), zu_n _ _ (by omega), zu_n _ _ (by omega), zu_n _ _ (by omega)]
    exact tv k hk
  · intro k w hk hw
    rw [zu_n _ _ (by omega), zu_n _ _ (by omega), zu_n _ _ (by omega), zu_n _ _ (by omega), zu_n _ _ (by omega)]
    exact ts k w hk hw
theorem gQ_new {q : Nat} {R : Int} (h : gQ m t G) : gQ m q (gNew (sS G 0 R) q) := ⟨h.1, rfl, h.2.2.1, h.2.2.2.1, h.2.2.2.2⟩
theorem gRg_new {q : Nat} {R : Int} (hk : zPok p) (h : gRg p G) (hR : 0 ≤ R ∧ R ≤ 50) : gRg p (gNew (sS G 0 R) q) := by
  have h3 := hk.1.2.2.1
  exact ⟨hR, ⟨Int.le_refl 0, by show (0 : Int) < gPc p 2; omega⟩, Or.inl rfl, Or.inl rfl, h.2.2.2.2⟩
theorem gRules_0 (h : ¬ G.1 9 = 0) : gRules p G = G := by
  have hstay : ∀ (l : List Nat), l.foldl (gRule p) G = G := by
    intro l
    induction l with
    | nil => rfl
    | cons a l ih =>
      rw [List.foldl_cons]
      have e : gRule p G a = G := by
        unfold gRule
        rw [if_neg (fun q => h q.1)]
      rw [e, ih]
  exact hstay _
theorem r_41 (hk : zPok p) (hm4 : 2 ≤ m ∧ m ≤ 4) : ∀ (k t : Nat) (over : Int) {G : zGm} {I : zI} {J : zJ}, k ≤ 101 → t < m → (over = 0 ∨ over = 1) → gQ m t G → gRg p G → zCp p I → zTb G I J → zCs G z0 I J →
    (∀ I' J', zTb (if over = 1 ∧ G.1 9 = 0 then gTurns p k G else G) I' J' → zCs (if over = 1 ∧ G.1 9 = 0 then gTurns p k G else G) z0 I' J' → zfr [20, 21, 23, 24, 26] I I' → zfr [20, 25] J J' → P (.inl none) I' J' D) →
    zw RO (d + 5) 41 P 4 [(0, .ref 23), (1, .int (zi over)), (2, .int (zi (101 - k : Nat)))] [] I J D bc bs
  | 0, t, over, G, I, J, hk101, ht, hov, hQ, hR, hp, hT, hC, k => by
    refine wl_41_4 ?_
    have k9 := k I J
    rw [show (if over = 1 ∧ G.1 9 = 0 then gTurns p 0 G else G) = G by split <;> rfl] at k9
    exact ⟨fun _ => k9 hT hC (zfr_refl _) (zfr_refl _), fun q => absurd (show (100 : Int32) < zi ((101 - 0 : Nat) : Int) by decide) q⟩
  | n + 1, t, over, G, I, J, hk101, ht, hov, hQ, hR, hp, hT, hC, k => by
    obtain ⟨⟨r1, r2⟩, ⟨r3, r4⟩, r5, r6, r9⟩ := id hR
    have hc2 := hk.1.2.2.2.1
    refine wl_41_4 ?_
    rw [show (100 : Int32) = zi 100 from rfl, zi_lt (by omega) (by omega), show (0 : Int32) = zi 0 from rfl, zi_eq (by omega) (by omega)]
    refine ⟨fun q => absurd q (by omega), fun _ => ⟨fun q => ?_, fun ho => ?_⟩⟩
    · have k9 := k I J
      rw [if_neg (by omega)] at k9
      exact k9 hT hC (zfr_refl _) (zfr_refl _)
    · rw [hC.2.1, zi_eq (by omega) (by omega)]
      refine ⟨fun q => ?_, fun q => ?_⟩
      · have k9 := k I J
        rw [if_neg (fun z => q z.2)] at k9
        exact k9 hT hC (zfr_refl _) (zfr_refl _)
      · have h90 : G.1 9 = 0 := Classical.not_not.mp q
        have hov1 : over = 1 := by omega
        rw [if_pos ⟨hov1, h90⟩] at k
        have egB : gB G (gT G) = (t + 1) % m := by
          rw [gB_eq hQ.1]
          unfold gT
          rw [hQ.2.1]
          rfl
        have egT : gT G = t := by
          unfold gT
          rw [hQ.2.1]
          rfl
        have hnb : (t + 1) % m < m := Nat.mod_lt _ (by omega)
        -- what follows once the next player and the round are known
        have ends : ∀ I1 J1, zTb (gEnd G 2 (-1)) I1 J1 → zCs (gEnd G 2 (-1)) z0 I1 J1 → zfr [23] I I1 → J1 = J → gTurns p (n + 1) G = gEnd G 2 (-1) →
            zw RO (d + 5) 41 P 4 [(0, .ref 23), (1, .int (zi over)), (2, .int (zi (101 - (n + 1) : Nat) + 1))] [] I1 J1 D bc bs := by
          intro I1 J1 hT1 hC1 f1 ej he
          refine wl_41_4 ?_
          have k9 := k I1 J1 (by rw [he]; exact hT1) (by rw [he]; exact hC1) (zfr_sub f1 (by simp)) (by rw [ej]; exact zfr_refl _)
          refine ⟨fun _ => k9, fun _ => ⟨fun _ => k9, fun _ => ⟨fun _ => k9, fun q => ?_⟩⟩⟩
          exfalso
          apply q
          rw [hC1.2.1]
          show ¬ zi 2 = 0
          decide
        have piece : ∀ (R : Int) (nx : Nat) (RX NX : Int32), RX = zi R → NX = zi nx → nx < m → 0 ≤ R → R ≤ 51 → (if 50 < R ∨ n = 0 then gEnd G 2 (-1) else if (gRules p (gNew (sS G 0 R) nx)).1 9 = 0 ∧ (gRules p (gNew (sS G 0 R) nx)).1 5 = 1 then gTurns p n (gRules p (gNew (sS G 0 R) nx)) else gRules p (gNew (sS G 0 R) nx)) = gTurns p (n + 1) G →
            (50 < RX → (zz RO (d + 5) 36 [.ref 23, .int 2, .int (-1)] I J D 0 0 (zNv P fun I1 J1 D1 => zw RO (d + 5) 41 P 4 [(0, .ref 23), (1, .int (zi over)), (2, .int (zi (101 - (n + 1) : Nat) + 1))] [] I1 J1 D1 bc bs))) ∧
            (¬ (50 < RX) → ((zi (101 - (n + 1) : Nat) < 100 → (zz RO (d + 5) 30 [.ref 23, .int NX] (zu I 20 4 RX) J D 0 0 (zNv P fun I2 J2 D2 => (zz RO (d + 5) 40 [.ref 23] I2 J2 D2 0 0 (zNv P fun I3 J3 D3 => zw RO (d + 5) 41 P 4 [(0, .ref 23), (1, .int (I3 20 7)), (2, .int (zi (101 - (n + 1) : Nat) + 1))] [] I3 J3 D3 bc bs))))) ∧
              (¬ (zi (101 - (n + 1) : Nat) < 100) → (zz RO (d + 5) 36 [.ref 23, .int 2, .int (-1)] I J D 0 0 (zNv P fun I4 J4 D4 => zw RO (d + 5) 41 P 4 [(0, .ref 23), (1, .int (zi over)), (2, .int (zi (101 - (n + 1) : Nat) + 1))] [] I4 J4 D4 bc bs))))) := by
          intro R nx RX NX hRX hNX hnx hR0 hR51 hspec
          rw [hRX, hNX, show (50 : Int32) = zi 50 from rfl, zi_lt (by omega) (by omega), show (100 : Int32) = zi 100 from rfl, zi_lt (by omega) (by omega)]
          have e2 : (2 : Int32) = zi 2 := rfl
          have e1 : (-1 : Int32) = zi (-1) := rfl
          rw [e2, e1]
          refine ⟨fun q => s_36 (how := 2) (by9 := -1) hT (zCq_of hC) (fun I1 hT1 hC1 f1 => ends I1 J hT1 hC1 f1 rfl ?_), fun q1 => ⟨fun q => ?_, fun q => s_36 (how := 2) (by9 := -1) hT (zCq_of hC) (fun I1 hT1 hC1 f1 => ends I1 J hT1 hC1 f1 rfl ?_)⟩⟩
          · rw [← hspec, if_pos (Or.inl q)]
          · rw [if_neg (by omega)] at hspec
            refine w_30 ?_
            have hT1 := zTb_new (q := nx) (R := R) hT
            have fz : zfr [20] I (zu (zu (zu (zu (zu I 20 4 (zi R)) 20 5 (zi nx)) 20 6 0) 20 7 0) 20 8 0) := zfr_zu (zfr_zu (zfr_zu (zfr_zu (zfr_zu (zfr_refl _) _ _ (by simp)) _ _ (by simp)) _ _ (by simp)) _ _ (by simp)) _ _ (by simp)
            have hQ1 : gQ m nx (gNew (sS G 0 R) nx) := gQ_new hQ
            have hR1 : gRg p (gNew (sS G 0 R) nx) := gRg_new hk hR (by omega)
            have hC1 : zCs (gNew (sS G 0 R) nx) z0 (zu (zu (zu (zu (zu I 20 4 (zi R)) 20 5 (zi nx)) 20 6 0) 20 7 0) 20 8 0) J := zCs_keep (G := gNew (sS G 0 R) nx) (by exact hC) (fz 23 (by simp)) (fz 27 (by simp)) rfl
            refine s_40 hk hm4 hnx hQ1 ⟨by show (-100 : Int) ≤ 0; omega, by show (0 : Int) ≤ 100; omega⟩ (by rcases hR1.2.2.2.2 with h | h | h <;> rw [h] <;> omega) (zCp_keep hp (zfr_sub fz (by simp))) hT1 hC1 (fun I3 J3 hT3 hC3 f3 g3 => ?_)
            have hR3 := gRg_rules (p := p) hR1
            have hQ3 : gQ m nx (gRules p (gNew (sS G 0 R) nx)) := gQ_rules _ hQ1
            show zw RO (d + 5) 41 P 4 [(0, .ref 23), (1, .int (I3 20 7)), (2, .int (zi (101 - (n + 1) : Nat) + 1))] [] I3 J3 D bc bs
            rw [hT3.2.2.2.2.2.1, zi_succ, show 101 - (n + 1) + 1 = 101 - n by omega]
            refine r_41 hk hm4 n nx _ (by omega) hnx hR3.2.2.1 hQ3 hR3 (zCp_keep hp (zfr_trans (zfr_sub fz (by simp)) (zfr_sub f3 (by simp)))) hT3 hC3 (fun I4 J4 hT4 hC4 f4 g4 => ?_)
            have k9 := k I4 J4
            rw [← hspec] at k9
            have ec : (if (gRules p (gNew (sS G 0 R) nx)).1 9 = 0 ∧ (gRules p (gNew (sS G 0 R) nx)).1 5 = 1 then gTurns p n (gRules p (gNew (sS G 0 R) nx)) else gRules p (gNew (sS G 0 R) nx)) = (if (gRules p (gNew (sS G 0 R) nx)).1 5 = 1 ∧ (gRules p (gNew (sS G 0 R) nx)).1 9 = 0 then gTurns p n (gRules p (gNew (sS G 0 R) nx)) else gRules p (gNew (sS G 0 R) nx)) := by
              by_cases h1 : (gRules p (gNew (sS G 0 R) nx)).1 9 = 0 ∧ (gRules p (gNew (sS G 0 R) nx)).1 5 = 1
              · rw [if_pos h1, if_pos ⟨h1.2, h1.1⟩]
              · rw [if_neg h1, if_neg (fun q => h1 ⟨q.2, q.1⟩)]
            rw [ec] at k9
            exact k9 hT4 hC4 (zfr_trans (zfr_sub fz (by simp)) (zfr_trans f3 f4)) (zfr_trans g3 g4)
          · rw [← hspec, if_pos (Or.inr (by omega))]
        have hsp : ∀ (nx : Nat) (R : Int), (if G.1 6 = 0 then (t + 1) % m else t) = nx → (if nx = 0 ∧ G.1 6 = 0 then G.1 0 + 1 else G.1 0) = R → (if 50 < R ∨ n = 0 then gEnd G 2 (-1) else if (gRules p (gNew (sS G 0 R) nx)).1 9 = 0 ∧ (gRules p (gNew (sS G 0 R) nx)).1 5 = 1 then gTurns p n (gRules p (gNew (sS G 0 R) nx)) else gRules p (gNew (sS G 0 R) nx)) = gTurns p (n + 1) G := by
          intro nx R h1 h2
          rw [← h2, ← h1, ← egB, ← egT]
          rfl
        rw [hT.2.2.2.2.2.2.1, zi_eq (by omega) (by omega), hT.2.2.2.1, hQ.2.1, zv83_at (m := m) (by rw [hT.1, hQ.1]) hm4.2 ht, zi_eq (by omega) (by omega), zi_eq (by omega) (by omega), hT.2.2.1]
        have er : zi (G.1 0) + 1 = zi (G.1 0 + 1) := by rw [zlit, zi_add]
        rw [er]
        refine ⟨fun ha => ⟨fun hn => ?_, fun hn => ?_⟩, fun ha => ⟨fun hn => ?_, fun hn => ?_⟩⟩
        · exact piece (G.1 0) ((t + 1) % m) _ _ rfl rfl hnb r1 (by omega) (hsp _ _ (if_pos ha) (if_neg (fun q => hn (by rw [q.1]; rfl))))
        · exact piece (G.1 0 + 1) ((t + 1) % m) _ _ rfl rfl hnb (by omega) (by omega) (hsp _ _ (if_pos ha) (if_pos ⟨by omega, ha⟩))
        · exact piece (G.1 0) t _ _ rfl rfl ht r1 (by omega) (hsp _ _ (if_neg ha) (if_neg (fun q => ha q.2)))
        · exact piece (G.1 0) t _ _ rfl rfl ht r1 (by omega) (hsp _ _ (if_neg ha) (if_neg (fun q => ha q.2)))
theorem s_41 (hk : zPok p) (hm4 : 2 ≤ m ∧ m ≤ 4) (ht : t < m) (h90 : G.1 9 = 0) (hQ : gQ m t G) (hR : gRg p G) (hp : zCp p I) (hT : zTb G I J) (hC : zCs G z0 I J)
    (k : ∀ I' J', zTb (gTurns p 101 G) I' J' → zCs (gTurns p 101 G) z0 I' J' → zfr [20, 21, 23, 24, 26] I I' → zfr [20, 25] J J' → P (.inl none) I' J' D) : zz RO (d + 6) 41 [.ref 23] I J D bc bs P := by
  refine w_41 ?_
  refine r_41 hk hm4 101 t 1 (Nat.le_refl _) ht (Or.inr rfl) hQ hR hp hT hC (fun I1 J1 hT1 hC1 f1 g1 => ?_)
  rw [if_pos ⟨rfl, h90⟩] at hT1 hC1
  exact k I1 J1 hT1 hC1 f1 g1
end CGame3
