/-! ===== the class's game: what is done, a move ===== -/
theorem zTb_7 {G : zGm} {I : zI} {J : zJ} {a b : Int} (h : zTb G I J) : zTb (sS (sS G 7 a) 3 b) I J := zTb_s (zTb_s h (by omega)) (by omega)
/-- a game that goes on, of m players -/
def gIn (p : zPg) (m : Nat) (G : zGm) : Prop := G.1 8 = (m : Int) ∧ (0 ≤ G.1 1 ∧ G.1 1 < m) ∧ gRg p G ∧ G.2.2.1.length ≤ 10 ∧ (∀ r ∈ G.2.2.1, gRow1 p m r) ∧ (G.2.2.1 = [] → G.1 3 = -1 ∧ G.1 7 = 0) ∧ (¬ G.2.2.1 = [] → 0 ≤ G.1 3 ∧ G.1 3 < m ∧ 0 ≤ G.1 7 ∧ G.1 7 < m - 1)
theorem zb0_mem {B : Nat → Int32} (l : List zR4) (b : zB0) (ow tg : Nat) (G : zGm) (h : ∀ x ∈ G.2.2.1, x ∈ l) : ∀ x ∈ (zb0 B b ow tg G).2.2.1, x ∈ l := by
  unfold zb0
  split
  · exact h
  · split
    · exact h
    · split
      · exact fun x hx => h x ((List.dropLast_sublist _).subset hx)
      · split <;> exact h
theorem zdns_mem {B : Nat → Int32} {n : Nat} {l : List (zSt n)} {ow tg : Nat} {G : zGm} : ∀ x ∈ (zdns B n l ow tg G).2.2.1, x ∈ G.2.2.1 :=
  zfold_i (Q := fun G' => ∀ x ∈ G'.2.2.1, x ∈ G.2.2.1) (fun _ a q => zdn_i (Q := fun G' => ∀ x ∈ G'.2.2.1, x ∈ G.2.2.1) (fun b ow tg G' h => zb0_mem _ b ow tg G' h) (fun _ _ q => q) n a q) l G (fun _ h => h)
section CGame5
variable {RO : zRo} {d : Nat} {P : zP} {I : zI} {J : zJ} {D : zD} {bc bs : Nat} {m : Nat} {G : zGm} {p : zPg} {z0 : Int64}
theorem s_38 (hk : zPok p) (hm4 : 2 ≤ m ∧ m ≤ 4) (hI : gIn p m G) (hne : ¬ G.2.2.1 = []) (h90 : G.1 9 = 0) (hp : zCp p I) (hT : zTb G I J) (hC : zCs G z0 I J)
    (k : ∀ I' J', zTb (gPassOn p G) I' J' → zCs (gPassOn p G) z0 I' J' → zfr [20, 21, 23, 24, 26] I I' → zfr [20, 25] J J' → P (.inl none) I' J' D) : zz RO (d + 5) 38 [.ref 23] I J D bc bs P := by
  obtain ⟨hm, ⟨ht0, htm⟩, hR, hl, hrows, -, hask⟩ := hI
  obtain ⟨a0, a1, a2, a3⟩ := hask hne
  obtain ⟨r, hr⟩ : ∃ r, G.2.2.1.getLast? = some r := by
    cases e : G.2.2.1.getLast? with
    | none => exact absurd (zgd_none e) hne
    | some r => exact ⟨r, rfl⟩
  obtain ⟨h0, hlast⟩ := zgd_last (d := z4) hr
  have hmem : r ∈ G.2.2.1 := List.mem_of_getLast? hr
  obtain ⟨hrs, r2, r3, r4, r5⟩ := hrows r hmem
  have hc3 := hk.1.2.2.2.2.1
  have hc4 := hk.1.2.2.2.2.2.1
  have c8 := hC.2.2.2.2.1
  refine w_38 ?_
  rw [hT.1, hm, c8, hT.2.1, show (1 : Int32) = zi 1 from rfl, zi_sub (m : Int) 1, zi_sub (G.2.2.1.length : Int) 1, zi_add, zi_le (by omega) (by omega)]
  have hrow : ∀ (I9 : zI) (w : Nat), w < 4 → I9 22 = I 22 → zv_86 I9 J (zi ((G.2.2.1.length : Int) - 1)) (zi w) = zi (r w) := by
    intro I9 w hw e
    rw [show ((G.2.2.1.length : Int) - 1) = ((G.2.2.1.length - 1 : Nat) : Int) by omega, zv86_at (by omega), e, hT.2.2.2.2.2.2.2.2.2 _ w (by omega) hw, hlast]
  refine ⟨fun hge => ?_, fun hlt => ?_⟩
  · -- it is done
    have hpo : gPassOn p G = gDo p G := by
      unfold gPassOn
      rw [if_neg (by omega)]
    have hdo : gDo p G = if (gLook p (zdns (gPb p) 4 (gPd p ((12 * r 0 + r 1).toNat)) (r 2).toNat (r 3).toNat (sK (sS (sS G 7 0) 3 (-1)) G.2.2.1.dropLast))).1 9 = 0 then gAsk (gLook p (zdns (gPb p) 4 (gPd p ((12 * r 0 + r 1).toNat)) (r 2).toNat (r 3).toNat (sK (sS (sS G 7 0) 3 (-1)) G.2.2.1.dropLast))) else gLook p (zdns (gPb p) 4 (gPd p ((12 * r 0 + r 1).toNat)) (r 2).toNat (r 3).toNat (sK (sS (sS G 7 0) 3 (-1)) G.2.2.1.dropLast)) := by
      unfold gDo
      rw [hr]
    rw [hpo, hdo] at k
    have hbd : zBd p ((12 * r 0 + r 1).toNat) := by
      unfold zBd
      rcases hrs with ⟨e, e1, e2⟩ | ⟨e, e1, e2⟩ <;> omega
    -- the run of the body and what follows, from the state behind the taking
    have main : ∀ (bx : Int32), bx = zi ((12 * r 0 + r 1).toNat : Nat) →
        zz RO (d + 4) 43 [.ref 24, .int (zv_81 (zu (zu I 23 8 (zi (G.1 7 + 1))) 20 3 (zi ((G.2.2.1.length : Int) - 1))) J bx), .int (zi (r 2)), .int (zi (r 3))] (zu (zu I 23 8 (zi (G.1 7 + 1))) 20 3 (zi ((G.2.2.1.length : Int) - 1))) J D 0 0 (zNl P fun v1 I1 J1 D1 => (zz RO (d + 4) 39 [.ref 23] I1 J1 D1 0 0 (zNv P fun I2 J2 D2 => ((¬ (I2 23 5) = 0 → P (.inl none) I2 J2 D2) ∧ (¬ (¬ (I2 23 5) = 0) → (zz RO (d + 4) 37 [.ref 23] I2 J2 D2 0 0 (zNv P fun I3 J3 D3 => P (.inl none) I3 J3 D3))))))) := by
      intro bx hbx
      have e3 : zi ((G.2.2.1.length : Int) - 1) = zi (G.2.2.1.dropLast.length : Nat) := by
        rw [List.length_dropLast]
        congr 1
        omega
      rw [hbx, zv81_at (by unfold zBd at hbd; omega), e3]
      have f0 : zfr [20, 23] I (zu (zu I 23 8 (zi (G.1 7 + 1))) 20 3 (zi (G.2.2.1.dropLast.length : Nat))) := zfr_zu (zfr_zu (zfr_refl _) _ _ (by simp)) _ _ (by simp)
      have hT0 : zTb (sK (sS (sS G 7 0) 3 (-1)) G.2.2.1.dropLast) (zu (zu I 23 8 (zi (G.1 7 + 1))) 20 3 (zi (G.2.2.1.dropLast.length : Nat))) J := by
        have h9 := zTb_can (zTb_7 (a := 0) (b := -1) (zTb_keep (I' := zu I 23 8 (zi (G.1 7 + 1))) hT (zu_row _ _ (by omega)) (zu_row _ _ (by omega)) (zu_row _ _ (by omega)) rfl))
        exact h9
      have hC0 : zCq (sK (sS (sS G 7 0) 3 (-1)) G.2.2.1.dropLast) z0 (zu (zu I 23 8 (zi (G.1 7 + 1))) 20 3 (zi (G.2.2.1.dropLast.length : Nat))) J := by
        obtain ⟨c1, c2, c3, -, -, c6, c7⟩ := hC
        refine ⟨?_, ?_, ?_, c6, ?_⟩
        · rw [zu_row _ _ (by omega), zu_n _ _ (by omega)]; exact c1
        · rw [zu_row _ _ (by omega), zu_n _ _ (by omega)]; exact c2
        · rw [zu_row _ _ (by omega), zu_n _ _ (by omega)]; exact c3
        · intro j w hj hw
          rw [zu_row _ _ (by omega), zu_row _ _ (by omega)]
          exact c7 j w hj hw
      have hp0 := zCp_keep hp (zfr_sub f0 (by simp))
      obtain ⟨a, q1, q2⟩ := hp0.2.2.2.2.2.1 _ hbd
      rw [q1, show zi (r 2) = zi ((r 2).toNat : Nat) by congr 1; omega, show zi (r 3) = zi ((r 3).toNat : Nat) by congr 1; omega]
      have hlen9 : G.2.2.1.dropLast.length ≤ 10 := by rw [List.length_dropLast]; omega
      refine s_run_b (G := sK (sS (sS G 7 0) 3 (-1)) G.2.2.1.dropLast) (m := m) (B := gPb p) hm4 (by omega) (by omega) (fun s hs => ((hk.2.2.1 _ hbd) s hs).1) hm hlen9 hp0.2.1 hT0 q2 (fun I1 J1 hT1 f1 g1 => ?_)
      have hC1 : zCq (zdns (gPb p) 4 (gPd p ((12 * r 0 + r 1).toNat)) (r 2).toNat (r 3).toNat (sK (sS (sS G 7 0) 3 (-1)) G.2.2.1.dropLast)) z0 I1 J1 := by
        have h9 := zCq_keep hC0 (f1 23 (by simp)) (f1 27 (by simp)) (g1 23 (by simp))
        unfold zCq at h9 ⊢
        rw [zdns_r, zdns_k (k := 9) (by omega), zdns_k (k := 4) (by omega)]
        exact h9
      have f01 : zfr [20, 21, 23, 24, 26] I I1 := zfr_trans (zfr_sub f0 (by simp)) (zfr_sub f1 (by simp))
      have h91 : (zdns (gPb p) 4 (gPd p ((12 * r 0 + r 1).toNat)) (r 2).toNat (r 3).toNat (sK (sS (sS G 7 0) 3 (-1)) G.2.2.1.dropLast)).1 9 = 0 := (zdns_k (by omega)).trans h90
      have h81 : (zdns (gPb p) 4 (gPd p ((12 * r 0 + r 1).toNat)) (r 2).toNat (r 3).toNat (sK (sS (sS G 7 0) 3 (-1)) G.2.2.1.dropLast)).1 8 = (m : Int) := (zdns_k (by omega)).trans hm
      have h11 : (zdns (gPb p) 4 (gPd p ((12 * r 0 + r 1).toNat)) (r 2).toNat (r 3).toNat (sK (sS (sS G 7 0) 3 (-1)) G.2.2.1.dropLast)).1 1 = (((G.1 1).toNat : Nat) : Int) := by
        refine (zdns_k (by omega)).trans ?_
        show G.1 1 = _
        omega
      refine s_39 (m := m) (t := (G.1 1).toNat) hk h81 hm4 h11 (by omega) h91 (zCp_keep hp (zfr_sub f01 (by simp))) hT1 hC1 (fun I2 J2 hT2 hC2 u1 u2 f2 g2 => ?_)
      have f02 := zfr_trans f01 (zfr_sub f2 (M := [20, 21, 23, 24, 26]) (by simp))
      have g02 := zfr_trans g1 g2
      refine ⟨fun hn => ?_, fun hn => ?_⟩
      · have h92 : ¬ (gLook p (zdns (gPb p) 4 (gPd p ((12 * r 0 + r 1).toNat)) (r 2).toNat (r 3).toNat (sK (sS (sS G 7 0) 3 (-1)) G.2.2.1.dropLast))).1 9 = 0 := by
          intro q
          apply hn
          rw [hC2.2.1, q]
          rfl
        have k9 := k I2 J2
        rw [if_neg h92] at k9
        refine k9 hT2 (zCs_of hC2 ?_ ?_) f02 g02
        · rw [(u2 h92).1]
          rcases gLook_or (p := p) (G := zdns (gPb p) 4 (gPd p ((12 * r 0 + r 1).toNat)) (r 2).toNat (r 3).toNat (sK (sS (sS G 7 0) 3 (-1)) G.2.2.1.dropLast)) with e | ⟨w, e⟩
          · rw [e] at h92; exact absurd h91 h92
          · rw [e]; rfl
        · rw [(u2 h92).2]
          rcases gLook_or (p := p) (G := zdns (gPb p) 4 (gPd p ((12 * r 0 + r 1).toNat)) (r 2).toNat (r 3).toNat (sK (sS (sS G 7 0) 3 (-1)) G.2.2.1.dropLast)) with e | ⟨w, e⟩
          · rw [e] at h92; exact absurd h91 h92
          · rw [e]; rfl
      · have hz := Classical.not_not.mp hn
        rcases gLook_or (p := p) (G := zdns (gPb p) 4 (gPd p ((12 * r 0 + r 1).toNat)) (r 2).toNat (r 3).toNat (sK (sS (sS G 7 0) 3 (-1)) G.2.2.1.dropLast)) with e | ⟨w, e⟩
        · rw [e, if_pos h91] at k
          rw [e] at hT2 hC2
          refine s_37 (p := p) h81 hm4 ?_ ?_ hT2 hC2 (fun I3 hT3 hC3 f3 => k I3 J2 hT3 hC3 (zfr_trans f02 (zfr_sub f3 (by simp))) g02)
          · exact Nat.le_trans zdns_len hlen9
          · intro x hx
            exact hrows x ((List.dropLast_sublist _).subset (zdns_mem x hx))
        · exfalso
          rw [e] at hC2
          have h9 := hC2.2.1
          rw [hz] at h9
          exact absurd h9 (by show ¬ (0 : Int32) = zi 1; decide)
    have e0 : zv_86 (zu I 23 8 (zi (G.1 7 + 1))) J (zi ((G.2.2.1.length : Int) - 1)) 0 = zi (r 0) := hrow (zu I 23 8 (zi (G.1 7 + 1))) 0 (by omega) (zu_row _ _ (by omega))
    have e1 : zv_86 (zu I 23 8 (zi (G.1 7 + 1))) J (zi ((G.2.2.1.length : Int) - 1)) (zi 1) = zi (r 1) := hrow (zu I 23 8 (zi (G.1 7 + 1))) 1 (by omega) (zu_row _ _ (by omega))
    have e2 : zv_86 (zu (zu I 23 8 (zi (G.1 7 + 1))) 20 3 (zi ((G.2.2.1.length : Int) - 1))) J (zi ((G.2.2.1.length : Int) - 1)) 2 = zi (r 2) := hrow _ 2 (by omega) (by rw [zu_row _ _ (by omega), zu_row _ _ (by omega)])
    have e3 : zv_86 (zu (zu I 23 8 (zi (G.1 7 + 1))) 20 3 (zi ((G.2.2.1.length : Int) - 1))) J (zi ((G.2.2.1.length : Int) - 1)) 3 = zi (r 3) := hrow _ 3 (by omega) (by rw [zu_row _ _ (by omega), zu_row _ _ (by omega)])
    rw [e0, e1, e2, e3]
    rw [zi_eq (by rcases hrs with ⟨e, _⟩ | ⟨e, _⟩ <;> omega) (by omega)]
    refine ⟨fun q => ?_, fun q => ?_⟩
    · refine main _ ?_
      rcases hrs with ⟨e, e4, e5⟩ | ⟨e, e4, e5⟩
      · congr 1
        omega
      · exact absurd e q
    · refine main _ ?_
      rw [show (12 : Int32) = zi 12 from rfl, zi_add]
      congr 1
      rcases hrs with ⟨e, e4, e5⟩ | ⟨e, e4, e5⟩
      · exfalso
        apply q
        omega
      · omega
  · -- the next one is asked
    have hpo : gPassOn p G = sS (sS G 7 (G.1 7 + 1)) 3 (gB G (G.1 3).toNat) := by
      unfold gPassOn
      rw [if_pos (by omega)]
    rw [hpo] at k
    rw [hC.2.2.2.1, show G.1 3 = (((G.1 3).toNat : Nat) : Int) by omega, zv83_at (m := m) (by rw [zu_row _ _ (by omega), hT.1, hm]) hm4.2 (by omega), ← gB_eq hm]
    refine k _ J (zTb_keep (zTb_7 hT) (by rw [zu_row _ _ (by omega), zu_row _ _ (by omega)]) (by rw [zu_row _ _ (by omega), zu_row _ _ (by omega)]) (by rw [zu_row _ _ (by omega), zu_row _ _ (by omega)]) rfl) ?_ (zfr_zu (zfr_zu (zfr_refl _) _ _ (by simp)) _ _ (by simp)) (zfr_refl _)
    obtain ⟨c1, c2, c3, -, -, c6, c7⟩ := hC
    refine ⟨?_, ?_, ?_, ?_, ?_, c6, ?_⟩
    · rw [zu_n _ _ (by omega), zu_n _ _ (by omega)]; exact c1
    · rw [zu_n _ _ (by omega), zu_n _ _ (by omega)]; exact c2
    · rw [zu_n _ _ (by omega), zu_n _ _ (by omega)]; exact c3
    · rw [zu_s]; rfl
    · rw [zu_n _ _ (by omega), zu_s]; rfl
    · intro j w hj hw
      rw [zu_n _ _ (by omega), zu_n _ _ (by omega)]
      exact c7 j w hj hw
end CGame5
