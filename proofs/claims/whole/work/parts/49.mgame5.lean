/-! ===== the reference's game: make ===== -/
theorem gWn_ask {G : zGm} (h : gWn G) : gWn (gAsk G) := by
  unfold gAsk
  split <;> exact h
theorem gWn_do {p : zPg} {G : zGm} (h : gWn G) : gWn (gDo p G) := by
  unfold gDo
  split
  · exact h
  · rename_i r e
    have h1 : gWn (gLook p (zdns (gPb p) 4 (gPd p ((12 * r 0 + r 1).toNat)) (r 2).toNat (r 3).toNat (sK (sS (sS G 7 0) 3 (-1)) G.2.2.1.dropLast))) := gWn_look (gWn_dns (G := sK (sS (sS G 7 0) 3 (-1)) G.2.2.1.dropLast) h)
    show gWn (if (gLook p (zdns (gPb p) 4 (gPd p ((12 * r 0 + r 1).toNat)) (r 2).toNat (r 3).toNat (sK (sS (sS G 7 0) 3 (-1)) G.2.2.1.dropLast))).1 9 = 0 then _ else _)
    split
    · exact gWn_ask h1
    · exact h1
theorem gWn_passOn {p : zPg} {G : zGm} (h : gWn G) : gWn (gPassOn p G) := by
  unfold gPassOn
  split
  · exact h
  · exact gWn_do h
/-- nobody is asked when it is over -/
def gEz (H : zGm) : Prop := ¬ H.1 9 = 0 → gA H
theorem gEz_do {p : zPg} {G : zGm} (hne : ¬ G.2.2.1 = []) : gEz (gDo p G) := by
  unfold gDo
  split
  · rename_i e
    exact absurd (zgd_none e) hne
  · rename_i r e
    have h1 : gA (gLook p (zdns (gPb p) 4 (gPd p ((12 * r 0 + r 1).toNat)) (r 2).toNat (r 3).toNat (sK (sS (sS G 7 0) 3 (-1)) G.2.2.1.dropLast))) := by
      rcases gLook_or (p := p) (G := zdns (gPb p) 4 (gPd p ((12 * r 0 + r 1).toNat)) (r 2).toNat (r 3).toNat (sK (sS (sS G 7 0) 3 (-1)) G.2.2.1.dropLast)) with e | ⟨w, e⟩
      · rw [e]
        exact ⟨(zdns_k (k := 3) (by omega)).trans rfl, (zdns_k (k := 7) (by omega)).trans rfl⟩
      · rw [e]
        exact ⟨rfl, rfl⟩
    show gEz (if (gLook p (zdns (gPb p) 4 (gPd p ((12 * r 0 + r 1).toNat)) (r 2).toNat (r 3).toNat (sK (sS (sS G 7 0) 3 (-1)) G.2.2.1.dropLast))).1 9 = 0 then _ else _)
    split
    · rename_i q
      intro z
      refine absurd ?_ z
      unfold gAsk
      split <;> exact q
    · exact fun _ => h1
theorem gF2_A {p : zPg} {m : Nat} {H : zGm} (hm : 2 ≤ m ∧ m ≤ 4) (hV : gVd p m H) (h : gEz H) : gEz (gF2 p H) := by
  unfold gF2
  by_cases c : H.1 9 = 0 ∧ H.2.2.1.isEmpty = true ∧ H.1 5 = 1
  · rw [if_pos c]
    obtain ⟨t, ht, hq⟩ := gQ_of hV c.1 (List.isEmpty_iff.mp c.2.1)
    exact fun _ => gA_turns 101 hq
  · rw [if_neg c]
    exact h
theorem gF2_W {p : zPg} {H : zGm} (h : gWn H) : gWn (gF2 p H) := by
  unfold gF2
  split
  · exact gWn_turns 101 h
  · exact h
theorem gF2_Rg {p : zPg} {H : zGm} (hk : zPok p) (h : gRg p H) : gRg p (gF2 p H) := by
  unfold gF2
  split
  · exact gTurns_Rg hk 101 h
  · exact h
theorem gF2_r {p : zPg} {H : zGm} : (gF2 p H).2.2.2.1 = H.2.2.2.1 := by
  unfold gF2
  split
  · exact gTurns_r 101
  · rfl
section MGame5
variable {RO : zRo} {d : Nat} {P : zP} {I : zI} {J : zJ} {D : zD} {bc bs : Nat} {m t ow tg nt np : Nat} {G : zGm} {p : zPg} {z0 : Int64} {l1 l2 l3 l4 : Int32}
theorem n_note {sort num tgt who : Int} (hl : G.2.2.2.1.length < 250) (hM : zMb nt np G I J) (hS : zMg G z0 I J) :
    zMb nt np (gNote G sort num tgt who) (zu (zu (zu4 I 49 (4 * G.2.2.2.1.length) (zi sort) (zi num) (zi tgt) (zi who)) 28 47 (zi (G.2.2.2.1.length : Int) + 1)) 28 42 0) J ∧ zMg (gNote G sort num tgt who) z0 (zu (zu (zu4 I 49 (4 * G.2.2.2.1.length) (zi sort) (zi num) (zi tgt) (zi who)) 28 47 (zi (G.2.2.2.1.length : Int) + 1)) 28 42 0) J ∧ zfm [42, 47] [49] I (zu (zu (zu4 I 49 (4 * G.2.2.2.1.length) (zi sort) (zi num) (zi tgt) (zi who)) 28 47 (zi (G.2.2.2.1.length : Int) + 1)) 28 42 0) := by
  have f4 : zfm [] [49] I (zu4 I 49 (4 * G.2.2.2.1.length) (zi sort) (zi num) (zi tgt) (zi who)) := zfm_4 (zfm_refl _) _ _ _ _ (by decide) (by decide)
  have f9 : zfm [42, 47] [49] I (zu (zu (zu4 I 49 (4 * G.2.2.2.1.length) (zi sort) (zi num) (zi tgt) (zi who)) 28 47 (zi (G.2.2.2.1.length : Int) + 1)) 28 42 0) := zfm_z (zfm_z (zfm_sub f4 (by simp) (by simp)) _ _ (by decide)) _ _ (by decide)
  refine ⟨zMb_keep (G := gNote G sort num tgt who) hM (zfm_sub f9 (by simp) (by simp)) (zfm_refl _), ?_, f9⟩
  obtain ⟨c1, c2, c3, c4, c5, c6, c7⟩ := hS
  refine ⟨?_, ?_, ?_, c4, ?_, ?_, ?_⟩
  · rw [f9.2 33 (by decide)]; exact c1
  · rw [f9.2 39 (by decide)]; exact c2
  · rw [zu_n _ _ (by omega), zu_s, zi_succ]
    show _ = zi ((G.2.2.2.1 ++ [_]).length : Int)
    rw [List.length_append]
    rfl
  · intro k w hk hw
    rw [zu_row _ _ (by omega), zu_row _ _ (by omega)]
    refine zu4_rows (r := fun k => if k = 0 then sort else if k = 1 then num else if k = 2 then tgt else who) c5 (fun w hw => ?_) k w hk hw
    have hw4 : w = 0 ∨ w = 1 ∨ w = 2 ∨ w = 3 := by omega
    rcases hw4 with h | h | h | h <;> subst h <;> rfl
  · rw [f9.2 37 (by decide)]; exact c6
  · rw [f9.2 38 (by decide)]; exact c7
theorem n_tail {H : zGm} {x y : Int32} (hR : gRg p H) (hE : gEz H) (hW : gWn H) (hl : H.2.2.2.1.length ≤ 250) (hx : x = zi (H.1 9)) (hy : y = zi (H.2.2.2.1.length : Int)) (hM : zMb nt np H I J) (hS : zMg H z0 I J)
    (K : ∀ I', zMb nt np (gF3 H) I' J → zMg (gF3 H) z0 I' J → zfm [33, 37, 38] [] I I' → P (.inl none) I' J D) :
    ((¬ x = 0 → P (.inl none) (zu (zu I 28 37 (-1)) 28 38 0) J D) ∧ (¬ (¬ x = 0) → ((¬ y = 250 → P (.inl none) I J D) ∧ (¬ (¬ y = 250) → P (.inl none) (zu (zu (zu I 28 33 2) 28 37 (-1)) 28 38 0) J D)))) := by
  have r9 := hR.2.2.2.2
  rw [hx, hy, show zi (H.1 9) = 0 ↔ H.1 9 = 0 by rw [show (0 : Int32) = zi 0 from rfl, zi_eq (by omega) (by omega)], show (250 : Int32) = zi 250 from rfl, zi_eq (a := (H.2.2.2.1.length : Int)) (by omega) (by omega)]
  refine ⟨fun q => ?_, fun q => ⟨fun q2 => ?_, fun q2 => ?_⟩⟩
  · have e : gF3 H = H := by
      unfold gF3
      rw [if_neg (fun z => q z.1)]
    rw [e] at K
    have f9 : zfm [33, 37, 38] [] I (zu (zu I 28 37 (-1)) 28 38 0) := zfm_z (zfm_z (zfm_refl _) _ _ (by decide)) _ _ (by decide)
    have f8 : zfm [37, 38] [] I (zu (zu I 28 37 (-1)) 28 38 0) := zfm_z (zfm_z (zfm_refl _) _ _ (by decide)) _ _ (by decide)
    refine K _ (zMb_keep hM (zfm_sub f9 (by simp) (by simp)) (zfm_refl _)) ?_ f9
    obtain ⟨c1, c2, c3, c4, c5, c6, c7⟩ := hS
    refine ⟨?_, ?_, ?_, c4, ?_, ?_, ?_⟩
    · rw [f8.2 33 (by decide)]; exact c1
    · rw [f8.2 39 (by decide)]; exact c2
    · rw [f8.2 47 (by decide)]; exact c3
    · rw [f8.1 49 (by decide) (by decide)]; exact c5
    · rw [zu_n _ _ (by omega), zu_s, (hE q).1]; rfl
    · rw [zu_s, (hE q).2]; rfl
  · have e : gF3 H = H := by
      unfold gF3
      rw [if_neg (fun z => q2 (by omega))]
    rw [e] at K
    exact K I hM hS (zfm_refl _)
  · have q9 : H.1 9 = 0 := Classical.not_not.mp q
    have e : gF3 H = gEnd H 2 (-1) := by
      unfold gF3
      rw [if_pos ⟨q9, by omega⟩]
    rw [e] at K
    have f9 : zfm [33, 37, 38] [] I (zu (zu (zu I 28 33 2) 28 37 (-1)) 28 38 0) := zfm_z (zfm_z (zfm_z (zfm_refl _) _ _ (by decide)) _ _ (by decide)) _ _ (by decide)
    refine K _ (zMb_keep (zMb_s (zMb_s (zMb_s (zMb_s hM (by omega)) (by omega)) (by omega)) (by omega)) (zfm_sub f9 (by simp) (by simp)) (zfm_refl _)) ?_ f9
    obtain ⟨c1, c2, c3, c4, c5, c6, c7⟩ := hS
    refine ⟨?_, ?_, ?_, c4, ?_, ?_, ?_⟩
    · rw [zu_n _ _ (by omega), zu_n _ _ (by omega), zu_s]; rfl
    · rw [f9.2 39 (by decide), c2, hW q9]; rfl
    · rw [f9.2 47 (by decide)]; exact c3
    · rw [f9.1 49 (by decide) (by decide)]; exact c5
    · rw [zu_n _ _ (by omega), zu_s]; rfl
    · rw [zu_s]; rfl
theorem n_193 (hk : zPok p) (hm4 : 2 ≤ m ∧ m ≤ 4) {sort num tgt : Int} (hV : gVd p m G) (h9 : G.1 9 = 0) (hv : gMay p m G sort num tgt) (hr : G.2.2.2.1.length < 250) (hW : gWn G) (hSk : G.2.2.1 = [] → G.1 5 = 0) (hb : 2 ≤ bc ∧ 8 ≤ bs) (hp : zMp p I) (hM : zMb (gPc p 0) (gPc p 1) G I J) (hS : zMg G z0 I J)
    (K : ∀ I' J', zMb (gPc p 0) (gPc p 1) (gMake p G sort num tgt) I' J' → zMg (gMake p G sort num tgt) z0 I' J' → zfm zKM zLM I I' → zfm [32] [50] J J' → P (.inl none) I' J' D) :
    zz RO (d + 12) 193 [.ref 28, .int (zi sort), .int (zi num), .int (zi tgt)] I J D bc bs P := by
  have hI := gIn_of hV h9
  have hAs := hV.2 h9
  have hs2 : 0 ≤ sort ∧ sort ≤ 2 := by
    rcases hv with e | ⟨e, _⟩ <;> omega
  have hB := hV.1
  have hc2 := hk.1.2.2.2.1
  have hsz : zi 2 ≤ zi sort ↔ sort = 2 := by rw [zi_le (by omega) (by omega)]; omega
  have hll := hB.2.2.2.1
  have r2 := hB.2.2.1.2.1
  have hrl : ∀ who, (gNote G sort num tgt who).2.2.2.1.length ≤ 250 := by
    intro who
    show (G.2.2.2.1 ++ [_]).length ≤ 250
    rw [List.length_append]
    show G.2.2.2.1.length + 1 ≤ 250
    omega
  rw [gMake_eq] at K
  -- what an act or a reply does
  have lay : ∀ (who : Int), who = (if G.2.2.1.isEmpty = true then G.1 1 else G.1 3) → ¬ sort = 2 → (∃ c2 s2, c2 ≤ (bc - 1) ∧ s2 ≤ (bs - 4) ∧ zz RO (d + 11) 191 [.ref 28, .int (zi sort), .int (zi num), .int (zi who), .int (zi tgt)] (zu (zu (zu4 I 49 (4 * G.2.2.2.1.length) (zi sort) (zi num) (zi tgt) (zi who)) 28 47 (zi (G.2.2.2.1.length : Int) + 1)) 28 42 0) J D c2 s2 (zNv P fun I2 J2 D2 => ((¬ (I2 28 33) = 0 → P (.inl none) (zu (zu I2 28 37 (-1)) 28 38 0) J2 D2) ∧ (¬ (¬ (I2 28 33) = 0) → ((¬ (I2 28 47) = 250 → P (.inl none) I2 J2 D2) ∧ (¬ (¬ (I2 28 47) = 250) → P (.inl none) (zu (zu (zu I2 28 33 2) 28 37 (-1)) 28 38 0) J2 D2)))))) := by
    intro who hwho hs
    obtain ⟨nM, nS, nf⟩ := n_note (sort := sort) (num := num) (tgt := tgt) (who := who) hr hM hS
    have hv2 := hv.resolve_left hs
    have hrow := gMk_row hI hv hs
    rw [← hwho] at hrow
    have hmk : gMk p G sort num tgt = (gAsk (sK (gNote G sort num tgt who) (G.2.2.1 ++ [gRow sort num who tgt])), false) := by
      unfold gMk
      simp only [if_pos hs]
      rw [← hwho]
      rfl
    have hV1 := gVd_mk hm4 hV h9 hv
    rw [hmk] at hV1 K
    refine ⟨1, 4, by omega, by omega, n_191 (d := d + 9) (m := m) (G := gNote G sort num tgt who) hm4 hB.1 hv2.2.2.2 ⟨hrow.2.1, hrow.2.2.1⟩ ⟨by omega, by omega⟩ nM nS (fun I2 hM2 hS2 f2 => ?_)⟩
    have e9 : (gAsk (sK (gNote G sort num tgt who) (G.2.2.1 ++ [gRow sort num who tgt]))).1 9 = 0 := by
      unfold gAsk
      split <;> exact h9
    have hne : ¬ (gAsk (sK (gNote G sort num tgt who) (G.2.2.1 ++ [gRow sort num who tgt]))).2.2.1.isEmpty = true := by
      unfold gAsk
      split <;> (show ¬ (G.2.2.1 ++ [gRow sort num who tgt]).isEmpty = true; simp)
    have eF : gF2 p (gAsk (sK (gNote G sort num tgt who) (G.2.2.1 ++ [gRow sort num who tgt]))) = gAsk (sK (gNote G sort num tgt who) (G.2.2.1 ++ [gRow sort num who tgt])) := by
      unfold gF2
      rw [if_neg (fun q => hne q.2.1)]
    rw [show gFin p (gAsk (sK (gNote G sort num tgt who) (G.2.2.1 ++ [gRow sort num who tgt])), false).1 (gAsk (sK (gNote G sort num tgt who) (G.2.2.1 ++ [gRow sort num who tgt])), false).2 = gF3 (gAsk (sK (gNote G sort num tgt who) (G.2.2.1 ++ [gRow sort num who tgt]))) by rw [gFin_f, eF]] at K
    refine n_tail hV1.1.2.2.1 (fun z => absurd e9 z) (gWn_ask (G := sK (gNote G sort num tgt who) (G.2.2.1 ++ [gRow sort num who tgt])) hW) (by rw [gAsk_r]; exact hrl who) hS2.1 hS2.2.2.1 hM2 hS2 (fun I3 hM3 hS3 f3 => ?_)
    exact K I3 J hM3 hS3 (zfm_trans (zfm_sub nf (by simp) (by simp)) (zfm_trans (zfm_sub f2 (by simp) (by simp)) (zfm_sub f3 (by simp) (by simp)))) (zfm_refl _)
  have e47 := hS.2.2.1
  have ecl : (4 * zi (G.2.2.2.1.length : Int)).toNatClampNeg = 4 * G.2.2.2.1.length := by
    rw [show (4 : Int32) = zi 4 from rfl, zi_mul, zi_cl (by omega) (by omega)]
    omega
  have hge : ¬ 4 * zi (G.2.2.2.1.length : Int) < 0 := by
    rw [show (4 : Int32) = zi 4 from rfl, zi_mul, show (0 : Int32) = zi 0 from rfl, zi_lt (by omega) (by omega)]
    omega
  refine w_193 ?_
  rw [e47, ecl, show (2 : Int32) ≤ zi sort ↔ sort = 2 from hsz, hS.2.2.2.2.2.1, hS.2.2.2.2.2.2, hM.2.2.2.1]
  have h37 : zi (G.1 3) = (-1 : Int32) ↔ G.2.2.1 = [] := by
    by_cases c : G.2.2.1 = []
    · rw [(hAs.1 c).1]
      exact ⟨fun _ => c, fun _ => rfl⟩
    · have h3 := hAs.2 c
      rw [show (-1 : Int32) = zi (-1) from rfl, zi_eq (by omega) (by omega)]
      exact ⟨fun z => by omega, fun z => absurd z c⟩
  rw [h37]
  refine ⟨fun hne => ⟨hge, by omega, ⟨by omega, by omega⟩, fun hs => ?_, fun hs => ?_⟩, fun hne => ⟨hge, by omega, ⟨by omega, by omega⟩, fun hs => ?_, fun hs => ?_⟩⟩
  · -- a pass, and somebody is asked
    have h3 := hAs.2 hne
    have hemp : ¬ G.2.2.1.isEmpty = true := fun q => hne (List.isEmpty_iff.mp q)
    obtain ⟨nM, nS, nf⟩ := n_note (sort := sort) (num := num) (tgt := tgt) (who := G.1 3) hr hM hS
    have hmk : gMk p G sort num tgt = (gPassOn p (gNote G sort num tgt (G.1 3)), false) := by
      unfold gMk
      simp only [if_neg (fun q => q hs : ¬ ¬ sort = 2)]
      rw [if_pos (show ¬ (gNote G sort num tgt (if G.2.2.1.isEmpty = true then G.1 1 else G.1 3)).2.2.1.isEmpty = true from hemp), if_neg hemp]
    have hV1 := gVd_mk hm4 hV h9 hv
    rw [hmk] at K hV1
    rw [show gFin p (gPassOn p (gNote G sort num tgt (G.1 3)), false).1 (gPassOn p (gNote G sort num tgt (G.1 3)), false).2 = gF3 (gF2 p (gPassOn p (gNote G sort num tgt (G.1 3)))) from gFin_f _ _] at K
    have f38 : zfm [38, 42, 47] [49] I (zu (zu (zu (zu4 I 49 (4 * G.2.2.2.1.length) (zi sort) (zi num) (zi tgt) (zi (G.1 3))) 28 47 (zi (G.2.2.2.1.length : Int) + 1)) 28 42 0) 28 38 (zi (G.1 7) + 1)) := zfm_z (zfm_sub nf (by simp) (by simp)) _ _ (by decide)
    have h30 : (zu (zu (zu (zu4 I 49 (4 * G.2.2.2.1.length) (zi sort) (zi num) (zi tgt) (zi (G.1 3))) 28 47 (zi (G.2.2.2.1.length : Int) + 1)) 28 42 0) 28 38 (zi (G.1 7) + 1)) 28 30 = zi (m : Int) := by
      rw [f38.2 30 (by decide), hM.1, hB.1]
    have n9 := n_179 (J := J) h30 hm4 (q := (G.1 3).toNat) (by omega)
    rw [show ((G.1 3).toNat : Int) = G.1 3 by omega] at n9
    rw [n9.1]
    have f37 : zfm [37, 38, 42, 47] [49] I (zu (zu (zu (zu (zu4 I 49 (4 * G.2.2.2.1.length) (zi sort) (zi num) (zi tgt) (zi (G.1 3))) 28 47 (zi (G.2.2.2.1.length : Int) + 1)) 28 42 0) 28 38 (zi (G.1 7) + 1)) 28 37 (zi ((((G.1 3).toNat + 1) % m : Nat) : Int))) := zfm_z (zfm_sub f38 (by simp) (by simp)) _ _ (by decide)
    have f37n : zfm [37, 38] [] (zu (zu (zu4 I 49 (4 * G.2.2.2.1.length) (zi sort) (zi num) (zi tgt) (zi (G.1 3))) 28 47 (zi (G.2.2.2.1.length : Int) + 1)) 28 42 0) (zu (zu (zu (zu (zu4 I 49 (4 * G.2.2.2.1.length) (zi sort) (zi num) (zi tgt) (zi (G.1 3))) 28 47 (zi (G.2.2.2.1.length : Int) + 1)) 28 42 0) 28 38 (zi (G.1 7) + 1)) 28 37 (zi ((((G.1 3).toNat + 1) % m : Nat) : Int))) := zfm_z (zfm_z (zfm_refl _) _ _ (by decide)) _ _ (by decide)
    have hM2 : zMb (gPc p 0) (gPc p 1) (sS (sS (gNote G sort num tgt (G.1 3)) 7 (G.1 7 + 1)) 3 (gB (gNote G sort num tgt (G.1 3)) (G.1 3).toNat)) (zu (zu (zu (zu (zu4 I 49 (4 * G.2.2.2.1.length) (zi sort) (zi num) (zi tgt) (zi (G.1 3))) 28 47 (zi (G.2.2.2.1.length : Int) + 1)) 28 42 0) 28 38 (zi (G.1 7) + 1)) 28 37 (zi ((((G.1 3).toNat + 1) % m : Nat) : Int))) J := zMb_keep (zMb_s (zMb_s nM (by omega)) (by omega)) (zfm_sub f37n (by simp) (by simp)) (zfm_refl _)
    have hS2 : zMg (sS (sS (gNote G sort num tgt (G.1 3)) 7 (G.1 7 + 1)) 3 (gB (gNote G sort num tgt (G.1 3)) (G.1 3).toNat)) z0 (zu (zu (zu (zu (zu4 I 49 (4 * G.2.2.2.1.length) (zi sort) (zi num) (zi tgt) (zi (G.1 3))) 28 47 (zi (G.2.2.2.1.length : Int) + 1)) 28 42 0) 28 38 (zi (G.1 7) + 1)) 28 37 (zi ((((G.1 3).toNat + 1) % m : Nat) : Int))) J := by
      obtain ⟨c1, c2, c3, c4, c5, c6, c7⟩ := nS
      refine ⟨?_, ?_, ?_, c4, ?_, ?_, ?_⟩
      · rw [f37n.2 33 (by decide)]; exact c1
      · rw [f37n.2 39 (by decide)]; exact c2
      · rw [f37n.2 47 (by decide)]; exact c3
      · rw [f37n.1 49 (by decide) (by decide)]; exact c5
      · rw [zu_s, ← gB_eq (G := gNote G sort num tgt (G.1 3)) hB.1]; rfl
      · rw [zu_n _ _ (by omega), zu_s, show (1 : Int32) = zi 1 from rfl, zi_add]; rfl
    refine ⟨n9.2, ?_⟩
    have e30 : I 28 30 = zi (m : Int) := by rw [hM.1, hB.1]
    rw [e30, show (1 : Int32) = zi 1 from rfl, zi_add, zi_sub, zi_eq (a := G.1 7 + 1) (by omega) (by omega)]
    rw [show zi (G.1 7 + 1) = zi (G.1 7) + zi 1 from (zi_add _ _).symm]
    refine ⟨fun q => ?_, fun q => ?_⟩
    · have ePO : gPassOn p (gNote G sort num tgt (G.1 3)) = sS (sS (gNote G sort num tgt (G.1 3)) 7 (G.1 7 + 1)) 3 (gB (gNote G sort num tgt (G.1 3)) (G.1 3).toNat) := by
        unfold gPassOn
        rw [if_pos (show (gNote G sort num tgt (G.1 3)).1 7 + 1 < (gNote G sort num tgt (G.1 3)).1 8 - 1 from by show G.1 7 + 1 < G.1 8 - 1; rw [hB.1]; omega)]
        rfl
      rw [ePO] at K hV1
      have eF : gF2 p (sS (sS (gNote G sort num tgt (G.1 3)) 7 (G.1 7 + 1)) 3 (gB (gNote G sort num tgt (G.1 3)) (G.1 3).toNat)) = sS (sS (gNote G sort num tgt (G.1 3)) 7 (G.1 7 + 1)) 3 (gB (gNote G sort num tgt (G.1 3)) (G.1 3).toNat) := by
        unfold gF2
        rw [if_neg (fun z => hemp z.2.1)]
      rw [eF] at K
      refine n_tail (p := p) hV1.1.2.2.1 (fun z => absurd h9 z) (fun z => hW z) (hrl (G.1 3)) ?_ ?_ hM2 hS2 (fun I3 hM3 hS3 f3 => ?_)
      · rw [hS.1]; rfl
      · show _ = zi ((G.2.2.2.1 ++ [_]).length : Int)
        rw [List.length_append, zi_add]
        rfl
      · exact K I3 J hM3 hS3 (zfm_trans (zfm_sub f37 (by simp) (by simp)) (zfm_sub f3 (by simp) (by simp))) (zfm_refl _)
    · have ePO : gPassOn p (gNote G sort num tgt (G.1 3)) = gDo p (gNote G sort num tgt (G.1 3)) := by
        unfold gPassOn
        rw [if_neg (show ¬ (gNote G sort num tgt (G.1 3)).1 7 + 1 < (gNote G sort num tgt (G.1 3)).1 8 - 1 from by show ¬ G.1 7 + 1 < G.1 8 - 1; rw [hB.1]; omega)]
      rw [ePO] at K hV1
      have hBn : gBs p m (gNote G sort num tgt (G.1 3)) := ⟨hB.1, hB.2.1, hB.2.2.1, hB.2.2.2.1, hB.2.2.2.2⟩
      have hM2' : zMb (gPc p 0) (gPc p 1) (gNote G sort num tgt (G.1 3)) (zu (zu (zu (zu (zu4 I 49 (4 * G.2.2.2.1.length) (zi sort) (zi num) (zi tgt) (zi (G.1 3))) 28 47 (zi (G.2.2.2.1.length : Int) + 1)) 28 42 0) 28 38 (zi (G.1 7) + 1)) 28 37 (zi ((((G.1 3).toNat + 1) % m : Nat) : Int))) J := zMb_keep nM (zfm_sub f37n (by simp) (by simp)) (zfm_refl _)
      refine n_192 (m := m) (G := gNote G sort num tgt (G.1 3)) (z0 := z0) hk hm4 hBn hne h9 (fun z => hW z) ?_ (zMp_keep hp (zfm_sub f37 (by simp) (by simp))) hM2' ⟨_, hS2, rfl, rfl, rfl⟩ (fun I2 J2 hM3 hS3 f3 g3 => ?_)
      · rw [zu_n _ _ (by omega), zu_n _ _ (by omega), zu_s]
      · refine n_tail (p := p) (gF2_Rg hk hV1.1.2.2.1) (gF2_A hm4 hV1 (gEz_do hne)) (gF2_W (gWn_do (fun z => hW z))) (by rw [gF2_r, gDo_r]; exact hrl (G.1 3)) hS3.1 hS3.2.2.1 hM3 hS3 (fun I4 hM4 hS4 f4 => ?_)
        exact K I4 J2 hM4 hS4 (zfm_trans (zfm_sub f37 (by simp) (by simp)) (zfm_trans (zfm_sub f3 (by simp) (by simp)) (zfm_sub f4 (by simp) (by simp)))) g3
  · exact lay (G.1 3) (by rw [if_neg (fun q => hne (List.isEmpty_iff.mp q))]) hs
  · -- a pass, and nobody is asked: the phase is over
    have hs0 : G.2.2.1 = [] := Classical.not_not.mp hne
    have hemp : G.2.2.1.isEmpty = true := by rw [hs0]; rfl
    have hcn : ¬ ¬ (gNote G sort num tgt (if G.2.2.1.isEmpty = true then G.1 1 else G.1 3)).2.2.1.isEmpty = true := fun q => q hemp
    obtain ⟨nM, nS, nf⟩ := n_note (sort := sort) (num := num) (tgt := tgt) (who := G.1 1) hr hM hS
    have hp1 := zMp_keep hp (zfm_sub nf (by simp) (by simp))
    obtain ⟨t, htm, hq⟩ := gQ_of hV h9 hs0
    have hqN : gQ m t (gNote G sort num tgt (G.1 1)) := ⟨hq.1, hq.2.1, hq.2.2.1, hq.2.2.2.1, hq.2.2.2.2⟩
    have hRN : gRg p (gNote G sort num tgt (G.1 1)) := hB.2.2.1
    have h5 := hSk hs0
    have h42 : (zu (zu (zu4 I 49 (4 * G.2.2.2.1.length) (zi sort) (zi num) (zi tgt) (zi (G.1 1))) 28 47 (zi (G.2.2.2.1.length : Int) + 1)) 28 42 0) 28 42 = 0 := zu_s _ _ _ _
    by_cases c3 : G.1 2 + 1 < gPc p 2
    · have hmk : gMk p G sort num tgt = (gRules p (sS (gNote G sort num tgt (G.1 1)) 2 (G.1 2 + 1)), false) := by
        unfold gMk
        simp only [if_neg (fun q => q hs : ¬ ¬ sort = 2)]
        rw [if_neg hcn, if_pos (show (gNote G sort num tgt (if G.2.2.1.isEmpty = true then G.1 1 else G.1 3)).1 2 + 1 < gPc p 2 from c3), if_pos hemp]
        rfl
      rw [hmk] at K
      rw [show gFin p (gRules p (sS (gNote G sort num tgt (G.1 1)) 2 (G.1 2 + 1)), false).1 (gRules p (sS (gNote G sort num tgt (G.1 1)) 2 (G.1 2 + 1)), false).2 = gF3 (gF2 p (gRules p (sS (gNote G sort num tgt (G.1 1)) 2 (G.1 2 + 1)))) from gFin_f _ _] at K
      have hq2 : gQ m t (gRules p (sS (gNote G sort num tgt (G.1 1)) 2 (G.1 2 + 1))) := gQ_rules _ ⟨hq.1, hq.2.1, hq.2.2.1, hq.2.2.2.1, hq.2.2.2.2⟩
      have hR2 : gRg p (gRules p (sS (gNote G sort num tgt (G.1 1)) 2 (G.1 2 + 1))) := gRg_rules ⟨hB.2.2.1.1, by show 0 ≤ G.1 2 + 1 ∧ G.1 2 + 1 < gPc p 2; omega, hB.2.2.1.2.2⟩
      have hW2 : gWn (gRules p (sS (gNote G sort num tgt (G.1 1)) 2 (G.1 2 + 1))) := gWn_rules (fun z => hW z)
      have eF : gF2 p (gRules p (sS (gNote G sort num tgt (G.1 1)) 2 (G.1 2 + 1))) = (if (gRules p (sS (gNote G sort num tgt (G.1 1)) 2 (G.1 2 + 1))).1 9 = 0 ∧ (gRules p (sS (gNote G sort num tgt (G.1 1)) 2 (G.1 2 + 1))).1 5 = 1 then gTurns p 101 (gRules p (sS (gNote G sort num tgt (G.1 1)) 2 (G.1 2 + 1))) else gRules p (sS (gNote G sort num tgt (G.1 1)) 2 (G.1 2 + 1))) := by
        unfold gF2
        by_cases c : (gRules p (sS (gNote G sort num tgt (G.1 1)) 2 (G.1 2 + 1))).1 9 = 0 ∧ (gRules p (sS (gNote G sort num tgt (G.1 1)) 2 (G.1 2 + 1))).1 5 = 1
        · rw [if_pos c, if_pos ⟨c.1, by rw [hq2.2.2.2.2]; rfl, c.2⟩]
        · rw [if_neg c, if_neg (fun z => c ⟨z.1, z.2.2⟩)]
      have hE2 : gEz (gF2 p (gRules p (sS (gNote G sort num tgt (G.1 1)) 2 (G.1 2 + 1)))) := by
        unfold gF2
        split
        · exact fun _ => gA_turns 101 hq2
        · exact fun _ => ⟨hq2.2.2.1, hq2.2.2.2.1⟩
      refine n_190b (d := d + 1) (t := t) (G := gNote G sort num tgt (G.1 1)) hk hm4 htm hqN h9 (fun z => hW z) hRN h42 hp1 nM nS h5 c3 (fun I3 J3 hM3 hS3 f3 g3 => ?_)
      have hM3' : zMb (gPc p 0) (gPc p 1) (gF2 p (gRules p (sS (gNote G sort num tgt (G.1 1)) 2 (G.1 2 + 1)))) I3 J3 := by rw [eF]; exact hM3
      have hS3' : zMg (gF2 p (gRules p (sS (gNote G sort num tgt (G.1 1)) 2 (G.1 2 + 1)))) z0 I3 J3 := by rw [eF]; exact hS3
      refine n_tail (p := p) (gF2_Rg hk hR2) hE2 (gF2_W hW2) (by rw [gF2_r, gRules_r]; exact hrl (G.1 1)) hS3'.1 hS3'.2.2.1 hM3' hS3' (fun I4 hM4 hS4 f4 => ?_)
      exact K I4 J3 hM4 hS4 (zfm_trans (zfm_sub nf (by simp) (by simp)) (zfm_trans (zfm_sub f3 (by simp) (by simp)) (zfm_sub f4 (by simp) (by simp)))) g3
    · have hmk : gMk p G sort num tgt = (gNote G sort num tgt (G.1 1), true) := by
        unfold gMk
        simp only [if_neg (fun q => q hs : ¬ ¬ sort = 2)]
        rw [if_neg hcn, if_neg (show ¬ (gNote G sort num tgt (if G.2.2.1.isEmpty = true then G.1 1 else G.1 3)).1 2 + 1 < gPc p 2 from c3), if_pos hemp]
      rw [hmk] at K
      have eF : gFin p (gNote G sort num tgt (G.1 1), true).1 (gNote G sort num tgt (G.1 1), true).2 = gF3 (gTurns p 101 (gNote G sort num tgt (G.1 1))) := gFin_p ⟨h9, hemp, Or.inl rfl⟩
      rw [eF] at K
      refine n_190a (d := d + 1) (t := t) (G := gNote G sort num tgt (G.1 1)) hk hm4 htm hqN h9 (fun z => hW z) hRN h42 hp1 nM nS (Or.inr (by show G.1 2 + 1 = gPc p 2; omega)) (fun I3 J3 hM3 hS3 f3 g3 => ?_)
      refine n_tail (p := p) (gTurns_Rg hk 101 hRN) (fun _ => gA_turns 101 hqN) (gWn_turns 101 (fun z => hW z)) (by rw [gTurns_r]; exact hrl (G.1 1)) hS3.1 hS3.2.2.1 hM3 hS3 (fun I4 hM4 hS4 f4 => ?_)
      exact K I4 J3 hM4 hS4 (zfm_trans (zfm_sub nf (by simp) (by simp)) (zfm_trans (zfm_sub f3 (by simp) (by simp)) (zfm_sub f4 (by simp) (by simp)))) g3
  · have hs0 : G.2.2.1 = [] := Classical.not_not.mp hne
    exact lay (G.1 1) (by rw [if_pos (by rw [hs0]; rfl)]) hs
end MGame5
