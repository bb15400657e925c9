/-! ===== the reference's game: lay, resolve ===== -/
def gF2 (p : zPg) (H : zGm) : zGm := if H.1 9 = 0 ∧ H.2.2.1.isEmpty = true ∧ H.1 5 = 1 then gTurns p 101 H else H
def gF3 (H : zGm) : zGm := if H.1 9 = 0 ∧ 250 ≤ H.2.2.2.1.length then gEnd H 2 (-1) else H
theorem gFin_f (p : zPg) (H : zGm) : gFin p H false = gF3 (gF2 p H) := by
  unfold gF2
  by_cases c : H.1 9 = 0 ∧ H.2.2.1.isEmpty = true ∧ H.1 5 = 1
  · rw [if_pos c, gFin_p ⟨c.1, c.2.1, Or.inr c.2.2⟩]
    rfl
  · rw [if_neg c, gFin_n (fun q => c ⟨q.1, q.2.1, q.2.2.resolve_left (by decide)⟩)]
    rfl
def gA (H : zGm) : Prop := H.1 3 = -1 ∧ H.1 7 = 0
theorem gA_turns {p : zPg} {m : Nat} : ∀ (k : Nat) {t : Nat} {G : zGm}, gQ m t G → gA (gTurns p k G)
  | 0, t, G, h => ⟨h.2.2.1, h.2.2.2.1⟩
  | k + 1, t, G, h => by
    obtain ⟨nx, R, h1, h0, hx, h2⟩ := gTurns_u p k G
    rw [h2]
    have h9 : gQ m nx (gRules p (gNew (sS G 0 R) nx)) := gQ_rules _ (gQ_new h)
    by_cases c1 : 50 < R ∨ k = 0
    · rw [if_pos c1]
      exact ⟨rfl, rfl⟩
    · rw [if_neg c1]
      by_cases c2 : (gRules p (gNew (sS G 0 R) nx)).1 9 = 0 ∧ (gRules p (gNew (sS G 0 R) nx)).1 5 = 1
      · rw [if_pos c2]
        exact gA_turns k h9
      · rw [if_neg c2]
        exact ⟨h9.2.2.1, h9.2.2.2.1⟩
abbrev zKM : List Nat := [33, 34, 35, 36, 37, 38, 39, 40, 41, 42, 45, 47]
abbrev zLM : List Nat := [46, 47, 48, 49]
theorem zfm_4 {K L : List Nat} {I I1 : zI} (f : zfm K L I I1) {o k : Nat} (a b c e : Int32) (ho : o ∈ L) (hn : ¬ o = 28) : zfm K L I (zu4 I1 o k a b c e) := zfm_zu (zfm_zu (zfm_zu (zfm_zu f _ _ ho hn) _ _ ho hn) _ _ ho hn) _ _ ho hn
theorem zu4_at {I : zI} {o k : Nat} {a b c e : Int32} {w : Nat} (hw : w < 4) : zu4 I o k a b c e o (k + w) = if w = 0 then a else if w = 1 then b else if w = 2 then c else e := by
  unfold zu4
  have hw4 : w = 0 ∨ w = 1 ∨ w = 2 ∨ w = 3 := by omega
  rcases hw4 with h | h | h | h <;> subst h
  · rw [zu_n _ _ (by omega), zu_n _ _ (by omega), zu_n _ _ (by omega), Nat.add_zero, zu_s]; rfl
  · rw [zu_n _ _ (by omega), zu_n _ _ (by omega), zu_s]; rfl
  · rw [zu_n _ _ (by omega), zu_s]; rfl
  · rw [zu_s]; rfl
theorem zu4_n {I : zI} {o k : Nat} {a b c e : Int32} {j : Nat} (hj : j < k) : zu4 I o k a b c e o j = I o j := by
  unfold zu4
  rw [zu_n _ _ (by omega), zu_n _ _ (by omega), zu_n _ _ (by omega), zu_n _ _ (by omega)]
/-- a row more -/
theorem zu4_rows {I : zI} {o : Nat} {L : List zR4} {a b c e : Int32} {r : zR4} (h : ∀ k w, k < L.length → w < 4 → I o (4 * k + w) = zi (L.getD k z4 w)) (hr : ∀ w, w < 4 → zi (r w) = if w = 0 then a else if w = 1 then b else if w = 2 then c else e) :
    ∀ k w, k < (L ++ [r]).length → w < 4 → zu4 I o (4 * L.length) a b c e o (4 * k + w) = zi ((L ++ [r]).getD k z4 w) := by
  intro k w hk hw
  rw [List.length_append] at hk
  have hk : k < L.length + 1 := hk
  rw [zgd_app]
  by_cases hks : k < L.length
  · rw [if_pos hks, zu4_n (by omega)]
    exact h k w hks hw
  · have ek : k = L.length := by omega
    rw [if_neg hks, if_pos ek, ek, zu4_at hw, hr w hw]
section MGame4
variable {RO : zRo} {d : Nat} {P : zP} {I : zI} {J : zJ} {D : zD} {bc bs : Nat} {m t ow tg nt np : Nat} {G : zGm} {p : zPg} {z0 : Int64} {l1 l2 l3 l4 : Int32}
theorem zMg_of {H : zGm} (h : zMg G z0 I J) (e9 : H.1 9 = G.1 9) (e4 : H.1 4 = G.1 4) (er : H.2.2.2.1 = G.2.2.2.1) (e3 : I 28 37 = zi (H.1 3)) (e7 : I 28 38 = zi (H.1 7)) : zMg H z0 I J := by
  obtain ⟨c1, c2, c3, c4, c5, c6, c7⟩ := h
  exact ⟨by rw [e9]; exact c1, by rw [e4]; exact c2, by rw [er]; exact c3, c4, by rw [er]; exact c5, e3, e7⟩
theorem n_191 {sort num own tgt : Int} (hm4 : 2 ≤ m ∧ m ≤ 4) (hm : G.1 8 = (m : Int)) (hl : G.2.2.1.length < 10) (hq : 0 ≤ own ∧ own < m) (hb : 1 ≤ bc ∧ 4 ≤ bs) (hM : zMb nt np G I J) (hS : zMg G z0 I J)
    (k : ∀ I', zMb nt np (gAsk (sK G (G.2.2.1 ++ [gRow sort num own tgt]))) I' J → zMg (gAsk (sK G (G.2.2.1 ++ [gRow sort num own tgt]))) z0 I' J → zfm [37, 38, 45] [48] I I' → P (.inl none) I' J D) :
    zz RO (d + 2) 191 [.ref 28, .int (zi sort), .int (zi num), .int (zi own), .int (zi tgt)] I J D bc bs P := by
  have e45 := hM.2.1
  have ecl : (4 * zi (G.2.2.1.length : Int)).toNatClampNeg = 4 * G.2.2.1.length := by
    rw [show (4 : Int32) = zi 4 from rfl, zi_mul, zi_cl (by omega) (by omega)]
    omega
  have hask : gAsk (sK G (G.2.2.1 ++ [gRow sort num own tgt])) = sS (sS (sK G (G.2.2.1 ++ [gRow sort num own tgt])) 7 0) 3 (gB G own.toNat) := by
    unfold gAsk
    rw [show (sK G (G.2.2.1 ++ [gRow sort num own tgt])).2.2.1.getLast? = some (gRow sort num own tgt) from List.getLast?_concat]
    rfl
  refine w_191 ?_
  rw [e45, ecl]
  have h30 : (zu (zu4 I 48 (4 * G.2.2.1.length) (zi sort) (zi num) (zi own) (zi tgt)) 28 45 (zi (G.2.2.1.length : Int) + 1)) 28 30 = zi (m : Int) := by
    rw [zu_n _ _ (by omega), (zfm_4 (zfm_refl (K := []) (L := [48]) I) (zi sort) (zi num) (zi own) (zi tgt) (by decide) (by decide)).2 30 (by decide), hM.1, hm]
  have n9 := n_179 (J := J) h30 hm4 (q := own.toNat) (by omega)
  rw [show ((own.toNat : Nat) : Int) = own by omega] at n9
  rw [n9.1]
  refine ⟨?_, by omega, hb, n9.2, ?_⟩
  · rw [show (4 : Int32) = zi 4 from rfl, zi_mul, show (0 : Int32) = zi 0 from rfl, zi_lt (by omega) (by omega)]
    omega
  have f4 : zfm [] [48] I (zu4 I 48 (4 * G.2.2.1.length) (zi sort) (zi num) (zi own) (zi tgt)) := zfm_4 (zfm_refl _) _ _ _ _ (by decide) (by decide)
  have f9 : zfm [37, 38, 45] [48] I (zu (zu (zu (zu4 I 48 (4 * G.2.2.1.length) (zi sort) (zi num) (zi own) (zi tgt)) 28 45 (zi (G.2.2.1.length : Int) + 1)) 28 37 (zi (((own.toNat + 1) % m : Nat) : Int))) 28 38 0) :=
    zfm_z (zfm_z (zfm_z (zfm_sub f4 (by simp) (by simp)) _ _ (by decide)) _ _ (by decide)) _ _ (by decide)
  have eb : (gB G own.toNat : Int) = (((own.toNat + 1) % m : Nat) : Int) := by rw [gB_eq hm]
  refine k _ ?_ ?_ f9
  · rw [hask]
    refine zMb_s (zMb_s ?_ (by omega)) (by omega)
    obtain ⟨m1, m2, m3, m4, m5, m6, m7, mz, mv, mp, ms⟩ := hM
    refine ⟨?_, ?_, ?_, ?_, ?_, ?_, ?_, mz, ?_, ?_, ?_⟩
    · rw [f9.2 30 (by decide)]; exact m1
    · rw [zu_n _ _ (by omega), zu_n _ _ (by omega), zu_s, zi_succ]
      show _ = zi ((G.2.2.1 ++ [_]).length : Int)
      rw [List.length_append]
      rfl
    · rw [f9.2 34 (by decide)]; exact m3
    · rw [f9.2 35 (by decide)]; exact m4
    · rw [f9.2 36 (by decide)]; exact m5
    · rw [f9.2 40 (by decide)]; exact m6
    · rw [f9.2 41 (by decide)]; exact m7
    · rw [f9.1 46 (by decide) (by decide)]; exact mv
    · rw [f9.1 47 (by decide) (by decide)]; exact mp
    · intro k w hk hw
      rw [zu_row _ _ (by omega), zu_row _ _ (by omega), zu_row _ _ (by omega)]
      refine zu4_rows (r := gRow sort num own tgt) ms (fun w hw => ?_) k w hk hw
      have hw4 : w = 0 ∨ w = 1 ∨ w = 2 ∨ w = 3 := by omega
      rcases hw4 with h | h | h | h <;> subst h <;> rfl
  · rw [hask]
    obtain ⟨c1, c2, c3, c4, c5, c6, c7⟩ := hS
    refine ⟨?_, ?_, ?_, c4, ?_, ?_, ?_⟩
    · rw [f9.2 33 (by decide)]; exact c1
    · rw [f9.2 39 (by decide)]; exact c2
    · rw [f9.2 47 (by decide)]; exact c3
    · rw [f9.1 49 (by decide) (by decide)]; exact c5
    · rw [zu_n _ _ (by omega), zu_s, ← eb]; rfl
    · rw [zu_s]; rfl
theorem n_192 (hk : zPok p) (hm4 : 2 ≤ m ∧ m ≤ 4) (hB : gBs p m G) (hne : ¬ G.2.2.1 = []) (h90 : G.1 9 = 0) (hW : gWn G) (h42 : I 28 42 = 0) (hp : zMp p I) (hM : zMb (gPc p 0) (gPc p 1) G I J) (hS : ∃ G0, zMg G0 z0 I J ∧ G0.1 9 = G.1 9 ∧ G0.1 4 = G.1 4 ∧ G0.2.2.2.1 = G.2.2.2.1)
    (K : ∀ I' J', zMb (gPc p 0) (gPc p 1) (gF2 p (gDo p G)) I' J' → zMg (gF2 p (gDo p G)) z0 I' J' → zfm zKM [46, 47] I I' → zfm [32] [50] J J' → P (.inl none) I' J' D) : zz RO (d + 11) 192 [.ref 28] I J D bc bs P := by
  obtain ⟨r, er⟩ : ∃ r, G.2.2.1.getLast? = some r := by
    cases e : G.2.2.1.getLast? with
    | none => exact absurd (zgd_none e) hne
    | some r => exact ⟨r, rfl⟩
  obtain ⟨hlen, hgd⟩ := zgd_last (d := z4) er
  have hrow := hB.2.2.2.2 r (List.mem_of_getLast? er)
  have hll := hB.2.2.2.1
  have hc := hk.1
  have e45 := hM.2.1
  obtain ⟨n, hn⟩ : ∃ n, G.2.2.1.length = n + 1 := ⟨G.2.2.1.length - 1, by omega⟩
  have at48 : ∀ w, w < 4 → I 48 (4 * n + w) = zi (r w) := by
    intro w hw
    have h9 := hM.2.2.2.2.2.2.2.2.2.2 n w (by omega) hw
    rw [h9, show n = G.2.2.1.length - 1 by omega, hgd]
  have en : zi (G.2.2.1.length : Int) - 1 = zi (n : Int) := by
    rw [show (1 : Int32) = zi 1 from rfl, zi_sub]
    congr 1
    omega
  have c0 : 4 * zi (n : Int) = zi ((4 * n : Nat) : Int) := by
    rw [show (4 : Int32) = zi 4 from rfl, zi_mul]
    congr 1
  have cw : ∀ w : Nat, w < 4 → zi ((4 * n : Nat) : Int) + zi (w : Int) = zi ((4 * n + w : Nat) : Int) := by
    intro w _
    rw [zi_add]
    congr 1
  have cl : ∀ w : Nat, w < 4 → (zi ((4 * n + w : Nat) : Int)).toNatClampNeg = 4 * n + w := by
    intro w hw
    rw [zi_cl (by omega) (by omega)]
    omega
  have cl0 : (zi ((4 * n : Nat) : Int)).toNatClampNeg = 4 * n := cl 0 (by omega)
  have c1 : zi ((4 * n : Nat) : Int) + 1 = zi ((4 * n + 1 : Nat) : Int) := cw 1 (by omega)
  have c2 : zi ((4 * n : Nat) : Int) + 2 = zi ((4 * n + 2 : Nat) : Int) := cw 2 (by omega)
  have c3 : zi ((4 * n : Nat) : Int) + 3 = zi ((4 * n + 3 : Nat) : Int) := cw 3 (by omega)
  have hin : ∀ w : Nat, w < 4 → vp_in (zi ((4 * n + w : Nat) : Int)) 40 := fun w hw => zi_in (by omega) (by omega) (by omega)
  obtain ⟨hr01, hr2, hr2m, hr3, hr3m⟩ := hrow
  have hbody : 0 ≤ 12 * r 0 + r 1 ∧ 12 * r 0 + r 1 < 20 := by omega
  have hbd : zBd p (12 * r 0 + r 1).toNat := by
    unfold zBd
    omega
  have e12 : (12 : Int32) * zi (r 0) + zi (r 1) = zi (12 * r 0 + r 1) := by
    rw [show (12 : Int32) = zi 12 from rfl, zi_mul, zi_add]
  have e12c : (zi (12 * r 0 + r 1)).toNatClampNeg = (12 * r 0 + r 1).toNat := zi_cl (by omega) (by omega)
  have hdo : gDo p G = (if (gLook p (zdns (gPb p) 4 (gPd p ((12 * r 0 + r 1).toNat)) (r 2).toNat (r 3).toNat (sK (sS (sS G 7 0) 3 (-1)) G.2.2.1.dropLast))).1 9 = 0 then gAsk (gLook p (zdns (gPb p) 4 (gPd p ((12 * r 0 + r 1).toNat)) (r 2).toNat (r 3).toNat (sK (sS (sS G 7 0) 3 (-1)) G.2.2.1.dropLast))) else gLook p (zdns (gPb p) 4 (gPd p ((12 * r 0 + r 1).toNat)) (r 2).toNat (r 3).toNat (sK (sS (sS G 7 0) 3 (-1)) G.2.2.1.dropLast))) := by
    unfold gDo
    rw [er]
  have hBd : gBs p m (gLook p (zdns (gPb p) 4 (gPd p ((12 * r 0 + r 1).toNat)) (r 2).toNat (r 3).toNat (sK (sS (sS G 7 0) 3 (-1)) G.2.2.1.dropLast))) :=
    gBs_look (gBs_dns ⟨hB.1, hB.2.1, hB.2.2.1, by show G.2.2.1.dropLast.length ≤ 10; rw [List.length_dropLast]; omega, fun x hx => hB.2.2.2.2 x (List.dropLast_subset _ hx)⟩)
  have hWd : gWn (gLook p (zdns (gPb p) 4 (gPd p ((12 * r 0 + r 1).toNat)) (r 2).toNat (r 3).toNat (sK (sS (sS G 7 0) 3 (-1)) G.2.2.1.dropLast))) := gWn_look (gWn_dns (G := sK (sS (sS G 7 0) 3 (-1)) G.2.2.1.dropLast) hW)
  refine w_192 ?_
  rw [e45, en, c0, c1, c2, c3, cl0, cl 1 (by omega), cl 2 (by omega), cl 3 (by omega), show I 48 (4 * n) = zi (r 0) from at48 0 (by omega), at48 1 (by omega), at48 2 (by omega), at48 3 (by omega), e12, e12c]
  refine ⟨hin 2 (by omega), hin 3 (by omega), hin 0 (by omega), hin 1 (by omega), zi_in (by omega) (by omega) (by omega), ?_⟩
  obtain ⟨a, q1, q2⟩ := hp.2.2.2.2.2.1 _ hbd
  rw [q1]
  have f1 : zfm [37, 38, 45] [] I (zu (zu (zu I 28 45 (zi (n : Int))) 28 38 0) 28 37 (-1)) := zfm_z (zfm_z (zfm_z (zfm_refl _) _ _ (by decide)) _ _ (by decide)) _ _ (by decide)
  have hp1 := zMp_keep hp (zfm_sub f1 (by simp) (by simp))
  have hM1 : zMb (gPc p 0) (gPc p 1) (sK (sS (sS G 7 0) 3 (-1)) G.2.2.1.dropLast) (zu (zu (zu I 28 45 (zi (n : Int))) 28 38 0) 28 37 (-1)) J := by
    obtain ⟨m1, m2, m3, m4, m5, m6, m7, mz, mv, mp, ms⟩ := hM
    refine ⟨?_, ?_, ?_, ?_, ?_, ?_, ?_, mz, ?_, ?_, ?_⟩
    · rw [f1.2 30 (by decide)]; exact m1
    · rw [zu_n _ _ (by omega), zu_n _ _ (by omega), zu_s]
      show _ = zi ((G.2.2.1.dropLast).length : Int)
      rw [List.length_dropLast, hn]
      rfl
    · rw [f1.2 34 (by decide)]; exact m3
    · rw [f1.2 35 (by decide)]; exact m4
    · rw [f1.2 36 (by decide)]; exact m5
    · rw [f1.2 40 (by decide)]; exact m6
    · rw [f1.2 41 (by decide)]; exact m7
    · rw [f1.1 46 (by decide) (by decide)]; exact mv
    · rw [f1.1 47 (by decide) (by decide)]; exact mp
    · intro k w hk hw
      have hk' : k < G.2.2.1.dropLast.length := hk
      rw [List.length_dropLast] at hk'
      rw [f1.1 48 (by decide) (by decide), ms k w (by omega) hw]
      show _ = zi ((G.2.2.1.dropLast).getD k z4 w)
      rw [List.getD_eq_getElem?_getD, List.getD_eq_getElem?_getD, List.getElem?_dropLast, if_pos (by omega)]
  have hS1 : zMg (sK (sS (sS G 7 0) 3 (-1)) G.2.2.1.dropLast) z0 (zu (zu (zu I 28 45 (zi (n : Int))) 28 38 0) 28 37 (-1)) J := by
    obtain ⟨G0, ⟨c1, c2, c3, c4, c5, c6, c7⟩, g9, g4, gr⟩ := hS
    refine ⟨?_, ?_, ?_, c4, ?_, ?_, ?_⟩
    · rw [f1.2 33 (by decide), c1, g9]; rfl
    · rw [f1.2 39 (by decide), c2, g4]; rfl
    · rw [f1.2 47 (by decide), c3, gr]; rfl
    · rw [f1.1 49 (by decide) (by decide)]
      intro k w hk hw
      have h9 := c5 k w (by rw [gr]; exact hk) hw
      rw [gr] at h9
      exact h9
    · rw [zu_s]; rfl
    · rw [zu_n _ _ (by omega), zu_s]; rfl
  rw [show zi (r 2) = zi ((r 2).toNat : Int) by congr 1; omega, show zi (r 3) = zi ((r 3).toNat : Int) by congr 1; omega]
  refine n_186 (m := m) (d := d + 2) (G := sK (sS (sS G 7 0) 3 (-1)) G.2.2.1.dropLast) hk hm4 (by omega) (by omega) (fun s hs => hk.2.2.1 _ hbd s hs) hB.1 (by show G.2.2.1.dropLast.length ≤ 10; rw [List.length_dropLast]; omega) hM1 (zmR_of q2 (f1.1 43 (by decide) (by decide)) (f1.1 44 (by decide) (by decide)) (f1.1 45 (by decide) (by decide))) hp1.2.1 (fun I2 J2 hM2 f2 g2 => ?_)
  have hS2 := zMg_dns (B := gPb p) (n := 4) (l := gPd p ((12 * r 0 + r 1).toNat)) (ow := (r 2).toNat) (tg := (r 3).toNat) (zMg_keep hS1 (zfm_sub f2 (by simp) (by simp)) g2)
  have hp2 := zMp_keep hp1 (zfm_sub f2 (by simp) (by simp))
  obtain ⟨t, ht⟩ : ∃ t : Nat, G.1 1 = (t : Int) := ⟨(G.1 1).toNat, by have := hB.2.1; omega⟩
  have htm : t < m := by have := hB.2.1; omega
  refine n_187 (d := d + 6) (m := m) (t := t) (G := zdns (gPb p) 4 (gPd p ((12 * r 0 + r 1).toNat)) (r 2).toNat (r 3).toNat (sK (sS (sS G 7 0) 3 (-1)) G.2.2.1.dropLast)) hk ((zdns_k (k := 8) (by omega)).trans hB.1) hm4 ((zdns_k (k := 1) (by omega)).trans ht) htm ((zdns_k (k := 9) (by omega)).trans h90) ⟨(zdns_k (k := 3) (by omega)).trans rfl, (zdns_k (k := 7) (by omega)).trans rfl⟩ hp2 hM2 hS2 (fun I3 J3 hM3 hS3 f3 g3 => ?_)
  have hA3 : gA (gLook p (zdns (gPb p) 4 (gPd p ((12 * r 0 + r 1).toNat)) (r 2).toNat (r 3).toNat (sK (sS (sS G 7 0) 3 (-1)) G.2.2.1.dropLast))) := by
    rcases gLook_or (p := p) (G := zdns (gPb p) 4 (gPd p ((12 * r 0 + r 1).toNat)) (r 2).toNat (r 3).toNat (sK (sS (sS G 7 0) 3 (-1)) G.2.2.1.dropLast)) with e | ⟨w, e⟩
    · rw [e]
      exact ⟨(zdns_k (k := 3) (by omega)).trans rfl, (zdns_k (k := 7) (by omega)).trans rfl⟩
    · rw [e]
      exact ⟨rfl, rfl⟩
  have ht3 : (gLook p (zdns (gPb p) 4 (gPd p ((12 * r 0 + r 1).toNat)) (r 2).toNat (r 3).toNat (sK (sS (sS G 7 0) 3 (-1)) G.2.2.1.dropLast))).1 1 = (t : Int) := by
    rcases gLook_or (p := p) (G := zdns (gPb p) 4 (gPd p ((12 * r 0 + r 1).toNat)) (r 2).toNat (r 3).toNat (sK (sS (sS G 7 0) 3 (-1)) G.2.2.1.dropLast)) with e | ⟨w, e⟩
    · rw [e]
      exact (zdns_k (by omega)).trans ht
    · rw [e]
      exact (zdns_k (by omega)).trans ht
  have f13 : zfm zKM [46, 47] I I3 := zfm_trans (zfm_sub f1 (by simp) (by simp)) (zfm_trans (zfm_sub f2 (by simp) (by simp)) (zfm_sub f3 (by simp) (by simp)))
  have g13 : zfm [32] [50] J J3 := zfm_trans g2 g3
  have h423 : I3 28 42 = 0 := by rw [f3.2 42 (by decide), f2.2 42 (by decide), f1.2 42 (by decide)]; exact h42
  rw [hdo] at K
  generalize gLook p (zdns (gPb p) 4 (gPd p ((12 * r 0 + r 1).toNat)) (r 2).toNat (r 3).toNat (sK (sS (sS G 7 0) 3 (-1)) G.2.2.1.dropLast)) = H at *
  have hp3 := zMp_keep hp2 (zfm_sub f3 (by simp) (by simp))
  have hl3 := hBd.2.2.2.1
  have r5 := hBd.2.2.1.2.2.1
  by_cases hH : H.1 9 = 0
  · rw [if_pos hH] at K ⊢
    refine ⟨fun _ => ?_, fun q => absurd rfl q⟩
    rw [hM3.2.1, show (0 : Int32) = zi 0 from rfl, zi_le (by omega) (by omega), hM3.2.2.2.2.2.1, zi_eq (by omega) (by omega)]
    have hM4 : ∀ (x y : Int), zMb (gPc p 0) (gPc p 1) (sS (sS H 7 x) 3 y) I3 J3 := fun x y => zMb_s (zMb_s hM3 (by omega)) (by omega)
    refine ⟨fun hs => ?_, fun hs => ?_⟩
    · have hs0 : H.2.2.1 = [] := List.length_eq_zero_iff.mp (by omega)
      have hask : gAsk H = sS (sS H 7 0) 3 (-1) := by
        unfold gAsk
        rw [hs0]
        rfl
      have hS4 : zMg (sS (sS H 7 0) 3 (-1)) z0 I3 J3 := zMg_of hS3 rfl rfl rfl (by rw [hS3.2.2.2.2.2.1, hA3.1]; rfl) (by rw [hS3.2.2.2.2.2.2, hA3.2]; rfl)
      rw [hask] at K
      refine ⟨fun h5 => ?_, fun h5 => ?_⟩
      · have e : gF2 p (sS (sS H 7 0) 3 (-1)) = sS (sS H 7 0) 3 (-1) := by
          unfold gF2
          rw [if_neg (fun q => by have q' : H.1 5 = 1 := q.2.2; omega)]
        rw [e] at K
        exact K I3 J3 (hM4 _ _) hS4 f13 g13
      · have e : gF2 p (sS (sS H 7 0) 3 (-1)) = gTurns p 101 (sS (sS H 7 0) 3 (-1)) := by
          unfold gF2
          rw [if_pos ⟨hH, by show H.2.2.1.isEmpty = true; rw [hs0]; rfl, by show H.1 5 = 1; omega⟩]
        rw [e] at K
        refine n_190a (t := t) (G := sS (sS H 7 0) 3 (-1)) hk hm4 htm ⟨hBd.1, ht3, rfl, rfl, hs0⟩ hH (fun q => hWd q) hBd.2.2.1 h423 hp3 (hM4 _ _) hS4 (Or.inl (by show H.1 5 = 1; omega)) (fun I4 J4 hM5 hS5 f4 g4 => ?_)
        exact K I4 J4 hM5 hS5 (zfm_trans f13 (zfm_sub f4 (by simp) (by simp))) (zfm_trans g13 g4)
    · obtain ⟨r3, er3⟩ : ∃ r, H.2.2.1.getLast? = some r := by
        cases e : H.2.2.1.getLast? with
        | none => rw [zgd_none e] at hs; exact absurd (by decide) hs
        | some r => exact ⟨r, rfl⟩
      obtain ⟨hlen3, hgd3⟩ := zgd_last (d := z4) er3
      have hrow3 := hBd.2.2.2.2 r3 (List.mem_of_getLast? er3)
      obtain ⟨n3, hn3⟩ : ∃ n, H.2.2.1.length = n + 1 := ⟨H.2.2.1.length - 1, by omega⟩
      have hask : gAsk H = sS (sS H 7 0) 3 (gB H (r3 2).toNat) := by
        unfold gAsk
        rw [er3]
      have e1 : 4 * (zi (H.2.2.1.length : Int) - 1) + 2 = zi ((4 * n3 + 2 : Nat) : Int) := by
        rw [show (1 : Int32) = zi 1 from rfl, show (4 : Int32) = zi 4 from rfl, show (2 : Int32) = zi 2 from rfl, zi_sub, zi_mul, zi_add]
        congr 1
        omega
      have e2 : (zi ((4 * n3 + 2 : Nat) : Int)).toNatClampNeg = 4 * n3 + 2 := by
        rw [zi_cl (by omega) (by omega)]
        omega
      have e3 : I3 48 (4 * n3 + 2) = zi (((r3 2).toNat : Nat) : Int) := by
        rw [hM3.2.2.2.2.2.2.2.2.2.2 n3 2 (by omega) (by omega), show n3 = H.2.2.1.length - 1 by omega, hgd3]
        congr 1
        have := hrow3.2.1
        omega
      have h30 : I3 28 30 = zi (m : Int) := by rw [hM3.1, hBd.1]
      have n9 := n_179 (J := J3) h30 hm4 (q := (r3 2).toNat) (by have := hrow3.2.2.1; omega)
      rw [e1, e2, e3, n9.1]
      refine ⟨zi_in (by omega) (by omega) (by omega), n9.2, ?_⟩
      have e : gF2 p (sS (sS H 7 0) 3 (gB H (r3 2).toNat)) = sS (sS H 7 0) 3 (gB H (r3 2).toNat) := by
        unfold gF2
        rw [if_neg (fun q => by have q' : H.2.2.1.isEmpty = true := q.2.1; rw [List.isEmpty_iff.mp q'] at hn3; exact absurd hn3 (by simp))]
      rw [hask, e] at K
      have f4 : zfm [37] [] I3 (zu I3 28 37 (zi ((((r3 2).toNat + 1) % m : Nat) : Int))) := zfm_z (zfm_refl _) _ _ (by decide)
      refine K _ J3 (zMb_keep (hM4 _ _) (zfm_sub f4 (by simp) (by simp)) (zfm_refl _)) ?_ (zfm_trans f13 (zfm_sub f4 (by simp) (by simp))) g13
      obtain ⟨c1, c2, c3, c4, c5, c6, c7⟩ := hS3
      refine ⟨?_, ?_, ?_, c4, ?_, ?_, ?_⟩
      · rw [f4.2 33 (by decide)]; exact c1
      · rw [f4.2 39 (by decide)]; exact c2
      · rw [f4.2 47 (by decide)]; exact c3
      · rw [f4.1 49 (by decide) (by decide)]; exact c5
      · rw [zu_s, ← gB_eq hBd.1]; rfl
      · rw [f4.2 38 (by decide), c7, hA3.2]; rfl
  · rw [if_neg hH] at K ⊢
    refine ⟨fun q => absurd q (by decide), fun _ => ?_⟩
    have e : gF2 p H = H := by
      unfold gF2
      rw [if_neg (fun q => hH q.1)]
    rw [e] at K
    exact K I3 J3 hM3 hS3 f13 g13
end MGame4
