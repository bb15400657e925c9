/-! ===== the reference's game: begins; whether something can be done; what every game keeps ===== -/
theorem gTurns_5 {p : zPg} : ∀ (k : Nat) {G : zGm}, 1 ≤ k → ¬ ((gTurns p k G).1 9 = 0 ∧ (gTurns p k G).1 5 = 1)
  | 0, _, h => absurd h (by omega)
  | k + 1, G, _ => by
    obtain ⟨nx, R, h1, h0, hx, h2⟩ := gTurns_u p k G
    rw [h2]
    by_cases c1 : 50 < R ∨ k = 0
    · rw [if_pos c1]
      exact fun q => absurd q.1 (show ¬ (2 : Int) = 0 by decide)
    · rw [if_neg c1]
      by_cases c2 : (gRules p (gNew (sS G 0 R) nx)).1 9 = 0 ∧ (gRules p (gNew (sS G 0 R) nx)).1 5 = 1
      · rw [if_pos c2]
        exact gTurns_5 k (by omega)
      · rw [if_neg c2]
        exact c2
abbrev zKb : List Nat := [30, 33, 34, 35, 36, 37, 38, 39, 40, 41, 42, 45, 47]
/-- what every game keeps from move to move -/
def gOK (p : zPg) (m : Nat) (G : zGm) : Prop := gVd p m G ∧ gWn G ∧ (G.1 9 = 0 → G.2.2.1 = [] → G.1 5 = 0) ∧ (G.1 9 = 0 → G.2.2.2.1.length < 250) ∧ G.2.2.2.1.length ≤ 250 ∧ gEz G
theorem gWn_mk {p : zPg} {G : zGm} {sort num tg : Int} (h : gWn G) : gWn (gMk p G sort num tg).1 := by
  unfold gMk
  by_cases c1 : ¬ sort = 2
  · simp only [if_pos c1]
    exact gWn_ask (G := sK (gNote G sort num tg (if G.2.2.1.isEmpty = true then G.1 1 else G.1 3)) _) h
  · simp only [if_neg c1]
    generalize (if G.2.2.1.isEmpty = true then G.1 1 else G.1 3) = who
    split
    · exact gWn_passOn (G := gNote G sort num tg _) h
    · split
      · exact gWn_rules (G := sS (gNote G sort num tg _) 2 _) h
      · exact h
theorem gEz_passOn {p : zPg} {G : zGm} (h9 : G.1 9 = 0) (hne : ¬ G.2.2.1 = []) : gEz (gPassOn p G) := by
  unfold gPassOn
  split
  · exact fun z => absurd h9 z
  · exact gEz_do hne
theorem gEz_mk {p : zPg} {m : Nat} {G : zGm} {sort num tg : Int} (h : gVd p m G) (h9 : G.1 9 = 0) : gEz (gMk p G sort num tg).1 := by
  unfold gMk
  by_cases c1 : ¬ sort = 2
  · simp only [if_pos c1]
    intro z
    refine absurd ?_ z
    unfold gAsk
    split <;> exact h9
  · simp only [if_neg c1]
    by_cases c2 : ¬ G.2.2.1.isEmpty = true
    · rw [if_pos (show ¬ (gNote G sort num tg (if G.2.2.1.isEmpty = true then G.1 1 else G.1 3)).2.2.1.isEmpty = true from c2)]
      exact gEz_passOn (G := gNote G sort num tg _) h9 (fun q => c2 (by rw [show G.2.2.1 = [] from q]; rfl))
    · rw [if_neg (show ¬ ¬ (gNote G sort num tg (if G.2.2.1.isEmpty = true then G.1 1 else G.1 3)).2.2.1.isEmpty = true from c2)]
      generalize (if G.2.2.1.isEmpty = true then G.1 1 else G.1 3) = who
      split
      · obtain ⟨t, ht, hq⟩ := gQ_of h h9 (List.isEmpty_iff.mp (Classical.not_not.mp c2))
        have hq2 : gQ m t (gRules p (sS (gNote G sort num tg who) 2 ((gNote G sort num tg who).1 2 + 1))) := gQ_rules _ ⟨hq.1, hq.2.1, hq.2.2.1, hq.2.2.2.1, hq.2.2.2.2⟩
        exact fun _ => ⟨hq2.2.2.1, hq2.2.2.2.1⟩
      · exact fun z => absurd h9 z
theorem gF3_ok {p : zPg} {m : Nat} {H : zGm} (hV : gVd p m H) (hW : gWn H) (h5 : H.1 9 = 0 → H.2.2.1 = [] → H.1 5 = 0) (hl : H.2.2.2.1.length ≤ 250) (hE : gEz H) : gOK p m (gF3 H) := by
  unfold gF3
  split
  · exact ⟨⟨gBs_end hV.1, fun q => absurd q (show ¬ (2 : Int) = 0 by decide)⟩, fun q => absurd q (show ¬ (2 : Int) = 0 by decide), fun q => absurd q (show ¬ (2 : Int) = 0 by decide), fun q => absurd q (show ¬ (2 : Int) = 0 by decide), hl, fun _ => ⟨rfl, rfl⟩⟩
  · rename_i c
    exact ⟨hV, hW, h5, fun q => by omega, hl, hE⟩
theorem gOK_turns {p : zPg} {m t : Nat} {G : zGm} (hk : zPok p) (hm : 2 ≤ m ∧ m ≤ 4) (hB : gBs p m G) (hW : gWn G) (hQ : gQ m t G) (htm : t < m) (hl : G.2.2.2.1.length ≤ 250) :
    gVd p m (gTurns p 101 G) ∧ gWn (gTurns p 101 G) ∧ ((gTurns p 101 G).1 9 = 0 → (gTurns p 101 G).2.2.1 = [] → (gTurns p 101 G).1 5 = 0) ∧ (gTurns p 101 G).2.2.2.1.length ≤ 250 ∧ gEz (gTurns p 101 G) := by
  have hB2 := gTurns_Bs hk hm 101 hB
  refine ⟨⟨hB2, fun q => ?_⟩, gWn_turns 101 hW, fun q9 _ => ?_, by rw [gTurns_r]; exact hl, fun _ => gA_turns 101 hQ⟩
  · obtain ⟨t', _, hq'⟩ := gTurns_Q hm 101 htm hQ q
    exact gAs_Q hq'
  · have h1 := gTurns_5 (p := p) 101 (G := G) (by omega)
    rcases hB2.2.2.1.2.2.1 with h | h
    · exact h
    · exact absurd ⟨q9, h⟩ h1
theorem gOK_make {p : zPg} {m : Nat} {G : zGm} {sort num tg : Int} (hk : zPok p) (hm : 2 ≤ m ∧ m ≤ 4) (h : gOK p m G) (h9 : G.1 9 = 0) (hv : gMay p m G sort num tg) : gOK p m (gMake p G sort num tg) := by
  obtain ⟨hV, hW, h5, hl, hl2, hE⟩ := h
  have hV1 := gVd_mk hm hV h9 hv
  have hW1 := gWn_mk (p := p) (sort := sort) (num := num) (tg := tg) hW
  have hE1 := gEz_mk (p := p) (sort := sort) (num := num) (tg := tg) hV h9
  have hr1 : (gMk p G sort num tg).1.2.2.2.1.length ≤ 250 := by
    rw [gMk_r, List.length_append]
    show G.2.2.2.1.length + 1 ≤ 250
    have := hl h9
    omega
  rw [gMake_eq]
  generalize gMk p G sort num tg = x at *
  by_cases c : x.1.1 9 = 0 ∧ x.1.2.2.1.isEmpty = true ∧ (x.2 = true ∨ x.1.1 5 = 1)
  · rw [gFin_p c]
    obtain ⟨t, ht, hq⟩ := gQ_of hV1 c.1 (List.isEmpty_iff.mp c.2.1)
    obtain ⟨g1, g2, g3, g4, g5⟩ := gOK_turns hk hm hV1.1 hW1 hq ht hr1
    exact gF3_ok g1 g2 g3 g4 g5
  · rw [gFin_n c]
    refine gF3_ok hV1 hW1 (fun q9 qs => ?_) hr1 hE1
    rcases hV1.1.2.2.1.2.2.1 with h | h
    · exact h
    · exact absurd ⟨q9, by rw [qs]; rfl, Or.inr h⟩ c
theorem gStart_r {p : zPg} {m : Nat} {z : Int64} : (gStart p m z).2.2.2.1 = [] := by
  have h1 : (gRules p (gStart0 p m z)).2.2.2.1 = [] := gRules_r
  unfold gStart
  show (if (gRules p (gStart0 p m z)).1 9 = 0 ∧ (gRules p (gStart0 p m z)).1 5 = 1 then gTurns p 101 (gRules p (gStart0 p m z)) else gRules p (gStart0 p m z)).2.2.2.1 = []
  split
  · rw [gTurns_r]
    exact h1
  · exact h1
theorem gOK_start {p : zPg} {m : Nat} {z : Int64} (hk : zPok p) (hm : 2 ≤ m ∧ m ≤ 4) : gOK p m (gStart p m z) := by
  have hc := hk.1
  have hR0 : gRg p (gStart0 p m z) := ⟨by show (0 : Int) ≤ 1 ∧ (1 : Int) ≤ 50; omega, by show (0 : Int) ≤ 0 ∧ (0 : Int) < gPc p 2; omega, Or.inl rfl, Or.inl rfl, Or.inl rfl⟩
  have hQ0 : gQ m 0 (gStart0 p m z) := ⟨rfl, rfl, rfl, rfl, rfl⟩
  have hB0 : gBs p m (gStart0 p m z) := ⟨rfl, ⟨by show (0 : Int) ≤ 0; omega, by show (0 : Int) < (m : Int); omega⟩, hR0, by show (0 : Nat) ≤ 10; omega, fun r hr => absurd (show r ∈ ([] : List zR4) from hr) (by simp)⟩
  have hB1 := gBs_rules hB0
  have hW1 : gWn (gRules p (gStart0 p m z)) := gWn_rules (fun _ => rfl)
  have hQ1 : gQ m 0 (gRules p (gStart0 p m z)) := gQ_rules _ hQ0
  have hl1 : (gRules p (gStart0 p m z)).2.2.2.1.length ≤ 250 := by rw [gRules_r]; show (0 : Nat) ≤ 250; omega
  have hlen : (gStart p m z).2.2.2.1.length = 0 := by rw [gStart_r]; rfl
  by_cases c : (gRules p (gStart0 p m z)).1 9 = 0 ∧ (gRules p (gStart0 p m z)).1 5 = 1
  · have e : gStart p m z = gTurns p 101 (gRules p (gStart0 p m z)) := by
      unfold gStart
      simp only [if_pos c]
    obtain ⟨g1, g2, g3, g4, g5⟩ := gOK_turns hk hm hB1 hW1 hQ1 (by omega) hl1
    rw [← e] at g1 g2 g3 g4 g5
    exact ⟨g1, g2, g3, fun _ => by omega, g4, g5⟩
  · have e : gStart p m z = gRules p (gStart0 p m z) := by
      unfold gStart
      simp only [if_neg c]
    rw [e] at hlen ⊢
    refine ⟨⟨hB1, fun _ => gAs_Q hQ1⟩, hW1, fun q9 _ => ?_, fun _ => by omega, hl1, fun _ => ⟨hQ1.2.2.1, hQ1.2.2.2.1⟩⟩
    rcases hB1.2.2.1.2.2.1 with h | h
    · exact h
    · exact absurd ⟨q9, h⟩ c
theorem zi_and1 (x : Int32) : x &&& 1 = 0 ∨ x &&& 1 = 1 := by
  have e : (x &&& 1).toBitVec = x.toBitVec &&& 1#32 := rfl
  rw [BitVec.and_one_eq_setWidth_ofBool_getLsbD] at e
  cases h : x.toBitVec.getLsbD 0
  · rw [h] at e
    exact Or.inl (Int32.toBitVec_inj.mp e)
  · rw [h] at e
    exact Or.inr (Int32.toBitVec_inj.mp e)
section MGame6
variable {RO : zRo} {d : Nat} {P : zP} {I : zI} {J : zJ} {D : zD} {bc bs : Nat} {m t ow tg nt np : Nat} {G : zGm} {p : zPg} {z0 : Int64} {l1 l2 l3 l4 : Int32} {I0 : zI} {a1 : Int32} {a2 : Int64}
theorem n_194_133 (K : ∀ I', zfm [] [46, 47] I0 I' → (∀ k, k < 6 → I' 47 k = I0 38 (3 * (6 + k) + 2)) → (∀ k, k < 24 → I' 46 k = I0 38 (3 * (k % 6) + 2)) → (zz RO d 188 [.ref 28] I' J D 0 0 (zNv P fun I1 J1 D1 => ((¬ (I1 28 33) = 0 → P (.inl none) I1 J1 D1) ∧ (¬ (¬ (I1 28 33) = 0) → (((I1 28 40) = 0 → P (.inl none) I1 J1 D1) ∧ (¬ ((I1 28 40) = 0) → (zz RO d 190 [.ref 28] I1 J1 D1 0 0 (zNv P fun I2 J2 D2 => P (.inl none) I2 J2 D2))))))))) :
    ∀ (j a : Nat) {I : zI}, a + j = 6 → zfm [] [46, 47] I0 I → (∀ k, k < a → I 47 k = I0 38 (3 * (6 + k) + 2)) → (∀ k, k < 24 → I 46 k = I0 38 (3 * (k % 6) + 2)) →
    zw RO d 194 P 133 [(0, .ref 28), (1, .int a1), (2, .long a2), (4, .int (zi a))] [] I J D bc bs
  | 0, a, I, ha, f, h1, h2 => by
    have ha6 : a = 6 := by omega
    subst ha6
    exact wl_194_133 ⟨fun _ => K I f h1 h2, fun q => absurd (by decide) q⟩
  | j + 1, a, I, ha, f, h1, h2 => by
    have hq : ¬ (6 : Int32) ≤ zi a := by
      rw [show (6 : Int32) = zi 6 from rfl, zi_le (by omega) (by omega)]
      omega
    refine wl_194_133 ⟨fun q => absurd q hq, fun _ => ?_⟩
    have e1 : (3 : Int32) * (6 + zi a) + 2 = zi ((3 * (6 + a) + 2 : Nat) : Int) := by
      rw [show (6 : Int32) = zi 6 from rfl, show (3 : Int32) = zi 3 from rfl, show (2 : Int32) = zi 2 from rfl, zi_add, zi_mul, zi_add]
      congr 1
    rw [e1, zi_cl (by omega) (by omega), zi_cl (by omega) (by omega), zi_succ]
    refine ⟨zi_in (by omega) (by omega) (by omega), zi_in (by omega) (by omega) (by omega), ?_⟩
    rw [show ((3 * (6 + a) + 2 : Nat) : Int).toNat = 3 * (6 + a) + 2 from rfl, show ((a : Nat) : Int).toNat = a from rfl, f.1 38 (by decide) (by decide)]
    refine n_194_133 K j (a + 1) (by omega) (zfm_zu f _ _ (by decide) (by decide)) (fun k hk => ?_) (fun k hk => ?_)
    · by_cases e : k = a
      · rw [e, zu_s]
      · rw [zu_n _ _ (by omega)]
        exact h1 k (by omega)
    · rw [zu_n _ _ (by omega)]
      exact h2 k hk
theorem n_194_87 (b : Nat) (hb : b < 4) (K : ∀ I', zfm [] [46, 47] I0 I' → (∀ k, k < 24 → k < 6 * (b + 1) → I' 46 k = I0 38 (3 * (k % 6) + 2)) → zw RO d 194 P 78 [(0, .ref 28), (1, .int a1), (2, .long a2), (4, .int (zi ((b + 1 : Nat) : Int)))] [] I' J D bc bs) :
    ∀ (j a : Nat) {I : zI}, a + j = 6 → zfm [] [46, 47] I0 I → (∀ k, k < 24 → k < 6 * b + a → I 46 k = I0 38 (3 * (k % 6) + 2)) →
    zw RO d 194 P 87 [(0, .ref 28), (1, .int a1), (2, .long a2), (4, .int (zi b)), (5, .int (zi a))] [] I J D bc bs
  | 0, a, I, ha, f, h1 => by
    have ha6 : a = 6 := by omega
    subst ha6
    have K' := K I f (fun k hk hk2 => h1 k hk (by omega))
    rw [← zi_succ] at K'
    exact wl_194_87 ⟨fun _ => K', fun q => absurd (by decide) q⟩
  | j + 1, a, I, ha, f, h1 => by
    have hq : ¬ (6 : Int32) ≤ zi a := by
      rw [show (6 : Int32) = zi 6 from rfl, zi_le (by omega) (by omega)]
      omega
    refine wl_194_87 ⟨fun q => absurd q hq, fun _ => ?_⟩
    have e1 : (3 : Int32) * zi a + 2 = zi ((3 * a + 2 : Nat) : Int) := by
      rw [show (3 : Int32) = zi 3 from rfl, show (2 : Int32) = zi 2 from rfl, zi_mul, zi_add]
      congr 1
    have e2 : (6 : Int32) * zi b + zi a = zi ((6 * b + a : Nat) : Int) := by
      rw [show (6 : Int32) = zi 6 from rfl, zi_mul, zi_add]
      congr 1
    rw [e1, e2, zi_cl (by omega) (by omega), zi_cl (by omega) (by omega), zi_succ]
    refine ⟨zi_in (by omega) (by omega) (by omega), zi_in (by omega) (by omega) (by omega), ?_⟩
    rw [show ((3 * a + 2 : Nat) : Int).toNat = 3 * a + 2 from rfl, show ((6 * b + a : Nat) : Int).toNat = 6 * b + a from rfl, f.1 38 (by decide) (by decide)]
    refine n_194_87 b hb K j (a + 1) (by omega) (zfm_zu f _ _ (by decide) (by decide)) (fun k hk hk2 => ?_)
    by_cases e : k = 6 * b + a
    · rw [e, zu_s]
      congr 1
      omega
    · rw [zu_n _ _ (by omega)]
      exact h1 k hk (by omega)
theorem n_194_78 (K : ∀ I', zfm [] [46, 47] I0 I' → (∀ k, k < 24 → I' 46 k = I0 38 (3 * (k % 6) + 2)) → zw RO d 194 P 133 [(0, .ref 28), (1, .int a1), (2, .long a2), (4, .int 0)] [] I' J D bc bs) :
    ∀ (j b : Nat) {I : zI}, b + j = 4 → zfm [] [46, 47] I0 I → (∀ k, k < 24 → k < 6 * b → I 46 k = I0 38 (3 * (k % 6) + 2)) →
    zw RO d 194 P 78 [(0, .ref 28), (1, .int a1), (2, .long a2), (4, .int (zi b))] [] I J D bc bs
  | 0, b, I, hb4, f, h1 => by
    have hb5 : b = 4 := by omega
    subst hb5
    exact wl_194_78 ⟨fun _ => K I f (fun k hk => h1 k hk (by omega)), fun q => absurd (by decide) q⟩
  | j + 1, b, I, hb4, f, h1 => by
    have hq : ¬ (4 : Int32) ≤ zi b := by
      rw [show (4 : Int32) = zi 4 from rfl, zi_le (by omega) (by omega)]
      omega
    refine wl_194_78 ⟨fun q => absurd q hq, fun _ => ?_⟩
    exact n_194_87 (I0 := I0) b (by omega) (fun I' f' h' => n_194_78 K j (b + 1) (by omega) f' h') 6 0 (by omega) f (fun k hk hk2 => h1 k hk (by omega))
theorem n_194 {z : Int64} (hk : zPok p) (hm4 : 2 ≤ m ∧ m ≤ 4) (hp : zMp p I)
    (K : ∀ I' J', zMb (gPc p 0) (gPc p 1) (gStart p m z) I' J' → zMg (gStart p m z) z I' J' → zfm zKb zLM I I' → zfm [31, 32] [50] J J' → P (.inl none) I' J' D) : zz RO (d + 11) 194 [.ref 28, .int (zi m), .long z] I J D bc bs P := by
  have f0 : zfm zKb [] I (zu (zu (zu (zu (zu (zu (zu (zu (zu (zu (zu (zu (zu I 28 30 (zi m)) 28 33 0) 28 34 1) 28 35 0) 28 36 0) 28 37 (-1)) 28 38 0) 28 39 (-1)) 28 40 0) 28 41 0) 28 42 0) 28 45 0) 28 47 0) :=
    zfm_z (zfm_z (zfm_z (zfm_z (zfm_z (zfm_z (zfm_z (zfm_z (zfm_z (zfm_z (zfm_z (zfm_z (zfm_z (zfm_refl _) _ _ (by decide)) _ _ (by decide)) _ _ (by decide)) _ _ (by decide)) _ _ (by decide)) _ _ (by decide)) _ _ (by decide)) _ _ (by decide)) _ _ (by decide)) _ _ (by decide)) _ _ (by decide)) _ _ (by decide)) _ _ (by decide)
  have g0 : zfm [31, 32] [50] J (zu (zu J 28 31 z) 28 32 z) := zfm_z (zfm_z (zfm_refl _) _ _ (by decide)) _ _ (by decide)
  refine w_194 ?_
  have hx : ∀ w x, (zu (zu (zu (zu (zu (zu (zu (zu (zu (zu (zu (zu (zu I 28 30 (zi m)) 28 33 0) 28 34 1) 28 35 0) 28 36 0) 28 37 (-1)) 28 38 0) 28 39 (-1)) 28 40 0) 28 41 0) 28 42 0) 28 45 0) 28 47 0) 28 w = x → ∀ I', zfm [] [46, 47] (zu (zu (zu (zu (zu (zu (zu (zu (zu (zu (zu (zu (zu I 28 30 (zi m)) 28 33 0) 28 34 1) 28 35 0) 28 36 0) 28 37 (-1)) 28 38 0) 28 39 (-1)) 28 40 0) 28 41 0) 28 42 0) 28 45 0) 28 47 0) I' → I' 28 w = x := by
    intro w x h I' f
    rw [f.2 w (by simp)]
    exact h
  have hr : ∀ w (x : Int32), (if w = 47 then 0 else if w = 45 then 0 else if w = 42 then 0 else if w = 41 then 0 else if w = 40 then 0 else if w = 39 then -1 else if w = 38 then 0 else if w = 37 then -1 else if w = 36 then 0 else if w = 35 then 0 else if w = 34 then 1 else if w = 33 then 0 else if w = 30 then zi m else I 28 w) = x → (zu (zu (zu (zu (zu (zu (zu (zu (zu (zu (zu (zu (zu I 28 30 (zi m)) 28 33 0) 28 34 1) 28 35 0) 28 36 0) 28 37 (-1)) 28 38 0) 28 39 (-1)) 28 40 0) 28 41 0) 28 42 0) 28 45 0) 28 47 0) 28 w = x := by
    intro w x h
    rw [← h]
    unfold zu
    simp only [true_and]
  have hp1 := zMp_keep hp (zfm_sub f0 (by simp) (by simp))
  have e38 : ∀ k, (zu (zu (zu (zu (zu (zu (zu (zu (zu (zu (zu (zu (zu I 28 30 (zi m)) 28 33 0) 28 34 1) 28 35 0) 28 36 0) 28 37 (-1)) 28 38 0) 28 39 (-1)) 28 40 0) 28 41 0) 28 42 0) 28 45 0) 28 47 0) 38 k = I 38 k := by
    intro k
    rw [f0.1 38 (by decide) (by decide)]
  generalize (zu (zu (zu (zu (zu (zu (zu (zu (zu (zu (zu (zu (zu I 28 30 (zi m)) 28 33 0) 28 34 1) 28 35 0) 28 36 0) 28 37 (-1)) 28 38 0) 28 39 (-1)) 28 40 0) 28 41 0) 28 42 0) 28 45 0) 28 47 0) = Ia at *
  generalize eJ : (zu (zu J 28 31 z) 28 32 z) = Ja at *
  have j31 : Ja 28 31 = z := by rw [← eJ, zu_n _ _ (by omega), zu_s]
  have j32 : Ja 28 32 = z := by rw [← eJ, zu_s]
  refine n_194_78 (I0 := Ia) (fun I1 f1 h1 => n_194_133 (I0 := Ia) (fun I2 f2 h2 h3 => ?_) 6 0 (by omega) f1 (fun k hk => absurd hk (Nat.not_lt_zero k)) h1) 4 0 (by omega) (zfm_refl _) (fun k _ hk => absurd hk (by omega))
  have f02 : zfm zKb zLM I I2 := zfm_trans (zfm_sub f0 (by simp) (by simp)) (zfm_sub f2 (by simp) (by simp))
  have hp2 := zMp_keep hp1 (zfm_sub f2 (by simp) (by simp))
  have hM2 : zMb (gPc p 0) (gPc p 1) (gStart0 p m z) I2 Ja := by
    refine ⟨hx 30 _ (hr 30 _ rfl) I2 f2, hx 45 _ (hr 45 _ rfl) I2 f2, hx 34 _ (hr 34 _ rfl) I2 f2, hx 35 _ (hr 35 _ rfl) I2 f2, hx 36 _ (hr 36 _ rfl) I2 f2, hx 40 _ (hr 40 _ rfl) I2 f2, hx 41 _ (hr 41 _ rfl) I2 f2, j32, fun k hk hk2 => ?_, fun k hk hk2 => ?_, fun k w hk hw => absurd hk (Nat.not_lt_zero k)⟩
    · rw [h3 k hk, e38, hp.2.1 _ (by omega) ⟨fun _ => by omega, fun q => by omega⟩]
      show _ = if k < 24 then gPb p (3 * (k % 6) + 2) else gPb p (3 * (k - 18) + 2)
      rw [if_pos hk]
    · rw [h2 k hk, e38, hp.2.1 _ (by omega) ⟨fun q => by omega, fun q => by omega⟩]
      show _ = if 24 + k < 24 then gPb p (3 * ((24 + k) % 6) + 2) else gPb p (3 * ((24 + k) - 18) + 2)
      rw [if_neg (by omega)]
      congr 1
      omega
  have hS2 : zMg (gStart0 p m z) z I2 Ja := by
    refine ⟨hx 33 _ (hr 33 _ rfl) I2 f2, hx 39 _ (hr 39 _ rfl) I2 f2, hx 47 _ (hr 47 _ rfl) I2 f2, j31, fun k w hk hw => absurd hk (Nat.not_lt_zero k), hx 37 _ (hr 37 _ rfl) I2 f2, hx 38 _ (hr 38 _ rfl) I2 f2⟩
  have h42 : I2 28 42 = 0 := hx 42 _ (hr 42 _ rfl) I2 f2
  have hc := hk.1
  have hR0 : gRg p (gStart0 p m z) := ⟨by show (0 : Int) ≤ 1 ∧ (1 : Int) ≤ 50; omega, by show (0 : Int) ≤ 0 ∧ (0 : Int) < gPc p 2; omega, Or.inl rfl, Or.inl rfl, Or.inl rfl⟩
  have hQ0 : gQ m 0 (gStart0 p m z) := ⟨rfl, rfl, rfl, rfl, rfl⟩
  have hR3 := gRg_rules hR0
  have hQ3 : gQ m 0 (gRules p (gStart0 p m z)) := gQ_rules _ hQ0
  have hW3 : gWn (gRules p (gStart0 p m z)) := gWn_rules (fun _ => rfl)
  refine n_188 (d := d + 1) (t := 0) hk hm4 (by omega) hQ0 (show (0 : Int) = 0 from rfl) (by show (-100 : Int) ≤ 0 ∧ (0 : Int) ≤ 100; omega) hp2 hM2 hS2 (fun I3 J3 hM3 hS3 f3 g3 => ?_)
  have r9 := hR3.2.2.2.2
  have r5 := hR3.2.2.1
  have f03 : zfm zKb zLM I I3 := zfm_trans f02 (zfm_sub f3 (by simp) (by simp))
  have g03 : zfm [31, 32] [50] J J3 := zfm_trans g0 (zfm_sub g3 (by simp) (by simp))
  have fin : ¬ ((gRules p (gStart0 p m z)).1 9 = 0 ∧ (gRules p (gStart0 p m z)).1 5 = 1) → P (.inl none) I3 J3 D := by
    intro q
    have he : gStart p m z = gRules p (gStart0 p m z) := by
      unfold gStart
      simp only [if_neg q]
    exact K I3 J3 (by rw [he]; exact hM3) (by rw [he]; exact hS3) f03 g03
  show (¬ I3 28 33 = 0 → _) ∧ (¬ ¬ I3 28 33 = 0 → (I3 28 40 = 0 → _) ∧ (¬ I3 28 40 = 0 → _))
  rw [hS3.1, hM3.2.2.2.2.2.1, show (0 : Int32) = zi 0 from rfl, zi_eq (by omega) (by omega), zi_eq (by omega) (by omega)]
  refine ⟨fun q => fin (fun z => q z.1), fun q => ⟨fun q5 => fin (fun z => by omega), fun q5 => ?_⟩⟩
  have q9 : (gRules p (gStart0 p m z)).1 9 = 0 := Classical.not_not.mp q
  have he : gStart p m z = gTurns p 101 (gRules p (gStart0 p m z)) := by
    unfold gStart
    simp only [if_pos (⟨q9, by omega⟩ : (gRules p (gStart0 p m z)).1 9 = 0 ∧ (gRules p (gStart0 p m z)).1 5 = 1)]
  refine n_190a (t := 0) hk hm4 (by omega) hQ3 q9 hW3 hR3 (by rw [f3.2 42 (by decide)]; exact h42) (zMp_keep hp2 (zfm_sub f3 (by simp) (by simp))) hM3 hS3 (Or.inl (by omega)) (fun I4 J4 hM4 hS4 f4 g4 => ?_)
  exact K I4 J4 (by rw [he]; exact hM4) (by rw [he]; exact hS4) (zfm_trans f03 (zfm_sub f4 (by simp) (by simp))) (zfm_trans g03 (zfm_sub g4 (by simp) (by simp)))
theorem n_198 {sort num : Nat} (hk : zPok p) (hm4 : 2 ≤ m ∧ m ≤ 4) (hV : gVd p m G) (hs : sort = 0 ∧ num < gPc p 3 ∨ sort = 1 ∧ num < gPc p 4) (ht : tg < m) (hp : zMp p I) (hM : zMb (gPc p 0) (gPc p 1) G I J) (hS : zMg G z0 I J)
    (k : ∀ J', zMb (gPc p 0) (gPc p 1) G I J' → zMg G z0 I J' → zfm [32] [50] J J' → P (.inl (some (.int (if gAllow p G sort num tg = true then 1 else 0)))) I J' D) : zz RO (d + 4) 198 [.ref 28, .int (zi sort), .int (zi num), .int (zi tg)] I J D bc bs P := by
  have r9 := hV.1.2.2.1.2.2.2.2
  have r2 := hV.1.2.2.1.2.1
  have hll := hV.1.2.2.2.1
  have hc := hk.1
  have htn := hV.1.2.1
  have no : ¬ gAllow p G sort num tg = true → P (.inl (some (.int 0))) I J D := by
    intro q
    have k1 := k J hM hS (zfm_refl _)
    rw [if_neg q] at k1
    exact k1
  have yes : ∀ (c : Bool) (J' : zJ), gAllow p G sort num tg = c → zMb (gPc p 0) (gPc p 1) G I J' → zfm [32] [50] J J' → (((if c = true then (1 : Int32) else 0) = 0 ∨ (if c = true then (1 : Int32) else 0) = 1) ∧ P (.inl (some (.int (if c = true then (1 : Int32) else 0)))) I J' D) := by
    intro c J' hc hM' g
    have k1 := k J' hM' (zMg_keep hS (zfm_refl _) g) g
    rw [hc] at k1
    refine ⟨?_, k1⟩
    cases c with
    | true => exact Or.inr rfl
    | false => exact Or.inl rfl
  have e196 : zv_196 I J = if G.1 9 = 0 then 1 else 0 := by
    have e195 : zv_195 I J = 1 := by
      unfold zv_195
      rw [if_neg (by rw [hM.1, hV.1.1, show (0 : Int32) = zi 0 from rfl, zi_le (by omega) (by omega)]; omega)]
    unfold zv_196
    rw [e195, if_neg (by decide)]
    by_cases c : G.1 9 = 0
    · rw [if_pos c, if_neg (fun q => q (by rw [hS.1, c]; rfl))]
    · rw [if_neg c, if_pos (fun q => c (by rw [hS.1, show (0 : Int32) = zi 0 from rfl, zi_eq (by omega) (by omega)] at q; exact q))]
  refine w_198 ?_
  rw [e196]
  by_cases h9 : G.1 9 = 0
  · rw [if_pos h9]
    refine ⟨fun q => absurd q (by decide), fun _ => ?_⟩
    have hAs := hV.2 h9
    have h37 : I 28 37 = (-1 : Int32) ↔ G.2.2.1 = [] := by
      rw [hS.2.2.2.2.2.1]
      by_cases c : G.2.2.1 = []
      · rw [(hAs.1 c).1]
        exact ⟨fun _ => c, fun _ => rfl⟩
      · have h3 := hAs.2 c
        rw [show (-1 : Int32) = zi (-1) from rfl, zi_eq (by omega) (by omega)]
        exact ⟨fun z => by omega, fun z => absurd z c⟩
    rw [h37, hM.2.1, show (10 : Int32) = zi 10 from rfl, show (0 : Int32) = zi 0 from rfl, zi_eq (by omega) (by omega), zi_eq (by omega) (by omega), zi_lt (by omega) (by omega)]
    refine ⟨fun h10 => ⟨fun hs1 => ⟨fun hne => ?_, fun hne => ?_⟩, fun hs0 => ⟨fun hst => ?_, fun hst => ?_⟩⟩, fun h10 => ?_⟩
    · have hsort : sort = 1 ∧ num < gPc p 4 := by omega
      have ha := hAs.2 hne
      rw [show (12 : Int32) * zi (sort : Int) + zi (num : Int) = zi ((12 + num : Nat) : Int) by rw [hsort.1, show (12 : Int32) = zi 12 from rfl, zi_mul, zi_add]; congr 1, hS.2.2.2.2.2.1, show zi (G.1 3) = zi ((G.1 3).toNat : Int) by congr 1; omega]
      refine n_184 (b := 12 + num) (G := G) hk hp (Or.inr (Or.inl (by omega))) (by omega) (by omega) hM (fun J1 hM1 g1 => ?_)
      refine yes (gWhen p (12 + num) G (G.1 3).toNat tg) J1 ?_ hM1 g1
      unfold gAllow
      have he : G.2.2.1.isEmpty = false := by
        cases e : G.2.2.1 with
        | nil => exact absurd e hne
        | cons _ _ => rfl
      have h10' : G.2.2.1.length < 10 := by omega
      cases gWhen p (12 + num) G (G.1 3).toNat tg <;> simp [h9, hsort.1, he, h10']
    · have hsort : sort = 1 ∧ num < gPc p 4 := by omega
      have hs0 : G.2.2.1 = [] := Classical.not_not.mp hne
      refine no (fun z => ?_)
      unfold gAllow at z
      simp [hsort.1, hs0] at z
    · have hsort : sort = 0 ∧ num < gPc p 3 := by omega
      refine no (fun z => ?_)
      unfold gAllow at z
      have he : G.2.2.1.isEmpty = false := by
        cases e : G.2.2.1 with
        | nil => rw [e] at hst; exact absurd hst (by simp)
        | cons _ _ => rfl
      simp [hsort.1, he] at z
    · have hsort : sort = 0 ∧ num < gPc p 3 := by omega
      have hse : G.2.2.1.isEmpty = true := by
        rw [List.length_eq_zero_iff.mp (show G.2.2.1.length = 0 by omega)]
        rfl
      rw [hM.2.2.2.2.1, zi_cl (by omega) (by omega), hp.2.2.1 _ (by omega)]
      refine ⟨zi_in (by omega) (by omega) (by omega), fun hb => ?_, fun hb => no (fun z => ?_)⟩
      · have cm : ((gPa p (G.1 2).toNat >>> (zi (num : Int) &&& 31)) &&& 1) = 1 := (zi_and1 _).resolve_left hb
        rw [show (12 : Int32) * zi (sort : Int) + zi (num : Int) = zi (num : Int) by rw [hsort.1, show (12 : Int32) = zi 12 from rfl, zi_mul, zi_add]; congr 1; omega, hM.2.2.2.1, show zi (G.1 1) = zi ((G.1 1).toNat : Int) by congr 1; omega]
        refine n_184 (b := num) (G := G) hk hp (Or.inl (by omega)) (by omega) (by omega) hM (fun J1 hM1 g1 => ?_)
        refine yes (gWhen p num G (gT G) tg) J1 ?_ hM1 g1
        unfold gAllow
        cases gWhen p num G (gT G) tg <;> simp [h9, hsort.1, hse, cm]
      · have cm : ((gPa p (G.1 2).toNat >>> (zi (num : Int) &&& 31)) &&& 1) = 0 := Classical.not_not.mp hb
        unfold gAllow at z
        simp [hsort.1, cm] at z
    · refine no (fun z => ?_)
      unfold gAllow at z
      have h10' : ¬ G.2.2.1.length < 10 := by omega
      have he : G.2.2.1.isEmpty = false := by
        cases e : G.2.2.1 with
        | nil => rw [e] at h10'; exact absurd h10' (by simp)
        | cons _ _ => rfl
      simp [h10', he] at z
  · rw [if_neg h9]
    refine ⟨fun _ => no (fun z => ?_), fun q => absurd rfl q⟩
    unfold gAllow at z
    simp [h9] at z
end MGame6
