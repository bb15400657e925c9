/-! ===== the faces of the game, on both sides ===== -/
theorem CI_game {S : lTp} {ep : Int32} {p : zPg} {o : Option (Nat × zGm × Int64)} {m : Nat} {G : zGm} {z0 : Int64} {I I' : zI} {J J' : zJ} (h : CI (S, ep, some (p, o)) I J) (hm : 2 ≤ m ∧ m ≤ 4) (tr : gTr p m z0 G) (f : zfr [20, 21, 22, 23, 24, 26, 27] I I') (g : zfr [20, 23, 25] J J') (tb : zTb G I' J') (cs : zCs G z0 I' J') : CI (S, ep, some (p, some (m, G, z0))) I' J' := by
  obtain ⟨h1, h2, h3, h4⟩ := h
  have c : I 12 7 = 1 ∧ zPok p ∧ zCp p I := by
    match o, h4 with
    | none, h4 => exact ⟨h4.1, h4.2.1, h4.2.2.1⟩
    | some (m9, G9, z9), h4 => exact ⟨h4.1, h4.2.1, h4.2.2.2.2.1⟩
  refine ⟨tC_fr h1 (f 1 (by decide)) (f 2 (by decide)), ?_, by rw [f 0 (by decide)]; exact h3, by rw [f 12 (by decide)]; exact c.1, c.2.1, hm, tr, zCp_keep c.2.2 f, tb, cs⟩
  unfold tKc
  rw [g 7 (by decide)]
  exact h2
theorem MI_game {S : lTp} {ep : Int32} {p : zPg} {o : Option (Nat × zGm × Int64)} {m : Nat} {G : zGm} {z0 : Int64} {I I' : zI} {J J' : zJ} (h : MI (S, ep, some (p, o)) I J) (f : zfm zKm zLm I I') (g : zfm [31, 32] [50] J J') (mb : zMb (gPc p 0) (gPc p 1) G I' J') (mg : zMg G z0 I' J') : MI (S, ep, some (p, some (m, G, z0))) I' J' := by
  obtain ⟨h1, h2, h3, h4⟩ := h
  have c : I 28 23 = 1 ∧ zMp p I := by
    match o, h4 with
    | none, h4 => exact ⟨h4.1, h4.2.1⟩
    | some (m9, G9, z9), h4 => exact ⟨h4.1, h4.2.1⟩
  refine ⟨?_, ?_, by rw [f.2 29 (by decide)]; exact h3, by rw [f.2 23 (by decide)]; exact c.1, zMp_keep c.2 f, mb, mg⟩
  · unfold tM
    rw [f.2 3 (by decide), f.1 30 (by decide) (by decide)]
    exact h1
  · unfold tKm
    rw [g.1 29 (by decide) (by decide)]
    exact h2
def bdS (s : lS) (SS : Nat) (a b : Int) : Prop := match s.2.2 with
  | some (p, some (m, _, _)) => 0 ≤ a ∧ a < gPc p (3 + SS) ∧ 0 ≤ b ∧ b < m
  | _ => False
def alS (s : lS) (SS : Nat) (a b : Int) : Bool := match s.2.2 with
  | some (p, some (_, G, _)) => gAllow p G SS a.toNat b.toNat
  | _ => false
/-- the state behind a move -/
def mkS (s : lS) (sort a b : Int) : lS := match s.2.2 with
  | some (p, some (m, G, z0)) => (s.1, s.2.1, some (p, some (m, gMake p G sort a b, z0)))
  | _ => s
def stS (s : lS) (a : Nat) (z : Int64) : lS := match s.2.2 with
  | some (p, _) => (s.1, s.2.1, some (p, some (a, gStart p a z, z)))
  | none => s
def bkS (s : lS) (n : Nat) : lS := match s.2.2 with
  | some (p, some (m, G, z0)) => (s.1, s.2.1, some (p, some (m, gRun p m z0 (G.2.2.2.1.take n), z0)))
  | _ => s
def mvS (s : lS) : Int := match s.2.2 with
  | some (p, some (m, G, _)) => fMoves p m G
  | _ => 0
theorem gMay_of {p : zPg} {m : Nat} {G : zGm} {SS : Nat} {a b : Int} (hSS : SS = 0 ∨ SS = 1) (h : 0 ≤ a ∧ a < gPc p (3 + SS) ∧ 0 ≤ b ∧ b < m) (al : gAllow p G SS a.toNat b.toNat = true) : gMay p m G SS a b ∧ G.1 9 = 0 := by
  have w := gAllow_10 al
  refine ⟨Or.inr ⟨?_, h.2.2.1, h.2.2.2, w.2⟩, w.1⟩
  rcases hSS with z | z
  · rw [z] at h ⊢
    exact Or.inl ⟨rfl, h.1, h.2.1⟩
  · rw [z] at h ⊢
    exact Or.inr ⟨rfl, h.1, h.2.1⟩
section GameF
variable {RO : zRo} {d : Nat} {P : zP} {I : zI} {J : zJ} {D : zD} {bc bs : Nat} {s : lS}
/-! begin -/
theorem g_113 {a : Int} {z : Int64} (ha : -2147483648 ≤ a ∧ a < 2147483648) (h : CI s I J) (hb : 1 ≤ bc ∧ 6 ≤ bs) (K1 : (2 ≤ a ∧ a ≤ 4) → ¬ s.2.2 = none → ∀ I' J', hiE I I' → hiE J J' → CI (stS s a.toNat z) I' J' → P (.inl (some (.int (zi (vG (stS s a.toNat z) 9))))) I' J' D) (K2 : ¬ (2 ≤ a ∧ a ≤ 4) → P (.inr (1, 0, 0)) I J D) (K3 : (2 ≤ a ∧ a ≤ 4) → s.2.2 = none → P (.inr (0, 0, 0)) I J D) : zz RO (d + 8) 113 [.ref 0, .int (zi a), .long z] I J D bc bs P := by
  obtain ⟨S, ep, o⟩ := s
  match o, h, K1, K3 with
  | none, h, _, K3 =>
    have h0 : I 12 7 = 0 := h.2.2.2.1
    exact f_113 (p := (fun _ => none, fun _ => [], [], fun _ => 0, fun _ => 0, fun _ => 0, fun _ => 0)) ha hb (fun z => absurd h0 z) K2 (fun q _ => K3 q rfl) (fun _ q => absurd h0 q)
  | some (p, o), h, K1, _ =>
    have c : I 12 7 = 1 ∧ zPok p ∧ zCp p I := by
      match o, h.2.2.2 with
      | none, h4 => exact ⟨h4.1, h4.2.1, h4.2.2.1⟩
      | some (m9, G9, z9), h4 => exact ⟨h4.1, h4.2.1, h4.2.2.2.2.1⟩
    have n0 : ¬ I 12 7 = 0 := by
      rw [c.1]
      decide
    refine f_113 (p := p) ha hb (fun _ => c.2) K2 (fun _ q => absurd q n0) (fun q _ I' J' tb cs f g => ?_)
    exact K1 q (fun z => by cases z) I' J' (hiE_r f (by decide)) (hiE_r g (by decide)) (CI_game h (by omega) gTr_start (zfr_sub f (by simp)) g tb cs)
theorem g_197 {a : Int} {z : Int64} (ha : -2147483648 ≤ a ∧ a < 2147483648) (h : MI s I J) (hc : ∃ I0 J0, CI s I0 J0) (K1 : (2 ≤ a ∧ a ≤ 4) → ¬ s.2.2 = none → ∀ I' J', loE I I' → loX J J' → I' 28 0 = 0 → MI (stS s a.toNat z) I' J' → P (.inl (some (.int (zi (vG (stS s a.toNat z) 9))))) I' J' D) (K2 : ¬ (2 ≤ a ∧ a ≤ 4) → P (.inl (some (.int 0))) (zu I 28 0 1) J D) (K3 : (2 ≤ a ∧ a ≤ 4) → s.2.2 = none → P (.inl (some (.int 0))) (zu I 28 0 2) J D) : zz RO (d + 12) 197 [.ref 28, .int (zi a), .long z] I J D bc bs P := by
  obtain ⟨S, ep, o⟩ := s
  obtain ⟨I0, J0, hc⟩ := hc
  match o, h, hc, K1, K3 with
  | none, h, _, _, K3 =>
    have h0 : I 28 23 = 0 := h.2.2.2.1
    exact f_197 (p := (fun _ => none, fun _ => [], [], fun _ => 0, fun _ => 0, fun _ => 0, fun _ => 0)) ha (fun z => absurd h0 z) K2 (fun q _ => K3 q rfl) (fun _ q => absurd h0 q)
  | some (p, o), h, hc, K1, _ =>
    have pk : zPok p := by
      match o, hc.2.2.2 with
      | none, h4 => exact h4.2.1
      | some (m9, G9, z9), h4 => exact h4.2.1
    have c : I 28 23 = 1 ∧ zMp p I := by
      match o, h.2.2.2 with
      | none, h4 => exact ⟨h4.1, h4.2.1⟩
      | some (m9, G9, z9), h4 => exact ⟨h4.1, h4.2.1⟩
    have n0 : ¬ I 28 23 = 0 := by
      rw [c.1]
      decide
    refine f_197 (p := p) ha (fun _ => ⟨pk, c.2⟩) K2 (fun _ q => absurd q n0) (fun q _ I' J' mb mg e0 f g => ?_)
    exact K1 q (fun z => by cases z) I' J' (loE_m f (by decide)) ⟨loE_m g (by decide), g.1 52 (by decide) (by decide)⟩ e0 (MI_game h (zfm_sub f (by simp) (by simp)) g mb mg)
/-! act, reply -/
theorem g_114 {a b : Int} (ha : -2147483648 ≤ a ∧ a < 2147483648) (hb9 : -2147483648 ≤ b ∧ b < 2147483648) (h : CI s I J) (hb : 1 ≤ bc ∧ 6 ≤ bs) (K1 : bdS s 0 a b → alS s 0 a b = true → ∀ I' J', hiE I I' → hiE J J' → CI (mkS s 0 a b) I' J' → P (.inl (some (.int (zi ((vK (mkS s 0 a b)).length : Int))))) I' J' D) (K2 : ¬ bdS s 0 a b → P (.inr (2, 0, 0)) I J D) (K3 : bdS s 0 a b → ¬ alS s 0 a b = true → ∀ I' J', hiE I I' → hiE J J' → CI s I' J' → P (.inr (0, 0, 0)) I' J' D) : zz RO (d + 8) 114 [.ref 0, .int (zi a), .int (zi b)] I J D bc bs P := by
  obtain ⟨S, ep, o⟩ := s
  match o, h, K1, K2, K3 with
  | none, h, _, K2, _ => exact f_114n (d := d + 5) h.2.2.2.2.2.2.2.1 hb (K2 (fun z => z))
  | some (p, none), h, _, K2, _ => exact f_114n (d := d + 5) h.2.2.2.2.2.2.2.2.1 hb (K2 (fun z => z))
  | some (p, some (m, G, z0)), h, K1, K2, K3 =>
    obtain ⟨c1, pk, hm, tr, c2, tb, cs⟩ := h.2.2.2
    refine f_114 ha hb9 pk hm (gTr_ok pk hm tr) hb c2 tb cs K2 (fun q al I' J' tb' cs' f g => ?_) (fun q al I' J' tb' cs' f g => ?_)
    · exact K3 q al I' J' (hiE_r f (by decide)) (hiE_r g (by decide)) (CI_game h hm tr (zfr_sub f (by simp)) (zfr_sub g (by simp)) tb' cs')
    · have gm := gMay_of (SS := 0) (Or.inl rfl) q al
      exact K1 q al I' J' (hiE_r f (by decide)) (hiE_r g (by decide)) (CI_game h hm (gTr_make tr gm.2 gm.1) f (zfr_sub g (by simp)) tb' cs')
theorem g_115 {a b : Int} (ha : -2147483648 ≤ a ∧ a < 2147483648) (hb9 : -2147483648 ≤ b ∧ b < 2147483648) (h : CI s I J) (hb : 1 ≤ bc ∧ 6 ≤ bs) (K1 : bdS s 1 a b → alS s 1 a b = true → ∀ I' J', hiE I I' → hiE J J' → CI (mkS s 1 a b) I' J' → P (.inl (some (.int (zi ((vK (mkS s 1 a b)).length : Int))))) I' J' D) (K2 : ¬ bdS s 1 a b → P (.inr (2, 0, 0)) I J D) (K3 : bdS s 1 a b → ¬ alS s 1 a b = true → ∀ I' J', hiE I I' → hiE J J' → CI s I' J' → P (.inr (0, 0, 0)) I' J' D) : zz RO (d + 8) 115 [.ref 0, .int (zi a), .int (zi b)] I J D bc bs P := by
  obtain ⟨S, ep, o⟩ := s
  match o, h, K1, K2, K3 with
  | none, h, _, K2, _ => exact f_115n (d := d + 5) h.2.2.2.2.2.2.2.1 hb (K2 (fun z => z))
  | some (p, none), h, _, K2, _ => exact f_115n (d := d + 5) h.2.2.2.2.2.2.2.2.1 hb (K2 (fun z => z))
  | some (p, some (m, G, z0)), h, K1, K2, K3 =>
    obtain ⟨c1, pk, hm, tr, c2, tb, cs⟩ := h.2.2.2
    refine f_115 ha hb9 pk hm (gTr_ok pk hm tr) hb c2 tb cs K2 (fun q al I' J' tb' cs' f g => ?_) (fun q al I' J' tb' cs' f g => ?_)
    · exact K3 q al I' J' (hiE_r f (by decide)) (hiE_r g (by decide)) (CI_game h hm tr (zfr_sub f (by simp)) (zfr_sub g (by simp)) tb' cs')
    · have gm := gMay_of (SS := 1) (Or.inr rfl) q al
      exact K1 q al I' J' (hiE_r f (by decide)) (hiE_r g (by decide)) (CI_game h hm (gTr_make tr gm.2 gm.1) f (zfr_sub g (by simp)) tb' cs')
theorem g_200 {SS : Nat} (hSS : SS = 0 ∨ SS = 1) {a b : Int} (ha : -2147483648 ≤ a ∧ a < 2147483648) (hb9 : -2147483648 ≤ b ∧ b < 2147483648) (h : MI s I J) (hc : ∃ I0 J0, CI s I0 J0) (hb : 2 ≤ bc ∧ 8 ≤ bs) (K1 : bdS s SS a b → alS s SS a b = true → ∀ I' J', loE I I' → loX J J' → I' 28 0 = 0 → MI (mkS s SS a b) I' J' → P (.inl (some (.int (zi ((vK (mkS s SS a b)).length : Int))))) I' J' D) (K2 : ¬ bdS s SS a b → P (.inl (some (.int 0))) (zu I 28 0 1) J D) (K3 : bdS s SS a b → ¬ alS s SS a b = true → ∀ I' J', loE I I' → loX J J' → I' 28 0 = 2 → MI s I' J' → P (.inl (some (.int 0))) I' J' D) : zz RO (d + 13) 200 [.ref 28, .int (zi (SS : Nat)), .int (zi a), .int (zi b)] I J D bc bs P := by
  obtain ⟨S, ep, o⟩ := s
  obtain ⟨I0, J0, hc⟩ := hc
  match o, h, hc, K1, K2, K3 with
  | none, h, _, _, K2, _ => exact f_200n (d := d + 10) hSS hb9 h.2.2.2.2.2.1 (K2 (fun z => z))
  | some (p, none), h, _, _, K2, _ => exact f_200n (d := d + 10) hSS hb9 h.2.2.2.2.2.1 (K2 (fun z => z))
  | some (p, some (m, G, z0)), h, hc, K1, K2, K3 =>
    obtain ⟨-, pk, hm, tr, -⟩ := hc.2.2.2
    obtain ⟨c1, c2, mb, mg⟩ := h.2.2.2
    refine f_200 hSS ha hb9 pk hm (gTr_ok pk hm tr) hb c2 mb mg K2 (fun q al J' mb' mg' g => ?_) (fun q al I' J' mb' mg' e0 f g => ?_)
    · exact K3 q al _ J' (fr_0 2) ⟨loE_m g (by decide), g.1 52 (by decide) (by decide)⟩ (zu_s _ _ _ _) (MI_0 (MI_game h (zfm_refl I) (zfm_sub g (by simp) (by simp)) mb' mg') 2)
    · exact K1 q al I' J' (loE_m f (by decide)) ⟨loE_m g (by decide), g.1 52 (by decide) (by decide)⟩ e0 (MI_game h (zfm_sub f (by simp) (by simp)) (zfm_sub g (by simp) (by simp)) mb' mg')
/-! pass -/
theorem g_116 (h : CI s I J) (hb : 1 ≤ bc ∧ 6 ≤ bs) (K1 : vG s 9 = 0 → ∀ I' J', hiE I I' → hiE J J' → CI (mkS s 2 (-1) (-1)) I' J' → P (.inl (some (.int (zi (vG (mkS s 2 (-1) (-1)) 9))))) I' J' D) (K2 : ¬ vG s 9 = 0 → P (.inr (0, 0, 0)) I J D) : zz RO (d + 8) 116 [.ref 0] I J D bc bs P := by
  obtain ⟨S, ep, o⟩ := s
  match o, h, K1, K2 with
  | none, h, _, K2 => exact f_116n (d := d + 7) h.2.2.2.2.2.1 hb (K2 (by show ¬ (-1 : Int) = 0; decide))
  | some (p, none), h, _, K2 => exact f_116n (d := d + 7) h.2.2.2.2.2.2.1 hb (K2 (by show ¬ (-1 : Int) = 0; decide))
  | some (p, some (m, G, z0)), h, K1, K2 =>
    obtain ⟨c1, pk, hm, tr, c2, tb, cs⟩ := h.2.2.2
    refine f_116 pk hm (gTr_ok pk hm tr) hb c2 tb cs K2 (fun q I' J' tb' cs' f g => ?_)
    exact K1 q I' J' (hiE_r f (by decide)) (hiE_r g (by decide)) (CI_game h hm (gTr_make tr q (Or.inl rfl)) f (zfr_sub g (by simp)) tb' cs')
theorem g_203 (h : MI s I J) (hc : ∃ I0 J0, CI s I0 J0) (hb : 2 ≤ bc ∧ 8 ≤ bs) (K1 : vG s 9 = 0 → ∀ I' J', loE I I' → loX J J' → I' 28 0 = 0 → MI (mkS s 2 (-1) (-1)) I' J' → P (.inl (some (.int (zi (vG (mkS s 2 (-1) (-1)) 9))))) I' J' D) (K2 : ¬ vG s 9 = 0 → P (.inl (some (.int 0))) (zu I 28 0 1) J D) : zz RO (d + 13) 203 [.ref 28] I J D bc bs P := by
  obtain ⟨S, ep, o⟩ := s
  obtain ⟨I0, J0, hc⟩ := hc
  match o, h, hc, K1, K2 with
  | none, h, _, _, K2 => exact f_203n (d := d + 10) h.2.2.2.2.2.1 (K2 (by show ¬ (-1 : Int) = 0; decide))
  | some (p, none), h, _, _, K2 => exact f_203n (d := d + 10) h.2.2.2.2.2.1 (K2 (by show ¬ (-1 : Int) = 0; decide))
  | some (p, some (m, G, z0)), h, hc, K1, K2 =>
    obtain ⟨-, pk, hm, tr, -⟩ := hc.2.2.2
    obtain ⟨c1, c2, mb, mg⟩ := h.2.2.2
    refine f_203 pk hm (gTr_ok pk hm tr) hb c2 mb mg K2 (fun q I' J' mb' mg' e0 f g => ?_)
    exact K1 q I' J' (loE_m f (by decide)) ⟨loE_m g (by decide), g.1 52 (by decide) (by decide)⟩ e0 (MI_game h (zfm_sub f (by simp) (by simp)) (zfm_sub g (by simp) (by simp)) mb' mg')
/-! can -/
theorem g_117 {SS : Nat} {x : Int32} (hSS : x = 0 ∧ SS = 0 ∨ ¬ x = 0 ∧ SS = 1) {a b : Int} (ha : -2147483648 ≤ a ∧ a < 2147483648) (hb9 : -2147483648 ≤ b ∧ b < 2147483648) (h : CI s I J) (hb : 1 ≤ bc ∧ 6 ≤ bs) (K1 : bdS s SS a b → ∀ I' J', hiE I I' → hiE J J' → CI s I' J' → P (.inl (some (.int (if alS s SS a b = true then 1 else 0)))) I' J' D) (K2 : ¬ bdS s SS a b → P (.inr (2, 0, 0)) I J D) : zz RO (d + 6) 117 [.ref 0, .int x, .int (zi a), .int (zi b)] I J D bc bs P := by
  obtain ⟨S, ep, o⟩ := s
  match o, h, K1, K2 with
  | none, h, _, K2 => exact f_117n (d := d + 3) h.2.2.2.2.2.2.2.1 hb (K2 (fun z => z))
  | some (p, none), h, _, K2 => exact f_117n (d := d + 3) h.2.2.2.2.2.2.2.2.1 hb (K2 (fun z => z))
  | some (p, some (m, G, z0)), h, K1, K2 =>
    obtain ⟨c1, pk, hm, tr, c2, tb, cs⟩ := h.2.2.2
    refine f_117 hSS ha hb9 pk hm (gTr_ok pk hm tr) hb c2 tb cs K2 (fun q I' J' tb' cs' f g => ?_)
    exact K1 q I' J' (hiE_r f (by decide)) (hiE_r g (by decide)) (CI_game h hm tr (zfr_sub f (by simp)) (zfr_sub g (by simp)) tb' cs')
theorem g_204 {SS : Nat} {x : Int32} (hSS : x = 0 ∧ SS = 0 ∨ ¬ x = 0 ∧ SS = 1) {a b : Int} (ha : -2147483648 ≤ a ∧ a < 2147483648) (hb9 : -2147483648 ≤ b ∧ b < 2147483648) (h : MI s I J) (hc : ∃ I0 J0, CI s I0 J0) (K1 : bdS s SS a b → ∀ I' J', loE I I' → loX J J' → I' 28 0 = 0 → MI s I' J' → P (.inl (some (.int (if alS s SS a b = true then 1 else 0)))) I' J' D) (K2 : ¬ bdS s SS a b → P (.inl (some (.int 0))) (zu I 28 0 1) J D) : zz RO (d + 7) 204 [.ref 28, .int x, .int (zi a), .int (zi b)] I J D bc bs P := by
  obtain ⟨S, ep, o⟩ := s
  obtain ⟨I0, J0, hc⟩ := hc
  match o, h, hc, K1, K2 with
  | none, h, _, _, K2 => exact f_204n (d := d + 4) hb9 h.2.2.2.2.2.1 (K2 (fun z => z))
  | some (p, none), h, _, _, K2 => exact f_204n (d := d + 4) hb9 h.2.2.2.2.2.1 (K2 (fun z => z))
  | some (p, some (m, G, z0)), h, hc, K1, K2 =>
    obtain ⟨-, pk, hm, tr, -⟩ := hc.2.2.2
    obtain ⟨c1, c2, mb, mg⟩ := h.2.2.2
    refine f_204 hSS ha hb9 pk hm (gTr_ok pk hm tr) c2 mb mg K2 (fun q J' mb' mg' g => ?_)
    exact K1 q _ J' (fr_0 0) ⟨loE_m g (by decide), g.1 52 (by decide) (by decide)⟩ (zu_s _ _ _ _) (MI_game h (zfm_z (zfm_refl I) _ _ (by simp)) (zfm_sub g (by simp) (by simp)) mb' mg')
/-! moves -/
theorem g_118 (h : CI s I J) (K : ∀ I' J', hiE I I' → hiE J J' → CI s I' J' → P (.inl (some (.int (zi (mvS s))))) I' J' D) : zz RO (d + 6) 118 [.ref 0] I J D bc bs P := by
  obtain ⟨S, ep, o⟩ := s
  match o, h, K with
  | none, h, K => exact f_118n (d := d + 4) h.2.2.2.2.2.1 (K I J (hiE_refl I) (hiE_refl J) h)
  | some (p, none), h, K => exact f_118n (d := d + 4) h.2.2.2.2.2.2.1 (K I J (hiE_refl I) (hiE_refl J) h)
  | some (p, some (m, G, z0)), h, K =>
    obtain ⟨c1, pk, hm, tr, c2, tb, cs⟩ := h.2.2.2
    refine f_118 pk hm (gTr_ok pk hm tr) c2 tb cs (fun I' J' tb' cs' f g => ?_)
    exact K I' J' (hiE_r f (by decide)) (hiE_r g (by decide)) (CI_game h hm tr (zfr_sub f (by simp)) (zfr_sub g (by simp)) tb' cs')
theorem f_205n_27 {S c : Nat} (hS : S = 0 ∨ S = 1) (h30 : I 28 30 = 0) (hc : c ≤ 12) (e37 : I 37 (5 + S) = zi (c : Int)) (K : zw RO (d + 2) 205 P 20 [(0, .ref 28), (1, .int 0), (2, .int (zi ((S + 1 : Nat) : Int)))] [] I J D bc bs) : ∀ {j n : Nat}, n + j = c → zw RO (d + 2) 205 P 27 [(0, .ref 28), (1, .int 0), (2, .int (zi (S : Int))), (3, .int (zi (n : Int)))] [] I J D bc bs
  | j, n, hn => by
    have e5 : (5 : Int32) + zi (S : Int) = zi ((5 + S : Nat) : Int) := by
      rw [show (5 : Int32) = zi 5 from rfl, zi_add]
      congr 1
    refine wl_205_27 ?_
    rw [e5, show (zi ((5 + S : Nat) : Int)).toNatClampNeg = 5 + S by rw [zi_cl (by omega) (by omega)]; omega, e37, zi_succ]
    refine ⟨zi_in (by omega) (by omega) (by omega), fun _ => K, fun z => ?_⟩
    cases j with
    | zero => exact absurd (by rw [zi_le (by omega) (by omega)]; omega) z
    | succ j =>
      refine wl_205_42 ⟨fun _ => ?_, fun y => absurd (by rw [h30]; decide) y⟩
      rw [zi_succ]
      exact f_205n_27 hS h30 hc e37 K (j := j) (n := n + 1) (by omega)
theorem f_205n {c3 c4 : Nat} (h30 : I 28 30 = 0) (h3 : c3 ≤ 12) (h4 : c4 ≤ 12) (e3 : I 37 5 = zi (c3 : Int)) (e4 : I 37 6 = zi (c4 : Int)) (K : P (.inl (some (.int 0))) (zu I 28 0 0) J D) : zz RO (d + 3) 205 [.ref 28] I J D bc bs P := by
  have g30 : (zu I 28 0 0) 28 30 = 0 := by
    rw [zu_n _ _ (by omega)]
    exact h30
  refine w_205 (d := d) ?_
  rw [n_196n g30]
  refine ⟨fun _ => ?_, fun z => absurd rfl z⟩
  refine wl_205_20 ⟨fun z => absurd z (by decide), fun _ => ?_⟩
  refine f_205n_27 (S := 0) (c := c3) (Or.inl rfl) g30 h3 (by rw [zu_row _ _ (by decide)]; exact e3) ?_ (j := c3) (n := 0) (by omega)
  refine wl_205_20 ⟨fun z => absurd z (by decide), fun _ => ?_⟩
  refine f_205n_27 (S := 1) (c := c4) (Or.inr rfl) g30 h4 (by rw [zu_row _ _ (by decide)]; exact e4) ?_ (j := c4) (n := 0) (by omega)
  exact wl_205_20 ⟨fun _ => K, fun z => absurd (by decide) z⟩
theorem g_205 (h : MI s I J) (hc : ∃ I0 J0, CI s I0 J0) (K : ∀ I' J', loE I I' → loX J J' → MI s I' J' → P (.inl (some (.int (zi (mvS s))))) I' J' D) : zz RO (d + 5) 205 [.ref 28] I J D bc bs P := by
  have m0 := MI_0 h 0
  obtain ⟨v1, -⟩ := MI_v h hc
  have k := K _ J (fr_0 0) (loX_refl J) m0
  have e3 : I 37 5 = zi (vC s 3 : Int) := v1.2.2 3 (by omega) (by omega)
  have e4 : I 37 6 = zi (vC s 4 : Int) := v1.2.2 4 (by omega) (by omega)
  obtain ⟨I0, J0, hc⟩ := hc
  have mx := (CI_v hc).2.2.2.2.2.2.2.2.2.1
  obtain ⟨S, ep, o⟩ := s
  match o, h, hc, K, k, e3, e4, mx with
  | none, h, _, _, k, e3, e4, mx => exact f_205n (d := d + 2) h.2.2.2.2.2.1 mx.2.2.1 (Nat.le_trans mx.2.2.2 (by omega)) e3 e4 k
  | some (p, none), h, _, _, k, e3, e4, mx => exact f_205n (d := d + 2) h.2.2.2.2.2.1 mx.2.2.1 (Nat.le_trans mx.2.2.2 (by omega)) e3 e4 k
  | some (p, some (m, G, z0)), h, hc, K, _, _, _, _ =>
    obtain ⟨-, pk, hm, tr, -⟩ := hc.2.2.2
    obtain ⟨c1, c2, mb, mg⟩ := h.2.2.2
    refine f_205 pk hm (gTr_ok pk hm tr) c2 mb mg (fun J' mb' mg' g => ?_)
    exact K _ J' (fr_0 0) ⟨loE_m g (by decide), g.1 52 (by decide) (by decide)⟩ (MI_game h (zfm_z (zfm_refl I) _ _ (by simp)) (zfm_sub g (by simp) (by simp)) mb' mg')
/-! back -/
theorem g_125 {a : Int} (ha : -2147483648 ≤ a ∧ a < 2147483648) (h : CI s I J) (hb : 1 ≤ bc ∧ 6 ≤ bs) (K1 : (0 ≤ a ∧ a ≤ (vR s).length) → vIs s = true → ∀ I' J', hiE I I' → hiE J J' → CI (bkS s a.toNat) I' J' → P (.inl (some (.int (zi (vG (bkS s a.toNat) 9))))) I' J' D) (K2 : ¬ (0 ≤ a ∧ a ≤ (vR s).length) → P (.inr (1, 0, 0)) I J D) (K3 : (0 ≤ a ∧ a ≤ (vR s).length) → vIs s = false → P (.inr (0, 0, 0)) I J D) : zz RO (d + 8) 125 [.ref 0, .int (zi a)] I J D bc bs P := by
  obtain ⟨S, ep, o⟩ := s
  match o, h, K1, K2, K3 with
  | none, h, _, K2, K3 =>
    refine f_125n (d := d + 6) ha hb h.2.2.2.2.2.1 h.2.2.2.2.2.2.1 (fun z => K2 (fun y => z ?_)) (fun z => K3 ?_ rfl)
    · have y : 0 ≤ a ∧ a ≤ ((0 : Nat) : Int) := y
      omega
    · show 0 ≤ a ∧ a ≤ ((0 : Nat) : Int)
      omega
  | some (p, none), h, _, K2, K3 =>
    refine f_125n (d := d + 6) ha hb h.2.2.2.2.2.2.1 h.2.2.2.2.2.2.2.1 (fun z => K2 (fun y => z ?_)) (fun z => K3 ?_ rfl)
    · have y : 0 ≤ a ∧ a ≤ ((0 : Nat) : Int) := y
      omega
    · show 0 ≤ a ∧ a ≤ ((0 : Nat) : Int)
      omega
  | some (p, some (m, G, z0)), h, K1, K2, K3 =>
    obtain ⟨c1, pk, hm, tr, c2, tb, cs⟩ := h.2.2.2
    refine f_125 ha pk hm tr hb c2 tb cs K2 (fun q I' J' tb' cs' f g => ?_)
    have q : 0 ≤ a ∧ a ≤ (G.2.2.2.1.length : Int) := q
    exact K1 q rfl I' J' (hiE_r f (by decide)) (hiE_r g (by decide)) (CI_game h hm (gTr_at tr (k := a.toNat) (by omega)) f g tb' cs')
theorem g_216 {a : Int} (ha : -2147483648 ≤ a ∧ a < 2147483648) (h : MI s I J) (hc : ∃ I0 J0, CI s I0 J0) (hb : 500 ≤ bc ∧ 2000 ≤ bs) (K1 : (0 ≤ a ∧ a ≤ (vR s).length) → vIs s = true → ∀ I' J', loE I I' → loX J J' → I' 28 0 = 0 → MI (bkS s a.toNat) I' J' → P (.inl (some (.int (zi (vG (bkS s a.toNat) 9))))) I' J' D) (K2 : ¬ (0 ≤ a ∧ a ≤ (vR s).length) → P (.inl (some (.int 0))) (zu I 28 0 1) J D) (K3 : (0 ≤ a ∧ a ≤ (vR s).length) → vIs s = false → P (.inl (some (.int 0))) (zu I 28 0 2) J D) : zz RO (d + 13) 216 [.ref 28, .int (zi a)] I J D bc bs P := by
  obtain ⟨S, ep, o⟩ := s
  obtain ⟨I0, J0, hc⟩ := hc
  have za : zi a = 0 ↔ a = 0 := by rw [show (0 : Int32) = zi 0 from rfl, zi_eq ha (by omega)]
  match o, h, hc, K1, K2, K3 with
  | none, h, _, _, K2, K3 =>
    refine f_216n (d := d + 11) h.2.2.2.2.2.1 (fun z => K2 (fun y => z ?_)) (fun z => K3 ?_ rfl)
    · have y : 0 ≤ a ∧ a ≤ ((0 : Nat) : Int) := y
      exact za.mpr (by omega)
    · show 0 ≤ a ∧ a ≤ ((0 : Nat) : Int)
      have := za.mp z
      omega
  | some (p, none), h, _, _, K2, K3 =>
    refine f_216n (d := d + 11) h.2.2.2.2.2.1 (fun z => K2 (fun y => z ?_)) (fun z => K3 ?_ rfl)
    · have y : 0 ≤ a ∧ a ≤ ((0 : Nat) : Int) := y
      exact za.mpr (by omega)
    · show 0 ≤ a ∧ a ≤ ((0 : Nat) : Int)
      have := za.mp z
      omega
  | some (p, some (m, G, z0)), h, hc, K1, K2, _ =>
    obtain ⟨-, pk, hm, tr, -⟩ := hc.2.2.2
    obtain ⟨c1, c2, mb, mg⟩ := h.2.2.2
    have ok := gTr_ok pk hm tr
    have hl := ok.2.2.2.2.1
    have e8 := ok.1.1.1
    have e136 : zv_136 (zu I 28 0 0) J (zi a).toInt64 0 ((I 28 47).toInt64) = if 0 ≤ a ∧ a ≤ (G.2.2.2.1.length : Int) then 1 else 0 := by
      rw [mg.2.2.1]
      exact n_136 (lo := 0) (hi := (G.2.2.2.1.length : Int)) ha (by omega) (by omega)
    refine w_216 (d := d + 11) ?_
    rw [n_195 hm e8 (zMb_0 mb 0), e136]
    refine ⟨fun z => absurd z (by decide), fun _ => ?_⟩
    by_cases c : 0 ≤ a ∧ a ≤ (G.2.2.2.1.length : Int)
    · rw [if_pos c]
      refine ⟨fun z => absurd z (by decide), fun _ => ?_⟩
      obtain ⟨n, rfl⟩ : ∃ n : Nat, a = (n : Int) := ⟨a.toNat, by omega⟩
      have e4 : 4 * zi (n : Int) = zi ((4 * n : Nat) : Int) := by
        rw [show (4 : Int32) = zi 4 from rfl, zi_mul]
        congr 1
      have cl : (zi ((4 * n : Nat) : Int)).toNatClampNeg = 4 * n := by rw [zi_cl (by omega) (by omega)]; omega
      rw [e4, cl]
      refine ⟨⟨fun z => ?_, by omega, by omega⟩, ?_⟩
      · rw [show (0 : Int32) = zi 0 from rfl, zi_lt (by omega) (by omega)] at z
        omega
      have f0 : zfm [0] [51] I (zcp (zu I 28 0 0) 49 51 0 0 (4 * n)) := by
        refine ⟨fun o h1 h2 => ?_, fun k hk => ?_⟩
        · unfold zcp
          have : ¬ o = 51 := fun z => h1 (by rw [z]; simp)
          funext k
          rw [if_neg this, zu_row _ _ h2]
        · unfold zcp
          rw [if_neg (by omega), zu_n _ _ (fun z => hk (by rw [z.2]; simp))]
      have h51 : ∀ i w, i < n → w < 4 → (zcp (zu I 28 0 0) 49 51 0 0 (4 * n)) 51 (4 * i + w) = zi (G.2.2.2.1.getD i z4 w) := fun i w hi hw => by
        unfold zcp
        rw [if_pos rfl, pk_cpy_in (by omega) (by omega), zu_row _ _ (by decide)]
        rw [show 0 + (4 * i + w - 0) = 4 * i + w by omega]
        exact mg.2.2.2.2.1 i w (by omega) hw
      have p0 : zMp p (zcp (zu I 28 0 0) 49 51 0 0 (4 * n)) := zMp_keep c2 (zfm_sub f0 (by simp) (by simp))
      rw [mb.1, e8, mg.2.2.2.1]
      refine n_194 (d := d + 1) (m := m) pk hm p0 (fun I1 J1 mb1 mg1 f1 g1 => ?_)
      have f86 := f_216_86 (RO := RO) (d := d) (P := P) (D := D) (G := G) (p := p) (z0 := z0) (m := m) (I0 := I1) (J0 := J1) (n := n) pk hm tr (by omega) (fun I' J' mb' mg' f2 g2 => ?_) n 0 (I := I1) (J := J1) (bc := bc) (bs := bs) (by omega) (by omega) (by omega) (zMp_keep p0 (zfm_sub f1 (by simp) (by simp))) mb1 mg1 (fun i w hi hw => by rw [f1.1 51 (by decide) (by decide)]; exact h51 i w hi hw) (zfm_refl _) (zfm_refl _)
      · exact f86
      · have fr : zfm zKm zLm I I' := zfm_trans (zfm_sub f0 (by simp) (by simp)) (zfm_trans (zfm_sub f1 (by simp) (by simp)) (zfm_sub f2 (by simp) (by simp)))
        have gr : zfm [31, 32] [50] J J' := zfm_trans g1 g2
        refine K1 c rfl I' J' (loE_m fr (by decide)) ⟨loE_m gr (by decide), gr.1 52 (by decide) (by decide)⟩ ?_ (MI_game h fr gr mb' mg')
        rw [f2.2 0 (by decide), f1.2 0 (by decide)]
        unfold zcp
        rw [if_neg (by omega), zu_s]
    · rw [if_neg c]
      refine ⟨fun _ => ?_, fun z => absurd rfl z⟩
      refine w_135 (d := d + 11) ?_
      show P (.inl (some (.int 0))) (zu (zu I 28 0 0) 28 0 1) J D
      rw [zu_2]
      exact K2 c
end GameF
