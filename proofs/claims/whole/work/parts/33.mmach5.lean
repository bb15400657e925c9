/-- statements whose places are of tracks and pools that there are -/
def zvB (nt np : Nat) (b : zB0) : Prop := (b.1 = 16 ∨ b.1 = 17) → zpv nt np b.2.1 ∧ zvO nt np b.2.2
def zvS (nt np : Nat) : (n : Nat) → zSt n → Prop
  | 0, b => zvB nt np b
  | _ + 1, .inl b => zvB nt np b
  | n + 1, .inr (.inl (o, t, none)) => zvO nt np o ∧ ∀ s ∈ t, zvS nt np n s
  | n + 1, .inr (.inl (o, t, some e)) => zvO nt np o ∧ (∀ s ∈ t, zvS nt np n s) ∧ ∀ s ∈ e, zvS nt np n s
  | n + 1, .inr (.inr b) => ∀ s ∈ b, zvS nt np n s
/-! ===== the reference's machine: its code of statements, its walk over them ===== -/
def zcam {α : Type} (f : α → Nat → List zM3) : List α → Nat → List zM3
  | [], _ => []
  | s :: r, a => f s a ++ zcam f r (a + (f s a).length)
theorem zcam_cons {α : Type} (f : α → Nat → List zM3) (s : α) (r : List α) (a : Nat) : zcam f (s :: r) a = f s a ++ zcam f r (a + (f s a).length) := rfl
def zmb (b : zB0) (a : Nat) : List zM3 := if b.1 = 16 ∨ b.1 = 17 then zmw b.2.2 a ++ [((b.1 - 4 : Nat), zi (4 * (b.2.1 % 6) + b.2.1 / 6 : Nat), zi (a + 1 : Nat))] else [((b.1 - 4 : Nat), 0, 0)]
def zmc : (n : Nat) → zSt n → Nat → List zM3
  | 0, b, a => zmb b a
  | _ + 1, .inl b, a => zmb b a
  | n + 1, .inr (.inl (o, t, none)), a =>
    zmw o a ++ [(300, zi (a + o.length + 3 + (zcam (zmc n) t (a + o.length + 3)).length : Nat), zi (a + 1 : Nat))] ++ zcam (zmc n) t (a + o.length + 3)
  | n + 1, .inr (.inl (o, t, some e)), a =>
    zmw o a ++ [(300, zi (a + o.length + 4 + (zcam (zmc n) t (a + o.length + 3)).length : Nat), zi (a + 1 : Nat))] ++ zcam (zmc n) t (a + o.length + 3) ++
      [(301, zi (a + o.length + 4 + (zcam (zmc n) t (a + o.length + 3)).length + (zcam (zmc n) e (a + o.length + 4 + (zcam (zmc n) t (a + o.length + 3)).length)).length : Nat), 0)] ++
      zcam (zmc n) e (a + o.length + 4 + (zcam (zmc n) t (a + o.length + 3)).length)
  | n + 1, .inr (.inr b), a => [(302, zi (a + 2 + (zcam (zmc n) b (a + 1)).length : Nat), 0)] ++ zcam (zmc n) b (a + 1) ++ [(303, 0, 0)]
section MMach5
variable {RO : zRo} {e : Nat} {P : zP} {D : zD} {bc bs : Nat} {B : Nat → Int32} {m ow tg : Nat} {l1 : Int32} {I : zI} {J : zJ} {G : zGm} {nt np : Nat}
/-- the walk comes from a to behind the code, as the game goes by den -/
def zRum (nt np : Nat) (RO : zRo) (D : zD) (B : Nat → Int32) (m ow d : Nat) (code : Nat → List zM3) (den : Nat → zGm → zGm) : Prop :=
  ∀ (P : zP) (bc bs : Nat) (l1 : Int32) (a tg : Nat) (G : zGm) (I : zI) (J : zJ), tg < m → G.1 8 = m → G.2.2.1.length ≤ 10 → zMb nt np G I J → zmR I a (code a) → (∀ k, k < 36 → zbv nt np k → I 38 k = B k) →
    (∀ I' J', zMb nt np (den tg G) I' J' → zfm [40, 41, 45] [46, 47] I I' → zfm [32] [50] J J' →
      zw RO d 186 P 3 [(0, .ref 28), (1, .int l1), (2, .int (zi ow)), (3, .int (zi tg)), (4, .int (zi (a + (code a).length : Nat)))] [] I' J' D bc bs) →
    zw RO d 186 P 3 [(0, .ref 28), (1, .int l1), (2, .int (zi ow)), (3, .int (zi tg)), (4, .int (zi (a : Nat)))] [] I J D bc bs
theorem zmR_keep {I' : zI} {a : Nat} {L : List zM3} (h : zmR I a L) (f : zfm [40, 41, 45] [46, 47] I I') : zmR I' a L := zmR_of h (f.1 43 (by simp) (by omega)) (f.1 44 (by simp) (by omega)) (f.1 45 (by simp) (by omega))
theorem m_list {α : Type} {d : Nat} {f : α → Nat → List zM3} {g : α → Nat → zGm → zGm} (h8 : ∀ x tg G, (g x tg G).1 8 = G.1 8) (h9 : ∀ x tg G, (g x tg G).2.2.1.length ≤ G.2.2.1.length) : ∀ (l : List α), (∀ x ∈ l, zRum nt np RO D B m ow d (f x) (g x)) →
    zRum nt np RO D B m ow d (zcam f l) (fun tg G => l.foldl (fun G x => g x tg G) G)
  | [], _ => fun P bc bs l1 a tg G I J h2 h3 h10 hM hc hB k => k I J hM (zfm_refl _) (zfm_refl _)
  | x :: r, hx => by
    intro P bc bs l1 a tg G I J h2 h3 h10 hM hc hB k
    rw [zcam_cons] at hc k
    refine hx x List.mem_cons_self P bc bs l1 a tg G I J h2 h3 h10 hM (zmR_left hc) hB (fun I1 J1 hM1 f1 g1 => ?_)
    refine m_list h8 h9 r (fun y hy => hx y (List.mem_cons_of_mem _ hy)) P bc bs l1 (a + (f x a).length) tg (g x tg G) I1 J1 h2 ((h8 _ _ _).trans h3) (Nat.le_trans (h9 _ _ _) h10) hM1 (zmR_keep (zmR_right hc) f1) (by rw [f1.1 38 (by simp) (by omega)]; exact hB) (fun I2 J2 hM2 f2 g2 => ?_)
    have k9 := k I2 J2 hM2 (zfm_trans f1 f2) (zfm_trans g1 g2)
    rw [List.length_append, ← Nat.add_assoc] at k9
    exact k9
/-! one step each -/
section one
variable {d a : Nat} {q : zM3} {r : List zM3}
theorem m_done (hc : zmR I a ((303, 0, 0) :: r)) (k : P (.inl none) I J D) :
    zw RO d 186 P 3 [(0, .ref 28), (1, .int l1), (2, .int (zi ow)), (3, .int (zi tg)), (4, .int (zi (a : Nat)))] [] I J D bc bs := by
  obtain ⟨ha, e1, e2, e3⟩ := zmR_at hc
  have hin : vp_in (zi (a : Int)) 1350 := zi_in (by omega) (by omega) (by omega)
  refine wl_186_3 ⟨hin, fun _ => k, fun q => absurd (e1.trans rfl) q⟩
theorem m_can (hM : zMb nt np G I J) (h10 : G.2.2.1.length ≤ 10) (hc : zmR I a ((17, 0, 0) :: r)) (k : ∀ I', zMb nt np (sK G G.2.2.1.dropLast) I' J → zfm [40, 41, 45] [46, 47] I I' → zw RO d 186 P 3 [(0, .ref 28), (1, .int l1), (2, .int (zi ow)), (3, .int (zi tg)), (4, .int (zi (a + 1 : Nat)))] [] I' J D bc bs) :
    zw RO d 186 P 3 [(0, .ref 28), (1, .int l1), (2, .int (zi ow)), (3, .int (zi tg)), (4, .int (zi (a : Nat)))] [] I J D bc bs := by
  obtain ⟨ha, e1, e2, e3⟩ := zmR_at hc
  have e1 : I 43 (zi (a : Int)).toNatClampNeg = zi 17 := e1
  have hin : vp_in (zi (a : Int)) 1350 := zi_in (by omega) (by omega) (by omega)
  refine wl_186_3 ?_
  rw [e1]
  refine ⟨hin, fun q => absurd q (by decide), fun _ => ⟨hin, fun _ => ?_, fun q => absurd rfl q⟩⟩
  rw [zi_succ]
  refine k _ ?_ (zfm_z (zfm_refl _) _ _ (by simp))
  have hv : (if 0 < I 28 45 - 1 then I 28 45 - 1 else 0) = zi G.2.2.1.dropLast.length := by
    rw [hM.2.1, List.length_dropLast, show (1 : Int32) = zi 1 from rfl, show (0 : Int32) = zi 0 from rfl, zi_sub]
    have hq : zi 0 < zi ((G.2.2.1.length : Int) - 1) ↔ (0 : Int) < (G.2.2.1.length : Int) - 1 := zi_lt (by omega) (by omega)
    by_cases h : (0 : Int) < (G.2.2.1.length : Int) - 1
    · rw [if_pos (hq.mpr h)]
      congr 1
      omega
    · rw [if_neg (fun z => h (hq.mp z))]
      congr 1
      omega
  rw [hv]
  obtain ⟨m1, m2, m3, m4, m5, m6, m7, mz, mv, mp, ms⟩ := hM
  refine ⟨?_, ?_, ?_, ?_, ?_, ?_, ?_, mz, ?_, ?_, ?_⟩
  · rw [zu_n _ _ (by omega)]; exact m1
  · rw [zu_s]; rfl
  · rw [zu_n _ _ (by omega)]; exact m3
  · rw [zu_n _ _ (by omega)]; exact m4
  · rw [zu_n _ _ (by omega)]; exact m5
  · rw [zu_n _ _ (by omega)]; exact m6
  · rw [zu_n _ _ (by omega)]; exact m7
  · intro k hk hkv
    rw [zu_n _ _ (by omega)]
    exact mv k hk hkv
  · intro k hk hkv
    rw [zu_n _ _ (by omega)]
    exact mp k hk hkv
  · intro k w hk hw
    have hk2 : k < G.2.2.1.dropLast.length := hk
    rw [List.length_dropLast] at hk2
    rw [zu_n _ _ (by omega), ms k w (by omega) hw]
    show _ = zi (G.2.2.1.dropLast.getD k z4 w)
    rw [List.getD_eq_getElem?_getD, List.getD_eq_getElem?_getD, List.dropLast_eq_take, List.getElem?_take_of_lt (by omega)]
theorem zMb_6 (hM : zMb nt np G I J) : zMb nt np (sS G 6 1) (zu I 28 41 1) J := by
  obtain ⟨m1, m2, m3, m4, m5, m6, m7, mz, mv, mp, ms⟩ := hM
  refine ⟨?_, ?_, ?_, ?_, ?_, ?_, ?_, mz, ?_, ?_, ?_⟩
  · rw [zu_n _ _ (by omega)]; exact m1
  · rw [zu_n _ _ (by omega)]; exact m2
  · rw [zu_n _ _ (by omega)]; exact m3
  · rw [zu_n _ _ (by omega)]; exact m4
  · rw [zu_n _ _ (by omega)]; exact m5
  · rw [zu_n _ _ (by omega)]; exact m6
  · rw [zu_s]; rfl
  · intro k hk hkv
    rw [zu_n _ _ (by omega)]
    exact mv k hk hkv
  · intro k hk hkv
    rw [zu_n _ _ (by omega)]
    exact mp k hk hkv
  · intro k w hk hw
    rw [zu_n _ _ (by omega)]
    exact ms k w hk hw
theorem zMb_5 (hM : zMb nt np G I J) : zMb nt np (sS G 5 1) (zu I 28 40 1) J := by
  obtain ⟨m1, m2, m3, m4, m5, m6, m7, mz, mv, mp, ms⟩ := hM
  refine ⟨?_, ?_, ?_, ?_, ?_, ?_, ?_, mz, ?_, ?_, ?_⟩
  · rw [zu_n _ _ (by omega)]; exact m1
  · rw [zu_n _ _ (by omega)]; exact m2
  · rw [zu_n _ _ (by omega)]; exact m3
  · rw [zu_n _ _ (by omega)]; exact m4
  · rw [zu_n _ _ (by omega)]; exact m5
  · rw [zu_s]; rfl
  · rw [zu_n _ _ (by omega)]; exact m7
  · intro k hk hkv
    rw [zu_n _ _ (by omega)]
    exact mv k hk hkv
  · intro k hk hkv
    rw [zu_n _ _ (by omega)]
    exact mp k hk hkv
  · intro k w hk hw
    rw [zu_n _ _ (by omega)]
    exact ms k w hk hw
theorem m_again (hM : zMb nt np G I J) (hc : zmR I a ((18, 0, 0) :: r)) (k : ∀ I', zMb nt np (sS G 6 1) I' J → zfm [40, 41, 45] [46, 47] I I' → zw RO d 186 P 3 [(0, .ref 28), (1, .int l1), (2, .int (zi ow)), (3, .int (zi tg)), (4, .int (zi (a + 1 : Nat)))] [] I' J D bc bs) :
    zw RO d 186 P 3 [(0, .ref 28), (1, .int l1), (2, .int (zi ow)), (3, .int (zi tg)), (4, .int (zi (a : Nat)))] [] I J D bc bs := by
  obtain ⟨ha, e1, e2, e3⟩ := zmR_at hc
  have e1 : I 43 (zi (a : Int)).toNatClampNeg = zi 18 := e1
  have hin : vp_in (zi (a : Int)) 1350 := zi_in (by omega) (by omega) (by omega)
  refine wl_186_3 ?_
  rw [e1]
  refine ⟨hin, fun q => absurd q (by decide), fun _ => ⟨hin, fun q => absurd q (by decide), fun _ => ⟨fun _ => ?_, fun q => absurd rfl q⟩⟩⟩
  rw [zi_succ]
  exact k _ (zMb_6 hM) (zfm_z (zfm_refl _) _ _ (by simp))
theorem m_skip (hM : zMb nt np G I J) (hc : zmR I a ((19, 0, 0) :: r)) (k : ∀ I', zMb nt np (sS G 5 1) I' J → zfm [40, 41, 45] [46, 47] I I' → zw RO d 186 P 3 [(0, .ref 28), (1, .int l1), (2, .int (zi ow)), (3, .int (zi tg)), (4, .int (zi (a + 1 : Nat)))] [] I' J D bc bs) :
    zw RO d 186 P 3 [(0, .ref 28), (1, .int l1), (2, .int (zi ow)), (3, .int (zi tg)), (4, .int (zi (a : Nat)))] [] I J D bc bs := by
  obtain ⟨ha, e1, e2, e3⟩ := zmR_at hc
  have e1 : I 43 (zi (a : Int)).toNatClampNeg = zi 19 := e1
  have hin : vp_in (zi (a : Int)) 1350 := zi_in (by omega) (by omega) (by omega)
  refine wl_186_3 ?_
  rw [e1]
  refine ⟨hin, fun q => absurd q (by decide), fun _ => ⟨hin, fun q => absurd q (by decide), fun _ => ⟨fun q => absurd q (by decide), fun _ => ⟨fun _ => ?_, fun q => absurd rfl q⟩⟩⟩⟩
  rw [zi_succ]
  exact k _ (zMb_5 hM) (zfm_z (zfm_refl _) _ _ (by simp))
theorem m_goto {t : Nat} (hc : zmR I a ((301, zi (t : Nat), 0) :: r)) (k : zw RO d 186 P 3 [(0, .ref 28), (1, .int l1), (2, .int (zi ow)), (3, .int (zi tg)), (4, .int (zi (t : Nat)))] [] I J D bc bs) :
    zw RO d 186 P 3 [(0, .ref 28), (1, .int l1), (2, .int (zi ow)), (3, .int (zi tg)), (4, .int (zi (a : Nat)))] [] I J D bc bs := by
  obtain ⟨ha, e1, e2, e3⟩ := zmR_at hc
  have e1 : I 43 (zi (a : Int)).toNatClampNeg = zi 301 := e1
  have e2 : I 44 (zi (a : Int)).toNatClampNeg = zi (t : Nat) := e2
  have hin : vp_in (zi (a : Int)) 1350 := zi_in (by omega) (by omega) (by omega)
  refine wl_186_3 ?_
  rw [e1, e2]
  exact ⟨hin, fun q => absurd q (by decide), fun _ => ⟨hin, fun q => absurd q (by decide), fun _ => ⟨fun q => absurd q (by decide), fun _ => ⟨fun q => absurd q (by decide), fun _ => ⟨fun q => absurd q (by decide), fun _ => ⟨fun _ => ⟨hin, k⟩, fun q => absurd rfl q⟩⟩⟩⟩⟩⟩
theorem m_test {o : List zOp} {t w : Nat} {r2 : List zM3} (h1 : ow < 4) (h2 : tg < 4) (hw : zwE o) (hvo : zvO nt np o) (hM : zMb nt np G I J) (hco : zmR I w (o.map zmo ++ (450, 0, 0) :: r2)) (hc : zmR I a ((300, zi (t : Nat), zi (w : Nat)) :: r))
    (k : ∀ J', zMb nt np (zvG G ow tg o) I J' → zfm [32] [50] J J' → (zvl G ow tg o = 0 → zw RO (d + 2) 186 P 3 [(0, .ref 28), (1, .int l1), (2, .int (zi ow)), (3, .int (zi tg)), (4, .int (zi (t : Nat)))] [] I J' D bc bs) ∧ (¬ zvl G ow tg o = 0 → zw RO (d + 2) 186 P 3 [(0, .ref 28), (1, .int l1), (2, .int (zi ow)), (3, .int (zi tg)), (4, .int (zi (a + 1 : Nat)))] [] I J' D bc bs)) :
    zw RO (d + 2) 186 P 3 [(0, .ref 28), (1, .int l1), (2, .int (zi ow)), (3, .int (zi tg)), (4, .int (zi (a : Nat)))] [] I J D bc bs := by
  obtain ⟨ha, e1, e2, e3⟩ := zmR_at hc
  have e1 : I 43 (zi (a : Int)).toNatClampNeg = zi 300 := e1
  have e2 : I 44 (zi (a : Int)).toNatClampNeg = zi (t : Nat) := e2
  have e3 : I 45 (zi (a : Int)).toNatClampNeg = zi (w : Nat) := e3
  have hin : vp_in (zi (a : Int)) 1350 := zi_in (by omega) (by omega) (by omega)
  refine wl_186_3 ?_
  rw [e1, e3]
  refine ⟨hin, fun q => absurd q (by decide), fun _ => ⟨hin, fun q => absurd q (by decide), fun _ => ⟨fun q => absurd q (by decide), fun _ => ⟨fun q => absurd q (by decide), fun _ => ⟨fun _ => ⟨hin, ?_⟩, fun q => absurd rfl q⟩⟩⟩⟩⟩
  refine s_180 h1 h2 hw hvo hM hco (fun J1 hM1 f1 => ⟨fun h => ⟨hin, ?_⟩, fun h => ?_⟩)
  · rw [e2]
    exact (k J1 hM1 f1).1 h
  · rw [zi_succ]
    exact (k J1 hM1 f1).2 h
theorem m_set {k p a0 : Nat} {o : List zOp} (hk : k = 16 ∨ k = 17) (hp : p < 18) (h1 : ow < 4) (h2 : tg < 4) (hw : zwE o) (hvo : zvO nt np o) (hpv : zpv nt np p) (hB : ∀ k, k < 36 → zbv nt np k → I 38 k = B k) (hle : ∀ t, t < 12 → zbv nt np (3 * t) → B (3 * t) ≤ B (3 * t + 1)) (hM : zMb nt np G I J)
    (hc : zmR I a0 (zmw o a0 ++ ((k - 4 : Nat), zi (4 * (p % 6) + p / 6 : Nat), zi (a0 + 1 : Nat)) :: r))
    (kk : ∀ I' J', zMb nt np (zb0 B (k, p, o) ow tg G) I' J' → zfm [40, 41, 45] [46, 47] I I' → zfm [32] [50] J J' → zw RO (d + 3) 186 P 3 [(0, .ref 28), (1, .int l1), (2, .int (zi ow)), (3, .int (zi tg)), (4, .int (zi (a0 + o.length + 3 : Nat)))] [] I' J' D bc bs) :
    zw RO (d + 3) 186 P 3 [(0, .ref 28), (1, .int l1), (2, .int (zi ow)), (3, .int (zi tg)), (4, .int (zi (a0 : Nat)))] [] I J D bc bs := by
  have hcq := zmR_cons hc
  rw [zmw_len] at hcq
  obtain ⟨ha, e1, e2, e3⟩ := zmR_at hcq
  rw [← Nat.add_assoc] at ha e1 e2 e3
  have hin : vp_in (zi ((a0 + o.length + 2 : Nat) : Int)) 1350 := zi_in (by omega) (by omega) (by omega)
  refine m_goto (t := a0 + o.length + 2) hc ?_
  have e1 : I 43 (zi ((a0 + o.length + 2 : Nat) : Int)).toNatClampNeg = zi (k - 4 : Nat) := e1
  refine wl_186_3 ?_
  rw [e1]
  have hn : ∀ c : Int, (c = 303 ∨ c = 17 ∨ c = 18 ∨ c = 19 ∨ c = 300 ∨ c = 301 ∨ c = 302) → ¬ zi ((k - 4 : Nat) : Int) = zi c := by
    intro c hc
    rw [zi_eq (by omega) (by omega)]
    omega
  refine ⟨hin, fun q => absurd q (hn 303 (by omega)), fun _ => ⟨hin, fun q => absurd q (hn 17 (by omega)), fun _ => ⟨fun q => absurd q (hn 18 (by omega)), fun _ => ⟨fun q => absurd q (hn 19 (by omega)), fun _ => ⟨fun q => absurd q (hn 300 (by omega)), fun _ => ⟨fun q => absurd q (hn 301 (by omega)), fun _ => ⟨fun q => absurd q (hn 302 (by omega)), fun _ => ?_⟩⟩⟩⟩⟩⟩⟩
  refine s_185 hk hp h1 h2 hw hvo hpv hB hle hM hc (fun I1 J1 hM1 f1 g1 => ?_)
  show zw RO (d + 3) 186 P 3 [(0, .ref 28), (1, .int l1), (2, .int (zi ow)), (3, .int (zi tg)), (4, .int (zi (a0 + o.length + 2 : Nat) + 1))] [] I1 J1 D bc bs
  rw [zi_succ]
  exact kk I1 J1 hM1 (zfm_sub (zfm_of (K := []) f1 (by simp)) (by simp) (by simp)) g1
end one
end MMach5
