/-! ===== the reference's machine: every statement; a body ===== -/
section MMach6
variable {RO : zRo} {D : zD} {B : Nat → Int32} {m ow nt np : Nat}
theorem m_b0 (hm : 2 ≤ m ∧ m ≤ 4) (how : ow < m) (hle : ∀ t, t < 12 → zbv nt np (3 * t) → B (3 * t) ≤ B (3 * t + 1)) {d : Nat} {b : zB0} (hw : zwB b) (hv : zvB nt np b) : zRum nt np RO D B m ow (d + 3) (zmb b) (fun tg G => zb0 B b ow tg G) := by
  intro P bc bs l1 a tg G I J h2 h3 h10 hM hc hB k
  obtain ⟨b1, b2, b3⟩ := b
  rcases hw with ⟨e, hp, he⟩ | ⟨e, hp, he⟩ | ⟨hk, h21, h22⟩
  · have e : b1 = 16 := e
    subst e
    refine m_set (k := 16) (p := b2) (o := b3) (Or.inl rfl) hp (by omega) (by omega) he (hv (Or.inl rfl)).2 (hv (Or.inl rfl)).1 hB hle hM hc (fun I1 J1 hM1 f1 g1 => ?_)
    have k9 := k I1 J1 hM1 f1 g1
    have hl : (zmb (16, b2, b3) a).length = b3.length + 3 := by
      show (zmw b3 a ++ [_]).length = _
      rw [List.length_append, zmw_len]
      rfl
    rw [hl] at k9
    exact k9
  · have e : b1 = 17 := e
    subst e
    refine m_set (k := 17) (p := b2) (o := b3) (Or.inr rfl) hp (by omega) (by omega) he (hv (Or.inr rfl)).2 (hv (Or.inr rfl)).1 hB hle hM hc (fun I1 J1 hM1 f1 g1 => ?_)
    have k9 := k I1 J1 hM1 f1 g1
    have hl : (zmb (17, b2, b3) a).length = b3.length + 3 := by
      show (zmw b3 a ++ [_]).length = _
      rw [List.length_append, zmw_len]
      rfl
    rw [hl] at k9
    exact k9
  · rcases hk with e | e | e
    · have e : b1 = 21 := e
      subst e
      exact m_can hM h10 hc (fun I1 hM1 f1 => k I1 J hM1 f1 (zfm_refl _))
    · have e : b1 = 22 := e
      subst e
      exact m_again hM hc (fun I1 hM1 f1 => k I1 J hM1 f1 (zfm_refl _))
    · have e : b1 = 23 := e
      subst e
      exact m_skip hM hc (fun I1 hM1 f1 => k I1 J hM1 f1 (zfm_refl _))
/-- the rounds of an all: by more than j behind -/
theorem m_rounds (hm : 2 ≤ m ∧ m ≤ 4) (how : ow < m) {d : Nat} {code : Nat → List zM3} {den : Nat → zGm → zGm} (hb : zRum nt np RO D B m ow d code den) (h8 : ∀ tg G, (den tg G).1 8 = G.1 8) (h9 : ∀ tg G, (den tg G).2.2.1.length ≤ G.2.2.1.length)
    {P : zP} {bc bs : Nat} {l1 l5 : Int32} {a tg t : Nat} {r : List zM3} :
    ∀ (j by9 : Nat) {G : zGm} {I : zI} {J : zJ}, by9 + j = m + 1 → 1 ≤ by9 → G.1 8 = m → G.2.2.1.length ≤ 10 → zMb nt np G I J → zmR I a ((302, zi (t : Nat), 0) :: (code (a + 1) ++ (303, 0, 0) :: r)) → (∀ k, k < 36 → zbv nt np k → I 38 k = B k) →
    (∀ I' J', zMb nt np (((List.range j).map (fun i => (ow + by9 + i) % m)).foldl (fun G tg => den tg G) G) I' J' → zfm [40, 41, 45] [46, 47] I I' → zfm [32] [50] J J' →
      zw RO (d + 1) 186 P 3 [(0, .ref 28), (1, .int l1), (2, .int (zi ow)), (3, .int (zi tg)), (4, .int (zi (t : Nat)))] [] I' J' D bc bs) →
    zw RO (d + 1) 186 P 140 [(0, .ref 28), (1, .int l1), (2, .int (zi ow)), (3, .int (zi tg)), (4, .int (zi (a : Nat))), (5, .int l5), (6, .int (zi (by9 : Nat)))] [] I J D bc bs
  | 0, by9, G, I, J, hj, h1, hG, h10, hM, hc, hB, k => by
    obtain ⟨ha, e1, e2, e3⟩ := zmR_at hc
    have e2 : I 44 (zi (a : Int)).toNatClampNeg = zi (t : Nat) := e2
    refine wl_186_140 ?_
    rw [hM.1, hG, e2, zi_lt (by omega) (by omega)]
    exact ⟨fun _ => ⟨zi_in (by omega) (by omega) (by omega), k I J hM (zfm_refl _) (zfm_refl _)⟩, fun q => absurd (by omega) q⟩
  | j + 1, by9, G, I, J, hj, h1, hG, h10, hM, hc, hB, k => by
    obtain ⟨ha, e1, e2, e3⟩ := zmR_at hc
    have hcb : zmR I (a + 1) (code (a + 1) ++ (303, 0, 0) :: r) := zmR_tail hc
    refine wl_186_140 ?_
    rw [hM.1, hG, zi_lt (by omega) (by omega)]
    refine ⟨fun q => absurd q (by omega), fun _ => ⟨?_, ?_⟩⟩
    · rw [show (0 : Int32) = zi 0 from rfl, zi_eq (by omega) (by omega)]
      omega
    · have et : (zi (ow : Int) + zi (by9 : Int)) - (zi (ow : Int) + zi (by9 : Int)) / zi (m : Int) * zi (m : Int) = zi (((ow + by9) % m : Nat) : Int) := by
        rw [zi_add, zi_mod (by omega) (by omega) (by omega) (by omega)]
        congr 1
      rw [et, zi_succ]
      refine w_186 ?_
      refine hb _ 0 0 (zi (a + 1 : Nat)) (a + 1) ((ow + by9) % m) G I J (Nat.mod_lt _ (by omega)) hG h10 hM (zmR_left hcb) hB (fun I1 J1 hM1 f1 g1 => ?_)
      refine m_done (zmR_keep (zmR_right hcb) f1) ?_
      show zw RO (d + 1) 186 P 140 [(0, .ref 28), (1, .int l1), (2, .int (zi ow)), (3, .int (zi tg)), (4, .int (zi (a : Nat))), (5, .int l5), (6, .int (zi (by9 : Nat) + 1))] [] I1 J1 D bc bs
      rw [zi_succ]
      refine m_rounds hm how hb h8 h9 j (by9 + 1) (by omega) (by omega) ((h8 _ _).trans hG) (Nat.le_trans (h9 _ _) h10) hM1 (zmR_keep hc f1) (by rw [f1.1 38 (by simp) (by omega)]; exact hB) (fun I2 J2 hM2 f2 g2 => ?_)
      refine k I2 J2 ?_ (zfm_trans f1 f2) (zfm_trans g1 g2)
      rw [List.range_succ_eq_map, List.map_cons, List.foldl_cons, List.map_map, Nat.add_zero]
      have em : (List.range j).map ((fun i => (ow + by9 + i) % m) ∘ Nat.succ) = (List.range j).map (fun i => (ow + (by9 + 1) + i) % m) := by
        apply List.map_congr_left
        intro i _
        show (ow + by9 + (i + 1)) % m = (ow + (by9 + 1) + i) % m
        congr 1
        omega
      rw [em]
      exact hM2
theorem m_st (hm : 2 ≤ m ∧ m ≤ 4) (how : ow < m) (hle : ∀ t, t < 12 → zbv nt np (3 * t) → B (3 * t) ≤ B (3 * t + 1)) : ∀ (n d : Nat) (st : zSt n), zwS n st → zvS nt np n st → zRum nt np RO D B m ow (d + n + 3) (zmc n st) (fun tg G => zdn B n st ow tg G)
  | 0, d, b, hw, hv => m_b0 hm how hle hw hv
  | n + 1, d, .inl b, hw, hv => m_b0 (d := d + (n + 1)) hm how hle hw hv
  | n + 1, d, .inr (.inl (o, t, none)), hw, hv => by
    obtain ⟨he, ht⟩ := hw
    obtain ⟨vo, vt⟩ := hv
    intro P bc bs l1 a tg G I J h2 h3 h10 hM hc hB k
    obtain ⟨LT, hLT⟩ : ∃ LT, LT = (zcam (zmc n) t (a + o.length + 3)).length := ⟨_, rfl⟩
    have hcode : zmc (n + 1) (.inr (.inl (o, t, none)) : zSt (n + 1)) a = zmw o a ++ [(300, zi (a + o.length + 3 + LT : Nat), zi (a + 1 : Nat))] ++ zcam (zmc n) t (a + o.length + 3) := by
      rw [hLT]
      rfl
    rw [hcode] at hc k
    have hcT := zmR_right hc
    have hc1 := zmR_left hc
    have hcq := zmR_right hc1
    simp only [List.length_append, List.length_cons, List.length_nil, zmw_len, ← hLT] at hcT hcq k
    rw [show a + (o.length + 2 + (0 + 1)) = a + o.length + 3 by omega] at hcT
    rw [show a + (o.length + 2) = a + o.length + 2 by omega] at hcq
    have hrun := m_list (RO := RO) (D := D) (B := B) (m := m) (ow := ow) (d := d + (n + 1) + 3) (f := zmc n) (g := fun s tg G => zdn B n s ow tg G) (fun x tg G => zdn_8 n x) (fun x tg G => zdn_len n x) t (fun x hx => by rw [show d + (n + 1) + 3 = d + 1 + n + 3 by omega]; exact m_st hm how hle n (d + 1) x (ht x hx) (vt x hx))
    have hgo : zmR I a ((301, zi (a + o.length + 2 : Nat), 0) :: (o.map zmo ++ [(450, 0, 0)])) := zmR_left hc1
    refine m_goto hgo ?_
    refine m_test (d := d + (n + 1) + 1) (by omega) (by omega) he vo hM (zmR_tail hgo) hcq (fun J1 hM1 g1 => ⟨fun hv => ?_, fun hv => ?_⟩)
    · have k9 := k I J1 (by show zMb nt np (zdn B (n + 1) (.inr (.inl (o, t, none))) ow tg G) I J1; rw [zdn_if, if_pos hv]; exact hM1) (zfm_refl _) g1
      rw [show a + (o.length + 2 + (0 + 1) + LT) = a + o.length + 3 + LT by omega] at k9
      exact k9
    · refine hrun P bc bs l1 (a + o.length + 3) tg (zvG G ow tg o) I J1 h2 h3 h10 hM1 hcT hB (fun I2 J2 hM2 f2 g2 => ?_)
      have k9 := k I2 J2 (by show zMb nt np (zdn B (n + 1) (.inr (.inl (o, t, none))) ow tg G) I2 J2; rw [zdn_if, if_neg hv]; exact hM2) f2 (zfm_trans g1 g2)
      rw [show a + (o.length + 2 + (0 + 1) + LT) = a + o.length + 3 + LT by omega] at k9
      rw [← hLT]
      exact k9
  | n + 1, d, .inr (.inl (o, t, some e)), hw, hv => by
    obtain ⟨he, ht, hes⟩ := hw
    obtain ⟨vo, vt, ves⟩ := hv
    intro P bc bs l1 a tg G I J h2 h3 h10 hM hc hB k
    obtain ⟨LT, hLT⟩ : ∃ LT, LT = (zcam (zmc n) t (a + o.length + 3)).length := ⟨_, rfl⟩
    obtain ⟨LE, hLE⟩ : ∃ LE, LE = (zcam (zmc n) e (a + o.length + 4 + LT)).length := ⟨_, rfl⟩
    have hcode : zmc (n + 1) (.inr (.inl (o, t, some e)) : zSt (n + 1)) a = zmw o a ++ [(300, zi (a + o.length + 4 + LT : Nat), zi (a + 1 : Nat))] ++ zcam (zmc n) t (a + o.length + 3) ++ [(301, zi (a + o.length + 4 + LT + LE : Nat), 0)] ++ zcam (zmc n) e (a + o.length + 4 + LT) := by
      rw [hLE, hLT]
      rfl
    rw [hcode] at hc k
    have hcE := zmR_right hc
    have hc0 := zmR_left hc
    have hcJ := zmR_right hc0
    have hc2 := zmR_left hc0
    have hcT := zmR_right hc2
    have hc1 := zmR_left hc2
    have hcq := zmR_right hc1
    simp only [List.length_append, List.length_cons, List.length_nil, zmw_len, ← hLT, ← hLE] at hcE hcJ hcT hcq k
    rw [show a + (o.length + 2 + (0 + 1)) = a + o.length + 3 by omega] at hcT
    rw [show a + (o.length + 2) = a + o.length + 2 by omega] at hcq
    rw [show a + (o.length + 2 + (0 + 1) + LT) = a + o.length + 3 + LT by omega] at hcJ
    rw [show a + (o.length + 2 + (0 + 1) + LT + (0 + 1)) = a + o.length + 4 + LT by omega] at hcE
    rw [show a + (o.length + 2 + (0 + 1) + LT + (0 + 1) + LE) = a + o.length + 4 + LT + LE by omega] at k
    have hrunT := m_list (RO := RO) (D := D) (B := B) (m := m) (ow := ow) (d := d + (n + 1) + 3) (f := zmc n) (g := fun s tg G => zdn B n s ow tg G) (fun x tg G => zdn_8 n x) (fun x tg G => zdn_len n x) t (fun x hx => by rw [show d + (n + 1) + 3 = d + 1 + n + 3 by omega]; exact m_st hm how hle n (d + 1) x (ht x hx) (vt x hx))
    have hrunE := m_list (RO := RO) (D := D) (B := B) (m := m) (ow := ow) (d := d + (n + 1) + 3) (f := zmc n) (g := fun s tg G => zdn B n s ow tg G) (fun x tg G => zdn_8 n x) (fun x tg G => zdn_len n x) e (fun x hx => by rw [show d + (n + 1) + 3 = d + 1 + n + 3 by omega]; exact m_st hm how hle n (d + 1) x (hes x hx) (ves x hx))
    have hgo : zmR I a ((301, zi (a + o.length + 2 : Nat), 0) :: (o.map zmo ++ [(450, 0, 0)])) := zmR_left hc1
    refine m_goto hgo ?_
    refine m_test (d := d + (n + 1) + 1) (by omega) (by omega) he vo hM (zmR_tail hgo) hcq (fun J1 hM1 g1 => ⟨fun hv => ?_, fun hv => ?_⟩)
    · refine hrunE P bc bs l1 (a + o.length + 4 + LT) tg (zvG G ow tg o) I J1 h2 h3 h10 hM1 hcE hB (fun I2 J2 hM2 f2 g2 => ?_)
      have k9 := k I2 J2 (by show zMb nt np (zdn B (n + 1) (.inr (.inl (o, t, some e))) ow tg G) I2 J2; rw [zdn_if, if_pos hv]; exact hM2) f2 (zfm_trans g1 g2)
      rw [← hLE]
      exact k9
    · refine hrunT P bc bs l1 (a + o.length + 3) tg (zvG G ow tg o) I J1 h2 h3 h10 hM1 hcT hB (fun I2 J2 hM2 f2 g2 => ?_)
      rw [← hLT]
      refine m_goto (zmR_keep hcJ f2) ?_
      exact k I2 J2 (by show zMb nt np (zdn B (n + 1) (.inr (.inl (o, t, some e))) ow tg G) I2 J2; rw [zdn_if, if_neg hv]; exact hM2) f2 (zfm_trans g1 g2)
  | n + 1, d, .inr (.inr b), hw, hv => by
    intro P bc bs l1 a tg G I J h2 h3 h10 hM hc hB k
    obtain ⟨LT, hLT⟩ : ∃ LT, LT = (zcam (zmc n) b (a + 1)).length := ⟨_, rfl⟩
    have hcode : zmc (n + 1) (.inr (.inr b) : zSt (n + 1)) a = [(302, zi (a + 2 + LT : Nat), 0)] ++ zcam (zmc n) b (a + 1) ++ [(303, 0, 0)] := by
      rw [hLT]
      rfl
    rw [hcode] at hc k
    simp only [List.length_append, List.length_cons, List.length_nil, ← hLT] at k
    rw [show a + (0 + 1 + LT + (0 + 1)) = a + 2 + LT by omega] at k
    rw [List.append_assoc] at hc
    have hrun := m_list (RO := RO) (D := D) (B := B) (m := m) (ow := ow) (d := d + n + 3) (f := zmc n) (g := fun s tg G => zdn B n s ow tg G) (fun x tg G => zdn_8 n x) (fun x tg G => zdn_len n x) b (fun x hx => m_st hm how hle n d x (hw x hx) (hv x hx))
    obtain ⟨ha, e1, e2, e3⟩ := zmR_at hc
    have e1 : I 43 (zi (a : Int)).toNatClampNeg = zi 302 := e1
    have hin : vp_in (zi (a : Int)) 1350 := zi_in (by omega) (by omega) (by omega)
    refine wl_186_3 ?_
    rw [e1]
    refine ⟨hin, fun q => absurd q (by decide), fun _ => ⟨hin, fun q => absurd q (by decide), fun _ => ⟨fun q => absurd q (by decide), fun _ => ⟨fun q => absurd q (by decide), fun _ => ⟨fun q => absurd q (by decide), fun _ => ⟨fun q => absurd q (by decide), fun _ => ⟨fun _ => ?_, fun q => absurd rfl q⟩⟩⟩⟩⟩⟩⟩
    refine m_rounds (d := d + n + 3) (r := []) hm how hrun (fun tg G => zfold_8 (fun G a => zdn_8 n a) b G) (fun tg G => zfold_len (fun G a => zdn_len n a) b G) m 1 (by omega) (Nat.le_refl _) h3 h10 hM hc hB (fun I2 J2 hM2 f2 g2 => ?_)
    refine k I2 J2 ?_ f2 g2
    show zMb nt np (zdn B (n + 1) (.inr (.inr b)) ow tg G) I2 J2
    rw [zdn_all, h3]
    exact hM2
end MMach6
