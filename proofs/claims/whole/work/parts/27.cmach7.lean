/-! ===== the class's machine: every statement; a body; an expression's run from the call ===== -/
section CMach7
variable {RO : zRo} {d : Nat} {P : zP} {D : zD} {bc bs : Nat} {B : Nat → Int32} {m ow : Nat} {l1 l2 l3 : Int32}
theorem zcat_zero {α : Type} {f : α → Nat → List zOp} {l : List α} {a : Nat} {L : List zOp} {I : zI} (h : zcR I a (L ++ zcat f l (a + L.length))) : zcR I (a + L.length) (zcat f l (a + L.length)) := zcR_right h
theorem r_st (hm : 2 ≤ m ∧ m ≤ 4) (how : ow < m) : ∀ (n : Nat) (st : zSt n), zwS n st → zRun RO d P D bc bs B m ow l1 l2 l3 n (zco n st) (zkc n st) (fun tg G => zdn B n st ow tg G)
  | 0, b, hw => r_b0 hm how hw
  | n + 1, .inl b, hw => r_b0 hm how hw
  | n + 1, .inr (.inl (o, t, none)), hw => by
    obtain ⟨he, ht⟩ := hw
    intro a step tg sv G I J h1 h2 h3 h10 hT hM hc hB hs k
    have hs' : step + (o.length + 1 + zsum (zco n) t) < 1000000 := hs
    have hc' : zcR I a (o ++ [(18, zi (a + o.length + 1 + (zcat (zkc n) t (a + o.length + 1)).length : Nat))] ++ zcat (zkc n) t (a + o.length + 1)) := hc
    have hcl := zcR_left hc'
    have hcr := zcR_right hc'
    have hrun := r_list (RO := RO) (d := d) (P := P) (D := D) (bc := bc) (bs := bs) (B := B) (m := m) (ow := ow) (l1 := l1) (l2 := l2) (l3 := l3) (n := n) (f := zkc n) (g := fun s tg G => zdn B n s ow tg G) (c := zco n) (fun x tg G => zdn_8 n x) (fun x tg G => zdn_len n x) t (fun x hx => r_st hm how n x (ht x hx))
    rw [List.length_append, List.length_cons, List.length_nil] at hcr
    refine r_exp (G := G) (by omega) (by omega) he hT hM (zcR_left hcl) (by omega) (fun I1 J1 hT1 hM1 f1 g1 => ?_)
    refine r_c55 (zcR_of (zcR_right hcl) (f1 8 (by simp)) (f1 9 (by simp)) (f1 10 (by simp))) (Or.inl rfl) (by omega) ?_
    refine s_55if hM1 (fun I2 hM2 f2 => ?_)
    have f12 := zfr_trans f1 f2
    have hT2 : zTb (zvG G ow tg o) I2 J1 := zTb_keep hT1 (f2 20 (by simp)) (f2 21 (by simp)) (f2 22 (by simp)) rfl
    have hlen : (zkc (n + 1) (.inr (.inl (o, t, none)) : zSt (n + 1)) a).length = o.length + 1 + (zcat (zkc n) t (a + o.length + 1)).length := by
      show (o ++ [_] ++ zcat (zkc n) t (a + o.length + 1)).length = _
      rw [List.length_append, List.length_append, List.length_cons, List.length_nil]
    rw [hlen] at k
    by_cases hv : zvl G ow tg o = 0
    · rw [if_pos hv]
      have k9 := k I2 J1 (step + o.length + 1) (by show _ ≤ step + (o.length + 1 + zsum (zco n) t); omega) (by show zTb (zdn B (n + 1) (.inr (.inl (o, t, none))) ow tg G) I2 J1; rw [zdn_if, if_pos hv]; exact hT2) hM2 (zfr_sub f12 (by simp)) g1
      rw [show a + (o.length + 1 + (zcat (zkc n) t (a + o.length + 1)).length) = a + o.length + 1 + (zcat (zkc n) t (a + o.length + 1)).length by omega] at k9
      exact k9
    · rw [if_neg hv]
      refine hrun (a + o.length + 1) (step + o.length + 1) tg sv (zvG G ow tg o) I2 J1 (by omega) h2 h3 h10 hT2 hM2 (zcR_of hcr (f12 8 (by simp)) (f12 9 (by simp)) (f12 10 (by simp))) (by rw [f12 14 (by simp)]; exact hB) (by omega) (fun I3 J3 st3 hst3 hT3 hM3 f3 g3 => ?_)
      have k9 := k I3 J3 st3 (by show _ ≤ step + (o.length + 1 + zsum (zco n) t); omega) (by show zTb (zdn B (n + 1) (.inr (.inl (o, t, none))) ow tg G) I3 J3; rw [zdn_if, if_neg hv]; exact hT3) hM3 (zfr_trans (zfr_sub f12 (by simp)) f3) (zfr_trans g1 g3)
      rw [show a + (o.length + 1 + (zcat (zkc n) t (a + o.length + 1)).length) = a + o.length + 1 + (zcat (zkc n) t (a + o.length + 1)).length by omega] at k9
      exact k9
  | n + 1, .inr (.inl (o, t, some e)), hw => by
    obtain ⟨he, ht, hes⟩ := hw
    intro a step tg sv G I J h1 h2 h3 h10 hT hM hc hB hs k
    have hs' : step + (o.length + 2 + zsum (zco n) t + zsum (zco n) e) < 1000000 := hs
    have hlT : ∃ LT, LT = (zcat (zkc n) t (a + o.length + 1)).length := ⟨_, rfl⟩
    obtain ⟨LT, hLT⟩ := hlT
    have hlE : ∃ LE, LE = (zcat (zkc n) e (a + o.length + 2 + LT)).length := ⟨_, rfl⟩
    obtain ⟨LE, hLE⟩ := hlE
    have hcode : zkc (n + 1) (.inr (.inl (o, t, some e)) : zSt (n + 1)) a = o ++ [(18, zi (a + o.length + 2 + LT : Nat))] ++ zcat (zkc n) t (a + o.length + 1) ++ [(20, zi (a + o.length + 2 + LT + LE : Nat))] ++ zcat (zkc n) e (a + o.length + 2 + LT) := by
      rw [hLE, hLT]
      rfl
    rw [hcode] at hc k
    have hcE := zcR_right hc
    have hc1 := zcR_left hc
    have hcJ := zcR_right hc1
    have hc2 := zcR_left hc1
    have hcT := zcR_right hc2
    have hcl := zcR_left hc2
    simp only [List.length_append, List.length_cons, List.length_nil, ← hLT, ← hLE] at hcE hcJ hcT k
    have hrunT := r_list (RO := RO) (d := d) (P := P) (D := D) (bc := bc) (bs := bs) (B := B) (m := m) (ow := ow) (l1 := l1) (l2 := l2) (l3 := l3) (n := n) (f := zkc n) (g := fun s tg G => zdn B n s ow tg G) (c := zco n) (fun x tg G => zdn_8 n x) (fun x tg G => zdn_len n x) t (fun x hx => r_st hm how n x (ht x hx))
    have hrunE := r_list (RO := RO) (d := d) (P := P) (D := D) (bc := bc) (bs := bs) (B := B) (m := m) (ow := ow) (l1 := l1) (l2 := l2) (l3 := l3) (n := n) (f := zkc n) (g := fun s tg G => zdn B n s ow tg G) (c := zco n) (fun x tg G => zdn_8 n x) (fun x tg G => zdn_len n x) e (fun x hx => r_st hm how n x (hes x hx))
    refine r_exp (G := G) (by omega) (by omega) he hT hM (zcR_left hcl) (by omega) (fun I1 J1 hT1 hM1 f1 g1 => ?_)
    refine r_c55 (zcR_of (zcR_right hcl) (f1 8 (by simp)) (f1 9 (by simp)) (f1 10 (by simp))) (Or.inl rfl) (by omega) ?_
    refine s_55if hM1 (fun I2 hM2 f2 => ?_)
    have f12 := zfr_trans f1 f2
    have hT2 : zTb (zvG G ow tg o) I2 J1 := zTb_keep hT1 (f2 20 (by simp)) (f2 21 (by simp)) (f2 22 (by simp)) rfl
    by_cases hv : zvl G ow tg o = 0
    · rw [if_pos hv]
      refine hrunE (a + o.length + 2 + LT) (step + o.length + 1) tg sv (zvG G ow tg o) I2 J1 (by omega) h2 h3 h10 hT2 hM2 (zcR_of (by rw [show a + o.length + 2 + LT = a + (o.length + (0 + 1) + LT + (0 + 1)) by omega]; rw [show a + o.length + 2 + LT = a + (o.length + (0 + 1) + LT + (0 + 1)) by omega] at hcE; exact hcE) (f12 8 (by simp)) (f12 9 (by simp)) (f12 10 (by simp))) (by rw [f12 14 (by simp)]; exact hB) (by omega) (fun I3 J3 st3 hst3 hT3 hM3 f3 g3 => ?_)
      have k9 := k I3 J3 st3 (by show _ ≤ step + (o.length + 2 + zsum (zco n) t + zsum (zco n) e); omega) (by show zTb (zdn B (n + 1) (.inr (.inl (o, t, some e))) ow tg G) I3 J3; rw [zdn_if, if_pos hv]; exact hT3) hM3 (zfr_trans (zfr_sub f12 (by simp)) f3) (zfr_trans g1 g3)
      rw [← hLE]
      rw [show a + (o.length + (0 + 1) + LT + (0 + 1) + LE) = a + o.length + 2 + LT + LE by omega] at k9
      exact k9
    · rw [if_neg hv]
      refine hrunT (a + o.length + 1) (step + o.length + 1) tg sv (zvG G ow tg o) I2 J1 (by omega) h2 h3 h10 hT2 hM2 (zcR_of (by rw [show a + o.length + 1 = a + (o.length + (0 + 1)) by omega]; rw [show a + o.length + 1 = a + (o.length + (0 + 1)) by omega] at hcT; exact hcT) (f12 8 (by simp)) (f12 9 (by simp)) (f12 10 (by simp))) (by rw [f12 14 (by simp)]; exact hB) (by omega) (fun I3 J3 st3 hst3 hT3 hM3 f3 g3 => ?_)
      have f123 := zfr_trans (zfr_sub f12 (M := [20, 21, 24, 26]) (by simp)) f3
      rw [← hLT]
      rw [show a + o.length + 1 + LT = a + (o.length + (0 + 1) + LT) by omega]
      refine r_c55 (zcR_of hcJ (f123 8 (by simp)) (f123 9 (by simp)) (f123 10 (by simp))) (Or.inr ⟨Nat.le_refl 20, show 20 ≤ 24 by omega⟩) (by omega) ?_
      refine s_55else ?_
      have k9 := k I3 J3 (st3 + 1) (by show _ ≤ step + (o.length + 2 + zsum (zco n) t + zsum (zco n) e); omega) (by show zTb (zdn B (n + 1) (.inr (.inl (o, t, some e))) ow tg G) I3 J3; rw [zdn_if, if_neg hv]; exact hT3) hM3 f123 (zfr_trans g1 g3)
      rw [show a + (o.length + (0 + 1) + LT + (0 + 1) + LE) = a + o.length + 2 + LT + LE by omega] at k9
      exact k9
  | n + 1, .inr (.inr b), hw => by
    intro a step tg sv G I J h1 h2 h3 h10 hT hM hc hB hs k
    have hs' : step + (1 + 4 * (zsum (zco n) b + 1)) < 1000000 := hs
    have hc' : zcR I a ([(24, 0)] ++ zcat (zkc n) b (a + 1) ++ [(53, zi (a + 1 : Nat))]) := hc
    have hc0 := zcR_left (zcR_left hc')
    have hc1 : zcR I (a + 1) (zcat (zkc n) b (a + 1) ++ [(53, zi (a + 1 : Nat))]) := by
      rw [List.append_assoc] at hc'
      exact zcR_right hc'
    have hrun := r_list (RO := RO) (d := d) (P := P) (D := D) (bc := bc) (bs := bs) (B := B) (m := m) (ow := ow) (l1 := l1) (l2 := l2) (l3 := l3) (n := n) (f := zkc n) (g := fun s tg G => zdn B n s ow tg G) (c := zco n) (fun x tg G => zdn_8 n x) (fun x tg G => zdn_len n x) b (fun x hx => r_st hm how n x (hw x hx))
    refine r_c55 hc0 (Or.inr ⟨by decide, by decide⟩) (by omega) ?_
    refine s_55all (m := m) (by rw [hT.1, h3]) hm.2 how hM (by omega) (fun I1 hM1 f1 => ?_)
    have hmul : (m - 1 + 1) * (zsum (zco n) b + 1) ≤ 4 * (zsum (zco n) b + 1) := Nat.mul_le_mul_right _ (by omega)
    refine r_rounds hm how hrun (fun tg G => zfold_8 (fun G a => zdn_8 n a) b G) (fun tg G => zfold_len (fun G a => zdn_len n a) b G) (m - 1) ((ow + 1) % m) (a := a + 1) (by omega) (Nat.mod_lt _ (by omega)) ?_ (by omega) h2 h3 h10 (zTb_keep hT (f1 20 (by simp)) (f1 21 (by simp)) (f1 22 (by simp)) rfl) hM1 (zcR_of hc1 (f1 8 (by simp)) (f1 9 (by simp)) (f1 10 (by simp))) (by rw [f1 14 (by simp)]; exact hB) (by omega) (fun I2 J2 st2 hst2 hT2 hM2 f2 g2 => ?_)
    · rw [Nat.mod_add_mod, show ow + 1 + (m - 1) = ow + m by omega, Nat.add_mod_right, Nat.mod_eq_of_lt how]
    · have hlen : (zkc (n + 1) (.inr (.inr b) : zSt (n + 1)) a).length = 1 + (zcat (zkc n) b (a + 1)).length + 1 := by
        show ([(24, 0)] ++ zcat (zkc n) b (a + 1) ++ [_]).length = _
        rw [List.length_append, List.length_append]
        rfl
      rw [hlen] at k
      have k9 := k I2 J2 st2 (by show _ ≤ step + (1 + 4 * (zsum (zco n) b + 1)); omega) ?_ hM2 (zfr_trans (zfr_sub f1 (by simp)) f2) g2
      · rw [show a + (1 + (zcat (zkc n) b (a + 1)).length + 1) = a + 1 + (zcat (zkc n) b (a + 1)).length + 1 by omega] at k9
        exact k9
      · show zTb (zdn B (n + 1) (.inr (.inr b)) ow tg G) I2 J2
        rw [zdn_all, h3]
        have em : ztg ((m : Int)).toNat ow = (List.range (m - 1 + 1)).map (fun i => ((ow + 1) % m + i) % m) := by
          unfold ztg
          rw [show ((m : Int)).toNat = m - 1 + 1 by omega]
          apply List.map_congr_left
          intro i _
          rw [show m - 1 + 1 = m by omega, Nat.mod_add_mod]
        rw [em]
        exact hT2
end CMach7
