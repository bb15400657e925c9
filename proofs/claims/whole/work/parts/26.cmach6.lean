/-! ===== the class's machine: statements, all ===== -/
section CMach6
variable {RO : zRo} {d : Nat} {P : zP} {D : zD} {bc bs : Nat} {B : Nat → Int32} {m ow : Nat} {l1 l2 l3 : Int32}
theorem r_b0 (hm : 2 ≤ m ∧ m ≤ 4) (how : ow < m) {n : Nat} {b : zB0} (hw : zwB b) : zRun RO d P D bc bs B m ow l1 l2 l3 n (b.2.2.length + 1) (fun _ => b.2.2 ++ [(b.1, zi b.2.1)]) (fun tg G => zb0 B b ow tg G) := by
  intro a step tg sv G I J h1 h2 h3 h10 hT hM hc hB hs k
  have hcl := zcR_right hc
  simp only [List.length_append, List.length_cons, List.length_nil] at k
  have hset : (b.1 = 16 ∨ b.1 = 17) → b.2.1 < 18 → zwE b.2.2 → zw RO (d + 2) 43 P 37 [(0, .ref 24), (1, .int l1), (2, .int l2), (3, .int l3), (4, .int (zi a)), (5, .int (zv_3 I J (zi a))), (6, .int (zi step))] [] I J D bc bs := by
    intro hk hp he
    refine r_exp (G := G) (by omega) (by omega) he hT hM (zcR_left hc) (by omega) (fun I1 J1 hT1 hM1 f1 g1 => ?_)
    refine r_c16 (zcR_of hcl (f1 8 (by simp)) (f1 9 (by simp)) (f1 10 (by simp))) hk (by omega) ?_
    refine s_pop hM1 (by simp) (fun I2 hM2 f2 => ?_)
    show zz RO (d + 2) 56 [.ref 24, .int (zi b.1), .int (zv_50 I1 J1 (zi (b.2.1 : Nat))), .long (zvl G ow tg b.2.2)] I2 J1 D 0 0 _
    rw [zv50_at hp (by omega) (by omega) hM1.2.2.1 hM1.2.2.2.1]
    have f12 := zfr_trans f1 f2
    refine s_56 (G := zvG G ow tg b.2.2) hk (zpl_lt hp (by omega) (by omega)) (zTb_keep hT1 (f2 20 (by simp)) (f2 21 (by simp)) (f2 22 (by simp)) rfl) (by rw [f12 14 (by simp)]; exact hB) (fun I3 hT3 f3 => ?_)
    have k9 := k I3 J1 (step + b.2.2.length + 1) (by omega) ?_ (zMc_keep hM2 (f3 24 (by simp)) (f3 26 (by simp)) rfl) (zfr_trans (zfr_sub f12 (by simp)) (zfr_sub f3 (by simp))) g1
    · exact k9
    · unfold zb0
      rcases hk with e | e
      · rw [if_pos e]
        rw [if_neg (by omega)] at hT3
        exact hT3
      · rw [if_neg (by omega), if_pos e]
        rw [if_pos e] at hT3
        exact hT3
  rcases hw with ⟨e, hp, he⟩ | ⟨e, hp, he⟩ | ⟨hk, h21, h22⟩
  · exact hset (Or.inl e) hp he
  · exact hset (Or.inr e) hp he
  · have hc0 : zcR I a [(b.1, zi b.2.1)] := by
      have h9 := hc
      rw [h22] at h9
      exact h9
    rw [h22] at k
    simp only [List.length_nil, Nat.zero_add] at k
    refine r_c55 hc0 (by show b.1 = 18 ∨ _; omega) (by omega) ?_
    show zz RO (d + 2) 55 [.ref 24, .int (zi b.1), _, _] I J D 0 0 _
    rcases hk with e | e | e
    · rw [e]
      refine s_55can hT (by omega) (fun I1 hT1 f1 => ?_)
      refine k I1 J (step + 1) (by omega) ?_ (zMc_keep hM (f1 24 (by simp)) (f1 26 (by simp)) rfl) (zfr_sub f1 (by simp)) (zfr_refl _)
      unfold zb0
      rw [if_neg (by omega), if_neg (by omega), if_pos e]
      exact hT1
    · rw [e]
      refine s_55again hT (fun I1 hT1 f1 => ?_)
      refine k I1 J (step + 1) (by omega) ?_ (zMc_keep hM (f1 24 (by simp)) (f1 26 (by simp)) rfl) (zfr_sub f1 (by simp)) (zfr_refl _)
      unfold zb0
      rw [if_neg (by omega), if_neg (by omega), if_neg (by omega), if_pos e]
      exact hT1
    · rw [e]
      refine s_55skip hT (fun I1 hT1 f1 => ?_)
      refine k I1 J (step + 1) (by omega) ?_ (zMc_keep hM (f1 24 (by simp)) (f1 26 (by simp)) rfl) (zfr_sub f1 (by simp)) (zfr_refl _)
      unfold zb0
      rw [if_neg (by omega), if_neg (by omega), if_neg (by omega), if_neg (by omega)]
      exact hT1
/-- the rounds of an all, j more behind this one -/
theorem r_rounds (hm : 2 ≤ m ∧ m ≤ 4) (how : ow < m) {n c : Nat} {code : Nat → List zOp} {den : Nat → zGm → zGm} (hb : zRun RO d P D bc bs B m ow l1 l2 l3 n c code den) (h8 : ∀ tg G, (den tg G).1 8 = G.1 8) (h9 : ∀ tg G, (den tg G).2.2.1.length ≤ G.2.2.1.length) :
    ∀ (j t : Nat) {a step t0 : Nat} {sv : List Nat} {G : zGm} {I : zI} {J : zJ}, j < m → t < m → (t + j) % m = ow → sv.length + (n + 1) ≤ 4 → t0 < m → G.1 8 = m → G.2.2.1.length ≤ 10 → zTb G I J → zMc [] ow t (t0 :: sv) I J → zcR I a (code a ++ [(53, zi (a : Nat))]) → (∀ k, k < 36 → I 14 k = B k) → step + (j + 1) * (c + 1) < 1000000 →
    (∀ I' J' (step' : Nat), step' ≤ step + (j + 1) * (c + 1) → zTb (((List.range (j + 1)).map (fun i => (t + i) % m)).foldl (fun G tg => den tg G) G) I' J' → zMc [] ow t0 sv I' J' → zfr [20, 21, 24, 26] I I' → zfr [20, 25] J J' →
      zw RO (d + 2) 43 P 37 [(0, .ref 24), (1, .int l1), (2, .int l2), (3, .int l3), (4, .int (zi (a + (code a).length + 1 : Nat))), (5, .int (zv_3 I' J' (zi (a + (code a).length + 1 : Nat)))), (6, .int (zi step'))] [] I' J' D bc bs) →
    zw RO (d + 2) 43 P 37 [(0, .ref 24), (1, .int l1), (2, .int l2), (3, .int l3), (4, .int (zi a)), (5, .int (zv_3 I J (zi a))), (6, .int (zi step))] [] I J D bc bs
  | 0, t, a, step, t0, sv, G, I, J, hj, ht, hmod, hn, ht0, hG, h10, hT, hM, hc, hB, hs, k => by
    have e : t = ow := by rw [Nat.add_zero, Nat.mod_eq_of_lt ht] at hmod; exact hmod
    subst e
    refine hb a step t (t0 :: sv) G I J (by rw [List.length_cons]; omega) ht hG h10 hT hM (zcR_left hc) hB (by omega) (fun I1 J1 st1 hst hT1 hM1 f1 g1 => ?_)
    refine r_c53 (zcR_of (zcR_right hc) (f1 8 (by simp)) (f1 9 (by simp)) (f1 10 (by simp))) rfl (by omega) ?_
    refine s_58b hM1 (by omega) (by omega) (fun I2 hM2 f2 => ⟨fun _ => ?_, fun q => absurd rfl q⟩)
    refine k I2 J1 (st1 + 1) (by omega) ?_ hM2 (zfr_trans f1 (zfr_sub f2 (by simp))) g1
    have e0 : ((List.range (0 + 1)).map (fun i => (t + i) % m)).foldl (fun G tg => den tg G) G = den t G := by
      show den ((t + 0) % m) G = den t G
      rw [Nat.add_zero, Nat.mod_eq_of_lt ht]
    rw [e0]
    exact zTb_keep hT1 (f2 20 (by simp)) (f2 21 (by simp)) (f2 22 (by simp)) rfl
  | j + 1, t, a, step, t0, sv, G, I, J, hj, ht, hmod, hn, ht0, hG, h10, hT, hM, hc, hB, hs, k => by
    have hne : t ≠ ow := by
      intro e
      subst e
      by_cases h : t + (j + 1) < m
      · rw [Nat.mod_eq_of_lt h] at hmod; omega
      · rw [Nat.mod_eq_sub_mod (by omega), Nat.mod_eq_of_lt (by omega)] at hmod; omega
    have hmul : (j + 1 + 1) * (c + 1) = (j + 1) * (c + 1) + (c + 1) := by rw [Nat.add_mul, Nat.one_mul]
    rw [hmul] at hs k
    refine hb a step t (t0 :: sv) G I J (by rw [List.length_cons]; omega) ht hG h10 hT hM (zcR_left hc) hB (by omega) (fun I1 J1 st1 hst hT1 hM1 f1 g1 => ?_)
    refine r_c53 (zcR_of (zcR_right hc) (f1 8 (by simp)) (f1 9 (by simp)) (f1 10 (by simp))) rfl (by omega) ?_
    have h81 : (den t G).1 8 = (m : Int) := (h8 t G).trans hG
    refine s_58a (by rw [hT1.1, h81]) hm.2 ht hM1 hne (by omega) (fun I2 hM2 f2 => ⟨fun q => absurd q (by decide), fun _ => ?_⟩)
    refine r_rounds hm how hb h8 h9 j ((t + 1) % m) (G := den t G) (by omega) (Nat.mod_lt _ (by omega)) ?_ hn ht0 h81 (Nat.le_trans (h9 _ _) h10) (zTb_keep hT1 (f2 20 (by simp)) (f2 21 (by simp)) (f2 22 (by simp)) rfl) hM2 (zcR_of hc ((zfr_trans f1 (zfr_sub f2 (by simp))) 8 (by simp)) ((zfr_trans f1 (zfr_sub f2 (by simp))) 9 (by simp)) ((zfr_trans f1 (zfr_sub f2 (by simp))) 10 (by simp))) (by rw [f2 14 (by simp), f1 14 (by simp)]; exact hB) (by omega) (fun I3 J3 st3 hst3 hT3 hM3 f3 g3 => ?_)
    · rw [Nat.mod_add_mod, ← hmod]
      congr 1
      omega
    · refine k I3 J3 st3 (by omega) ?_ hM3 (zfr_trans (zfr_trans f1 (zfr_sub f2 (by simp))) f3) (zfr_trans g1 g3)
      rw [List.range_succ_eq_map, List.map_cons, List.foldl_cons, List.map_map, Nat.add_zero, Nat.mod_eq_of_lt ht]
      have em : (List.range (j + 1)).map ((fun i => (t + i) % m) ∘ Nat.succ) = (List.range (j + 1)).map (fun i => ((t + 1) % m + i) % m) := by
        apply List.map_congr_left
        intro i _
        show (t + (i + 1)) % m = ((t + 1) % m + i) % m
        rw [Nat.mod_add_mod]
        congr 1
        omega
      rw [em]
      exact hT3
end CMach6
