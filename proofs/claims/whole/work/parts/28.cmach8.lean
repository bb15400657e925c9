/-! ===== the class's machine: its run, as the game calls it ===== -/
theorem zco_list {α : Type} {f : α → Nat → List zOp} {c : α → Nat} {K : Nat} (h : ∀ x a, c x ≤ K * (f x a).length) : ∀ (l : List α) (a : Nat), zsum c l ≤ K * (zcat f l a).length
  | [], _ => Nat.zero_le _
  | x :: r, a => by
    rw [zsum_cons, zcat_cons, List.length_append, Nat.mul_add]
    exact Nat.add_le_add (h x a) (zco_list h r _)
theorem zco_le : ∀ (n : Nat) (st : zSt n) (a : Nat), zco n st ≤ 4 ^ n * (zkc n st a).length
  | 0, b, a => by
    show b.2.2.length + 1 ≤ 1 * (b.2.2 ++ [(b.1, zi b.2.1)]).length
    rw [List.length_append, Nat.one_mul]
    exact Nat.le_refl _
  | n + 1, .inl b, a => by
    show b.2.2.length + 1 ≤ 4 ^ (n + 1) * (b.2.2 ++ [(b.1, zi b.2.1)]).length
    rw [List.length_append]
    exact Nat.le_mul_of_pos_left _ (Nat.pow_pos (by omega))
  | n + 1, .inr (.inl (o, t, none)), a => by
    show o.length + 1 + zsum (zco n) t ≤ 4 ^ (n + 1) * (o ++ [_] ++ zcat (zkc n) t (a + o.length + 1)).length
    have h := zco_list (fun x a => zco_le n x a) t (a + o.length + 1)
    have hp : 0 < 4 ^ n := Nat.pow_pos (by omega)
    rw [List.length_append, List.length_append, List.length_cons, List.length_nil, Nat.pow_succ, Nat.mul_add]
    have h2 : o.length + (0 + 1) ≤ 4 ^ n * 4 * (o.length + (0 + 1)) := Nat.le_mul_of_pos_left _ (by omega)
    have h3 : 4 ^ n * (zcat (zkc n) t (a + o.length + 1)).length ≤ 4 ^ n * 4 * (zcat (zkc n) t (a + o.length + 1)).length := Nat.mul_le_mul_right _ (by omega)
    omega
  | n + 1, .inr (.inl (o, t, some e)), a => by
    show o.length + 2 + zsum (zco n) t + zsum (zco n) e ≤ 4 ^ (n + 1) * (o ++ [_] ++ zcat (zkc n) t (a + o.length + 1) ++ [_] ++ zcat (zkc n) e (a + o.length + 2 + (zcat (zkc n) t (a + o.length + 1)).length)).length
    have h := zco_list (fun x a => zco_le n x a) t (a + o.length + 1)
    have h9 := zco_list (fun x a => zco_le n x a) e (a + o.length + 2 + (zcat (zkc n) t (a + o.length + 1)).length)
    have hp : 0 < 4 ^ n := Nat.pow_pos (by omega)
    generalize zcat (zkc n) e (a + o.length + 2 + (zcat (zkc n) t (a + o.length + 1)).length) = E at h9
    generalize zcat (zkc n) t (a + o.length + 1) = T at h
    simp only [List.length_append, List.length_cons, List.length_nil]
    rw [Nat.pow_succ]
    have e1 : 4 ^ n * 4 * (o.length + (0 + 1) + T.length + (0 + 1) + E.length) = 4 ^ n * 4 * (o.length + 2) + 4 ^ n * 4 * T.length + 4 ^ n * 4 * E.length := by
      rw [← Nat.mul_add, ← Nat.mul_add]
      congr 1
      omega
    rw [e1]
    have h2 : o.length + 2 ≤ 4 ^ n * 4 * (o.length + 2) := Nat.le_mul_of_pos_left _ (by omega)
    have h3 : 4 ^ n * T.length ≤ 4 ^ n * 4 * T.length := Nat.mul_le_mul_right _ (by omega)
    have h4 : 4 ^ n * E.length ≤ 4 ^ n * 4 * E.length := Nat.mul_le_mul_right _ (by omega)
    omega
  | n + 1, .inr (.inr b), a => by
    show 1 + 4 * (zsum (zco n) b + 1) ≤ 4 ^ (n + 1) * ([(24, 0)] ++ zcat (zkc n) b (a + 1) ++ [_]).length
    have h := zco_list (fun x a => zco_le n x a) b (a + 1)
    have hp : 0 < 4 ^ n := Nat.pow_pos (by omega)
    generalize zcat (zkc n) b (a + 1) = T at h
    simp only [List.length_append, List.length_cons, List.length_nil]
    rw [Nat.pow_succ]
    have e1 : 4 ^ n * 4 * (0 + 1 + T.length + (0 + 1)) = 4 * (4 ^ n * T.length) + 8 * 4 ^ n := by
      rw [show 0 + 1 + T.length + (0 + 1) = T.length + 2 by omega, Nat.mul_add, Nat.mul_assoc, Nat.mul_left_comm, Nat.mul_assoc]
      omega
    rw [e1]
    omega
section CMach8
variable {RO : zRo} {d : Nat} {P : zP} {I : zI} {J : zJ} {D : zD} {bc bs : Nat} {B : Nat → Int32} {m ow tg : Nat} {G : zGm} {l1 l2 l3 : Int32}
theorem r_stop {a step : Nat} {I : zI} (hc : zcR I a [(54, 0)]) (h : zz RO (d + 2) 48 [.ref 24] I J D 0 0 (zNl P fun v I1 J1 D1 => P (.inl (some (.long v))) I1 J1 D1)) :
    zw RO (d + 2) 43 P 37 [(0, .ref 24), (1, .int l1), (2, .int l2), (3, .int l3), (4, .int (zi a)), (5, .int (zv_3 I J (zi a))), (6, .int (zi step))] [] I J D bc bs := by
  refine wl_43_37 ?_
  rw [(zop_at (J := J) hc).1]
  exact ⟨fun _ => h, fun _ => ⟨fun _ => h, fun q => absurd rfl q⟩⟩
theorem zMc_0 {p1 p2 : Nat} : zMc [] p1 p2 [] (zu (zu (zu (zu I 24 7 (zi p1)) 24 8 (zi p2)) 24 5 0) 24 6 0) J := by
  refine ⟨?_, fun k hk => absurd hk (by simp), ?_, ?_, ?_, fun k hk => absurd hk (by simp)⟩
  · rw [zu_n _ _ (by omega), zu_s]; rfl
  · rw [zu_n _ _ (by omega), zu_n _ _ (by omega), zu_n _ _ (by omega), zu_s]
  · rw [zu_n _ _ (by omega), zu_n _ _ (by omega), zu_s]
  · rw [zu_s]; rfl
theorem s_run_e {o : List zOp} {a : Nat} (h1 : ow < 4) (h2 : tg < 4) (hw : zwE o) (hT : zTb G I J) (hc : zcR I a (o ++ [(54, 0)]))
    (k : ∀ I' J', zTb (zvG G ow tg o) I' J' → zfr [24] I I' → zfr [20, 25] J J' → P (.inl (some (.long (zvl G ow tg o)))) I' J' D) : zz RO (d + 3) 43 [.ref 24, .int (zi a), .int (zi ow), .int (zi tg)] I J D bc bs P := by
  refine w_43 ?_
  have f0 : zfr [24] I (zu (zu (zu (zu I 24 7 (zi ow)) 24 8 (zi tg)) 24 5 0) 24 6 0) := zfr_zu (zfr_zu (zfr_zu (zfr_zu (zfr_refl _) _ _ (by simp)) _ _ (by simp)) _ _ (by simp)) _ _ (by simp)
  have hlen : o.length < 1000000 := by
    obtain ⟨-, n, -, h3, h4⟩ := hc
    rw [List.length_append] at h3
    omega
  refine r_exp (G := G) (sv := []) (step := 0) h1 h2 hw (zTb_keep hT (f0 20 (by simp)) (f0 21 (by simp)) (f0 22 (by simp)) rfl) zMc_0 (zcR_of (zcR_left hc) (f0 8 (by simp)) (f0 9 (by simp)) (f0 10 (by simp))) (by omega) (fun I1 J1 hT1 hM1 f1 g1 => ?_)
  have f01 := zfr_trans f0 f1
  refine r_stop (zcR_of (zcR_right hc) (f01 8 (by simp)) (f01 9 (by simp)) (f01 10 (by simp))) ?_
  refine s_pop hM1 (by simp) (fun I2 hM2 f2 => ?_)
  exact k I2 J1 (zTb_keep hT1 (f2 20 (by simp)) (f2 21 (by simp)) (f2 22 (by simp)) rfl) (zfr_trans f01 f2) g1
theorem s_run_b (hm : 2 ≤ m ∧ m ≤ 4) (how : ow < m) (htg : tg < m) {l : List (zSt 4)} {a : Nat} (hw : ∀ s ∈ l, zwS 4 s) (hG : G.1 8 = m) (h10 : G.2.2.1.length ≤ 10) (hB : ∀ k, k < 36 → I 14 k = B k) (hT : zTb G I J) (hc : zcR I a (zcat (zkc 4) l a ++ [(54, 0)]))
    (k : ∀ I' J', zTb (zdns B 4 l ow tg G) I' J' → zfr [20, 21, 24, 26] I I' → zfr [20, 25] J J' → P (.inl (some (.long 0))) I' J' D) : zz RO (d + 3) 43 [.ref 24, .int (zi a), .int (zi ow), .int (zi tg)] I J D bc bs P := by
  refine w_43 ?_
  have f0 : zfr [24] I (zu (zu (zu (zu I 24 7 (zi ow)) 24 8 (zi tg)) 24 5 0) 24 6 0) := zfr_zu (zfr_zu (zfr_zu (zfr_zu (zfr_refl _) _ _ (by simp)) _ _ (by simp)) _ _ (by simp)) _ _ (by simp)
  have hlen : zsum (zco 4) l < 1000000 := by
    obtain ⟨-, n, -, h3, h4⟩ := hc
    rw [List.length_append] at h3
    have h9 := zco_list (fun x a => zco_le 4 x a) l a
    omega
  have hrun := r_list (RO := RO) (d := d) (P := P) (D := D) (bc := bc) (bs := bs) (B := B) (m := m) (ow := ow) (l1 := zi a) (l2 := zi ow) (l3 := zi tg) (n := 4) (f := zkc 4) (g := fun s tg G => zdn B 4 s ow tg G) (c := zco 4) (fun x tg G => zdn_8 4 x) (fun x tg G => zdn_len 4 x) l (fun x hx => r_st hm how 4 x (hw x hx))
  refine hrun a 0 tg [] G _ J (by simp) htg hG h10 (zTb_keep hT (f0 20 (by simp)) (f0 21 (by simp)) (f0 22 (by simp)) rfl) zMc_0 (zcR_of (zcR_left hc) (f0 8 (by simp)) (f0 9 (by simp)) (f0 10 (by simp))) (by rw [f0 14 (by simp)]; exact hB) (by omega) (fun I1 J1 st1 _ hT1 hM1 f1 g1 => ?_)
  have f01 := zfr_trans (zfr_sub f0 (M := [20, 21, 24, 26]) (by simp)) f1
  refine r_stop (zcR_of (zcR_right hc) (f01 8 (by simp)) (f01 9 (by simp)) (f01 10 (by simp))) ?_
  exact s_pop0 hM1 (k I1 J1 hT1 f01 g1)
end CMach8
