/-! ===== the reference's machine: an expression's worth ===== -/
section MMach2
variable {RO : zRo} {d : Nat} {P : zP} {I : zI} {J : zJ} {D : zD} {bc bs : Nat} {s : List Int64} {ow tg : Nat} {G : zGm} {nt np : Nat}
theorem zmo_leaf {q : zOp} (h : zlfK q.1) (ha : q.1 = 2 → ∃ p : Nat, p < 18 ∧ q.2 = zi p) (hv : q.1 = 2 → ∀ p : Nat, p < 18 → q.2 = zi p → zpv nt np p) (hM : zMb nt np G I J) (h1 : ow < 4) (h2 : tg < 4) :
    (zmo q).1 ≤ 404 ∧ zo_181 I J (zi (zmo q).1) (zmo q).2.1 (zi ow) (zi tg) ∧ zv_181 I J (zi (zmo q).1) (zmo q).2.1 (zi ow) (zi tg) = zlf G ow tg q.1 q.2 := by
  obtain ⟨m1, m2, m3, m4, m5, m6, m7, mz, mv, mp, ms⟩ := hM
  obtain ⟨op, a⟩ := q
  unfold zlfK at h
  rcases h with h | h | h
  · have h9 : op = 2 := h
    subst h9
    obtain ⟨p, hp, rfl⟩ := ha rfl
    have hpv := hv rfl p hp rfl
    unfold zpv at hpv
    have e1 : (zi (p : Int)).toNatClampNeg = p := by rw [zi_cl (by omega) (by omega)]; omega
    unfold zmo zlf zpl
    simp only [e1, if_true]
    by_cases p6 : p < 6
    · simp only [p6, if_true]
      refine ⟨by omega, ?_, ?_⟩
      · unfold zo_181
        simp (disch := omega) only [zlit, zi_eq, zi_mul, zi_add]
        exact ⟨fun q => absurd q (by omega), fun _ => ⟨fun _ => ⟨zi_in (by omega) (by omega) (by omega), trivial⟩, fun q => absurd (by omega) q⟩⟩
      · unfold zv_181
        simp (disch := omega) only [zlit, zi_eq, zi_mul, zi_add, zi_cl]
        rw [if_neg (by omega), if_pos (by omega), show (6 * (ow : Int) + (p : Int)).toNat = ow * 6 + p by omega, mv _ (by omega) (by omega)]
    · simp only [p6, if_false]
      by_cases p12 : p < 12
      · simp only [p12, if_true]
        refine ⟨by omega, ?_, ?_⟩
        · unfold zo_181
          simp (disch := omega) only [zlit, zi_eq, zi_mul, zi_add]
          exact ⟨fun q => absurd q (by omega), fun _ => ⟨fun q => absurd q (by omega), fun _ => ⟨fun _ => ⟨zi_in (by omega) (by omega) (by omega), trivial⟩, fun q => absurd (by omega) q⟩⟩⟩
        · unfold zv_181
          simp (disch := omega) only [zlit, zi_eq, zi_mul, zi_add, zi_cl]
          rw [if_neg (by omega), if_neg (by omega), if_pos (by omega), show (6 * (tg : Int) + ((p - 6 : Nat) : Int)).toNat = tg * 6 + p - 6 by omega, mv _ (by omega) (by omega)]
      · simp only [p12, if_false]
        refine ⟨by omega, ?_, ?_⟩
        · unfold zo_181
          simp (disch := omega) only [zlit, zi_eq, zi_mul, zi_add]
          exact ⟨fun q => absurd q (by omega), fun _ => ⟨fun q => absurd q (by omega), fun _ => ⟨fun q => absurd q (by omega), fun _ => ⟨fun _ => ⟨zi_in (by omega) (by omega) (by omega), trivial⟩, fun q => absurd (by omega) q⟩⟩⟩⟩
        · unfold zv_181
          simp (disch := omega) only [zlit, zi_eq, zi_mul, zi_add, zi_cl]
          rw [if_neg (by omega), if_neg (by omega), if_neg (by omega), if_pos (by omega), show (((p - 12 : Nat) : Int)).toNat = p - 12 by omega, mp _ (by omega) (by omega), show 24 + (p - 12) = 24 + p - 12 by omega]
  · have h9 : op = 3 := h
    subst h9
    have e : zmo (3, a) = (400, a, 0) := rfl
    rw [e]
    refine ⟨Nat.le_of_ble_eq_true rfl, ?_, ?_⟩
    · exact ⟨fun _ => trivial, fun q => absurd (zlit 400).symm q⟩
    · unfold zv_181 zlf
      rw [if_pos (show zi ((400 : Nat) : Int) = 400 from (zlit 400).symm), if_neg (show ¬ 3 = 2 by omega), if_neg (show ¬ 3 = 28 by omega), if_neg (show ¬ 3 = 29 by omega), if_neg (show ¬ 3 = 30 by omega), if_neg (show ¬ 3 = 31 by omega), if_neg (show ¬ 3 = 32 by omega)]
  · have h9 : op = 28 ∨ op = 29 ∨ op = 30 ∨ op = 31 ∨ op = 32 := by omega
    have c0 : ¬ zi 404 = (400 : Int32) := by rw [zlit, zi_eq (by omega) (by omega)]; omega
    have c1 : ¬ zi 404 = (401 : Int32) := by rw [zlit, zi_eq (by omega) (by omega)]; omega
    have c2 : ¬ zi 404 = (402 : Int32) := by rw [zlit, zi_eq (by omega) (by omega)]; omega
    have c3 : ¬ zi 404 = (403 : Int32) := by rw [zlit, zi_eq (by omega) (by omega)]; omega
    have hob : ∀ x : Int32, zo_181 I J (zi 404) x (zi ow) (zi tg) := fun x => ⟨fun _ => trivial, fun _ => ⟨fun q => absurd q c1, fun _ => ⟨fun q => absurd q c2, fun _ => ⟨fun q => absurd q c3, fun _ => trivial⟩⟩⟩⟩
    have hval : ∀ n : Nat, n < 5 → zv_181 I J (zi 404) (zi (n : Nat)) (zi ow) (zi tg) = zlf G ow tg (28 + n) a := by
      intro n hn
      unfold zv_181 zlf
      rw [m1, m2, m3, if_neg c0, if_neg c1, if_neg c2, if_neg c3, if_neg (show ¬ 28 + n = 2 by omega)]
      have d0 : (zi (n : Int) = 0) = (n = 0) := by rw [zlit, zi_eq (by omega) (by omega)]; apply propext; omega
      have d1 : (zi (n : Int) = 1) = (n = 1) := by rw [zlit, zi_eq (by omega) (by omega)]; apply propext; omega
      have d2 : (zi (n : Int) = 2) = (n = 2) := by rw [zlit, zi_eq (by omega) (by omega)]; apply propext; omega
      have d3 : (zi (n : Int) = 3) = (n = 3) := by rw [zlit, zi_eq (by omega) (by omega)]; apply propext; omega
      simp only [d0, d1, d2, d3]
      by_cases n0 : n = 0
      · rw [if_neg (show ¬ ¬ n = 0 by omega), if_pos (show 28 + n = 28 by omega)]
      · rw [if_pos (show ¬ n = 0 by omega), if_neg (show ¬ 28 + n = 28 by omega)]
        by_cases n1 : n = 1
        · rw [if_neg (show ¬ ¬ n = 1 by omega), if_pos (show 28 + n = 29 by omega)]
        · rw [if_pos (show ¬ n = 1 by omega), if_neg (show ¬ 28 + n = 29 by omega)]
          by_cases n2 : n = 2
          · rw [if_neg (show ¬ ¬ n = 2 by omega), if_pos (show 28 + n = 30 by omega)]
          · rw [if_pos (show ¬ n = 2 by omega), if_neg (show ¬ 28 + n = 30 by omega)]
            by_cases n3 : n = 3
            · rw [if_neg (show ¬ ¬ n = 3 by omega), if_pos (show 28 + n = 31 by omega)]
            · rw [if_pos (show ¬ n = 3 by omega), if_neg (show ¬ 28 + n = 31 by omega), if_pos (show 28 + n = 32 by omega)]
    have e : zmo (op, a) = (404, zi (op - 28 : Nat), 0) := by
      unfold zmo
      rw [if_neg (show ¬ op = 2 by omega), if_neg (show ¬ op = 3 by omega), if_pos (show 28 ≤ op ∧ op ≤ 32 by omega)]
    rw [e]
    have hv := hval (op - 28) (by omega)
    rw [show 28 + (op - 28) = op by omega] at hv
    exact ⟨Nat.le_refl _, hob _, hv⟩
theorem zmo_un {q : zOp} (h : zunK q.1) : (zmo q).1 = (if q.1 = 35 then 440 else if q.1 = 52 then 441 else 442) := by
  obtain ⟨op, a⟩ := q
  unfold zunK at h
  rcases h with h | h | h
  · have e : op = 52 := h
    subst e
    rfl
  · have e : op = 35 := h
    subst e
    rfl
  · have e : op = 27 := h
    subst e
    rfl
theorem zmo_bn {q : zOp} (h : zbnK q.1) : 404 < (zmo q).1 ∧ (zmo q).1 < 440 := by
  unfold zbnK at h
  unfold zmo
  rw [if_neg (show ¬ q.1 = 2 by omega), if_neg (show ¬ q.1 = 3 by omega), if_neg (show ¬ (28 ≤ q.1 ∧ q.1 ≤ 32) by omega)]
  (repeat' split) <;> constructor <;> (dsimp only; omega)
theorem zPl_push {v : Int64} (h : zPl s J) : zPl (v :: s) (zu J 50 s.length v) := by
  intro j hj
  rw [List.length_cons] at hj
  rw [List.reverse_cons, zgd_app, List.length_reverse]
  by_cases hjs : j < s.length
  · rw [if_pos hjs, zu_n _ _ (by omega)]
    exact h j hjs
  · have hj2 : j = s.length := by omega
    rw [if_neg hjs, if_pos hj2, hj2, zu_s]
theorem zPl_top {v : Int64} (h : zPl (v :: s) J) : J 50 s.length = v ∧ zPl s J := by
  refine ⟨?_, fun j hj => ?_⟩
  · rw [h s.length (by simp), List.reverse_cons, zgd_app, List.length_reverse, if_neg (by omega), if_pos rfl]
  · rw [h j (by rw [List.length_cons]; omega), List.reverse_cons, zgd_app, List.length_reverse, if_pos hj]
theorem zMb_J {J' : zJ} (h : zMb nt np G I J) (e : J' 28 32 = J 28 32) : zMb nt np G I J' := by
  unfold zMb
  rw [e]
  exact h
set_option maxHeartbeats 1000000 in
theorem r_mops {l1 : Int32} (h1 : ow < 4) (h2 : tg < 4) : ∀ (ops : List zOp) {m : Nat} {s : List Int64} {z : Int64} {a : Nat} {J : zJ} {r : List zM3}, s.length ≤ 60 → zvO nt np ops → zwf s.length ops m → zMb nt np (sZ G z) I J → zPl s J → zmR I a (ops.map zmo ++ r) →
    (∀ J', zMb nt np (sZ G (zev G ow tg ops (s, z)).2) I J' → zPl (zev G ow tg ops (s, z)).1 J' → zfm [32] [50] J J' →
      zw RO (d + 1) 180 P 6 [(0, .ref 28), (1, .int l1), (2, .int (zi ow)), (3, .int (zi tg)), (4, .int (zi m)), (5, .int (zi (a + ops.length : Nat)))] [] I J' D bc bs) →
    zw RO (d + 1) 180 P 6 [(0, .ref 28), (1, .int l1), (2, .int (zi ow)), (3, .int (zi tg)), (4, .int (zi s.length)), (5, .int (zi (a : Nat)))] [] I J D bc bs
  | [], m, s, z, a, J, r, hl, hvo, hw, hM, hP, hc, k => by
    have e : s.length = m := hw
    have k9 := k J hM hP (zfm_refl _)
    rw [← e] at k9
    exact k9
  | q :: ops, m, s, z, a, J, r, hl, hvo, hw, hM, hP, hc, k => by
    obtain ⟨ha, hc1, hc2, hc3⟩ := zmR_at hc
    have next : ∀ {s' : List Int64} {z' : Int64} {J' : zJ}, s'.length ≤ 60 → zwf s'.length ops m → zes G ow tg (s, z) q = (s', z') → zMb nt np (sZ G z') I J' → zPl s' J' → zfm [32] [50] J J' →
        zw RO (d + 1) 180 P 6 [(0, .ref 28), (1, .int l1), (2, .int (zi ow)), (3, .int (zi tg)), (4, .int (zi s'.length)), (5, .int (zi (a : Nat) + 1))] [] I J' D bc bs := by
      intro s' z' J' hl' hw' he hM' hP' f1
      rw [zi_succ]
      refine r_mops h1 h2 ops hl' (fun q hq => hvo q (List.mem_cons_of_mem _ hq)) hw' hM' hP' (zmR_tail hc) (fun J9 hM9 hP9 f3 => ?_)
      have k9 := k J9 (by rw [zev_cons, he]; exact hM9) (by rw [zev_cons, he]; exact hP9) (zfm_trans f1 f3)
      rw [List.length_cons] at k9
      rw [show a + 1 + ops.length = a + (ops.length + 1) by omega]
      exact k9
    refine wl_180_6 ?_
    rw [hc1, hc2]
    rcases hw with ⟨h9, h10, h11, h12⟩ | ⟨h9, h10, h11⟩ | ⟨h9, h10, h11⟩
    · obtain ⟨g1, g2, g3⟩ := zmo_leaf h9 h11 (hvo q List.mem_cons_self) hM h1 h2
      rw [g3]
      simp (disch := omega) only [zlit, zi_lt, zi_eq, zi_cl]
      refine ⟨zi_in (by omega) (by omega) (by omega), fun q => absurd q (by omega), fun _ => ⟨zi_in (by omega) (by omega) (by omega), fun q => absurd q (by omega), fun _ => ⟨zi_in (by omega) (by omega) (by omega), g2, zi_in (by omega) (by omega) (by omega), ?_⟩⟩⟩
      have n9 := next (s' := zlf G ow tg q.1 q.2 :: s) (z' := z) (J' := zu J 50 s.length (zlf G ow tg q.1 q.2)) (by simp only [List.length_cons]; omega) (by simpa using h12) ?_ (zMb_J hM (zu_n _ _ (by omega))) (zPl_push hP) (zfm_zu (zfm_refl _) _ _ (by simp) (by omega))
      · rw [List.length_cons, ← zi_succ] at n9
        exact n9
      · unfold zes
        unfold zlfK at h9
        rw [if_pos h9]
    · rcases s with _ | ⟨b, s2⟩
      · exact absurd h10 (by simp)
      · have hz : J 28 32 = z := hM.2.2.2.2.2.2.2.1
        obtain ⟨p1, p2⟩ := zPl_top hP
        simp only [List.length_cons] at hl
        have go : ∀ J', zfm [32] [50] J J' → (∀ k, k < s2.length → J' 50 k = J 50 k) → J' 50 s2.length = (zun q.1 b z).1 → J' 28 32 = (zun q.1 b z).2 →
            zw RO (d + 1) 180 P 6 [(0, .ref 28), (1, .int l1), (2, .int (zi ow)), (3, .int (zi tg)), (4, .int (zi (s2.length + 1 : Nat))), (5, .int (zi (a : Nat) + 1))] [] I J' D bc bs := by
          intro J' f1 hk ht hz'
          have n9 := next (s' := (zun q.1 b z).1 :: s2) (z' := (zun q.1 b z).2) (J' := J') (by simp only [List.length_cons]; omega) (by simpa using h11) ?_ ?_ ?_ f1
          · exact n9
          · unfold zes
            unfold zunK at h9
            rw [if_neg (by omega), if_pos h9]
            rfl
          · obtain ⟨m1, m2, m3, m4, m5, m6, m7, mz, mv, mp, ms⟩ := hM
            exact ⟨m1, m2, m3, m4, m5, m6, m7, hz', mv, mp, ms⟩
          · intro j hj
            rw [List.length_cons] at hj
            rw [List.reverse_cons, zgd_app, List.length_reverse]
            by_cases hjs : j < s2.length
            · rw [if_pos hjs, hk j hjs]
              exact p2 j hjs
            · have hj2 : j = s2.length := by omega
              rw [if_neg hjs, if_pos hj2, hj2]
              exact ht
        have hin : vp_in (zi (s2.length : Int)) 452 := zi_in (by omega) (by omega) (by omega)
        have el : ((s2.length + 1 : Nat) : Int) - 1 = (s2.length : Int) := by omega
        have eu := zmo_un h9
        unfold zunK at h9
        simp only [List.length_cons]
        rcases h9 with e | e | e
        · rw [if_neg (by omega), if_pos e] at eu
          rw [eu]
          simp (disch := omega) only [zlit, zi_lt, zi_eq, zi_sub, zi_add, zi_neg, el, zi_cl]
          rw [show ((s2.length : Int)).toNat = s2.length by omega, p1]
          refine ⟨zi_in (by omega) (by omega) (by omega), fun q => absurd q (by omega), fun _ => ⟨zi_in (by omega) (by omega) (by omega), fun _ => ⟨fun q => absurd q (by omega), fun _ => ⟨hin, fun q => absurd (by omega) q, fun _ => ⟨hin, ?_⟩⟩⟩, fun q => absurd (by omega) q⟩⟩
          have g9 := go (zu J 50 s2.length (-b)) (zfm_zu (zfm_refl _) _ _ (by simp) (by omega)) (fun k hk => zu_n _ _ (by omega)) ?_ ?_
          · simpa only [zlit, zi_add] using g9
          · rw [zu_s]
            unfold zun
            rw [if_neg (by omega), if_pos e]
          · rw [zu_n _ _ (by omega)]
            unfold zun
            rw [if_neg (by omega), if_pos e]
            exact hz
        · rw [if_pos e] at eu
          rw [eu]
          simp (disch := omega) only [zlit, zi_lt, zi_eq, zi_sub, zi_add, zi_neg, el, zi_cl]
          rw [show ((s2.length : Int)).toNat = s2.length by omega, p1]
          refine ⟨zi_in (by omega) (by omega) (by omega), fun q => absurd q (by omega), fun _ => ⟨zi_in (by omega) (by omega) (by omega), fun _ => ⟨fun q => absurd q (by omega), fun _ => ⟨hin, fun _ => ⟨fun _ => ⟨fun hb => ⟨hin, ?_⟩, fun hb => ⟨hin, ?_⟩⟩, fun q => absurd (by omega) q⟩, fun q => absurd (by omega) q⟩⟩, fun q => absurd (by omega) q⟩⟩
          · have g9 := go (zu J 50 s2.length 0) (zfm_zu (zfm_refl _) _ _ (by simp) (by omega)) (fun k hk => zu_n _ _ (by omega)) ?_ ?_
            · simpa only [zlit, zi_add] using g9
            · rw [zu_s]
              unfold zun
              rw [if_pos e, if_neg hb]
            · rw [zu_n _ _ (by omega)]
              unfold zun
              rw [if_pos e]
              exact hz
          · have g9 := go (zu J 50 s2.length 1) (zfm_zu (zfm_refl _) _ _ (by simp) (by omega)) (fun k hk => zu_n _ _ (by omega)) ?_ ?_
            · simpa only [zlit, zi_add] using g9
            · rw [zu_s]
              unfold zun
              rw [if_pos e, if_pos (Classical.not_not.mp hb)]
            · rw [zu_n _ _ (by omega)]
              unfold zun
              rw [if_pos e]
              exact hz
        · rw [if_neg (by omega), if_neg (by omega)] at eu
          rw [eu]
          simp (disch := omega) only [zlit, zi_lt, zi_eq, zi_sub, zi_add, zi_neg, el, zi_cl]
          rw [show ((s2.length : Int)).toNat = s2.length by omega, p1]
          refine ⟨zi_in (by omega) (by omega) (by omega), fun q => absurd q (by omega), fun _ => ⟨zi_in (by omega) (by omega) (by omega), fun _ => ⟨fun q => absurd q (by omega), fun _ => ⟨hin, fun _ => ⟨fun q => absurd (by omega) q, fun _ => s_182 hz ⟨hin, ?_⟩⟩, fun q => absurd (by omega) q⟩⟩, fun q => absurd (by omega) q⟩⟩
          have g9 := go (zu (zu J 28 32 (zdz z)) 50 s2.length (zdv (zdz z) b)) (zfm_zu (zfm_z (zfm_refl _) _ _ (by simp)) _ _ (by simp) (by omega)) (fun k hk => by rw [zu_n _ _ (by omega), zu_n _ _ (by omega)]) ?_ ?_
          · simpa only [zlit, zi_add] using g9
          · rw [zu_s]
            unfold zun
            rw [if_neg (by omega), if_neg (by omega)]
          · rw [zu_n _ _ (by omega), zu_s]
            unfold zun
            rw [if_neg (by omega), if_neg (by omega)]
    · rcases s with _ | ⟨b, _ | ⟨c, s2⟩⟩
      · exact absurd h10 (by simp)
      · exact absurd h10 (by simp)
      · obtain ⟨p1, p2⟩ := zPl_top hP
        obtain ⟨p3, p4⟩ := zPl_top p2
        have eb := zmo_bn h9
        simp only [List.length_cons] at hl p1 ⊢
        have el : ((s2.length + 1 + 1 : Nat) : Int) + -1 = ((s2.length + 1 : Nat) : Int) := by omega
        have el2 : ((s2.length + 1 : Nat) : Int) - 1 = (s2.length : Int) := by omega
        have n9 := next (s' := zbn q.1 c b :: s2) (z' := z) (J' := zu J 50 s2.length (zbn q.1 c b)) (by simp only [List.length_cons]; omega) (by simpa using h11) ?_ (zMb_J hM (zu_n _ _ (by omega))) (zPl_push p4) (zfm_zu (zfm_refl _) _ _ (by simp) (by omega))
        · rw [List.length_cons] at n9
          have ez := z183_eq (I := I) (J := J) (a := q.2) (l := c) (r := b) h9
          simp (disch := omega) only [zlit, zi_lt, zi_eq, zi_sub, zi_add, zi_neg, el, el2, zi_cl]
          rw [show ((s2.length : Int)).toNat = s2.length by omega, show (((s2.length + 1 : Nat) : Int)).toNat = s2.length + 1 by omega, p1, p3, ez]
          refine ⟨zi_in (by omega) (by omega) (by omega), fun q => absurd q (by omega), fun _ => ⟨zi_in (by omega) (by omega) (by omega), fun _ => ⟨fun _ => ⟨zi_in (by omega) (by omega) (by omega), zi_in (by omega) (by omega) (by omega), zi_in (by omega) (by omega) (by omega), ?_⟩, fun q => absurd (by omega) q⟩, fun q => absurd (by omega) q⟩⟩
          simpa only [zlit, zi_add] using n9
        · unfold zes
          unfold zbnK at h9
          rw [if_neg (by omega), if_neg (by omega)]
          rfl
end MMach2
