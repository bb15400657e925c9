/-! ===== the reference's machine: assign ===== -/
theorem zi_div {a b : Int} (h1 : 0 ≤ a) (h2 : a < 2147483648) (h3 : 0 < b) (h4 : b < 2147483648) : zi a / zi b = zi (a / b) := by
  apply Int32.toInt_inj.mp
  have h5 : a / b ≤ a := Int.ediv_le_self b h1
  have h6 : 0 ≤ a / b := Int.ediv_nonneg h1 (by omega)
  rw [Int32.toInt_div, zi_toInt (by omega) h2, zi_toInt (by omega) h4, zi_toInt (by omega) (by omega), Int.tdiv_eq_ediv_of_nonneg h1]
  exact Int.bmod_eq_of_le (by omega) (by omega)
section MMach4
variable {RO : zRo} {d : Nat} {P : zP} {I : zI} {J : zJ} {D : zD} {bc bs : Nat} {s : List Int64} {ow tg : Nat} {G : zGm} {B : Nat → Int32} {nt np : Nat}
theorem zmR_cons {a : Nat} {q : zM3} {r : List zM3} {L : List zM3} (h : zmR I a (L ++ q :: r)) : zmR I (a + L.length) (q :: r) := zmR_right h
set_option maxHeartbeats 1000000 in
theorem s_185 {k p a0 : Nat} {o : List zOp} {r : List zM3} (hk : k = 16 ∨ k = 17) (hp : p < 18) (h1 : ow < 4) (h2 : tg < 4) (hw : zwE o) (hvo : zvO nt np o) (hpv : zpv nt np p) (hB : ∀ k, k < 36 → zbv nt np k → I 38 k = B k) (hle : ∀ t, t < 12 → zbv nt np (3 * t) → B (3 * t) ≤ B (3 * t + 1)) (hM : zMb nt np G I J)
    (hc : zmR I a0 (zmw o a0 ++ ((k - 4 : Nat), zi (4 * (p % 6) + p / 6 : Nat), zi (a0 + 1 : Nat)) :: r))
    (kk : ∀ I' J', zMb nt np (zb0 B (k, p, o) ow tg G) I' J' → zfr [46, 47] I I' → zfm [32] [50] J J' → P (.inl none) I' J' D) : zz RO (d + 3) 185 [.ref 28, .int (zi (a0 + o.length + 2 : Nat)), .int (zi ow), .int (zi tg)] I J D bc bs P := by
  have hcq := zmR_cons hc
  rw [zmw_len] at hcq
  obtain ⟨ha, e1, e2, e3⟩ := zmR_at hcq
  rw [← Nat.add_assoc] at ha e1 e2 e3
  have hce : zmR I (a0 + 1) (o.map zmo ++ (450, 0, 0) :: (((k - 4 : Nat), zi (4 * (p % 6) + p / 6 : Nat), zi (a0 + 1 : Nat)) :: r)) := by
    have h9 : zmR I (a0 + 1) ((o.map zmo ++ [(450, 0, 0)]) ++ (((k - 4 : Nat), zi (4 * (p % 6) + p / 6 : Nat), zi (a0 + 1 : Nat)) :: r)) := zmR_tail hc
    rw [List.append_assoc] at h9
    exact h9
  have hin : vp_in (zi ((a0 + o.length + 2 : Nat) : Int)) 1350 := zi_in (by omega) (by omega) (by omega)
  have hp6 : p / 6 < 3 := by omega
  have hpm : p % 6 < 6 := by omega
  have q4 : (zi ((4 * (p % 6) + p / 6 : Nat) : Int)) - zi ((4 * (p % 6) + p / 6 : Nat) : Int) / 4 * 4 = zi ((p / 6 : Nat) : Int) := by
    rw [zlit, zi_mod (by omega) (by omega) (by decide) (by decide)]
    congr 1
    omega
  have q5 : (zi ((4 * (p % 6) + p / 6 : Nat) : Int)) / 4 = zi ((p % 6 : Nat) : Int) := by
    rw [zlit, zi_div (by omega) (by omega) (by decide) (by decide)]
    congr 1
    omega
  -- the same from 38 on, with the place at which tracks lie
  have main : ∀ at6 : Nat, (p / 6 < 2 → at6 = zpl ow tg p) → at6 < 24 → zw RO (d + 2) 185 P 38 [(0, .ref 28), (1, .int (zi (a0 + o.length + 2 : Nat))), (2, .int (zi ow)), (3, .int (zi tg)), (4, .int (zi (p / 6 : Nat))), (5, .int (zi (p % 6 : Nat))), (6, .int (zi at6))] [] I J D bc bs := by
    intro at6 hat hat2
    refine wl_185_38 ⟨hin, ?_⟩
    rw [e3]
    refine s_180 h1 h2 hw hvo hM hce (fun J1 hM1 f1 => ⟨hin, ?_⟩)
    rw [e1]
    have hth : 3 * (p % 6) = 3 * zth (zpl ow tg p) ∨ ¬ p / 6 < 2 := by
      by_cases h : p / 6 < 2
      · left
        rw [← hat h]
        unfold zth
        rw [if_pos hat2]
        have h9 := hat h
        unfold zpl at h9
        (repeat' split at h9) <;> omega
      · right
        exact h
    -- behind the sum: v is what is to be cut
    have tail : ∀ v : Int64, v = (if k = 17 then (G.2.1 (zpl ow tg p)).toInt64 + zvl G ow tg o else zvl G ow tg o) →
        zw RO (d + 2) 185 P 93 [(0, .ref 28), (1, .int (zi (a0 + o.length + 2 : Nat))), (2, .int (zi ow)), (3, .int (zi tg)), (4, .int (zi (p / 6 : Nat))), (5, .int (zi (p % 6 : Nat))), (6, .int (zi at6)), (7, .long v)] [] I J1 D bc bs := by
      intro v hv
      have hfin : ∀ th : Nat, th < 12 → th = zth (zpl ow tg p) → zw RO (d + 2) 185 P 113 [(0, .ref 28), (1, .int (zi (a0 + o.length + 2 : Nat))), (2, .int (zi ow)), (3, .int (zi tg)), (4, .int (zi (p / 6 : Nat))), (5, .int (zi (p % 6 : Nat))), (6, .int (zi at6)), (7, .long v), (9, .int (zi (3 * th : Nat)))] [] I J1 D bc bs := by
        intro th hth12 hth9
        refine wl_185_113 ?_
        rw [zi_succ]
        have c1 : (zi ((3 * th : Nat) : Int)).toNatClampNeg = 3 * th := by rw [zi_cl (by omega) (by omega)]; omega
        have c2 : (zi ((3 * th + 1 : Nat) : Int)).toNatClampNeg = 3 * th + 1 := by rw [zi_cl (by omega) (by omega)]; omega
        have hbv : zbv nt np (3 * th) ∧ zbv nt np (3 * th + 1) := by
          have h9 := hth9
          unfold zpv at hpv
          unfold zbv
          unfold zth zpl at h9
          (repeat' split at h9) <;> omega
        rw [c1, c2, hB _ (by omega) hbv.1, hB _ (by omega) hbv.2, zclp_eq (hle th hth12 hbv.1)]
        refine ⟨zi_in (by omega) (by omega) (by omega), zi_in (by omega) (by omega) (by omega), wl_185_142 ?_⟩
        have hz : ∀ I', zMb nt np (sV (zvG G ow tg o) (zpl ow tg p) (zclp (B (3 * th)) (B (3 * th + 1)) v)) I' J1 → zfr [46, 47] I I' → P (.inl none) I' J1 D := by
          intro I' hM' f'
          refine kk I' J1 ?_ f' f1
          unfold zb0 zsto
          rw [← hth9]
          rcases hk with e | e
          · rw [if_pos e]
            rw [if_neg (by omega)] at hv
            rw [← hv]
            exact hM'
          · rw [if_neg (by show ¬ k = 16; omega), if_pos e]
            rw [if_pos e] at hv
            rw [← hv]
            exact hM'
        rw [zlit, zi_eq (by omega) (by omega)]
        refine ⟨fun hne => ⟨zi_in (by omega) (by omega) (by omega), ?_⟩, fun he => ⟨zi_in (by omega) (by omega) (by omega), ?_⟩⟩
        · have h9 : p / 6 < 2 := by omega
          have ca : (zi (at6 : Int)).toNatClampNeg = at6 := by rw [zi_cl (by omega) (by omega)]; omega
          rw [ca]
          refine hz _ ?_ (zfr_zu (zfr_refl _) _ _ (by simp))
          rw [← hat h9]
          exact zMb_sV hat2 hM1
        · have ca : (zi ((p % 6 : Nat) : Int)).toNatClampNeg = p % 6 := by rw [zi_cl (by omega) (by omega)]; omega
          rw [ca]
          refine hz _ ?_ (zfr_zu (zfr_refl _) _ _ (by simp))
          have e9 : zpl ow tg p = 24 + p % 6 := by
            unfold zpl
            rw [if_neg (by omega), if_neg (by omega)]
            omega
          rw [e9]
          exact zMb_sV2 hpm hM1
      refine wl_185_93 ?_
      rw [show (2 : Int32) = zi 2 from rfl, zi_eq (by omega) (by omega)]
      refine ⟨fun hne => ?_, fun he => ?_⟩
      · have h9 := hfin (p % 6) (by omega) (by rcases hth with h | h <;> omega)
        rw [show (3 : Int32) = zi 3 from rfl, zi_mul]
        exact h9
      · have h9 := hfin (6 + p % 6) (by omega) ?_
        · rw [show (3 : Int32) = zi 3 from rfl, show (6 : Int32) = zi 6 from rfl, zi_add, zi_mul]
          exact h9
        · unfold zth zpl
          rw [if_neg (show ¬ p < 6 by omega), if_neg (show ¬ p < 12 by omega), if_neg (by omega)]
          omega
    have hG : ∀ k, (zvG G ow tg o).2.1 k = G.2.1 k := fun _ => rfl
    rw [show (13 : Int32) = zi 13 from rfl, zi_eq (by omega) (by omega)]
    refine ⟨fun hne => tail _ ?_, fun he => ?_⟩
    · rw [if_neg (by omega)]
    · have h17 : k = 17 := by omega
      rw [show (2 : Int32) = zi 2 from rfl, zi_eq (by omega) (by omega)]
      refine ⟨fun hne => ⟨zi_in (by omega) (by omega) (by omega), tail _ ?_⟩, fun he2 => ⟨zi_in (by omega) (by omega) (by omega), tail _ ?_⟩⟩
      · have ca : (zi (at6 : Int)).toNatClampNeg = at6 := by rw [zi_cl (by omega) (by omega)]; omega
        rw [ca, if_pos h17, hM.2.2.2.2.2.2.2.2.1 at6 hat2 (by have h9 := hat (by omega); unfold zpl at h9; unfold zpv at hpv; (repeat' split at h9) <;> omega), hat (by omega)]
        exact Int64.add_comm _ _
      · have ca : (zi ((p % 6 : Nat) : Int)).toNatClampNeg = p % 6 := by rw [zi_cl (by omega) (by omega)]; omega
        have e9 : zpl ow tg p = 24 + p % 6 := by
          unfold zpl
          rw [if_neg (by omega), if_neg (by omega)]
          omega
        rw [ca, if_pos h17, hM.2.2.2.2.2.2.2.2.2.1 (p % 6) hpm (by unfold zpv at hpv; omega), e9]
        exact Int64.add_comm _ _
  refine w_185 ⟨hin, hin, ?_⟩
  rw [e2, q4, q5]
  rw [show (0 : Int32) = zi 0 from rfl, zi_eq (by omega) (by omega), show (6 : Int32) = zi 6 from rfl, zi_mul, zi_mul, zi_add, zi_add]
  refine ⟨fun hne => ?_, fun he => ?_⟩
  · have h9 := main (tg * 6 + p % 6) (fun h => ?_) (by omega)
    · rw [show (6 : Int) * (tg : Int) + ((p % 6 : Nat) : Int) = ((tg * 6 + p % 6 : Nat) : Int) by omega]
      exact h9
    · unfold zpl
      rw [if_neg (by omega), if_pos (by omega)]
      omega
  · have h9 := main (ow * 6 + p % 6) (fun h => ?_) (by omega)
    · rw [show (6 : Int) * (ow : Int) + ((p % 6 : Nat) : Int) = ((ow * 6 + p % 6 : Nat) : Int) by omega]
      exact h9
    · unfold zpl
      rw [if_pos (by omega)]
      omega
end MMach4
