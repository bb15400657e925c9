/-! ===== faces of the game: moves of the reference ===== -/
section Face4
variable {RO : zRo} {d : Nat} {P : zP} {I : zI} {J : zJ} {D : zD} {bc bs : Nat} {m : Nat} {G : zGm} {p : zPg} {z0 : Int64} {J0 : zJ}
theorem f_205_42 {S n : Nat} (hk : zPok p) (hm4 : 2 ≤ m ∧ m ≤ 4) (hO : gOK p m G) (hs : S = 0 ∧ n < gPc p 3 ∨ S = 1 ∧ n < gPc p 4) (hp : zMp p I)
    {T : Int → Prop} (hT : ∀ J (s : Int), T s → zMb (gPc p 0) (gPc p 1) G I J → zMg G z0 I J → zfm [32] [50] J0 J → zw RO (d + 4) 205 P 27 [(0, .ref 28), (1, .int (zi s)), (2, .int (zi (S : Int))), (3, .int (zi (n : Int) + 1))] [] I J D bc bs) :
    ∀ (j t : Nat) {s : Int} {J : zJ}, t + j = m → zMb (gPc p 0) (gPc p 1) G I J → zMg G z0 I J → zfm [32] [50] J0 J → T (s + fR (gAllow p G S n) j t) →
    zw RO (d + 4) 205 P 42 [(0, .ref 28), (1, .int (zi s)), (2, .int (zi (S : Int))), (3, .int (zi (n : Int))), (4, .int (zi (t : Int)))] [] I J D bc bs
  | 0, t, s, J, ht, hM, hS, g, K => by
    refine wl_205_42 ⟨fun _ => ?_, fun q => absurd (by rw [hM.1, hO.1.1.1, zi_le (by omega) (by omega)]; omega) q⟩
    rw [show s + ((fR (gAllow p G S n) 0 t : Nat) : Int) = s from Int.add_zero s] at K
    exact hT J s K hM hS g
  | j + 1, t, s, J, ht, hM, hS, g, K => by
    refine wl_205_42 ⟨fun q => absurd q (by rw [hM.1, hO.1.1.1, zi_le (by omega) (by omega)]; omega), fun _ => ?_⟩
    refine n_198 (m := m) (d := d) (sort := S) (num := n) (tg := t) hk hm4 hO.1 hs (by omega) hp hM hS (fun J1 hM1 hS1 g1 => ?_)
    rw [zi_succ]
    by_cases hal : gAllow p G S n t = true
    · rw [if_pos hal]
      refine ⟨fun q => absurd q (by decide), fun _ => ?_⟩
      rw [show zi s + 1 = zi (s + 1) by rw [show (1 : Int32) = zi 1 from rfl, zi_add]]
      refine f_205_42 hk hm4 hO hs hp hT j (t + 1) (by omega) hM1 hS1 (zfm_trans g g1) ?_
      rw [show s + ((fR (gAllow p G S n) (j + 1) t : Nat) : Int) = s + 1 + ((fR (gAllow p G S n) j (t + 1) : Nat) : Int) by
        show s + (((if gAllow p G S n t = true then 1 else 0) + fR (gAllow p G S n) j (t + 1) : Nat) : Int) = _
        rw [if_pos hal]
        omega] at K
      exact K
    · rw [if_neg hal]
      refine ⟨fun _ => ?_, fun q => absurd rfl q⟩
      rw [show zi s + 0 = zi s by rw [show (0 : Int32) = zi 0 from rfl, zi_add, Int.add_zero]]
      refine f_205_42 hk hm4 hO hs hp hT j (t + 1) (by omega) hM1 hS1 (zfm_trans g g1) ?_
      rw [show s + ((fR (gAllow p G S n) (j + 1) t : Nat) : Int) = s + ((fR (gAllow p G S n) j (t + 1) : Nat) : Int) by
        show s + (((if gAllow p G S n t = true then 1 else 0) + fR (gAllow p G S n) j (t + 1) : Nat) : Int) = _
        rw [if_neg hal]
        omega] at K
      exact K
theorem f_205_27 {S c : Nat} (hk : zPok p) (hm4 : 2 ≤ m ∧ m ≤ 4) (hO : gOK p m G) (hs : S = 0 ∧ c = gPc p 3 ∨ S = 1 ∧ c = gPc p 4) (hp : zMp p I)
    {T : Int → Prop} (hT : ∀ J (s : Int), T s → zMb (gPc p 0) (gPc p 1) G I J → zMg G z0 I J → zfm [32] [50] J0 J → zw RO (d + 4) 205 P 20 [(0, .ref 28), (1, .int (zi s)), (2, .int (zi (S : Int) + 1))] [] I J D bc bs) :
    ∀ (j n : Nat) {s : Int} {J : zJ}, n + j = c → zMb (gPc p 0) (gPc p 1) G I J → zMg G z0 I J → zfm [32] [50] J0 J → T (s + fRR (gAllow p G S) m j n) →
    zw RO (d + 4) 205 P 27 [(0, .ref 28), (1, .int (zi s)), (2, .int (zi (S : Int))), (3, .int (zi (n : Int)))] [] I J D bc bs := by
  have hc := hk.1
  have e5 : (5 : Int32) + zi (S : Int) = zi ((5 + S : Nat) : Int) := by
    rw [show (5 : Int32) = zi 5 from rfl, zi_add]
    congr 1
  have ecl : (zi ((5 + S : Nat) : Int)).toNatClampNeg = 5 + S := by rw [zi_cl (by omega) (by omega)]; omega
  have e37 : I 37 (5 + S) = zi (c : Int) := by
    rcases hs with ⟨h, h2⟩ | ⟨h, h2⟩ <;> subst h <;> rw [h2]
    · exact hp.1.2.2 3 (by omega) (by omega)
    · exact hp.1.2.2 4 (by omega) (by omega)
  intro j
  induction j with
  | zero =>
    intro n s J hn hM hS g K
    refine wl_205_27 ?_
    rw [e5, ecl, e37]
    refine ⟨zi_in (by omega) (by omega) (by omega), fun _ => ?_, fun q => absurd (by rw [zi_le (by omega) (by omega)]; omega) q⟩
    rw [show s + ((fRR (gAllow p G S) m 0 n : Nat) : Int) = s from Int.add_zero s] at K
    exact hT J s K hM hS g
  | succ j ih =>
    intro n s J hn hM hS g K
    refine wl_205_27 ?_
    rw [e5, ecl, e37]
    refine ⟨zi_in (by omega) (by omega) (by omega), fun q => absurd q (by rw [zi_le (by omega) (by omega)]; omega), fun _ => ?_⟩
    refine f_205_42 (T := fun s' => s' = s + ((fR (gAllow p G S n) m 0 : Nat) : Int)) (n := n) hk hm4 hO (by omega) hp (fun J1 s1 he hM1 hS1 g1 => ?_) m 0 (by omega) hM hS g rfl
    rw [zi_succ]
    refine ih (n + 1) (by omega) hM1 hS1 g1 ?_
    rw [show s + ((fRR (gAllow p G S) m (j + 1) n : Nat) : Int) = s1 + ((fRR (gAllow p G S) m j (n + 1) : Nat) : Int) by
      show s + ((fR (gAllow p G S n) m 0 + fRR (gAllow p G S) m j (n + 1) : Nat) : Int) = _
      omega] at K
    exact K
theorem f_205 (hk : zPok p) (hm4 : 2 ≤ m ∧ m ≤ 4) (hO : gOK p m G) (hp : zMp p I) (hM : zMb (gPc p 0) (gPc p 1) G I J) (hS : zMg G z0 I J)
    (K : ∀ J', zMb (gPc p 0) (gPc p 1) G (zu I 28 0 0) J' → zMg G z0 (zu I 28 0 0) J' → zfm [32] [50] J J' → P (.inl (some (.int (zi (fMoves p m G))))) (zu I 28 0 0) J' D) : zz RO (d + 5) 205 [.ref 28] I J D bc bs P := by
  have hp0 := zMp_0 hp 0
  have main : ∀ s : Int, fMoves p m G = s + (fRR (gAllow p G 0) m (gPc p 3) 0 + fRR (gAllow p G 1) m (gPc p 4) 0 : Nat) → zw RO (d + 4) 205 P 20 [(0, .ref 28), (1, .int (zi s)), (2, .int 0)] [] (zu I 28 0 0) J D bc bs := by
    intro s hs
    refine wl_205_20 ⟨fun q => absurd q (by decide), fun _ => ?_⟩
    refine f_205_27 (d := d) (S := 0) (c := gPc p 3) (J0 := J) (T := fun s' => s' = s + ((fRR (gAllow p G 0) m (gPc p 3) 0 : Nat) : Int)) hk hm4 hO (Or.inl ⟨rfl, rfl⟩) hp0 (fun J1 s1 he hM1 hS1 g1 => ?_) (gPc p 3) 0 (by omega) (zMb_0 hM 0) (zMg_0 hS 0) (zfm_refl _) rfl
    refine wl_205_20 ⟨fun q => absurd q (by decide), fun _ => ?_⟩
    refine f_205_27 (d := d) (S := 1) (c := gPc p 4) (J0 := J) (T := fun s' => s' = s1 + ((fRR (gAllow p G 1) m (gPc p 4) 0 : Nat) : Int)) hk hm4 hO (Or.inr ⟨rfl, rfl⟩) hp0 (fun J2 s2 he2 hM2 hS2 g2 => ?_) (gPc p 4) 0 (by omega) hM1 hS1 g1 rfl
    refine wl_205_20 ⟨fun _ => ?_, fun q => absurd (by decide) q⟩
    have k9 := K J2 hM2 hS2 g2
    rw [show fMoves p m G = s2 by rw [hs]; omega] at k9
    exact k9
  refine w_205 ?_
  rw [n_196 hm4 hO.1 (zMb_0 hM 0) (zMg_0 hS 0)]
  by_cases h9 : G.1 9 = 0
  · rw [if_pos h9]
    refine ⟨fun q => absurd q (by decide), fun _ => main 1 ?_⟩
    unfold fMoves
    rw [if_pos h9]
  · rw [if_neg h9]
    refine ⟨fun _ => main 0 ?_, fun q => absurd rfl q⟩
    have e0 : ∀ S n t, ¬ gAllow p G S n t = true := fun S n t q => h9 (gAllow_s q).1
    unfold fMoves
    rw [if_neg h9, fRR_0 (e0 0), fRR_0 (e0 1)]
    rfl
end Face4
