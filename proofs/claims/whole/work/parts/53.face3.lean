/-! ===== faces of the game: moves ===== -/
def fR (f : Nat → Bool) : Nat → Nat → Nat
  | 0, _ => 0
  | j + 1, t => (if f t = true then 1 else 0) + fR f j (t + 1)
def fRR (f : Nat → Nat → Bool) (m : Nat) : Nat → Nat → Nat
  | 0, _ => 0
  | j + 1, n => fR (f n) m 0 + fRR f m j (n + 1)
theorem fR_0 {f : Nat → Bool} (h : ∀ t, ¬ f t = true) : ∀ (j t : Nat), fR f j t = 0
  | 0, _ => rfl
  | j + 1, t => by
    show (if f t = true then 1 else 0) + fR f j (t + 1) = 0
    rw [if_neg (h t), fR_0 h j (t + 1)]
theorem fRR_0 {f : Nat → Nat → Bool} {m : Nat} (h : ∀ n t, ¬ f n t = true) : ∀ (j n : Nat), fRR f m j n = 0
  | 0, _ => rfl
  | j + 1, n => by
    show fR (f n) m 0 + fRR f m j (n + 1) = 0
    rw [fR_0 (h n), fRR_0 h j (n + 1)]
/-- how many moves can be made -/
def fMoves (p : zPg) (m : Nat) (G : zGm) : Int := if G.1 9 = 0 then 1 + (fRR (gAllow p G 0) m (gPc p 3) 0 + fRR (gAllow p G 1) m (gPc p 4) 0 : Nat) else 0
theorem gAllow_s {p : zPg} {G : zGm} {sort num tg : Nat} (h : gAllow p G sort num tg = true) : G.1 9 = 0 ∧ (sort = 0 ∧ G.2.2.1.isEmpty = true ∨ sort = 1 ∧ ¬ G.2.2.1.isEmpty = true) := by
  unfold gAllow at h
  by_cases c : G.1 9 = 0 ∧ (sort = 0 ∧ G.2.2.1.isEmpty = true ∧ ((gPa p (G.1 2).toNat >>> (zi num &&& 31)) &&& 1) = 1 ∧ gWhen p num G (gT G) tg = true ∨ sort = 1 ∧ ¬ G.2.2.1.isEmpty = true ∧ G.2.2.1.length < 10 ∧ gWhen p (12 + num) G (G.1 3).toNat tg = true)
  · refine ⟨c.1, ?_⟩
    rcases c.2 with q | q
    · exact Or.inl ⟨q.1, q.2.1⟩
    · exact Or.inr ⟨q.1, q.2.1⟩
  · rw [if_neg c] at h
    exact absurd h (by decide)
section Face3
variable {RO : zRo} {d : Nat} {P : zP} {I : zI} {J : zJ} {D : zD} {bc bs : Nat} {m : Nat} {G : zGm} {p : zPg} {z0 : Int64} {I0 : zI} {J0 : zJ}
theorem f_118_71 {S n c : Nat} (hk : zPok p) (hm4 : 2 ≤ m ∧ m ≤ 4) (hO : gOK p m G) (hs : S = 0 ∧ n < gPc p 3 ∨ S = 1 ∧ n < gPc p 4)
    {T : zI → zJ → Int → Prop} (hT : ∀ I J (s : Int), T I J s → zCp p I → zTb G I J → zCs G z0 I J → zfr [24] I0 I → zfr [20, 25] J0 J → zw RO (d + 5) 118 P 62 [(0, .ref 0), (1, .int (zi (S : Int))), (2, .int (zi (c : Int))), (3, .int (zi (m : Int))), (4, .int (zi s)), (5, .int (zi (n : Int) + 1))] [] I J D bc bs) :
    ∀ (j t : Nat) {s : Int} {I : zI} {J : zJ}, t + j = m → zCp p I → zTb G I J → zCs G z0 I J → zfr [24] I0 I → zfr [20, 25] J0 J → (∀ I' J', T I' J' (s + fR (gAllow p G S n) j t)) →
    zw RO (d + 5) 118 P 71 [(0, .ref 0), (1, .int (zi (S : Int))), (2, .int (zi (c : Int))), (3, .int (zi (m : Int))), (4, .int (zi s)), (5, .int (zi (n : Int))), (6, .int (zi (t : Int)))] [] I J D bc bs
  | 0, t, s, I, J, ht, hp, hTb, hC, f, g, K => by
    refine wl_118_71 ⟨fun _ => ?_, fun q => absurd (by rw [zi_le (by omega) (by omega)]; omega) q⟩
    have k9 := K I J
    rw [show s + ((fR (gAllow p G S n) 0 t : Nat) : Int) = s from Int.add_zero s] at k9
    exact hT I J s k9 hp hTb hC f g
  | j + 1, t, s, I, J, ht, hp, hTb, hC, f, g, K => by
    refine wl_118_71 ⟨fun q => absurd q (by rw [zi_le (by omega) (by omega)]; omega), fun _ => ?_⟩
    refine s_32 (m := m) (d := d) (sort := S) (num := n) (tg := t) hk hm4 hO.1 hs (by omega) hp hTb hC (fun I1 J1 hT1 hC1 f1 g1 => ?_)
    rw [zi_succ]
    have hp1 := zCp_keep hp (zfr_sub f1 (by simp))
    by_cases hal : gAllow p G S n t = true
    · rw [if_pos hal]
      refine ⟨fun q => absurd q (by decide), fun _ => ?_⟩
      rw [show zi s + 1 = zi (s + 1) by rw [show (1 : Int32) = zi 1 from rfl, zi_add]]
      refine f_118_71 hk hm4 hO hs hT j (t + 1) (by omega) hp1 hT1 hC1 (zfr_trans f f1) (zfr_trans g g1) (fun I' J' => ?_)
      have k9 := K I' J'
      rw [show s + ((fR (gAllow p G S n) (j + 1) t : Nat) : Int) = s + 1 + ((fR (gAllow p G S n) j (t + 1) : Nat) : Int) by
        show s + (((if gAllow p G S n t = true then 1 else 0) + fR (gAllow p G S n) j (t + 1) : Nat) : Int) = _
        rw [if_pos hal]
        omega] at k9
      exact k9
    · rw [if_neg hal]
      refine ⟨fun _ => ?_, fun q => absurd rfl q⟩
      refine f_118_71 hk hm4 hO hs hT j (t + 1) (by omega) hp1 hT1 hC1 (zfr_trans f f1) (zfr_trans g g1) (fun I' J' => ?_)
      have k9 := K I' J'
      rw [show s + ((fR (gAllow p G S n) (j + 1) t : Nat) : Int) = s + ((fR (gAllow p G S n) j (t + 1) : Nat) : Int) by
        show s + (((if gAllow p G S n t = true then 1 else 0) + fR (gAllow p G S n) j (t + 1) : Nat) : Int) = _
        rw [if_neg hal]
        omega] at k9
      exact k9
theorem f_118_62 {S c : Nat} (hk : zPok p) (hm4 : 2 ≤ m ∧ m ≤ 4) (hO : gOK p m G) (hs : S = 0 ∧ c = gPc p 3 ∨ S = 1 ∧ c = gPc p 4) :
    ∀ (j n : Nat) {s : Int} {I : zI} {J : zJ}, n + j = c → zCp p I → zTb G I J → zCs G z0 I J → zfr [24] I0 I → zfr [20, 25] J0 J → (∀ I' J', zTb G I' J' → zCs G z0 I' J' → zfr [24] I0 I' → zfr [20, 25] J0 J' → P (.inl (some (.int (zi (s + fRR (gAllow p G S) m j n))))) I' J' D) →
    zw RO (d + 5) 118 P 62 [(0, .ref 0), (1, .int (zi (S : Int))), (2, .int (zi (c : Int))), (3, .int (zi (m : Int))), (4, .int (zi s)), (5, .int (zi (n : Int)))] [] I J D bc bs
  | 0, n, s, I, J, hn, hp, hTb, hC, f, g, K => by
    have hc := hk.1
    refine wl_118_62 ⟨fun _ => ?_, fun q => absurd (by rw [zi_le (by omega) (by omega)]; omega) q⟩
    have k9 := K I J hTb hC f g
    rw [show s + ((fRR (gAllow p G S) m 0 n : Nat) : Int) = s from Int.add_zero s] at k9
    exact k9
  | j + 1, n, s, I, J, hn, hp, hTb, hC, f, g, K => by
    have hc := hk.1
    refine wl_118_62 ⟨fun q => absurd q (by rw [zi_le (by omega) (by omega)]; omega), fun _ => ?_⟩
    refine f_118_71 (T := fun I J s' => s' = s + ((fR (gAllow p G S n) m 0 : Nat) : Int)) (n := n) hk hm4 hO (by omega) (fun I1 J1 s1 he hp1 hT1 hC1 f1 g1 => ?_) m 0 (by omega) hp hTb hC f g (fun _ _ => rfl)
    rw [zi_succ]
    refine f_118_62 hk hm4 hO hs j (n + 1) (by omega) hp1 hT1 hC1 f1 g1 (fun I2 J2 hT2 hC2 f2 g2 => ?_)
    have k9 := K I2 J2 hT2 hC2 f2 g2
    rw [show s + ((fRR (gAllow p G S) m (j + 1) n : Nat) : Int) = s1 + ((fRR (gAllow p G S) m j (n + 1) : Nat) : Int) by
      show s + ((fR (gAllow p G S n) m 0 + fRR (gAllow p G S) m j (n + 1) : Nat) : Int) = _
      omega] at k9
    exact k9
theorem f_118 (hk : zPok p) (hm4 : 2 ≤ m ∧ m ≤ 4) (hO : gOK p m G) (hp : zCp p I) (hT : zTb G I J) (hC : zCs G z0 I J)
    (K : ∀ I' J', zTb G I' J' → zCs G z0 I' J' → zfr [24] I I' → zfr [20, 25] J J' → P (.inl (some (.int (zi (fMoves p m G))))) I' J' D) : zz RO (d + 6) 118 [.ref 0] I J D bc bs P := by
  have r9 := hO.1.1.2.2.1.2.2.2.2
  have hll := hO.1.1.2.2.2.1
  have hc := hk.1
  refine w_118 ?_
  rw [hC.2.1, hT.2.1, show zi (G.1 9) = 0 ↔ G.1 9 = 0 by rw [show (0 : Int32) = zi 0 from rfl, zi_eq (by omega) (by omega)], show zi (G.2.2.1.length : Int) = 0 ↔ (G.2.2.1.length : Int) = 0 by rw [show (0 : Int32) = zi 0 from rfl, zi_eq (by omega) (by omega)]]
  rw [show (4 : Int32) = zi ((4 : Nat) : Int) from rfl, show (3 : Int32) = zi ((3 : Nat) : Int) from rfl, zv75_at (by omega), zv75_at (by omega), hp.1 3 (by omega), hp.1 4 (by omega), hT.1, hO.1.1.1]
  have e12a : (if (12 : Int32) < zi (gPc p 4 : Int) then 12 else zi (gPc p 4 : Int)) = zi (gPc p 4 : Int) := if_neg (by rw [show (12 : Int32) = zi 12 from rfl, zi_lt (by omega) (by omega)]; omega)
  have e12b : (if (12 : Int32) < zi (gPc p 3 : Int) then 12 else zi (gPc p 3 : Int)) = zi (gPc p 3 : Int) := if_neg (by rw [show (12 : Int32) = zi 12 from rfl, zi_lt (by omega) (by omega)]; omega)
  have e4 : (if zi ((4 : Nat) : Int) < zi (m : Int) then zi ((4 : Nat) : Int) else zi (m : Int)) = zi (m : Int) := if_neg (by rw [zi_lt (by omega) (by omega)]; omega)
  rw [e12a, e12b, e4]
  refine ⟨fun h9 => ⟨fun hs => ?_, fun hs => ?_⟩, fun h9 => ?_⟩
  · refine f_118_62 (d := d) (S := 1) (I0 := I) (J0 := J) hk hm4 hO (Or.inr ⟨rfl, rfl⟩) (gPc p 4) 0 (s := 1) (by omega) hp hT hC (zfr_refl _) (zfr_refl _) (fun I1 J1 hT1 hC1 f1 g1 => ?_)
    have k9 := K I1 J1 hT1 hC1 f1 g1
    have e0 : fRR (gAllow p G 0) m (gPc p 3) 0 = 0 := fRR_0 (fun n t q => by
      rcases (gAllow_s q).2 with z | z
      · rw [List.isEmpty_iff.mp z.2] at hs
        exact hs rfl
      · exact absurd z.1 (by decide)) _ _
    unfold fMoves at k9
    rw [if_pos h9, e0, Nat.zero_add] at k9
    exact k9
  · have hs0 : G.2.2.1 = [] := List.length_eq_zero_iff.mp (by omega)
    refine f_118_62 (d := d) (S := 0) (I0 := I) (J0 := J) hk hm4 hO (Or.inl ⟨rfl, rfl⟩) (gPc p 3) 0 (s := 1) (by omega) hp hT hC (zfr_refl _) (zfr_refl _) (fun I1 J1 hT1 hC1 f1 g1 => ?_)
    have k9 := K I1 J1 hT1 hC1 f1 g1
    have e0 : fRR (gAllow p G 1) m (gPc p 4) 0 = 0 := fRR_0 (fun n t q => by
      rcases (gAllow_s q).2 with z | z
      · exact absurd z.1 (by decide)
      · exact z.2 (by rw [hs0]; rfl)) _ _
    unfold fMoves at k9
    rw [if_pos h9, e0, Nat.add_zero] at k9
    exact k9
  · have k9 := K I J hT hC (zfr_refl _) (zfr_refl _)
    unfold fMoves at k9
    rw [if_neg h9] at k9
    exact k9
end Face3
