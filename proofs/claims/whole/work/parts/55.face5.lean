/-! ===== faces of the game: back ===== -/
def gRun (p : zPg) (m : Nat) (z : Int64) (l : List zR4) : zGm := l.foldl (fun G r => gMake p G (r 0) (r 1) (r 2)) (gStart p m z)
theorem gRun_app {p : zPg} {m : Nat} {z : Int64} {l : List zR4} {r : zR4} : gRun p m z (l ++ [r]) = gMake p (gRun p m z l) (r 0) (r 1) (r 2) := by
  unfold gRun
  rw [List.foldl_append]
  rfl
/-- a game that came about by moves -/
def gTr (p : zPg) (m : Nat) (z : Int64) (G : zGm) : Prop := gRun p m z G.2.2.2.1 = G ∧ ∀ k, k < G.2.2.2.1.length → (gRun p m z (G.2.2.2.1.take k)).2.2.2.1 = G.2.2.2.1.take k ∧ (gRun p m z (G.2.2.2.1.take k)).1 9 = 0 ∧ gMay p m (gRun p m z (G.2.2.2.1.take k)) (G.2.2.2.1.getD k z4 0) (G.2.2.2.1.getD k z4 1) (G.2.2.2.1.getD k z4 2)
theorem gTr_start {p : zPg} {m : Nat} {z : Int64} : gTr p m z (gStart p m z) := by
  refine ⟨by rw [gStart_r]; rfl, fun k hk => ?_⟩
  rw [gStart_r] at hk
  exact absurd hk (Nat.not_lt_zero k)
theorem gTr_make {p : zPg} {m : Nat} {z : Int64} {G : zGm} {sort num tg : Int} (h : gTr p m z G) (h9 : G.1 9 = 0) (hv : gMay p m G sort num tg) : gTr p m z (gMake p G sort num tg) := by
  refine ⟨by rw [gMake_r, gRun_app, h.1]; rfl, fun k hk => ?_⟩
  rw [gMake_r] at hk ⊢
  rw [List.length_append] at hk
  have hk : k < G.2.2.2.1.length + 1 := hk
  by_cases c : k < G.2.2.2.1.length
  · rw [List.take_append_of_le_length (by omega), zgd_app, if_pos c]
    exact h.2 k c
  · have ek : k = G.2.2.2.1.length := by omega
    rw [List.take_append_of_le_length (by omega), zgd_app, if_neg c, if_pos ek, ek, List.take_length, h.1]
    exact ⟨rfl, h9, hv⟩
theorem gTr_step {p : zPg} {m : Nat} {z : Int64} {G : zGm} {k : Nat} (hk : k < G.2.2.2.1.length) : gRun p m z (G.2.2.2.1.take (k + 1)) = gMake p (gRun p m z (G.2.2.2.1.take k)) (G.2.2.2.1.getD k z4 0) (G.2.2.2.1.getD k z4 1) (G.2.2.2.1.getD k z4 2) := by
  rw [List.take_add_one, List.getElem?_eq_getElem hk]
  show gRun p m z (List.take k G.2.2.2.1 ++ [G.2.2.2.1[k]]) = _
  rw [gRun_app, List.getD_eq_getElem?_getD, List.getElem?_eq_getElem hk]
  rfl
theorem gTr_rec {p : zPg} {m : Nat} {z : Int64} {G : zGm} (h : gTr p m z G) {k : Nat} (hk : k ≤ G.2.2.2.1.length) : (gRun p m z (G.2.2.2.1.take k)).2.2.2.1 = G.2.2.2.1.take k := by
  by_cases c : k < G.2.2.2.1.length
  · exact (h.2 k c).1
  · have ek : k = G.2.2.2.1.length := by omega
    rw [ek, List.take_length, h.1]
theorem gTr_at {p : zPg} {m : Nat} {z : Int64} {G : zGm} (h : gTr p m z G) {k : Nat} (hk : k ≤ G.2.2.2.1.length) : gTr p m z (gRun p m z (G.2.2.2.1.take k)) := by
  unfold gTr
  rw [gTr_rec h hk]
  refine ⟨rfl, fun j hj => ?_⟩
  rw [List.length_take] at hj
  have hj2 : j < k := by omega
  rw [List.take_take, Nat.min_eq_left (by omega), List.getD_eq_getElem?_getD, List.getElem?_take_of_lt hj2, ← List.getD_eq_getElem?_getD]
  exact h.2 j (by omega)
theorem gTr_okk {p : zPg} {m : Nat} {z : Int64} {G : zGm} (hk : zPok p) (hm : 2 ≤ m ∧ m ≤ 4) (h : gTr p m z G) : ∀ k, k ≤ G.2.2.2.1.length → gOK p m (gRun p m z (G.2.2.2.1.take k)) := by
  intro k
  induction k with
  | zero => exact fun _ => gOK_start hk hm
  | succ k ih =>
    intro hl
    rw [gTr_step hl]
    exact gOK_make hk hm (ih (by omega)) (h.2 k hl).2.1 (h.2 k hl).2.2
theorem gTr_ok {p : zPg} {m : Nat} {z : Int64} {G : zGm} (hk : zPok p) (hm : 2 ≤ m ∧ m ≤ 4) (h : gTr p m z G) : gOK p m G := by
  have h1 := gTr_okk hk hm h G.2.2.2.1.length (Nat.le_refl _)
  rw [List.take_length, h.1] at h1
  exact h1
section Face5
variable {RO : zRo} {d : Nat} {P : zP} {I : zI} {J : zJ} {D : zD} {bc bs : Nat} {m : Nat} {G : zGm} {p : zPg} {z0 : Int64} {I0 : zI} {J0 : zJ}
theorem n_31 {k w : Nat} (h : 4 * k + w < 1000) : zv_31 I J (zi k) (zi w) = I 27 (4 * k + w) := by
  unfold zv_31
  have e : zi (k : Int) * 4 + zi (w : Int) = zi ((4 * k + w : Nat) : Int) := by
    rw [show (4 : Int32) = zi 4 from rfl, zi_mul, zi_add]
    congr 1
    omega
  rw [e, if_neg (by rw [show (0 : Int32) = zi 0 from rfl, zi_lt (by omega) (by omega)]; omega), if_neg (by rw [show (1000 : Int32) = zi 1000 from rfl, zi_le (by omega) (by omega)]; omega), zi_cl (by omega) (by omega)]
  rfl
theorem f_125_69 {n : Nat} (hk : zPok p) (hm4 : 2 ≤ m ∧ m ≤ 4) (hTr : gTr p m z0 G) (hn : n ≤ G.2.2.2.1.length)
    (K : ∀ I' J', zTb (gRun p m z0 (G.2.2.2.1.take n)) I' J' → zCs (gRun p m z0 (G.2.2.2.1.take n)) z0 I' J' → zfr [20, 21, 22, 23, 24, 26, 27] I0 I' → zfr [20, 23, 25] J0 J' → P (.inl (some (.int (zi ((gRun p m z0 (G.2.2.2.1.take n)).1 9))))) I' J' D) :
    ∀ (j k : Nat) {I : zI} {J : zJ}, k + j = n → zCp p I → zTb (gRun p m z0 (G.2.2.2.1.take k)) I J → zCs (gRun p m z0 (G.2.2.2.1.take k)) z0 I J → (∀ i w, k ≤ i → i < G.2.2.2.1.length → w < 4 → I 27 (4 * i + w) = zi (G.2.2.2.1.getD i z4 w)) → zfr [20, 21, 22, 23, 24, 26, 27] I0 I → zfr [20, 23, 25] J0 J →
    zw RO (d + 7) 125 P 69 [(0, .ref 0), (1, .int (zi (n : Int))), (2, .int (zi (k : Int)))] [] I J D bc bs
  | 0, k, I, J, hj, hp, hT, hC, h27, f, g => by
    have ek : k = n := by omega
    have hl := (gTr_ok hk hm4 hTr).2.2.2.2.1
    subst ek
    refine wl_125_69 ⟨fun _ => ?_, fun q => absurd (by rw [zi_le (by omega) (by omega)]; omega) q⟩
    have k9 := K I J hT hC f g
    rw [← hC.2.1] at k9
    exact k9
  | j + 1, k, I, J, hj, hp, hT, hC, h27, f, g => by
    have hl := (gTr_ok hk hm4 hTr).2.2.2.2.1
    obtain ⟨t2, t3, t4⟩ := hTr.2 k (by omega)
    have hlen : (gRun p m z0 (G.2.2.2.1.take k)).2.2.2.1.length = k := by rw [t2, List.length_take]; omega
    refine wl_125_69 ⟨fun q => absurd q (by rw [zi_le (by omega) (by omega)]; omega), fun _ => ?_⟩
    rw [show (0 : Int32) = zi ((0 : Nat) : Int) from rfl, show (1 : Int32) = zi ((1 : Nat) : Int) from rfl, show (2 : Int32) = zi ((2 : Nat) : Int) from rfl, n_31 (by omega), n_31 (by omega), n_31 (by omega), h27 k 0 (by omega) (by omega) (by omega), h27 k 1 (by omega) (by omega) (by omega), h27 k 2 (by omega) (by omega) (by omega)]
    refine s_34 (m := m) (d := d) hk hm4 (gTr_okk hk hm4 hTr k (by omega)).1 t3 t4 (by omega) hp hT hC (fun I1 J1 hT1 hC1 f1 g1 n1 => ?_)
    rw [← gTr_step (p := p) (m := m) (z := z0) (G := G) (k := k) (by omega)] at hT1 hC1
    rw [show zi (k : Int) + zi ((1 : Nat) : Int) = zi ((k + 1 : Nat) : Int) by rw [zi_add]; congr 1]
    refine f_125_69 hk hm4 hTr hn K j (k + 1) (by omega) (zCp_keep hp f1) hT1 hC1 (fun i w hi hi2 hw => ?_) (zfr_trans f f1) (zfr_trans g (zfr_sub g1 (by simp)))
    rw [n1 (4 * i + w) (by omega)]
    exact h27 i w (by omega) hi2 hw
theorem f_125 {a : Int} (ha : -2147483648 ≤ a ∧ a < 2147483648) (hk : zPok p) (hm4 : 2 ≤ m ∧ m ≤ 4) (hTr : gTr p m z0 G) (hbb : 1 ≤ bc ∧ 6 ≤ bs) (hp : zCp p I) (hT : zTb G I J) (hC : zCs G z0 I J)
    (k1 : ¬ (0 ≤ a ∧ a ≤ G.2.2.2.1.length) → P (.inr (1, 0, 0)) I J D)
    (k3 : (0 ≤ a ∧ a ≤ G.2.2.2.1.length) → ∀ I' J', zTb (gRun p m z0 (G.2.2.2.1.take a.toNat)) I' J' → zCs (gRun p m z0 (G.2.2.2.1.take a.toNat)) z0 I' J' → zfr [20, 21, 22, 23, 24, 26, 27] I I' → zfr [20, 23, 25] J J' → P (.inl (some (.int (zi ((gRun p m z0 (G.2.2.2.1.take a.toNat)).1 9))))) I' J' D) :
    zz RO (d + 8) 125 [.ref 0, .int (zi a)] I J D bc bs P := by
  have hO := gTr_ok hk hm4 hTr
  have hl := hO.2.2.2.2.1
  have r9 := hO.1.1.2.2.1.2.2.2.2
  have i1 : zi a < 0 ↔ a < 0 := by rw [show (0 : Int32) = zi 0 from rfl, zi_lt ha (by omega)]
  have i2 : zi a ≤ zi (G.2.2.2.1.length : Int) ↔ a ≤ G.2.2.2.1.length := zi_le ha (by omega)
  have i3 : zi (G.1 9) = (-1 : Int32) ↔ False := ⟨fun q => by rw [show (-1 : Int32) = zi (-1) from rfl, zi_eq (by omega) (by omega)] at q; omega, fun q => q.elim⟩
  refine w_125 ?_
  rw [hC.1, hC.2.1, hT.1, hO.1.1.1, hC.2.2.2.2.2.1, i1, i2, i3]
  refine ⟨fun q => ⟨hbb, k1 (by omega)⟩, fun q => ⟨fun q2 => ⟨fun _ => ?_, fun z => absurd (fun y => y) z⟩, fun q2 => ⟨hbb, k1 (by omega)⟩⟩⟩
  have ea : zi a = zi ((a.toNat : Nat) : Int) := by congr 1; omega
  rw [ea]
  refine s_28 (m := m) hk hm4 hp (fun I1 J1 hT1 hC1 f1 g1 => ?_)
  refine f_125_69 (I0 := I) (J0 := J) (n := a.toNat) hk hm4 hTr (by omega) (k3 (by omega)) a.toNat 0 (by omega) (zCp_keep hp (zfr_sub f1 (by simp))) hT1 hC1 (fun i w _ hi hw => ?_) (zfr_sub f1 (by simp)) g1
  rw [f1 27 (by simp)]
  exact hC.2.2.2.2.2.2 i w hi hw
end Face5
