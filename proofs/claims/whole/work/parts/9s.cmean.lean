/-! ===== the class's meaning: names ===== -/
theorem n_95 {T : qTk} {I : zI} {J : zJ} {k : Nat} (hw : qTw T) (ht : qTc T I) (hk : k < T.2.2.2) : zv_95 I J (zi (k : Int)) = J 6 k := by
  have hN := hw.2.1
  unfold zv_95
  have e1 : ¬ zi (k : Int) < 0 := by
    rw [show (0 : Int32) = zi ((0 : Nat) : Int) from rfl, zi_lt (by omega) (by omega)]
    omega
  have e2 : ¬ I 3 4 ≤ zi (k : Int) := by
    rw [ht.1, zi_le (by omega) (by omega)]
    omega
  have e3 : ¬ (451 : Int32) ≤ zi (k : Int) := by
    rw [show (451 : Int32) = zi ((451 : Nat) : Int) from rfl, zi_le (by omega) (by omega)]
    omega
  have cl : (zi (k : Int)).toNatClampNeg = k := zi_clk (by omega)
  rw [if_neg e1, if_neg e2, if_neg e3, cl]
theorem qFd_no {T : qTk} {c : Nat} {w : Int64} {e e2 : Nat} (h : qFd T c w e = none) (he : e2 ≤ e) : qFd T c w e2 = none := by
  cases q : qFd T c w e2 with
  | none => rfl
  | some n =>
    rw [qFd_mono q he] at h
    cases h
section CMean
variable {RO : zRo} {d : Nat} {P : zP} {I : zI} {J : zJ} {D : zD} {bc bs : Nat} {T : qTk} {k c e2 : Nat}
theorem s_71_6 (hw : qTw T) (ht : qTc T I) (hc : c ≤ 51) (hk : k < T.2.2.2) (h2 : e2 ≤ T.2.2.2) (hJ : ∀ e, 1 ≤ e → e < T.2.2.2 → T.1 (e - 1) = c → J 6 e = T.2.2.1 e) (hJk : J 6 k = T.2.2.1 k) (K : P (.inl (some (.int (oInt (qFd T c (T.2.2.1 k) e2))))) I J D) : ∀ {m e : Nat}, e2 ≤ e + m → 1 ≤ e → e ≤ 460 → qFd T c (T.2.2.1 k) e = none → zw RO (d + 1) 71 P 6 [(0, .ref 19), (1, .int (zi (c : Int))), (2, .int (zi (k : Int))), (3, .int (zi (e2 : Int))), (4, .int (zi (qCn T.1 c (e - 1) : Int))), (5, .int (zi (e : Int)))] [] I J D bc bs
  | m, e, hm, h1, h460, hn => by
    have hN := hw.2.1
    by_cases z : e2 ≤ e
    · have q : zi (e2 : Int) ≤ zi (e : Int) := by
        rw [zi_le (by omega) (by omega)]
        omega
      rw [qFd_no hn z] at K
      exact wl_71_6 ⟨fun _ => K, fun y => absurd q y⟩
    · have q : ¬ zi (e2 : Int) ≤ zi (e : Int) := by
        rw [zi_le (by omega) (by omega)]
        omega
      cases m with
      | zero => omega
      | succ m =>
        have em : zi (e : Int) - 1 = zi ((e - 1 : Nat) : Int) := by
          rw [show (1 : Int32) = zi 1 from rfl, zi_sub]
          congr 1
          omega
        have nx : qFd T c (T.2.2.1 k) (e + 1) = if 1 ≤ e ∧ T.1 (e - 1) = c ∧ T.2.2.1 e = T.2.2.1 k then some (qCn T.1 c (e - 1)) else none := by
          show (match qFd T c (T.2.2.1 k) e with
            | some n => some n
            | none => if 1 ≤ e ∧ T.1 (e - 1) = c ∧ T.2.2.1 e = T.2.2.1 k then some (qCn T.1 c (e - 1)) else none) = _
          rw [hn]
        have cn : qCn T.1 c (e + 1 - 1) = if T.1 (e - 1) = c then qCn T.1 c (e - 1) + 1 else qCn T.1 c (e - 1) := by
          rw [Nat.add_sub_cancel]
          obtain ⟨x, hx⟩ : ∃ x, e = x + 1 := ⟨e - 1, by omega⟩
          rw [hx, Nat.add_sub_cancel]
          rfl
        have v93 : zv_93 I J (zi (e : Int) - 1) = zi (T.1 (e - 1) : Int) := by
          rw [em]
          exact n_93 hw ht (by omega)
        have lt := qTw_le hw (e - 1)
        have ec : zi (T.1 (e - 1) : Int) = zi (c : Int) ↔ T.1 (e - 1) = c := by
          rw [zi_eq (by omega) (by omega)]
          omega
        refine wl_71_6 ⟨fun y => absurd y q, fun _ => ?_⟩
        rw [v93, n_95 hw ht (by omega : e < T.2.2.2), n_95 hw ht hk, hJk, zi_succ, zi_succ]
        refine ⟨fun y => ?_, fun y => ⟨fun y2 => ?_, fun y2 => ?_⟩⟩
        · have y' : ¬ T.1 (e - 1) = c := fun x => y (ec.mpr x)
          rw [if_neg y'] at cn
          rw [← cn]
          exact s_71_6 hw ht hc hk h2 hJ hJk K (m := m) (e := e + 1) (by omega) (by omega) (by omega) (by rw [nx, if_neg (fun x => y' x.2.1)])
        · have y' : T.1 (e - 1) = c := ec.mp (Decidable.not_not.mp y)
          rw [hJ e h1 (by omega) y'] at y2
          rw [if_pos y'] at cn
          rw [← cn]
          exact s_71_6 hw ht hc hk h2 hJ hJk K (m := m) (e := e + 1) (by omega) (by omega) (by omega) (by rw [nx, if_neg (fun x => y2 x.2.2)])
        · have y' : T.1 (e - 1) = c := ec.mp (Decidable.not_not.mp y)
          rw [hJ e h1 (by omega) y'] at y2
          have y3 : T.2.2.1 e = T.2.2.1 k := Decidable.not_not.mp y2
          rw [if_pos ⟨h1, y', y3⟩] at nx
          rw [qFd_mono nx (by omega)] at K
          exact K
/-- the number that a name tells, or -1 -/
theorem s_71 (hw : qTw T) (ht : qTc T I) (hc : c ≤ 51) (hk : k < T.2.2.2) (h2 : e2 ≤ T.2.2.2) (hJ : ∀ e, 1 ≤ e → e < T.2.2.2 → T.1 (e - 1) = c → J 6 e = T.2.2.1 e) (hJk : J 6 k = T.2.2.1 k) (K : P (.inl (some (.int (oInt (qFd T c (T.2.2.1 k) e2))))) I J D) : zz RO (d + 2) 71 [.ref 19, .int (zi (c : Int)), .int (zi (k : Int)), .int (zi (e2 : Int))] I J D bc bs P := by
  refine w_71 (d := d) ?_
  exact s_71_6 hw ht hc hk h2 hJ hJk K (m := e2) (e := 1) (by omega) (by omega) (by omega) rfl
end CMean
