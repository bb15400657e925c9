/-! ===== the reference's machine: worth, assign; its code of statements ===== -/
/-- an expression, behind a goto that goes round it, at address a: it begins at a + 1 -/
def zmw (o : List zOp) (a : Nat) : List zM3 := (301, zi (a + o.length + 2 : Nat), 0) :: (o.map zmo ++ [(450, 0, 0)])
theorem zmw_len {o : List zOp} {a : Nat} : (zmw o a).length = o.length + 2 := by
  unfold zmw
  rw [List.length_cons, List.length_append, List.length_map]
  rfl
section MMach3
variable {RO : zRo} {d : Nat} {P : zP} {I : zI} {J : zJ} {D : zD} {bc bs : Nat} {s : List Int64} {ow tg : Nat} {G : zGm} {B : Nat → Int32} {nt np : Nat}
theorem zev_one {o : List zOp} (hw : zwE o) : (zev G ow tg o ([], G.2.2.2.2)).1 = [zvl G ow tg o] := by
  have hl := zev_len (G := G) (ow := ow) (tg := tg) o hw (s := []) (z := G.2.2.2.2) rfl
  unfold zvl
  generalize (zev G ow tg o ([], G.2.2.2.2)).1 = l at hl
  match l, hl with
  | [x], _ => rfl
theorem s_180 {o : List zOp} {a : Nat} {r : List zM3} (h1 : ow < 4) (h2 : tg < 4) (hw : zwE o) (hvo : zvO nt np o) (hM : zMb nt np G I J) (hc : zmR I a (o.map zmo ++ (450, 0, 0) :: r))
    (k : ∀ J', zMb nt np (zvG G ow tg o) I J' → zfm [32] [50] J J' → P (.inl (some (.long (zvl G ow tg o)))) I J' D) : zz RO (d + 2) 180 [.ref 28, .int (zi a), .int (zi ow), .int (zi tg)] I J D bc bs P := by
  refine w_180 ?_
  refine r_mops (G := G) (s := []) (z := G.2.2.2.2) (m := 1) h1 h2 o (by simp) hvo hw hM (fun k hk => absurd hk (by simp)) hc (fun J1 hM1 hP1 f1 => ?_)
  rw [zev_one hw] at hP1
  have hc2 := zmR_right hc
  rw [List.length_map] at hc2
  obtain ⟨ha, e1, e2, e3⟩ := zmR_at hc2
  refine wl_180_6 ⟨zi_in (by omega) (by omega) (by omega), fun _ => ?_, fun q => ?_⟩
  · have hv : J1 50 0 = zvl G ow tg o := hP1 0 (by simp)
    rw [hv]
    exact k J1 hM1 f1
  · exact absurd (e1.trans (zlit 450).symm) q
theorem zMb_sV {p : Nat} {v : Int32} (hp : p < 24) (hM : zMb nt np G I J) : zMb nt np (sV G p v) (zu I 46 p v) J := by
  obtain ⟨m1, m2, m3, m4, m5, m6, m7, mz, mv, mp, ms⟩ := hM
  refine ⟨?_, ?_, ?_, ?_, ?_, ?_, ?_, mz, ?_, ?_, ?_⟩
  · rw [zu_n _ _ (by omega)]; exact m1
  · rw [zu_n _ _ (by omega)]; exact m2
  · rw [zu_n _ _ (by omega)]; exact m3
  · rw [zu_n _ _ (by omega)]; exact m4
  · rw [zu_n _ _ (by omega)]; exact m5
  · rw [zu_n _ _ (by omega)]; exact m6
  · rw [zu_n _ _ (by omega)]; exact m7
  · intro k hk hkv
    show zu I 46 p v 46 k = if k = p then v else G.2.1 k
    by_cases e : k = p
    · rw [if_pos e, e, zu_s]
    · rw [if_neg e, zu_n _ _ (by omega)]
      exact mv k hk hkv
  · intro k hk hkv
    show zu I 46 p v 47 k = if 24 + k = p then v else G.2.1 (24 + k)
    rw [if_neg (by omega), zu_n _ _ (by omega)]
    exact mp k hk hkv
  · intro k w hk hw
    rw [zu_n _ _ (by omega)]
    exact ms k w hk hw
theorem zMb_sV2 {p : Nat} {v : Int32} (hp : p < 6) (hM : zMb nt np G I J) : zMb nt np (sV G (24 + p) v) (zu I 47 p v) J := by
  obtain ⟨m1, m2, m3, m4, m5, m6, m7, mz, mv, mp, ms⟩ := hM
  refine ⟨?_, ?_, ?_, ?_, ?_, ?_, ?_, mz, ?_, ?_, ?_⟩
  · rw [zu_n _ _ (by omega)]; exact m1
  · rw [zu_n _ _ (by omega)]; exact m2
  · rw [zu_n _ _ (by omega)]; exact m3
  · rw [zu_n _ _ (by omega)]; exact m4
  · rw [zu_n _ _ (by omega)]; exact m5
  · rw [zu_n _ _ (by omega)]; exact m6
  · rw [zu_n _ _ (by omega)]; exact m7
  · intro k hk hkv
    show zu I 47 p v 46 k = if k = 24 + p then v else G.2.1 k
    rw [if_neg (by omega), zu_n _ _ (by omega)]
    exact mv k hk hkv
  · intro k hk hkv
    show zu I 47 p v 47 k = if 24 + k = 24 + p then v else G.2.1 (24 + k)
    by_cases e : k = p
    · rw [if_pos (by omega), e, zu_s]
    · rw [if_neg (by omega), zu_n _ _ (by omega)]
      exact mp k hk hkv
  · intro k w hk hw
    rw [zu_n _ _ (by omega)]
    exact ms k w hk hw
/-- the reference's bounds: cut at the upper, then at the lower one -/
theorem zclp_eq {lo hi : Int32} {v : Int64} (h : lo ≤ hi) : (if (if hi.toInt64 < v then hi.toInt64 else v) < lo.toInt64 then lo.toInt64 else (if hi.toInt64 < v then hi.toInt64 else v)).toInt32 = zclp lo hi v := by
  unfold zclp
  have h0 : lo.toInt64 ≤ hi.toInt64 := by
    rw [Int64.le_iff_toInt_le, Int32.toInt_toInt64, Int32.toInt_toInt64]
    exact Int32.le_iff_toInt_le.mp h
  by_cases h1 : hi.toInt64 < v
  · rw [if_pos h1, if_neg (Int64.not_lt.mpr h0)]
    have h2 : ¬ v < lo.toInt64 := Int64.not_lt.mpr (Int64.le_trans h0 (Int64.le_of_lt h1))
    rw [if_neg h2, if_pos h1]
    exact Int32.toInt32_toInt64 hi
  · rw [if_neg h1]
    by_cases h2 : v < lo.toInt64
    · rw [if_pos h2, if_pos h2]
      exact Int32.toInt32_toInt64 lo
    · rw [if_neg h2, if_neg h2, if_neg h1]
end MMach3
