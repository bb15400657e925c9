/-! ===== the class's code linked ===== -/
/-- an operation linked: what its token means -/
def qLnk (J : zJ) (q : zOp) : zOp := if q.1 = 2 ∨ q.1 = 3 ∨ q.1 = 16 ∨ q.1 = 17 then (q.1, (J 6 q.2.toNatClampNeg).toInt32) else q
/-- what the tokens of a piece mean -/
def qJok (T : qTk) (pl : Nat → Option Nat) (J : zJ) (lo hi : Nat) : Prop := hi ≤ 1000 ∧ ∀ j, lo ≤ j → j < hi → (T.1 j = 2 → J 6 j = (zi (plD pl j : Int)).toInt64) ∧ (T.1 j = 3 → J 6 j = T.2.2.1 j)
theorem pEx_lnk {T : qTk} {pl : Nat → Option Nat} {J : zJ} {lo hi k k2 : Nat} {o : List zOp} (hJ : qJok T pl J lo hi) (h : pEx T.1 k = pO k2 o) (hl : lo ≤ k) (hh : k2 ≤ hi) : o.map (qLnk J) = o.map (qRo T pl) := by
  have h9 := hJ.1
  refine List.map_congr_left (fun q hq => ?_)
  have a := (pE_ok h (by omega)).1
  rcases a.2.2.2 q hq with ⟨j, j1, j2, e, j3⟩ | ⟨j, j1, j2, e⟩
  · have w := hJ.2 j (by omega) (by omega)
    rw [e]
    unfold qLnk qRo
    show (if T.1 j = 2 ∨ T.1 j = 3 ∨ T.1 j = 16 ∨ T.1 j = 17 then (T.1 j, (J 6 (zi (j : Int)).toNatClampNeg).toInt32) else (T.1 j, zi (j : Int))) = (if T.1 j = 2 ∨ T.1 j = 16 ∨ T.1 j = 17 then (T.1 j, zi (plD pl (zi (j : Int)).toNatClampNeg : Int)) else if T.1 j = 3 then (3, (T.2.2.1 (zi (j : Int)).toNatClampNeg).toInt32) else (T.1 j, zi (j : Int)))
    rw [zi_clk (by omega)]
    by_cases c2 : T.1 j = 2
    · rw [if_pos (Or.inl c2), if_pos (Or.inl c2), w.1 c2, Int32.toInt32_toInt64]
    · by_cases c3 : T.1 j = 3
      · rw [if_pos (Or.inr (Or.inl c3)), if_neg (by omega), if_pos c3, w.2 c3, c3]
      · rw [if_neg (by omega), if_neg (by omega), if_neg c3]
  · have n : ¬ q.1 = 2 ∧ ¬ q.1 = 16 ∧ ¬ q.1 = 17 ∧ ¬ q.1 = 3 := by
      rcases e with ⟨e, z⟩ | ⟨e, z⟩
      · rw [e]
        unfold zbnK at z
        show ¬ T.1 j = 2 ∧ ¬ T.1 j = 16 ∧ ¬ T.1 j = 17 ∧ ¬ T.1 j = 3
        omega
      · rw [e]
        decide
    unfold qLnk qRo
    rw [if_neg (by omega), if_neg (by omega), if_neg (by omega)]
theorem zcat_lnk {α β : Type} {f : α → Nat → List zOp} {g : β → Nat → List zOp} {r : α → β} {m : zOp → zOp} : ∀ (l : List α), (∀ s ∈ l, ∀ a, (f s a).map m = g (r s) a) → ∀ a, (zcat f l a).map m = zcat g (l.map r) a
  | [], _, _ => rfl
  | s :: l, h, a => by
    have e1 := h s List.mem_cons_self a
    have e2 : (f s a).length = (g (r s) a).length := by rw [← e1, List.length_map]
    rw [List.map_cons, zcat_cons, zcat_cons, List.map_append, e1, e2, zcat_lnk l (fun s hs => h s (List.mem_cons_of_mem _ hs))]
theorem qLnk_n {J : zJ} {c : Nat} {v : Int32} (h : ¬ (c = 2 ∨ c = 3 ∨ c = 16 ∨ c = 17)) : qLnk J (c, v) = (c, v) := by
  unfold qLnk
  rw [if_neg h]
theorem zkc_lnk {T : qTk} {pl : Nat → Option Nat} {J : zJ} {lo hi : Nat} (hJ : qJok T pl J lo hi) : ∀ (n : Nat) (x : zSt n), qSa (qB0 T.1 lo hi) (qO0 T.1 lo hi) n x → ∀ a, (zkc n x a).map (qLnk J) = zkc n (qRs T pl n x) a := by
  have h9 := hJ.1
  have hO : ∀ o, qO0 T.1 lo hi o → o.map (qLnk J) = o.map (qRo T pl) := fun o ⟨k, k2, h1, h2, h⟩ => pEx_lnk hJ h h1 h2
  have hB : ∀ b, qB0 T.1 lo hi b → (b.2.2 ++ [(b.1, zi (b.2.1 : Int))]).map (qLnk J) = (qRb T pl b).2.2 ++ [((qRb T pl b).1, zi ((qRb T pl b).2.1 : Int))] := fun b h => by
    show _ = b.2.2.map (qRo T pl) ++ [(b.1, zi ((if b.1 = 16 ∨ b.1 = 17 then plD pl b.2.1 else b.2.1 : Nat) : Int))]
    rw [List.map_append, List.map_cons, List.map_nil]
    rcases h with ⟨h1, ⟨h4, h5, h6⟩, h3⟩ | ⟨h1, h2, h3⟩
    · rw [hO _ h3, if_pos h1]
      congr 2
      unfold qLnk
      rw [if_pos (by show b.1 = 2 ∨ b.1 = 3 ∨ b.1 = 16 ∨ b.1 = 17; omega)]
      show (b.1, (J 6 (zi (b.2.1 : Int)).toNatClampNeg).toInt32) = _
      rw [zi_clk (by omega), (hJ.2 _ h4 h5).1 h6, Int32.toInt32_toInt64]
    · rw [h3, if_neg (by omega), qLnk_n (by omega)]
      rfl
  intro n
  induction n with
  | zero =>
    intro x h a
    exact hB x h
  | succ n ih =>
    intro x h
    have lst : ∀ t : List (zSt n), (∀ s ∈ t, qSa (qB0 T.1 lo hi) (qO0 T.1 lo hi) n s) → ∀ a, (zcat (zkc n) t a).map (qLnk J) = zcat (zkc n) (t.map (qRs T pl n)) a := fun t ht => zcat_lnk t (fun s hs a => ih s (ht s hs) a)
    have len : ∀ t : List (zSt n), (∀ s ∈ t, qSa (qB0 T.1 lo hi) (qO0 T.1 lo hi) n s) → ∀ a, (zcat (zkc n) t a).length = (zcat (zkc n) (t.map (qRs T pl n)) a).length := fun t ht a => by rw [← lst t ht a, List.length_map]
    match x, h with
    | .inl b, h => exact fun a => hB b h
    | .inr (.inl (o, t, none)), h =>
      intro a
      show (o ++ [(18, zi ((a + o.length + 1 + (zcat (zkc n) t (a + o.length + 1)).length : Nat) : Int))] ++ zcat (zkc n) t (a + o.length + 1)).map (qLnk J) = o.map (qRo T pl) ++ [(18, zi ((a + (o.map (qRo T pl)).length + 1 + (zcat (zkc n) (t.map (qRs T pl n)) (a + (o.map (qRo T pl)).length + 1)).length : Nat) : Int))] ++ zcat (zkc n) (t.map (qRs T pl n)) (a + (o.map (qRo T pl)).length + 1)
      rw [List.map_append, List.map_append, hO o h.1, List.map_cons, List.map_nil, qLnk_n (by decide), lst t h.2, len t h.2, List.length_map]
    | .inr (.inl (o, t, some e)), h =>
      intro a
      show (o ++ [(18, zi ((a + o.length + 2 + (zcat (zkc n) t (a + o.length + 1)).length : Nat) : Int))] ++ zcat (zkc n) t (a + o.length + 1) ++ [(20, zi ((a + o.length + 2 + (zcat (zkc n) t (a + o.length + 1)).length + (zcat (zkc n) e (a + o.length + 2 + (zcat (zkc n) t (a + o.length + 1)).length)).length : Nat) : Int))] ++ zcat (zkc n) e (a + o.length + 2 + (zcat (zkc n) t (a + o.length + 1)).length)).map (qLnk J) =
        o.map (qRo T pl) ++ [(18, zi ((a + (o.map (qRo T pl)).length + 2 + (zcat (zkc n) (t.map (qRs T pl n)) (a + (o.map (qRo T pl)).length + 1)).length : Nat) : Int))] ++ zcat (zkc n) (t.map (qRs T pl n)) (a + (o.map (qRo T pl)).length + 1) ++ [(20, zi ((a + (o.map (qRo T pl)).length + 2 + (zcat (zkc n) (t.map (qRs T pl n)) (a + (o.map (qRo T pl)).length + 1)).length + (zcat (zkc n) (e.map (qRs T pl n)) (a + (o.map (qRo T pl)).length + 2 + (zcat (zkc n) (t.map (qRs T pl n)) (a + (o.map (qRo T pl)).length + 1)).length)).length : Nat) : Int))] ++ zcat (zkc n) (e.map (qRs T pl n)) (a + (o.map (qRo T pl)).length + 2 + (zcat (zkc n) (t.map (qRs T pl n)) (a + (o.map (qRo T pl)).length + 1)).length)
      rw [List.length_map, ← len t h.2.1, ← len e h.2.2, List.map_append, List.map_append, List.map_append, List.map_append, hO o h.1, List.map_cons, List.map_nil, qLnk_n (by decide), lst t h.2.1, List.map_cons, List.map_nil, qLnk_n (by decide), lst e h.2.2]
    | .inr (.inr b), h =>
      intro a
      show ([(24, 0)] ++ zcat (zkc n) b (a + 1) ++ [(53, zi ((a + 1 : Nat) : Int))]).map (qLnk J) = [(24, 0)] ++ zcat (zkc n) (b.map (qRs T pl n)) (a + 1) ++ [(53, zi ((a + 1 : Nat) : Int))]
      rw [List.map_append, List.map_append, lst b h, List.map_cons, List.map_nil, qLnk_n (by decide), List.map_cons, List.map_nil, qLnk_n (by decide)]
section CLink
variable {RO : zRo} {d : Nat} {P : zP} {I : zI} {J : zJ} {D : zD} {bc bs : Nat} {T : qTk} {k c : Nat}
/-- a cell of the code, linked -/
def qLc (I : zI) (J : zJ) (i : Nat) : Int32 := if I 9 i = 3 ∨ I 9 i = 2 ∨ I 9 i = 16 ∨ I 9 i = 17 then (zv_95 I J (I 10 i)).toInt32 else I 10 i
theorem c_5_2 {I0 : zI} (h2 : I0 8 2 = zi (c : Int)) (hc : c ≤ 450) (K : ∀ I', zfr [10] I0 I' → (∀ i, i < c → I' 10 i = qLc I0 J i) → (∀ i, c ≤ i → I' 10 i = I0 10 i) → P (.inl none) I' J D) : ∀ {m i : Nat} {I : zI}, i + m = c → zfr [10] I0 I → (∀ j, j < i → I 10 j = qLc I0 J j) → (∀ j, i ≤ j → I 10 j = I0 10 j) → zw RO (d + 1) 5 P 2 [(0, .ref 8), (1, .ref 3), (2, .int (zi (i : Int)))] [] I J D bc bs
  | 0, i, I, hm, f, hlo, hhi => by
    have q : I 8 2 ≤ zi (i : Int) := by
      rw [f 8 (by decide), h2, zi_le (by omega) (by omega)]
      omega
    refine wl_5_2 ⟨fun _ => K I f (fun j hj => hlo j (by omega)) (fun j hj => hhi j (by omega)), fun z => absurd q z⟩
  | m + 1, i, I, hm, f, hlo, hhi => by
    have q : ¬ I 8 2 ≤ zi (i : Int) := by
      rw [f 8 (by decide), h2, zi_le (by omega) (by omega)]
      omega
    have q2 : ¬ (450 : Int32) ≤ zi (i : Int) := by
      rw [zq_p (l := 450) (n := 450) rfl (by omega) (by omega)]
      omega
    have vi : vp_in (zi (i : Int)) 450 := zi_in (by omega) (by omega) (by omega)
    have cl : (zi (i : Int)).toNatClampNeg = i := zi_clk (by omega)
    have v3 : zv_3 I J (zi (i : Int)) = I0 9 i := by
      unfold zv_3
      rw [if_neg (fun z => by rw [zq_l (l := 0) (n := 0) rfl (by omega) (by omega)] at z; omega), if_neg q, if_neg q2, cl, f 9 (by decide)]
    have v95 : ∀ x, zv_95 I J x = zv_95 I0 J x := fun x => by
      unfold zv_95
      rw [f 3 (by decide)]
    have st : ∀ (v : Int32), v = qLc I0 J i → zw RO (d + 1) 5 P 2 [(0, .ref 8), (1, .ref 3), (2, .int (zi (i : Int) + 1))] [] (zu I 10 i v) J D bc bs := fun v hv => by
      rw [zi_succ]
      refine c_5_2 h2 hc K (m := m) (i := i + 1) (by omega) (zfr_zu (o := 10) f i v (by simp)) (fun j hj => ?_) (fun j hj => ?_)
      · by_cases e : j = i
        · rw [e, zu_s, hv]
        · rw [zu_n _ _ (fun z => e z.2)]
          exact hlo j (by omega)
      · rw [zu_n _ _ (fun z => by omega)]
        exact hhi j (by omega)
    have e10 : I 10 i = I0 10 i := hhi i (Nat.le_refl _)
    refine wl_5_2 ⟨fun z => absurd z q, fun _ => ⟨fun z => absurd z q2, fun _ => ?_⟩⟩
    rw [v3, cl, v95, e10]
    have on : (I0 9 i = 3 ∨ I0 9 i = 2 ∨ I0 9 i = 16 ∨ I0 9 i = 17) → (zv_95 I0 J (I0 10 i)).toInt32 = qLc I0 J i := fun z => by
      unfold qLc
      rw [if_pos z]
    refine ⟨fun z => ⟨vi, vi, st _ (on (Or.inl z))⟩, fun z3 => ⟨fun z => ⟨vi, vi, st _ (on (Or.inr (Or.inl z)))⟩, fun z2 => ⟨fun z => ⟨vi, vi, st _ (on (Or.inr (Or.inr (Or.inl z))))⟩, fun z16 => ⟨fun z17 => ?_, fun z => ⟨vi, vi, st _ (on (Or.inr (Or.inr (Or.inr (Decidable.not_not.mp z)))))⟩⟩⟩⟩⟩
    rw [zi_succ]
    refine c_5_2 h2 hc K (m := m) (i := i + 1) (by omega) f (fun j hj => ?_) (fun j hj => hhi j (by omega))
    by_cases e : j = i
    · rw [e, e10]
      unfold qLc
      rw [if_neg (fun z => z.elim z3 (fun z => z.elim z2 (fun z => z.elim z16 z17)))]
    · exact hlo j (by omega)
theorem c_5 (h2 : I 8 2 = zi (c : Int)) (hc : c ≤ 450) (K : ∀ I', zfr [10] I I' → (∀ i, i < c → I' 10 i = qLc I J i) → (∀ i, c ≤ i → I' 10 i = I 10 i) → P (.inl none) I' J D) : zz RO (d + 2) 5 [.ref 8, .ref 3] I J D bc bs P := by
  refine w_5 (d := d) ?_
  exact c_5_2 h2 hc K (m := c) (i := 0) (by omega) (zfr_refl _) (fun j hj => by omega) (fun _ _ => rfl)
/-- code that stands is linked where it stands -/
theorem zcR_lnk {I' : zI} {L : List zOp} {a : Nat} (hw : qTw T) (ht : qTc T I) (h : zcR I a L) (h2 : I 8 2 = zi (c : Int)) (hc : c ≤ 450) (f : zfr [10] I I') (hl : ∀ i, i < c → I' 10 i = qLc I J i) (hL : ∀ q ∈ L, q.1 ≤ 1000 ∧ (q.1 = 2 ∨ q.1 = 3 ∨ q.1 = 16 ∨ q.1 = 17 → ∃ j : Nat, j < T.2.2.2 ∧ q.2 = zi (j : Int))) : zcR I' a (L.map (qLnk J)) := by
  have hN := hw.2.1
  obtain ⟨h1, n, h3, h4, h5⟩ := h
  have en : n = c := by
    rw [h2, zi_eq (by omega) (by omega)] at h3
    omega
  refine ⟨fun k hk => ?_, n, by rw [f 8 (by decide)]; exact h3, by rw [List.length_map]; exact h4, h5⟩
  rw [List.length_map] at hk
  have w := h1 k hk
  have m : L.getD k (0, 0) ∈ L := by
    rw [List.getD_eq_getElem?_getD, List.getElem?_eq_getElem hk]
    exact List.getElem_mem hk
  have em : (L.map (qLnk J)).getD k (0, 0) = qLnk J (L.getD k (0, 0)) := by
    rw [List.getD_eq_getElem?_getD, List.getD_eq_getElem?_getD, List.getElem?_map, List.getElem?_eq_getElem hk]
    rfl
  rw [em, f 9 (by decide), hl (a + k) (by omega)]
  generalize L.getD k (0, 0) = q at w m
  obtain ⟨q1, q2⟩ := hL q m
  have e1 : ∀ n : Nat, n ≤ 1000 → (zi (q.1 : Int) = zi (n : Int) ↔ q.1 = n) := fun n hn => zq_e (n := n) rfl (by omega) (by omega)
  have iff9 : (I 9 (a + k) = 3 ∨ I 9 (a + k) = 2 ∨ I 9 (a + k) = 16 ∨ I 9 (a + k) = 17) ↔ (q.1 = 2 ∨ q.1 = 3 ∨ q.1 = 16 ∨ q.1 = 17) := by
    rw [w.1, show (zi (q.1 : Int) = 3) ↔ q.1 = 3 from e1 3 (by omega), show (zi (q.1 : Int) = 2) ↔ q.1 = 2 from e1 2 (by omega), show (zi (q.1 : Int) = 16) ↔ q.1 = 16 from e1 16 (by omega), show (zi (q.1 : Int) = 17) ↔ q.1 = 17 from e1 17 (by omega)]
    omega
  unfold qLc qLnk
  by_cases z : q.1 = 2 ∨ q.1 = 3 ∨ q.1 = 16 ∨ q.1 = 17
  · rw [if_pos z, if_pos (iff9.mpr z)]
    obtain ⟨j, j1, j2⟩ := q2 z
    rw [w.2, j2, n_95 hw ht j1, zi_clk (by omega)]
    exact ⟨w.1, rfl⟩
  · rw [if_neg z, if_neg (fun y => z (iff9.mp y))]
    exact w
end CLink
