/-! ===== the classes as the start has them ===== -/
theorem z_inst : ∀ (ci : Nat) (q : vw_C), vwCl[ci]? = some q → (∃ n, Cond.instantiable q.1 n ∈ zAL) ∧ ∀ w ∈ u_ws q.1 q.2.1 q.2.2, w ∈ zAL
  | 0, _, h => by cases h; exact ⟨⟨_, zcn_0.2.1⟩, zcl_0.2.1⟩
  | 1, _, h => by cases h; exact ⟨⟨_, zcn_6.2.1⟩, zcl_1.2.1⟩
  | 2, _, h => by cases h; exact ⟨⟨_, zcn_26.2.1⟩, zcl_2.2.1⟩
  | 3, _, h => by cases h; exact ⟨⟨_, zcn_42.2.1⟩, zcl_3.2.1⟩
  | 4, _, h => by cases h; exact ⟨⟨_, zcn_59.2.1⟩, zcl_4.2.1⟩
  | 5, _, h => by cases h; exact ⟨⟨_, zcn_73.2.1⟩, zcl_5.2.1⟩
  | 6, _, h => by cases h; exact ⟨⟨_, zcn_82.2.1⟩, zcl_6.2.1⟩
  | 7, _, h => by cases h; exact ⟨⟨_, zcn_88.2.1⟩, zcl_7.2.1⟩
  | 8, _, h => by cases h; exact ⟨⟨_, zcn_91.2.1⟩, zcl_8.2.1⟩
  | 9, _, h => by cases h; exact ⟨⟨9, zmem1 27 (by decide +kernel) (by decide +kernel)⟩, zcl_9.2.1⟩
  | 10, _, h => by cases h; exact ⟨⟨8, zmem6 155 (by decide +kernel) (by decide +kernel)⟩, zcl_10.2.1⟩
  | 11, _, h => by cases h; exact ⟨⟨51, zmem5 155 (by decide +kernel) (by decide +kernel)⟩, zcl_11.2.1⟩
  | n + 12, q, h => by cases h
theorem z_K0 {s : State} {args : Array Value} (hts : ∀ w ∈ zAL, w.before args s = true) : ∃ (G : va_G) (ca : Nat → Nat), va_K G vwCl (zTY ca) s := by
  have h0 : ∀ ci : Nat, ∃ x : ClassId × (Nat → Nat), ∀ q : vw_C, vwCl[ci]? = some q → u_Kn s q.1 q.2.1 q.2.2 x.1 x.2 := by
    intro ci
    cases hq : vwCl[ci]? with
    | none => exact ⟨(0, fun _ => 0), fun q h => by cases h⟩
    | some q =>
      obtain ⟨⟨n, h1⟩, h2⟩ := z_inst ci q hq
      obtain ⟨cC, iS, h3⟩ := u_known (C := q.1) (T := q.2.1) (N := q.2.2) (n := n) hts h2 (hts _ h1)
      exact ⟨(cC, iS), fun q9 h9 => by cases h9; exact h3⟩
  obtain ⟨g, hg⟩ := Classical.axiomOfChoice h0
  have arr : ∀ t : Nat, ∃ cA : ClassId, t < 4 → ArrOfT s cA (zFt t) ∧ s.vm.findClass ("[" ++ (zFt t).toString) = some cA := by
    intro t
    by_cases ht : t < 4
    · obtain ⟨c, k, comp, h1, h2, h3⟩ := Cond.arrayClass_spec (hts _ (z_arw t ht))
      exact ⟨c, fun _ => ⟨fun n z => ⟨fun k h => (by cases h), k, h2, comp, h3⟩, h1⟩⟩
    · exact ⟨0, fun h => absurd h ht⟩
  obtain ⟨ca, hca⟩ := Classical.axiomOfChoice arr
  refine ⟨(fun k => (g k).1, fun k => (g k).2), ca, fun ci q hq => hg ci q hq, fun k q hk => ?_⟩
  have hl : k < 4 := (List.getElem?_eq_some_iff.mp hk).1
  have h4 : k = 0 ∨ k = 1 ∨ k = 2 ∨ k = 3 := by omega
  rcases h4 with rfl | rfl | rfl | rfl
  · cases hk; exact hca 0 (by omega)
  · cases hk; exact hca 1 (by omega)
  · cases hk; exact hca 2 (by omega)
  · cases hk; exact hca 3 (by omega)
/-! ===== words of the law's own two `new`s ===== -/
theorem zlw_106 : Cond.code (zym 106) (zcc 106) 1 none ∈ zAL ∧ Cond.initialized (zym 106).cls ∈ zAL ∧ Cond.instanceMethod (zym 106) ∈ zAL ∧ Cond.methodLink (zown 235) 67 (zym 106) ∈ zAL := ⟨zmem1 30 (by decide +kernel) (by decide +kernel), zmem1 1 (by decide +kernel) (by decide +kernel), zmem1 29 (by decide +kernel) (by decide +kernel), zmem1 28 (by decide +kernel) (by decide +kernel)⟩
theorem zln_106 : Cond.classLink (zown 235) 8 RX9 ∈ zAL ∧ Cond.instantiable RX9 9 ∈ zAL ∧ Cond.initialized RX9 ∈ zAL := ⟨zmem1 26 (by decide +kernel) (by decide +kernel), zmem1 27 (by decide +kernel) (by decide +kernel), zmem1 1 (by decide +kernel) (by decide +kernel)⟩
theorem zld_106 : (parseMethodDescriptor (zym 106).desc).map (fun d => d.parameters.length) = some 0 := by decide +kernel
theorem zlv_9 : ∀ j, j < 9 → defaultValue (tyX9 j) = vp_V [.null, .null, .null, .null, .null, .null, .null, .null, .int 0] j
  | 0, _ => rfl
  | 1, _ => rfl
  | 2, _ => rfl
  | 3, _ => rfl
  | 4, _ => rfl
  | 5, _ => rfl
  | 6, _ => rfl
  | 7, _ => rfl
  | 8, _ => rfl
  | n + 9, h => by omega
theorem zlw_133 : Cond.code (zym 133) (zcc 133) 5 none ∈ zAL ∧ Cond.initialized (zym 133).cls ∈ zAL ∧ Cond.instanceMethod (zym 133) ∈ zAL ∧ Cond.methodLink (zown 235) 70 (zym 133) ∈ zAL := ⟨zmem5 158 (by decide +kernel) (by decide +kernel), zmem1 15 (by decide +kernel) (by decide +kernel), zmem5 157 (by decide +kernel) (by decide +kernel), zmem5 156 (by decide +kernel) (by decide +kernel)⟩
theorem zln_133 : Cond.classLink (zown 235) 68 RX11 ∈ zAL ∧ Cond.instantiable RX11 51 ∈ zAL ∧ Cond.initialized RX11 ∈ zAL := ⟨zmem5 154 (by decide +kernel) (by decide +kernel), zmem5 155 (by decide +kernel) (by decide +kernel), zmem1 15 (by decide +kernel) (by decide +kernel)⟩
theorem zld_133 : (parseMethodDescriptor (zym 133).desc).map (fun d => d.parameters.length) = some 0 := by decide +kernel
theorem zlv_11 : ∀ j, j < 51 → defaultValue (tyX11 j) = vp_V [.int 0, .null, .null, .int 0, .int 0, .null, .null, .null, .int 0, .null, .null, .null, .null, .null, .null, .null, .null, .null, .int 0, .int 0, .null, .null, .null, .int 0, .int 0, .int 0, .int 0, .int 0, .int 0, .int 0, .int 0, .long 0, .long 0, .int 0, .int 0, .int 0, .int 0, .int 0, .int 0, .int 0, .int 0, .int 0, .int 0, .null, .null, .int 0, .null, .int 0, .null, .null, .null] j
  | 0, _ => rfl
  | 1, _ => rfl
  | 2, _ => rfl
  | 3, _ => rfl
  | 4, _ => rfl
  | 5, _ => rfl
  | 6, _ => rfl
  | 7, _ => rfl
  | 8, _ => rfl
  | 9, _ => rfl
  | 10, _ => rfl
  | 11, _ => rfl
  | 12, _ => rfl
  | 13, _ => rfl
  | 14, _ => rfl
  | 15, _ => rfl
  | 16, _ => rfl
  | 17, _ => rfl
  | 18, _ => rfl
  | 19, _ => rfl
  | 20, _ => rfl
  | 21, _ => rfl
  | 22, _ => rfl
  | 23, _ => rfl
  | 24, _ => rfl
  | 25, _ => rfl
  | 26, _ => rfl
  | 27, _ => rfl
  | 28, _ => rfl
  | 29, _ => rfl
  | 30, _ => rfl
  | 31, _ => rfl
  | 32, _ => rfl
  | 33, _ => rfl
  | 34, _ => rfl
  | 35, _ => rfl
  | 36, _ => rfl
  | 37, _ => rfl
  | 38, _ => rfl
  | 39, _ => rfl
  | 40, _ => rfl
  | 41, _ => rfl
  | 42, _ => rfl
  | 43, _ => rfl
  | 44, _ => rfl
  | 45, _ => rfl
  | 46, _ => rfl
  | 47, _ => rfl
  | 48, _ => rfl
  | 49, _ => rfl
  | 50, _ => rfl
  | n + 51, h => by omega
theorem zd235_0 : decode (zcc 235) 0 = .ok (.new 8, 3) := by
  show decode cL_law 0 = _
  decide +kernel
theorem zd235_3 : decode (zcc 235) 3 = .ok (.dup, 1) := by
  show decode cL_law 3 = _
  decide +kernel
theorem zd235_4 : decode (zcc 235) 4 = .ok (.invokespecial 67, 3) := by
  show decode cL_law 4 = _
  decide +kernel
theorem zd235_7 : decode (zcc 235) 7 = .ok (.astore_n 1, 1) := by
  show decode cL_law 7 = _
  decide +kernel
theorem zd235_8 : decode (zcc 235) 8 = .ok (.new 68, 3) := by
  show decode cL_law 8 = _
  decide +kernel
theorem zd235_11 : decode (zcc 235) 11 = .ok (.dup, 1) := by
  show decode cL_law 11 = _
  decide +kernel
theorem zd235_12 : decode (zcc 235) 12 = .ok (.invokespecial 70, 3) := by
  show decode cL_law 12 = _
  decide +kernel
theorem zd235_15 : decode (zcc 235) 15 = .ok (.astore_n 2, 1) := by
  show decode cL_law 15 = _
  decide +kernel
theorem zd235_16 : decode (zcc 235) 16 = .ok (.iconst 1, 1) := by
  show decode cL_law 16 = _
  decide +kernel
theorem zd235_17 : decode (zcc 235) 17 = .ok (.newarray .long, 2) := by
  show decode cL_law 17 = _
  decide +kernel
theorem zd235_19 : decode (zcc 235) 19 = .ok (.astore_n 3, 1) := by
  show decode cL_law 19 = _
  decide +kernel
theorem zd235_20 : decode (zcc 235) 20 = .ok (.iconst 1, 1) := by
  show decode cL_law 20 = _
  decide +kernel
theorem zd235_21 : decode (zcc 235) 21 = .ok (.newarray .double, 2) := by
  show decode cL_law 21 = _
  decide +kernel
theorem zd235_23 : decode (zcc 235) 23 = .ok (.astore 4, 2) := by
  show decode cL_law 23 = _
  decide +kernel
theorem zd235_25 : decode (zcc 235) 25 = .ok (.iconst 0, 1) := by
  show decode cL_law 25 = _
  decide +kernel
theorem zd235_26 : decode (zcc 235) 26 = .ok (.istore 5, 2) := by
  show decode cL_law 26 = _
  decide +kernel
/-! ===== the world out of the constructors' lists ===== -/
def zmi {α β : Type} (f : Nat → α → β) : Nat → List α → List β
  | _, [] => []
  | n, a :: l => f n a :: zmi f (n + 1) l
theorem zmi_get {α β : Type} {f : Nat → α → β} : ∀ (l : List α) (n k : Nat), (zmi f n l)[k]? = (l[k]?).map (f (n + k))
  | [], n, k => by simp [zmi]
  | a :: l, n, 0 => rfl
  | a :: l, n, k + 1 => by
    show (zmi f (n + 1) l)[k]? = (l[k]?).map (f (n + (k + 1)))
    rw [zmi_get l (n + 1) k, show n + 1 + k = n + (k + 1) from by omega]
theorem zmi_of {α β : Type} {f : Nat → α → β} (l : List α) : l.mapIdx f = zmi f 0 l := by
  apply List.ext_getElem?
  intro k
  rw [List.getElem?_mapIdx, zmi_get, Nat.zero_add]
theorem zent_o {ad ca : Nat → Nat} {I : zI} {J : zJ} {D : zD} {i : Nat} {q : Nat × List (Nat × Nat)} : zent ad ca I J D i (.inl q) = .inr (q.1, zmi (fun k kd => zfv ad I J i k kd) 0 q.2) := by
  show Sum.inr (q.1, q.2.mapIdx (fun k kd => zfv ad I J i k kd)) = _
  rw [zmi_of]
def zI0 : zI := fun o => if o = 0 then (fun k => if k = 8 then -1 else 0) else if o = 23 then (fun k => if k = 5 then -1 else 0) else if o = 28 then (fun k => if k = 29 then -1 else 0) else fun _ => 0
def zJ0 (f7 f29 : Nat → Int64) : zJ := fun o => if o = 7 then f7 else if o = 29 then f29 else fun _ => 0
def zD0 : zD := fun _ _ => 0
def wsA (ca : Nat → Nat) (f7 f29 : Nat → Int64) (ad : Nat → Nat) : va_W := ((wsC ca f7 (ad 0) (ad 1) (ad 3) (ad 8) (ad 11) (ad 12) (ad 19) (ad 20) (ad 23) (ad 24) (ad 2) (ad 4) (ad 5) (ad 6) (ad 7) (ad 9) (ad 10) (ad 13) (ad 14) (ad 15) (ad 16) (ad 17) (ad 18) (ad 21) (ad 22) (ad 25) (ad 26) (ad 27) ++ wsM ca (ad 28) (ad 29) (fsM (ad 29) (ad 30) (ad 31) (ad 32) (ad 33) (ad 34) (ad 35) (ad 36) (ad 37) (ad 38) (ad 39) (ad 40) (ad 41) (ad 42) (ad 43) (ad 44) (ad 45) (ad 46) (ad 47) (ad 48) (ad 49) (ad 50) (ad 51)) (rM ca (ad 30) (ad 31) (ad 32) (ad 33) (ad 34) (ad 35) (ad 36) (ad 37) (ad 38) (ad 39) (ad 40) (ad 41) (ad 42) (ad 43) (ad 44) (ad 45) (ad 46) (ad 47) (ad 48) (ad 49) (ad 50) (ad 51)) f29) ++ [(ad 52, .inl (ca 1, zZr 1 1))]) ++ [(ad 53, .inl (ca 2, zZr 2 1))]
def zgi (k : Nat) : Nat := if k = 23 then 26 else if 24 ≤ k ∧ k ≤ 26 then k - 1 else k
section ZWK
variable {ca ad : Nat → Nat} {f7 f29 : Nat → Int64}
theorem zwk_0 : (wsA ca f7 f29 ad)[0]? = some (ad 0, zent ad ca zI0 (zJ0 f7 f29) zD0 0 (.inl (9, [(2, 1), (2, 3), (2, 8), (2, 11), (2, 12), (2, 19), (2, 20), (2, 23), (0, 0)]))) := by
  rw [zent_o]
  rfl
theorem zwk_1 : (wsA ca f7 f29 ad)[1]? = some (ad 1, zent ad ca zI0 (zJ0 f7 f29) zD0 1 (.inl (7, [(2, 2), (0, 0)]))) := by
  rw [zent_o]
  rfl
theorem zwk_2 : (wsA ca f7 f29 ad)[2]? = some (ad 2, zent ad ca zI0 (zJ0 f7 f29) zD0 2 (.inr (3, 2000))) := by
  rfl
theorem zwk_3 : (wsA ca f7 f29 ad)[3]? = some (ad 3, zent ad ca zI0 (zJ0 f7 f29) zD0 3 (.inl (8, [(2, 4), (2, 5), (2, 6), (2, 7), (0, 0)]))) := by
  rw [zent_o]
  rfl
theorem zwk_4 : (wsA ca f7 f29 ad)[4]? = some (ad 4, zent ad ca zI0 (zJ0 f7 f29) zD0 4 (.inr (0, 451))) := by
  rfl
theorem zwk_5 : (wsA ca f7 f29 ad)[5]? = some (ad 5, zent ad ca zI0 (zJ0 f7 f29) zD0 5 (.inr (0, 451))) := by
  rfl
theorem zwk_6 : (wsA ca f7 f29 ad)[6]? = some (ad 6, zent ad ca zI0 (zJ0 f7 f29) zD0 6 (.inr (1, 451))) := by
  rfl
theorem zwk_7 : (wsA ca f7 f29 ad)[7]? = some (ad 7, zent ad ca zI0 (zJ0 f7 f29) zD0 7 (.inr (1, 32))) := by
  rfl
theorem zwk_8 : (wsA ca f7 f29 ad)[8]? = some (ad 8, zent ad ca zI0 (zJ0 f7 f29) zD0 8 (.inl (0, [(2, 9), (2, 10), (0, 0)]))) := by
  rw [zent_o]
  rfl
theorem zwk_9 : (wsA ca f7 f29 ad)[9]? = some (ad 9, zent ad ca zI0 (zJ0 f7 f29) zD0 9 (.inr (0, 450))) := by
  rfl
theorem zwk_10 : (wsA ca f7 f29 ad)[10]? = some (ad 10, zent ad ca zI0 (zJ0 f7 f29) zD0 10 (.inr (0, 450))) := by
  rfl
theorem zwk_11 : (wsA ca f7 f29 ad)[11]? = some (ad 11, zent ad ca zI0 (zJ0 f7 f29) zD0 11 (.inl (1, [(2, 3), (2, 8), (0, 0), (0, 0)]))) := by
  rw [zent_o]
  rfl
theorem zwk_12 : (wsA ca f7 f29 ad)[12]? = some (ad 12, zent ad ca zI0 (zJ0 f7 f29) zD0 12 (.inl (5, [(2, 13), (2, 14), (2, 15), (2, 16), (2, 17), (2, 18), (0, 0), (3, 0)]))) := by
  rw [zent_o]
  rfl
theorem zwk_13 : (wsA ca f7 f29 ad)[13]? = some (ad 13, zent ad ca zI0 (zJ0 f7 f29) zD0 13 (.inr (0, 7))) := by
  rfl
theorem zwk_14 : (wsA ca f7 f29 ad)[14]? = some (ad 14, zent ad ca zI0 (zJ0 f7 f29) zD0 14 (.inr (0, 36))) := by
  rfl
theorem zwk_15 : (wsA ca f7 f29 ad)[15]? = some (ad 15, zent ad ca zI0 (zJ0 f7 f29) zD0 15 (.inr (0, 6))) := by
  rfl
theorem zwk_16 : (wsA ca f7 f29 ad)[16]? = some (ad 16, zent ad ca zI0 (zJ0 f7 f29) zD0 16 (.inr (0, 8))) := by
  rfl
theorem zwk_17 : (wsA ca f7 f29 ad)[17]? = some (ad 17, zent ad ca zI0 (zJ0 f7 f29) zD0 17 (.inr (0, 28))) := by
  rfl
theorem zwk_18 : (wsA ca f7 f29 ad)[18]? = some (ad 18, zent ad ca zI0 (zJ0 f7 f29) zD0 18 (.inr (0, 28))) := by
  rfl
theorem zwk_19 : (wsA ca f7 f29 ad)[19]? = some (ad 19, zent ad ca zI0 (zJ0 f7 f29) zD0 19 (.inl (4, [(2, 3), (2, 12), (0, 0), (0, 0), (0, 0), (0, 0), (0, 0), (3, 0)]))) := by
  rw [zent_o]
  rfl
theorem zwk_20 : (wsA ca f7 f29 ad)[20]? = some (ad 20, zent ad ca zI0 (zJ0 f7 f29) zD0 20 (.inl (6, [(2, 21), (2, 22), (0, 0), (0, 0), (0, 0), (0, 0), (0, 0), (3, 0), (3, 0), (1, 0)]))) := by
  rw [zent_o]
  rfl
theorem zwk_21 : (wsA ca f7 f29 ad)[21]? = some (ad 21, zent ad ca zI0 (zJ0 f7 f29) zD0 21 (.inr (0, 30))) := by
  rfl
theorem zwk_22 : (wsA ca f7 f29 ad)[22]? = some (ad 22, zent ad ca zI0 (zJ0 f7 f29) zD0 22 (.inr (0, 40))) := by
  rfl
theorem zwk_23 : (wsA ca f7 f29 ad)[26]? = some (ad 23, zent ad ca zI0 (zJ0 f7 f29) zD0 23 (.inl (2, [(2, 12), (2, 20), (2, 24), (2, 27), (0, 0), (0, 0), (0, 0), (0, 0), (0, 0), (1, 0)]))) := by
  rw [zent_o]
  rfl
theorem zwk_24 : (wsA ca f7 f29 ad)[23]? = some (ad 24, zent ad ca zI0 (zJ0 f7 f29) zD0 24 (.inl (3, [(2, 8), (2, 12), (2, 20), (2, 25), (2, 26), (0, 0), (0, 0), (0, 0), (0, 0)]))) := by
  rw [zent_o]
  rfl
theorem zwk_25 : (wsA ca f7 f29 ad)[24]? = some (ad 25, zent ad ca zI0 (zJ0 f7 f29) zD0 25 (.inr (1, 64))) := by
  rfl
theorem zwk_26 : (wsA ca f7 f29 ad)[25]? = some (ad 26, zent ad ca zI0 (zJ0 f7 f29) zD0 26 (.inr (0, 4))) := by
  rfl
theorem zwk_27 : (wsA ca f7 f29 ad)[27]? = some (ad 27, zent ad ca zI0 (zJ0 f7 f29) zD0 27 (.inr (0, 1000))) := by
  rfl
theorem zwk_28 : (wsA ca f7 f29 ad)[28]? = some (ad 28, zent ad ca zI0 (zJ0 f7 f29) zD0 28 (.inl (11, [(0, 0), (2, 29), (2, 30), (0, 0), (0, 0), (2, 31), (2, 32), (2, 33), (0, 0), (2, 34), (2, 35), (2, 36), (2, 37), (2, 38), (2, 39), (2, 40), (2, 41), (2, 42), (0, 0), (0, 0), (2, 43), (2, 44), (2, 45), (3, 0), (0, 0), (3, 0), (3, 0), (0, 0), (0, 0), (0, 0), (0, 0), (1, 0), (1, 0), (0, 0), (0, 0), (0, 0), (0, 0), (0, 0), (0, 0), (0, 0), (3, 0), (3, 0), (0, 0), (2, 46), (2, 47), (0, 0), (2, 48), (0, 0), (2, 49), (2, 50), (2, 51)]))) := by
  rw [zent_o]
  rfl
theorem zwk_29 : (wsA ca f7 f29 ad)[29]? = some (ad 29, zent ad ca zI0 (zJ0 f7 f29) zD0 29 (.inr (1, 32))) := by
  rfl
theorem zwk_30 : (wsA ca f7 f29 ad)[30]? = some (ad 30, zent ad ca zI0 (zJ0 f7 f29) zD0 30 (.inr (0, 2000))) := by
  rfl
theorem zwk_31 : (wsA ca f7 f29 ad)[31]? = some (ad 31, zent ad ca zI0 (zJ0 f7 f29) zD0 31 (.inr (0, 452))) := by
  rfl
theorem zwk_32 : (wsA ca f7 f29 ad)[32]? = some (ad 32, zent ad ca zI0 (zJ0 f7 f29) zD0 32 (.inr (0, 452))) := by
  rfl
theorem zwk_33 : (wsA ca f7 f29 ad)[33]? = some (ad 33, zent ad ca zI0 (zJ0 f7 f29) zD0 33 (.inr (1, 452))) := by
  rfl
theorem zwk_34 : (wsA ca f7 f29 ad)[34]? = some (ad 34, zent ad ca zI0 (zJ0 f7 f29) zD0 34 (.inr (1, 46))) := by
  rfl
theorem zwk_35 : (wsA ca f7 f29 ad)[35]? = some (ad 35, zent ad ca zI0 (zJ0 f7 f29) zD0 35 (.inr (0, 46))) := by
  rfl
theorem zwk_36 : (wsA ca f7 f29 ad)[36]? = some (ad 36, zent ad ca zI0 (zJ0 f7 f29) zD0 36 (.inr (0, 46))) := by
  rfl
theorem zwk_37 : (wsA ca f7 f29 ad)[37]? = some (ad 37, zent ad ca zI0 (zJ0 f7 f29) zD0 37 (.inr (0, 9))) := by
  rfl
theorem zwk_38 : (wsA ca f7 f29 ad)[38]? = some (ad 38, zent ad ca zI0 (zJ0 f7 f29) zD0 38 (.inr (0, 36))) := by
  rfl
theorem zwk_39 : (wsA ca f7 f29 ad)[39]? = some (ad 39, zent ad ca zI0 (zJ0 f7 f29) zD0 39 (.inr (0, 6))) := by
  rfl
theorem zwk_40 : (wsA ca f7 f29 ad)[40]? = some (ad 40, zent ad ca zI0 (zJ0 f7 f29) zD0 40 (.inr (0, 28))) := by
  rfl
theorem zwk_41 : (wsA ca f7 f29 ad)[41]? = some (ad 41, zent ad ca zI0 (zJ0 f7 f29) zD0 41 (.inr (0, 28))) := by
  rfl
theorem zwk_42 : (wsA ca f7 f29 ad)[42]? = some (ad 42, zent ad ca zI0 (zJ0 f7 f29) zD0 42 (.inr (0, 8))) := by
  rfl
theorem zwk_43 : (wsA ca f7 f29 ad)[43]? = some (ad 43, zent ad ca zI0 (zJ0 f7 f29) zD0 43 (.inr (0, 1350))) := by
  rfl
theorem zwk_44 : (wsA ca f7 f29 ad)[44]? = some (ad 44, zent ad ca zI0 (zJ0 f7 f29) zD0 44 (.inr (0, 1350))) := by
  rfl
theorem zwk_45 : (wsA ca f7 f29 ad)[45]? = some (ad 45, zent ad ca zI0 (zJ0 f7 f29) zD0 45 (.inr (0, 1350))) := by
  rfl
theorem zwk_46 : (wsA ca f7 f29 ad)[46]? = some (ad 46, zent ad ca zI0 (zJ0 f7 f29) zD0 46 (.inr (0, 24))) := by
  rfl
theorem zwk_47 : (wsA ca f7 f29 ad)[47]? = some (ad 47, zent ad ca zI0 (zJ0 f7 f29) zD0 47 (.inr (0, 6))) := by
  rfl
theorem zwk_48 : (wsA ca f7 f29 ad)[48]? = some (ad 48, zent ad ca zI0 (zJ0 f7 f29) zD0 48 (.inr (0, 40))) := by
  rfl
theorem zwk_49 : (wsA ca f7 f29 ad)[49]? = some (ad 49, zent ad ca zI0 (zJ0 f7 f29) zD0 49 (.inr (0, 1000))) := by
  rfl
theorem zwk_50 : (wsA ca f7 f29 ad)[50]? = some (ad 50, zent ad ca zI0 (zJ0 f7 f29) zD0 50 (.inr (1, 452))) := by
  rfl
theorem zwk_51 : (wsA ca f7 f29 ad)[51]? = some (ad 51, zent ad ca zI0 (zJ0 f7 f29) zD0 51 (.inr (0, 1000))) := by
  rfl
theorem zwk_52 : (wsA ca f7 f29 ad)[52]? = some (ad 52, zent ad ca zI0 (zJ0 f7 f29) zD0 52 (.inr (1, 1))) := by
  rfl
theorem zwk_53 : (wsA ca f7 f29 ad)[53]? = some (ad 53, zent ad ca zI0 (zJ0 f7 f29) zD0 53 (.inr (2, 1))) := by
  rfl
theorem zwk_all : ∀ k ∈ [0, 1, 2, 3, 4, 5, 6, 7, 8, 9, 10, 11, 12, 13, 14, 15, 16, 17, 18, 19, 20, 21, 22, 23, 24, 25, 26, 27, 28, 29, 30, 31, 32, 33, 34, 35, 36, 37, 38, 39, 40, 41, 42, 43, 44, 45, 46, 47, 48, 49, 50, 51, 52, 53], ∀ q, (zW zSH ad ca zI0 (zJ0 f7 f29) zD0)[k]? = some q → (wsA ca f7 f29 ad)[zgi k]? = some q := List.forall_mem_cons.mpr ⟨fun q hk => by rw [zW_of (sh := .inl (9, [(2, 1), (2, 3), (2, 8), (2, 11), (2, 12), (2, 19), (2, 20), (2, 23), (0, 0)])) rfl] at hk; rw [← hk]; exact zwk_0, List.forall_mem_cons.mpr ⟨fun q hk => by rw [zW_of (sh := .inl (7, [(2, 2), (0, 0)])) rfl] at hk; rw [← hk]; exact zwk_1, List.forall_mem_cons.mpr ⟨fun q hk => by rw [zW_of (sh := .inr (3, 2000)) rfl] at hk; rw [← hk]; exact zwk_2, List.forall_mem_cons.mpr ⟨fun q hk => by rw [zW_of (sh := .inl (8, [(2, 4), (2, 5), (2, 6), (2, 7), (0, 0)])) rfl] at hk; rw [← hk]; exact zwk_3, List.forall_mem_cons.mpr ⟨fun q hk => by rw [zW_of (sh := .inr (0, 451)) rfl] at hk; rw [← hk]; exact zwk_4, List.forall_mem_cons.mpr ⟨fun q hk => by rw [zW_of (sh := .inr (0, 451)) rfl] at hk; rw [← hk]; exact zwk_5, List.forall_mem_cons.mpr ⟨fun q hk => by rw [zW_of (sh := .inr (1, 451)) rfl] at hk; rw [← hk]; exact zwk_6, List.forall_mem_cons.mpr ⟨fun q hk => by rw [zW_of (sh := .inr (1, 32)) rfl] at hk; rw [← hk]; exact zwk_7, List.forall_mem_cons.mpr ⟨fun q hk => by rw [zW_of (sh := .inl (0, [(2, 9), (2, 10), (0, 0)])) rfl] at hk; rw [← hk]; exact zwk_8, List.forall_mem_cons.mpr ⟨fun q hk => by rw [zW_of (sh := .inr (0, 450)) rfl] at hk; rw [← hk]; exact zwk_9, List.forall_mem_cons.mpr ⟨fun q hk => by rw [zW_of (sh := .inr (0, 450)) rfl] at hk; rw [← hk]; exact zwk_10, List.forall_mem_cons.mpr ⟨fun q hk => by rw [zW_of (sh := .inl (1, [(2, 3), (2, 8), (0, 0), (0, 0)])) rfl] at hk; rw [← hk]; exact zwk_11, List.forall_mem_cons.mpr ⟨fun q hk => by rw [zW_of (sh := .inl (5, [(2, 13), (2, 14), (2, 15), (2, 16), (2, 17), (2, 18), (0, 0), (3, 0)])) rfl] at hk; rw [← hk]; exact zwk_12, List.forall_mem_cons.mpr ⟨fun q hk => by rw [zW_of (sh := .inr (0, 7)) rfl] at hk; rw [← hk]; exact zwk_13, List.forall_mem_cons.mpr ⟨fun q hk => by rw [zW_of (sh := .inr (0, 36)) rfl] at hk; rw [← hk]; exact zwk_14, List.forall_mem_cons.mpr ⟨fun q hk => by rw [zW_of (sh := .inr (0, 6)) rfl] at hk; rw [← hk]; exact zwk_15, List.forall_mem_cons.mpr ⟨fun q hk => by rw [zW_of (sh := .inr (0, 8)) rfl] at hk; rw [← hk]; exact zwk_16, List.forall_mem_cons.mpr ⟨fun q hk => by rw [zW_of (sh := .inr (0, 28)) rfl] at hk; rw [← hk]; exact zwk_17, List.forall_mem_cons.mpr ⟨fun q hk => by rw [zW_of (sh := .inr (0, 28)) rfl] at hk; rw [← hk]; exact zwk_18, List.forall_mem_cons.mpr ⟨fun q hk => by rw [zW_of (sh := .inl (4, [(2, 3), (2, 12), (0, 0), (0, 0), (0, 0), (0, 0), (0, 0), (3, 0)])) rfl] at hk; rw [← hk]; exact zwk_19, List.forall_mem_cons.mpr ⟨fun q hk => by rw [zW_of (sh := .inl (6, [(2, 21), (2, 22), (0, 0), (0, 0), (0, 0), (0, 0), (0, 0), (3, 0), (3, 0), (1, 0)])) rfl] at hk; rw [← hk]; exact zwk_20, List.forall_mem_cons.mpr ⟨fun q hk => by rw [zW_of (sh := .inr (0, 30)) rfl] at hk; rw [← hk]; exact zwk_21, List.forall_mem_cons.mpr ⟨fun q hk => by rw [zW_of (sh := .inr (0, 40)) rfl] at hk; rw [← hk]; exact zwk_22, List.forall_mem_cons.mpr ⟨fun q hk => by rw [zW_of (sh := .inl (2, [(2, 12), (2, 20), (2, 24), (2, 27), (0, 0), (0, 0), (0, 0), (0, 0), (0, 0), (1, 0)])) rfl] at hk; rw [← hk]; exact zwk_23, List.forall_mem_cons.mpr ⟨fun q hk => by rw [zW_of (sh := .inl (3, [(2, 8), (2, 12), (2, 20), (2, 25), (2, 26), (0, 0), (0, 0), (0, 0), (0, 0)])) rfl] at hk; rw [← hk]; exact zwk_24, List.forall_mem_cons.mpr ⟨fun q hk => by rw [zW_of (sh := .inr (1, 64)) rfl] at hk; rw [← hk]; exact zwk_25, List.forall_mem_cons.mpr ⟨fun q hk => by rw [zW_of (sh := .inr (0, 4)) rfl] at hk; rw [← hk]; exact zwk_26, List.forall_mem_cons.mpr ⟨fun q hk => by rw [zW_of (sh := .inr (0, 1000)) rfl] at hk; rw [← hk]; exact zwk_27, List.forall_mem_cons.mpr ⟨fun q hk => by rw [zW_of (sh := .inl (11, [(0, 0), (2, 29), (2, 30), (0, 0), (0, 0), (2, 31), (2, 32), (2, 33), (0, 0), (2, 34), (2, 35), (2, 36), (2, 37), (2, 38), (2, 39), (2, 40), (2, 41), (2, 42), (0, 0), (0, 0), (2, 43), (2, 44), (2, 45), (3, 0), (0, 0), (3, 0), (3, 0), (0, 0), (0, 0), (0, 0), (0, 0), (1, 0), (1, 0), (0, 0), (0, 0), (0, 0), (0, 0), (0, 0), (0, 0), (0, 0), (3, 0), (3, 0), (0, 0), (2, 46), (2, 47), (0, 0), (2, 48), (0, 0), (2, 49), (2, 50), (2, 51)])) rfl] at hk; rw [← hk]; exact zwk_28, List.forall_mem_cons.mpr ⟨fun q hk => by rw [zW_of (sh := .inr (1, 32)) rfl] at hk; rw [← hk]; exact zwk_29, List.forall_mem_cons.mpr ⟨fun q hk => by rw [zW_of (sh := .inr (0, 2000)) rfl] at hk; rw [← hk]; exact zwk_30, List.forall_mem_cons.mpr ⟨fun q hk => by rw [zW_of (sh := .inr (0, 452)) rfl] at hk; rw [← hk]; exact zwk_31, List.forall_mem_cons.mpr ⟨fun q hk => by rw [zW_of (sh := .inr (0, 452)) rfl] at hk; rw [← hk]; exact zwk_32, List.forall_mem_cons.mpr ⟨fun q hk => by rw [zW_of (sh := .inr (1, 452)) rfl] at hk; rw [← hk]; exact zwk_33, List.forall_mem_cons.mpr ⟨fun q hk => by rw [zW_of (sh := .inr (1, 46)) rfl] at hk; rw [← hk]; exact zwk_34, List.forall_mem_cons.mpr ⟨fun q hk => by rw [zW_of (sh := .inr (0, 46)) rfl] at hk; rw [← hk]; exact zwk_35, List.forall_mem_cons.mpr ⟨fun q hk => by rw [zW_of (sh := .inr (0, 46)) rfl] at hk; rw [← hk]; exact zwk_36, List.forall_mem_cons.mpr ⟨fun q hk => by rw [zW_of (sh := .inr (0, 9)) rfl] at hk; rw [← hk]; exact zwk_37, List.forall_mem_cons.mpr ⟨fun q hk => by rw [zW_of (sh := .inr (0, 36)) rfl] at hk; rw [← hk]; exact zwk_38, List.forall_mem_cons.mpr ⟨fun q hk => by rw [zW_of (sh := .inr (0, 6)) rfl] at hk; rw [← hk]; exact zwk_39, List.forall_mem_cons.mpr ⟨fun q hk => by rw [zW_of (sh := .inr (0, 28)) rfl] at hk; rw [← hk]; exact zwk_40, List.forall_mem_cons.mpr ⟨fun q hk => by rw [zW_of (sh := .inr (0, 28)) rfl] at hk; rw [← hk]; exact zwk_41, List.forall_mem_cons.mpr ⟨fun q hk => by rw [zW_of (sh := .inr (0, 8)) rfl] at hk; rw [← hk]; exact zwk_42, List.forall_mem_cons.mpr ⟨fun q hk => by rw [zW_of (sh := .inr (0, 1350)) rfl] at hk; rw [← hk]; exact zwk_43, List.forall_mem_cons.mpr ⟨fun q hk => by rw [zW_of (sh := .inr (0, 1350)) rfl] at hk; rw [← hk]; exact zwk_44, List.forall_mem_cons.mpr ⟨fun q hk => by rw [zW_of (sh := .inr (0, 1350)) rfl] at hk; rw [← hk]; exact zwk_45, List.forall_mem_cons.mpr ⟨fun q hk => by rw [zW_of (sh := .inr (0, 24)) rfl] at hk; rw [← hk]; exact zwk_46, List.forall_mem_cons.mpr ⟨fun q hk => by rw [zW_of (sh := .inr (0, 6)) rfl] at hk; rw [← hk]; exact zwk_47, List.forall_mem_cons.mpr ⟨fun q hk => by rw [zW_of (sh := .inr (0, 40)) rfl] at hk; rw [← hk]; exact zwk_48, List.forall_mem_cons.mpr ⟨fun q hk => by rw [zW_of (sh := .inr (0, 1000)) rfl] at hk; rw [← hk]; exact zwk_49, List.forall_mem_cons.mpr ⟨fun q hk => by rw [zW_of (sh := .inr (1, 452)) rfl] at hk; rw [← hk]; exact zwk_50, List.forall_mem_cons.mpr ⟨fun q hk => by rw [zW_of (sh := .inr (0, 1000)) rfl] at hk; rw [← hk]; exact zwk_51, List.forall_mem_cons.mpr ⟨fun q hk => by rw [zW_of (sh := .inr (1, 1)) rfl] at hk; rw [← hk]; exact zwk_52, List.forall_mem_cons.mpr ⟨fun q hk => by rw [zW_of (sh := .inr (2, 1)) rfl] at hk; rw [← hk]; exact zwk_53, fun _ h => absurd h List.not_mem_nil⟩⟩⟩⟩⟩⟩⟩⟩⟩⟩⟩⟩⟩⟩⟩⟩⟩⟩⟩⟩⟩⟩⟩⟩⟩⟩⟩⟩⟩⟩⟩⟩⟩⟩⟩⟩⟩⟩⟩⟩⟩⟩⟩⟩⟩⟩⟩⟩⟩⟩⟩⟩⟩⟩
theorem zW_len {I : zI} {J : zJ} {D : zD} : (zW zSH ad ca I J D).length = 54 := by
  unfold zW
  rw [List.length_mapIdx]
  rfl
theorem zgi_in : ∀ k, k < 54 → k ∈ [0, 1, 2, 3, 4, 5, 6, 7, 8, 9, 10, 11, 12, 13, 14, 15, 16, 17, 18, 19, 20, 21, 22, 23, 24, 25, 26, 27, 28, 29, 30, 31, 32, 33, 34, 35, 36, 37, 38, 39, 40, 41, 42, 43, 44, 45, 46, 47, 48, 49, 50, 51, 52, 53] := by decide +kernel
theorem zwk_by (k : Nat) (q : Nat × va_E) (hk : (zW zSH ad ca zI0 (zJ0 f7 f29) zD0)[k]? = some q) : (wsA ca f7 f29 ad)[zgi k]? = some q := by
  have hl := (List.getElem?_eq_some_iff.mp hk).1
  rw [zW_len] at hl
  exact zwk_all k (zgi_in k hl) q hk
theorem zP_W {G : va_G} {H : Heap} (h : va_P G vwCl (wsA ca f7 f29 ad) H) : va_P G vwCl (zW zSH ad ca zI0 (zJ0 f7 f29) zD0) H := h.by zgi zwk_by
theorem zgi_inj : ∀ i, i < 54 → ∀ j, j < 54 → zgi i = zgi j → i = j := by decide +kernel
theorem zD_W {A : Nat → Prop} (h : va_D A (wsA ca f7 f29 ad)) : va_D A (zW zSH ad ca zI0 (zJ0 f7 f29) zD0) := h.by zgi zwk_by (fun i j hi hj e => zgi_inj i (by rw [zW_len] at hi; exact hi) j (by rw [zW_len] at hj; exact hj) e)
end ZWK
/-! ===== the first state ===== -/
def zS0 : lS := ((fun _ => 0, 0), -1, none)
theorem zCI0 {f7 f29 : Nat → Int64} (h7 : ∀ i, i < 32 → f7 i = lKc.getD i 0) : CI zS0 zI0 (zJ0 f7 f29) := by
  refine ⟨⟨⟨Nat.zero_le _, fun a h => absurd h (Nat.not_lt_zero _)⟩, ?_, fun a h => absurd h (Nat.not_lt_zero _)⟩, fun i hi => h7 i hi, ?_, ?_⟩
  · show zI0 1 1 = zi ((0 : Nat) : Int)
    decide +kernel
  · show zI0 0 8 = -1
    decide +kernel
  · show zI0 12 7 = 0 ∧ (∀ x, x < 7 → zI0 13 x = 0) ∧ (zI0 23 5 = -1 ∧ zI0 23 4 = 0 ∧ zI0 20 2 = 0 ∧ zI0 20 3 = 0 ∧ zJ0 f7 f29 20 9 = 0)
    exact ⟨by decide +kernel, fun x _ => rfl, by decide +kernel, by decide +kernel, by decide +kernel, by decide +kernel, rfl⟩
theorem zMI0 {f7 f29 : Nat → Int64} (h29 : ∀ i, i < 32 → f29 i = lKm.getD i 0) : MI zS0 zI0 (zJ0 f7 f29) := by
  refine ⟨⟨⟨Nat.zero_le _, fun a h => absurd h (Nat.not_lt_zero _)⟩, ?_, fun a h => absurd h (Nat.not_lt_zero _)⟩, fun i hi => h29 i hi, ?_, ?_⟩
  · show zI0 28 3 = zi ((0 : Nat) : Int)
    decide +kernel
  · show zI0 28 29 = -1
    decide +kernel
  · show zI0 28 23 = 0 ∧ (∀ x, x < 9 → zI0 37 x = 0) ∧ (zI0 28 30 = 0 ∧ zI0 28 45 = 0 ∧ zI0 28 47 = 0)
    exact ⟨by decide +kernel, fun x _ => rfl, by decide +kernel, by decide +kernel, by decide +kernel⟩
