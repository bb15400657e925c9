/-! ===== behind a constructor's call: the old world and the new part together ===== -/
section Join
variable {A : Nat → Prop} {G : va_G} {ad ca : Nat → Nat} {H H1 : Heap} {ws L : va_W} {o : Nat} {x : va_E} {s U : State}
theorem z_join (hP : va_P G vwCl (ws ++ [(o, x)]) H) (hD : va_D A (ws ++ [(o, x)])) (hA : ∀ y, zFq o H.size y → A y) (hk : ∀ y, y < H.size → ¬ y = o → H1[y]? = H[y]?) (hP1 : va_P G vwCl L H1) (hD1 : va_D (zFq o H.size) L) : va_P G vwCl (ws ++ L) H1 ∧ va_D A (ws ++ L) := by
  have old : ∀ (k : Nat) (y : Nat × va_E), ws[k]? = some y → y.1 < H.size ∧ ¬ y.1 = o := by
    intro k y hy
    have h1 := zat_app (r := [(o, x)]) hy
    refine ⟨(hP k y h1).lt, fun z => ?_⟩
    have h2 : (ws ++ [(o, x)])[ws.length]? = some (o, x) := zat_end _ _
    have h3 := hD.1 k ws.length y (o, x) h1 h2 z
    have h4 := (List.getElem?_eq_some_iff.mp hy).1
    omega
  have hPw : va_P G vwCl ws H1 := (zP_pre hP).kept (fun k y hy => hk y.1 (old k y hy).1 (old k y hy).2)
  refine ⟨hPw.app hP1, va_D.app ⟨fun i j a b hi hj hab => hD.1 i j a b (zat_app hi) (zat_app hj) hab, fun k y hy => hD.2 k y (zat_app hy)⟩ (hD1.weaken (fun _ y _ h => hA y.1 h)) (fun i j a b hi hj z => ?_)⟩
  have h1 := old i a hi
  rcases hD1.2 j b hj with h | h
  · exact h1.2 (z.trans h)
  · have := h1.1
    rw [z] at this
    omega
/-- what the small constructors ask of the start of a call -/
theorem z_preo {ci : Nat} {dflt : List Value} {av : List Value} (hK : va_K G vwCl (zTY ca) s) (hP : va_P G vwCl (ws ++ [(o, .inr (ci, dflt))]) H) (hU : U.heap = H) (hW : s.WarmedH U.vm) : zPo G ca ci dflt o H.size av (.ref o :: av).toArray U := by
  have h1 : (ws ++ [(o, (.inr (ci, dflt) : va_E))])[ws.length]? = some (o, .inr (ci, dflt)) := zat_end _ _
  have h2 := hP _ _ h1
  refine ⟨rfl, by rw [hU], h2.lt, ?_, va_K.moved hW.alike hK⟩
  rw [hU]
  intro k y hy
  cases k with
  | zero => cases hy; exact h2
  | succ k => cases hy
/-- and what those ask that call Strings -/
theorem z_prex {ci : Nat} {dflt : List Value} {av : List Value} {locs : List Loc} (hK : va_K G vwCl (zTY ca) s) (hEX : zEX ad zRz zXT2 A s s.heap) (hS : va_S A s.heap H locs) (hA : ∀ y, zFq o H.size y → A y) (hP : va_P G vwCl (ws ++ [(o, .inr (ci, dflt))]) H) (hU : U.heap = H) (hW : s.WarmedH U.vm) : zPx G ad ca ci dflt o H.size av (.ref o :: av).toArray U := by
  obtain ⟨-, h0, h1, h2, h3⟩ := z_preo (ca := ca) (av := av) hK hP hU hW
  refine ⟨rfl, h0, h1, h2, h3, ?_⟩
  have h9 := zEX.kept zXT2_ok hEX hS.2.1 hS.1 hA
  have h8 := zEX.moved (U := U) zXT2_ok hW h9
  rw [hU]
  exact h8
end Join
