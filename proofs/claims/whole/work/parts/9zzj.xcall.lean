/-! ===== a String's method called from a constructor ===== -/
section XCall
variable {p : Program} {l : Launch} {e : Env} {R : Room} {s : State} {m : MethodId} {args : Array Value} {below : List Frame} {meth : Method} {c : Code} {Q : State → Prop} {H : Heap} {locs : List Loc} {cells slots : Nat}
variable {A : Nat → Prop} {G : va_G} {ad ca : Nat → Nat} {mi pc : Nat} {ls : Array Slot}
theorem zWn_P {I : zI} {J : zJ} {D : zD} : va_P G vwCl (zW [] ad ca I J D) H := fun k q hk => nomatch hk
theorem zWn_D {I : zI} {J : zJ} {D : zD} : va_D A (zW [] ad ca I J D) := ⟨fun i j x y hi => (by cases hi), fun k q hk => (by cases hk)⟩
theorem x_callV {d idx mj j : Nat} {v : Int32} {As rest : List Value} {I : zI} {J : zJ} {D : zD} {P9 : zP} (hC : zC [] p s m args c A G ad ca mi) (hEX : zEX ad zRz zXT2 A s s.heap) (hR : d + 11 ≤ R.frames ∧ (d + 1) * 100 ≤ R.locals) (hS : va_S A s.heap H locs) (hsz : ls.size = znl mi)
    (hdg : decode (zcc mi) pc = .ok (.invokevirtual idx, 3)) (hlk : Cond.methodLink (zown mi) idx (zym mj) ∈ zAL) (hmv : zMv mj As.length) (hcls : (zym mj).cls = "java/lang/String") (hj : j < 3) (hcat : (rest.map fun v => v.category).sum ≤ 8) (hM : xx zRz d mj (.ref (110 + j) :: As) I J D 0 0 P9) (hv : ∀ o I J D, P9 o I J D → o = .inl (some (.int v))) (hAs : As.map (zV ad) = As) (hc : cells ≤ R.cells) (hs : slots ≤ R.slots)
    (kk : ∀ (H1 : Heap) (locs1 : List Loc), va_S A s.heap H1 locs1 → (∀ x, x < H.size → H1[x]? = H[x]?) → W p l e R s m args below meth c H1 locs1 cells slots Q (F0 m (pc + 3) ls (.int v :: rest))) : W p l e R s m args below meth c H locs cells slots Q (F0 m pc ls (As.reverse ++ .ref (ad (110 + j)) :: rest)) := by
  obtain ⟨hmo, hin, hse⟩ := hmv
  have hM2 := x_met (l := l) hmo hM G ad ca H.size
  have hC0 := hC
  obtain ⟨hx, hb, hml, hown, hts, hK, hD, hA⟩ := hC
  have hr : vx_Run p l e R s m args below meth c H locs cells slots 0 0 (F0 m pc ls (As.reverse ++ .ref (ad (110 + j)) :: rest)) rest (zQc [] G ad ca P9 (va_A (zW [] ad ca I J D) H.size) (Value.ref (ad (110 + j)) :: As).toArray) (zXC [] G ad ca P9 (va_A (zW [] ad ca I J D) H.size)) (va_A (zW [] ad ca I J D) H.size) := by
    refine vx_runV (C := (zym mj).cls) (b := ad (110 + j)) (As := As) (rest := rest) (Ts := zAL) (n := As.length) (nL := znl mi) ⟨hx, hb, hml, hown, hts⟩ hM2
      (cwV As.length hts (zGood (fun w hw => ?_)) rfl rfl rfl ⟨rfl, hmo.2.2.1⟩ ⟨?_, ?_⟩)
      ⟨zPc_blind zXT2_ok, ?_, ?_⟩ rfl rfl hsz rfl ?_ hdg ⟨hc, hs⟩
    · rcases List.mem_append.mp hw with hw | hw
      · simp only [List.mem_cons, List.not_mem_nil, or_false] at hw
        rcases hw with rfl | rfl | rfl | rfl
        · exact hlk
        · exact hin
        · exact hse
        · exact hmo.2.1
      · exact zws_in hmo w hw
    · exact hR.1
    · have h60 := hmo.2.2.2.1
      show 8 + (znl mj + 11) + d * 100 ≤ R.locals
      omega
    · rw [hcls]
      exact vk_recv (adK := fun i => ad (110 + i)) (i := j) hEX.2.2.1.2.2.2.2.2.2.2.1 hj hS
    · have h9 := zpre (SH := []) (av := .ref (110 + j) :: As) zXT2_ok hC0 hEX (zWn_P (I := I) (J := J) (D := D)) hS
      rw [List.map_cons, hAs] at h9
      exact h9
    · exact lv_room hcat
  intro T hT X
  rcases hr T hT X with ⟨v', st₀, t, T', L, h0, X', hL, e1, e2, ⟨w, I', J', D', hw, hp, hP9, hF⟩, st⟩ | ⟨q, st₀, t, T', L, E, ce, h0, X', hL, e1, e2, ⟨x, I', J', D', hE, hp, -⟩, -⟩
  · have h8 := hv _ _ _ _ hp
    cases h8
    cases hw
    obtain ⟨k1, k2, k3⟩ := vx_keep (A0 := A) h0 e1 hS (fun q _ h => zA_sub (SH := []) hD hA hS q h) (zA_sub (SH := []) hD hA hS) hL hF
    obtain ⟨t2, a1, b1⟩ := kk T'.heap (locs ++ L) k3 (fun x hx9 => k2 x hx9 (fun z => by
      rcases z with ⟨k, e9, h9⟩ | z
      · cases h9
      · omega)) T' rfl X'
    exact ⟨t2, st t2 a1, b1⟩
  · have h8 := hv _ _ _ _ hp
    cases h8
end XCall
