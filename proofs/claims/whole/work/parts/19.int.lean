/-! ===== small numbers: Int32 by Int ===== -/
def zi (n : Int) : Int32 := Int32.ofInt n
theorem zlit (k : Nat) : (OfNat.ofNat k : Int32) = zi (OfNat.ofNat k : Int) := by
  show Int32.ofNat k = Int32.ofInt (k : Int)
  exact (Int32.ofInt_eq_ofNat (n := k)).symm
theorem zi_toInt {n : Int} (h1 : -2147483648 ≤ n) (h2 : n < 2147483648) : (zi n).toInt = n := Int32.toInt_ofInt_of_le h1 h2
theorem zi_of (x : Int32) : zi x.toInt = x := Int32.ofInt_toInt x
theorem zi_lt {a b : Int} (h1 : -2147483648 ≤ a ∧ a < 2147483648) (h2 : -2147483648 ≤ b ∧ b < 2147483648) : zi a < zi b ↔ a < b := by
  rw [Int32.lt_iff_toInt_lt, zi_toInt h1.1 h1.2, zi_toInt h2.1 h2.2]
theorem zi_le {a b : Int} (h1 : -2147483648 ≤ a ∧ a < 2147483648) (h2 : -2147483648 ≤ b ∧ b < 2147483648) : zi a ≤ zi b ↔ a ≤ b := by
  rw [Int32.le_iff_toInt_le, zi_toInt h1.1 h1.2, zi_toInt h2.1 h2.2]
theorem zi_eq {a b : Int} (h1 : -2147483648 ≤ a ∧ a < 2147483648) (h2 : -2147483648 ≤ b ∧ b < 2147483648) : zi a = zi b ↔ a = b := by
  constructor
  · intro h
    have h9 := congrArg Int32.toInt h
    rw [zi_toInt h1.1 h1.2, zi_toInt h2.1 h2.2] at h9
    exact h9
  · intro h
    rw [h]
theorem zi_add (a b : Int) : zi a + zi b = zi (a + b) := (Int32.ofInt_add a b).symm
theorem zi_sub (a b : Int) : zi a - zi b = zi (a - b) := (Int32.ofInt_sub a b).symm
theorem zi_mul (a b : Int) : zi a * zi b = zi (a * b) := (Int32.ofInt_mul a b).symm
theorem zi_neg (a : Int) : -(zi a) = zi (-a) := (Int32.ofInt_neg a).symm
theorem zi_cl {n : Int} (h1 : 0 ≤ n) (h2 : n < 2147483648) : (zi n).toNatClampNeg = n.toNat := by
  show (zi n).toInt.toNat = n.toNat
  rw [zi_toInt (by omega) h2]
theorem zi_in {n : Int} {N : Nat} (h1 : 0 ≤ n) (h2 : n < N) (h3 : (N : Int) < 2147483648) : vp_in (zi n) N := by
  rw [vp_in_iff, zi_toInt (by omega) (by omega)]
  exact ⟨h1, h2⟩
theorem zi_nat (n : Nat) : Int32.ofNat n = zi (n : Int) := (Int32.ofInt_eq_ofNat (n := n)).symm
theorem zi_L {n : Int} (h1 : -2147483648 ≤ n) (h2 : n < 2147483648) : (zi n).toInt64 = Int64.ofInt n := by
  apply Int64.toInt_inj.mp
  rw [Int32.toInt_toInt64, zi_toInt h1 h2, Int64.toInt_ofInt_of_le (by omega) (by omega)]
/-! frames -/
def zfr {α : Type} (L : List Nat) (f g : Nat → Nat → α) : Prop := ∀ o, ¬ o ∈ L → g o = f o
theorem zfr_refl {α : Type} {L : List Nat} (f : Nat → Nat → α) : zfr L f f := fun _ _ => rfl
theorem zfr_trans {α : Type} {L : List Nat} {f g h : Nat → Nat → α} (a : zfr L f g) (b : zfr L g h) : zfr L f h := fun o ho => (b o ho).trans (a o ho)
theorem zfr_zu {α : Type} {L : List Nat} {f g : Nat → Nat → α} (a : zfr L f g) {o : Nat} (k : Nat) (v : α) (ho : o ∈ L) : zfr L f (zu g o k v) := fun p hp => (zu_row g v (fun e => hp (by rw [e]; exact ho))).trans (a p hp)
theorem zfr_sub {α : Type} {L M : List Nat} {f g : Nat → Nat → α} (a : zfr L f g) (h : ∀ o, o ∈ L → o ∈ M) : zfr M f g := fun o ho => a o (fun q => ho (h o q))
/-! rows as stacks -/
theorem zgd_app {α : Type} (l : List α) (a d : α) (k : Nat) : (l ++ [a]).getD k d = if k < l.length then l.getD k d else if k = l.length then a else d := by
  by_cases h : k < l.length
  · rw [if_pos h]
    simp [List.getD_eq_getElem?_getD, List.getElem?_append_left h]
  · rw [if_neg h]
    by_cases h2 : k = l.length
    · subst h2
      simp
    · rw [if_neg h2]
      have h3 : (l ++ [a]).length ≤ k := by simp; omega
      simp [List.getD_eq_getElem?_getD, List.getElem?_eq_none h3]
