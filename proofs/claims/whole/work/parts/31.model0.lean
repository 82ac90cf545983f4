abbrev mF (q : Nat → Nat) (th tz : Int32) : List Value := [.int th, .int tz, .ref (q 0), .ref (q 1), .ref (q 2), .ref (q 3), .ref (q 4), .ref (q 5), .ref (q 6), .ref (q 7), .ref (q 8), .ref (q 9), .ref (q 10), .ref (q 11)]
theorem b2i_narrow (b : Bool) : narrow .boolean (.int (b2i b)) = .int (b2i b) := by cases b <;> rfl
def bF (A : Nat → Bool) : Nat → Int32 := fun k => b2i (A k)
theorem fill_s {f : Nat → Int32} {B : Nat → Bool} {k : Nat} {v : Int32} (h : ∀ j, j < k → f j = b2i (B j)) (hv : v = b2i (B k)) : ∀ j, j < k + 1 → upd f k v j = b2i (B j) := fun j hj => by
  by_cases e : j = k
  · subst e
    rw [pk_us, hv]
  · rw [pk_un e]
    exact h j (by omega)
theorem eq_of_le {a b : Nat} (h1 : a ≤ b) (h2 : b ≤ a) : a = b := Nat.le_antisymm h1 h2
