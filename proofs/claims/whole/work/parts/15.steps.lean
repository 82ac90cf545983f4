/-! A row of five lanes written at once. -/
def up5 (M : Nat → Int64) (b : Nat) (v0 v1 v2 v3 v4 : Int64) : Nat → Int64 := vp_updL (vp_updL (vp_updL (vp_updL (vp_updL M b v0) (b + 1) v1) (b + 2) v2) (b + 3) v3) (b + 4) v4
theorem up5_out {M : Nat → Int64} {b i : Nat} {v0 v1 v2 v3 v4 : Int64} (h : i < b ∨ b + 5 ≤ i) : up5 M b v0 v1 v2 v3 v4 i = M i := by
  unfold up5
  rw [pk_uLn (by omega), pk_uLn (by omega), pk_uLn (by omega), pk_uLn (by omega), pk_uLn (by omega)]
theorem up5_0 {M : Nat → Int64} {b : Nat} {v0 v1 v2 v3 v4 : Int64} : up5 M b v0 v1 v2 v3 v4 b = v0 := by
  unfold up5
  rw [pk_uLn (by omega), pk_uLn (by omega), pk_uLn (by omega), pk_uLn (by omega), pk_uLs]
theorem up5_1 {M : Nat → Int64} {b : Nat} {v0 v1 v2 v3 v4 : Int64} : up5 M b v0 v1 v2 v3 v4 (b + 1) = v1 := by
  unfold up5
  rw [pk_uLn (by omega), pk_uLn (by omega), pk_uLn (by omega), pk_uLs]
theorem up5_2 {M : Nat → Int64} {b : Nat} {v0 v1 v2 v3 v4 : Int64} : up5 M b v0 v1 v2 v3 v4 (b + 2) = v2 := by
  unfold up5
  rw [pk_uLn (by omega), pk_uLn (by omega), pk_uLs]
theorem up5_3 {M : Nat → Int64} {b : Nat} {v0 v1 v2 v3 v4 : Int64} : up5 M b v0 v1 v2 v3 v4 (b + 3) = v3 := by
  unfold up5
  rw [pk_uLn (by omega), pk_uLs]
theorem up5_4 {M : Nat → Int64} {b : Nat} {v0 v1 v2 v3 v4 : Int64} : up5 M b v0 v1 v2 v3 v4 (b + 4) = v4 := by
  unfold up5
  rw [pk_uLs]
/-- before the row y: the rows under it are done, the others as they were -/
def rowsDone (F L M : Nat → Int64) (y : Nat) : Prop := (∀ i, i < 5 * y → M i = F i) ∧ ∀ i, 5 * y ≤ i → M i = L i
theorem rowsDone_0 (F L : Nat → Int64) : rowsDone F L L 0 := ⟨fun i h => absurd h (by omega), fun _ _ => rfl⟩
theorem rowsDone_s {F L M : Nat → Int64} {y : Nat} {v0 v1 v2 v3 v4 : Int64} (h : rowsDone F L M y) (h0 : v0 = F (5 * y)) (h1 : v1 = F (5 * y + 1)) (h2 : v2 = F (5 * y + 2)) (h3 : v3 = F (5 * y + 3)) (h4 : v4 = F (5 * y + 4)) : rowsDone F L (up5 M (5 * y) v0 v1 v2 v3 v4) (y + 1) := by
  refine ⟨fun i hi => ?_, fun i hi => ?_⟩
  · by_cases hl : i < 5 * y
    · rw [up5_out (Or.inl hl)]
      exact h.1 i hl
    · rcases (show i = 5 * y ∨ i = 5 * y + 1 ∨ i = 5 * y + 2 ∨ i = 5 * y + 3 ∨ i = 5 * y + 4 by omega) with e | e | e | e | e
      · rw [e, up5_0, h0]
      · rw [e, up5_1, h1]
      · rw [e, up5_2, h2]
      · rw [e, up5_3, h3]
      · rw [e, up5_4, h4]
  · rw [up5_out (Or.inr (by omega))]
    exact h.2 i (by omega)
theorem lTheta_row (L : Nat → Int64) (y k : Nat) (hk : k < 5) : L (5 * y + k) ^^^ lD L k = lTheta L (5 * y + k) := by
  unfold lTheta
  rw [show (5 * y + k) % 5 = k by omega]
theorem lChi_row (L : Nat → Int64) (y k a b : Nat) (hk : k < 5) (ha : a = (k + 1) % 5) (hb : b = (k + 2) % 5) : L (5 * y + k) ^^^ ((L (5 * y + a) ^^^ (-1)) &&& L (5 * y + b)) = lChi L (5 * y + k) := by
  unfold lChi
  rw [show (5 * y + k) % 5 = k by omega, show (5 * y + k) / 5 = y by omega, ha, hb]
