/-! The permutation over 1,600 bits, bit by bit: what both sides are tied to. A state is a function from places to bits; only places under 1600 count. -/
def b2i (b : Bool) : Int32 := if b = true then 1 else 0
theorem b2i_t : b2i true = 1 := rfl
theorem b2i_f : b2i false = 0 := rfl
theorem b2i_inj {a b : Bool} : b2i a = b2i b ↔ a = b := by cases a <;> cases b <;> decide
theorem b2i_0 {a : Bool} : b2i a = 0 ↔ a = false := by cases a <;> decide
theorem b2i_n0 {a : Bool} : ¬ b2i a = 0 ↔ a = true := by cases a <;> decide
theorem b2i_xor_ne {a b : Bool} (h : ¬ b2i a = b2i b) : b2i (a ^^ b) = 1 := by revert h; cases a <;> cases b <;> decide
theorem b2i_xor_eq {a b : Bool} (h : b2i a = b2i b) : b2i (a ^^ b) = 0 := by revert h; cases a <;> cases b <;> decide
theorem b2i_nar (b : Bool) : vp_nar .boolean (b2i b) = b2i b := by cases b <;> decide
def kAt (x y z : Nat) : Nat := 64 * (5 * (y % 5) + x % 5) + z
def kParN (A : Nat → Bool) (x z : Nat) : Nat → Bool
  | 0 => false
  | n + 1 => kParN A x z n ^^ A (kAt x n z)
def kPar (A : Nat → Bool) (x z : Nat) : Bool := kParN A x z 5
def kTheta (A : Nat → Bool) (k : Nat) : Bool := A k ^^ (kPar A (k / 64 % 5 + 4) (k % 64) ^^ kPar A (k / 64 % 5 + 1) ((k % 64 + 63) % 64))
def kOff (i : Nat) : Nat := ([0, 1, 62, 28, 27, 36, 44, 6, 55, 20, 3, 10, 43, 25, 39, 41, 45, 15, 21, 8, 18, 2, 61, 56, 14] : List Nat).getD i 0
def kRho (A : Nat → Bool) (k : Nat) : Bool := A (64 * (k / 64) + (k % 64 + (64 - kOff (k / 64))) % 64)
def kSrc (i : Nat) : Nat := 5 * (i % 5) + (i % 5 + 3 * (i / 5)) % 5
def kPi (A : Nat → Bool) (k : Nat) : Bool := A (64 * kSrc (k / 64) + k % 64)
def kChi (A : Nat → Bool) (k : Nat) : Bool := A k ^^ ((!A (kAt (k / 64 % 5 + 1) (k / 64 / 5) (k % 64))) && A (kAt (k / 64 % 5 + 2) (k / 64 / 5) (k % 64)))
def kLf : Nat → Nat
  | 0 => 1
  | n + 1 => if 2 * kLf n > 255 then (2 * kLf n - 256) ^^^ 113 else 2 * kLf n
def kRc (t : Nat) : Bool := decide (kLf t % 2 = 1)
def kIotaN (r : Nat) (A : Nat → Bool) : Nat → Nat → Bool
  | 0 => A
  | j + 1 => fun k => if k = 2 ^ j - 1 then kIotaN r A j k ^^ kRc (7 * r + j) else kIotaN r A j k
def kIota (r : Nat) (A : Nat → Bool) : Nat → Bool := kIotaN r A 7
def kRound (r : Nat) (A : Nat → Bool) : Nat → Bool := kIota r (kChi (kPi (kRho (kTheta A))))
def kRounds (A : Nat → Bool) : Nat → Nat → Bool
  | 0 => A
  | r + 1 => kRound r (kRounds A r)
def kecc (A : Nat → Bool) : Nat → Bool := kRounds A 24
def kEq (A B : Nat → Bool) : Prop := ∀ k, k < 1600 → A k = B k
theorem kEq.rf {A : Nat → Bool} : kEq A A := fun _ _ => rfl
theorem kEq.sy {A B : Nat → Bool} (h : kEq A B) : kEq B A := fun k hk => (h k hk).symm
theorem kEq.tr {A B C : Nat → Bool} (h : kEq A B) (g : kEq B C) : kEq A C := fun k hk => (h k hk).trans (g k hk)
theorem kAt_lt {x y z : Nat} (hz : z < 64) : kAt x y z < 1600 := by unfold kAt; omega
theorem kParN_eq {A B : Nat → Bool} (h : kEq A B) (x : Nat) {z : Nat} (hz : z < 64) : ∀ n, kParN A x z n = kParN B x z n
  | 0 => rfl
  | n + 1 => by
    show (kParN A x z n ^^ A (kAt x n z)) = (kParN B x z n ^^ B (kAt x n z))
    rw [kParN_eq h x hz n, h _ (kAt_lt hz)]
theorem kTheta_eq {A B : Nat → Bool} (h : kEq A B) : kEq (kTheta A) (kTheta B) := fun k hk => by
  unfold kTheta kPar
  rw [h k hk, kParN_eq h _ (by omega), kParN_eq h _ (by omega)]
theorem kOff_lt : ∀ i, kOff i < 64 := by
  intro i
  by_cases h : i < 25
  · revert i
    decide +kernel
  · unfold kOff
    rw [List.getD_eq_getElem?_getD, List.getElem?_eq_none (by simpa using h)]
    decide
theorem kRho_eq {A B : Nat → Bool} (h : kEq A B) : kEq (kRho A) (kRho B) := fun k hk => by
  unfold kRho
  exact h _ (by omega)
theorem kSrc_lt (i : Nat) : kSrc i < 25 := by unfold kSrc; omega
theorem kPi_eq {A B : Nat → Bool} (h : kEq A B) : kEq (kPi A) (kPi B) := fun k hk => by
  unfold kPi
  exact h _ (by have := kSrc_lt (k / 64); omega)
theorem kChi_eq {A B : Nat → Bool} (h : kEq A B) : kEq (kChi A) (kChi B) := fun k hk => by
  unfold kChi
  rw [h k hk, h _ (kAt_lt (by omega)), h _ (kAt_lt (by omega))]
theorem kIotaN_eq {A B : Nat → Bool} (h : kEq A B) (r : Nat) : ∀ n, kEq (kIotaN r A n) (kIotaN r B n)
  | 0 => h
  | n + 1 => fun k hk => by
    show (if k = 2 ^ n - 1 then kIotaN r A n k ^^ kRc (7 * r + n) else kIotaN r A n k) = (if k = 2 ^ n - 1 then kIotaN r B n k ^^ kRc (7 * r + n) else kIotaN r B n k)
    rw [kIotaN_eq h r n k hk]
theorem kRound_eq {A B : Nat → Bool} (h : kEq A B) (r : Nat) : kEq (kRound r A) (kRound r B) := kIotaN_eq (kChi_eq (kPi_eq (kRho_eq (kTheta_eq h)))) r 7
theorem kRounds_eq {A B : Nat → Bool} (h : kEq A B) : ∀ n, kEq (kRounds A n) (kRounds B n)
  | 0 => h
  | n + 1 => kRound_eq (kRounds_eq h n) n
theorem kecc_eq {A B : Nat → Bool} (h : kEq A B) : kEq (kecc A) (kecc B) := kRounds_eq h 24
theorem kLf_lt : ∀ n, kLf n < 256
  | 0 => by decide
  | n + 1 => by
    have h := kLf_lt n
    show (if 2 * kLf n > 255 then (2 * kLf n - 256) ^^^ 113 else 2 * kLf n) < 256
    split
    · exact Nat.xor_lt_two_pow (n := 8) (by omega) (by decide)
    · omega
/-- the walk of the lanes in step 2: where it stands before turn t -/
def kPos : Nat → Nat × Nat
  | 0 => (1, 0)
  | t + 1 => ((kPos t).2, (2 * (kPos t).1 + 3 * (kPos t).2) % 5)
def kLane (t : Nat) : Nat := 5 * (kPos t).2 + (kPos t).1
theorem kPos_lt : ∀ t, (kPos t).1 < 5 ∧ (kPos t).2 < 5
  | 0 => by decide
  | t + 1 => ⟨(kPos_lt t).2, Nat.mod_lt _ (by decide)⟩
theorem kLane_off : ∀ t, t < 24 → kOff (kLane t) = (t + 1) * (t + 2) / 2 % 64 := by decide +kernel
theorem kLane_all : ∀ i, i < 25 → i = 0 ∨ ∃ t, t < 24 ∧ i = kLane t := by decide +kernel
theorem kLane_inj : ∀ t, t < 24 → ∀ u, u < 24 → kLane t = kLane u → t = u := by decide +kernel
theorem kLane_pos : ∀ t, t < 24 → 0 < kLane t := by decide +kernel
