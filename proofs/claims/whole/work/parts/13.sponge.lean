/-! A sponge in numbers: its bits and its place; bytes that come in and go out. -/
def mixN (A : Nat → Bool) (p v n : Nat) (k : Nat) : Bool := if 8 * p ≤ k ∧ k < 8 * p + n then (A k ^^ v.testBit (k - 8 * p)) else A k
def mixB (A : Nat → Bool) (p v : Nat) : Nat → Bool := mixN A p v 8
theorem mixB_eq {A B : Nat → Bool} (h : kEq A B) (p v : Nat) : kEq (mixB A p v) (mixB B p v) := fun k hk => by
  unfold mixB mixN
  rw [h k hk]
theorem mixB_0 (A : Nat → Bool) (p : Nat) : mixB A p 0 = A := by
  funext k
  unfold mixB mixN
  split
  · rw [Nat.zero_testBit, Bool.xor_false]
  · rfl
def bv8 (x : Int32) : Nat := x.toBitVec.toNat % 256
theorem bv8_lt (x : Int32) : bv8 x < 256 := Nat.mod_lt _ (by decide)
theorem bv8_nI {n : Nat} (h : n < 256) : bv8 (nI n) = n := by
  unfold bv8
  rw [pk_tn (by omega), Nat.mod_eq_of_lt h]
theorem bv8_bit (x : Int32) (j : Nat) : (bv8 x).testBit j = (decide (j < 8) && x.toBitVec.getLsbD j) := by
  unfold bv8
  rw [show (256 : Nat) = 2 ^ 8 from rfl, Nat.testBit_mod_two_pow]
  rfl
theorem lBit_255 : ∀ j, j < 64 → lBit 255 j = decide (j < 8) := by decide +kernel
theorem lBit_i2l (x : Int32) {j : Nat} (h : j < 32) : lBit x.toInt64 j = x.toBitVec.getLsbD j := by
  unfold lBit
  rw [Int32.toBitVec_toInt64, BitVec.getLsbD_signExtend]
  simp [h, show j < 64 by omega]
theorem lBit_byte (x : Int32) {j : Nat} (h : j < 64) : lBit (x.toInt64 &&& 255) j = (bv8 x).testBit j := by
  rw [lBit_and, lBit_255 j h, bv8_bit]
  by_cases h8 : j < 8
  · rw [lBit_i2l x (by omega)]
    simp [h8]
  · simp [h8]
theorem lMix_ok (L : Nat → Int64) (x : Int32) {p : Nat} (hp : p < 200) : kEq (lb (vp_updL L (p / 8) (L (p / 8) ^^^ lShl (x.toInt64 &&& 255) (8 * (p % 8))))) (mixB (lb L) p (bv8 x)) := fun k hk => by
  have hz : k % 64 < 64 := Nat.mod_lt _ (by decide)
  show lBit (vp_updL L (p / 8) _ (k / 64)) (k % 64) = mixN (lb L) p (bv8 x) 8 k
  unfold mixN
  by_cases h : k / 64 = p / 8
  · rw [h, pk_uLs, lBit_xor, lBit_shl _ (by omega) hz]
    by_cases h2 : 8 * (p % 8) ≤ k % 64
    · rw [lBit_byte x (by omega)]
      by_cases h3 : k < 8 * p + 8
      · rw [if_pos ⟨by omega, h3⟩, show k % 64 - 8 * (p % 8) = k - 8 * p by omega]
        unfold lb
        simp [h, h2]
      · rw [if_neg (by omega), bv8_bit]
        unfold lb
        simp [h, show ¬ (k % 64 - 8 * (p % 8) < 8) by omega]
    · rw [if_neg (by omega)]
      unfold lb
      simp [h, h2]
  · rw [pk_uLn h, if_neg (by omega)]
    rfl
/-- the byte at a place, its highest bit first -/
def byN (A : Nat → Bool) (p : Nat) : Nat → Nat
  | 0 => 0
  | n + 1 => 2 * byN A p n + (if A (8 * p + (7 - n)) = true then 1 else 0)
def byB (A : Nat → Bool) (p : Nat) : Nat := byN A p 8
theorem byN_bit (A : Nat → Bool) (p : Nat) : ∀ n, n ≤ 8 → ∀ j, (byN A p n).testBit j = (decide (j < n) && A (8 * p + (8 - n) + j))
  | 0, _, j => by simp [byN]
  | n + 1, hn, j => by
    show (2 * byN A p n + (if A (8 * p + (7 - n)) = true then 1 else 0)).testBit j = _
    cases j with
    | zero =>
      rw [Nat.testBit_zero, show 8 * p + (8 - (n + 1)) + 0 = 8 * p + (7 - n) by omega]
      cases A (8 * p + (7 - n)) <;> simp <;> omega
    | succ j =>
      rw [Nat.testBit_succ, show (2 * byN A p n + (if A (8 * p + (7 - n)) = true then 1 else 0)) / 2 = byN A p n by split <;> omega, byN_bit A p n (by omega) j, show 8 * p + (8 - (n + 1)) + (j + 1) = 8 * p + (8 - n) + j by omega]
      simp
theorem byN_lt (A : Nat → Bool) (p : Nat) : ∀ n, byN A p n < 2 ^ n
  | 0 => by simp [byN]
  | n + 1 => by
    have h := byN_lt A p n
    show 2 * byN A p n + (if A (8 * p + (7 - n)) = true then 1 else 0) < _
    rw [Nat.pow_succ]
    split <;> omega
theorem byB_lt (A : Nat → Bool) (p : Nat) : byB A p < 256 := byN_lt A p 8
theorem byN_eq {A B : Nat → Bool} (h : kEq A B) {p : Nat} (hp : p < 200) : ∀ n, n ≤ 8 → byN A p n = byN B p n
  | 0, _ => rfl
  | n + 1, hn => by
    show 2 * byN A p n + (if A (8 * p + (7 - n)) = true then 1 else 0) = 2 * byN B p n + (if B (8 * p + (7 - n)) = true then 1 else 0)
    rw [byN_eq h hp n (by omega), h _ (by omega)]
theorem byB_eq {A B : Nat → Bool} (h : kEq A B) {p : Nat} (hp : p < 200) : byB A p = byB B p := byN_eq h hp 8 (Nat.le_refl _)
theorem lBit_lN {n : Nat} (j : Nat) (h : j < 64) : lBit (lN n) j = n.testBit j := by
  unfold lBit
  rw [show (lN n).toBitVec = BitVec.ofNat 64 n from rfl, BitVec.getLsbD_ofNat]
  simp [h]
theorem lGive_ok (L : Nat → Int64) {p : Nat} (hp : p < 200) : lShr (L (p / 8)) (8 * (p % 8)) &&& 255 = lN (byB (lb L) p) := lBit_ext fun j hj => by
  rw [lBit_and, lBit_shr _ _ (by omega), lBit_255 j hj, lBit_lN j hj]
  unfold byB
  rw [byN_bit _ _ 8 (Nat.le_refl _)]
  by_cases h : j < 8
  · rw [show 8 * p + (8 - 8) + j = 64 * (p / 8) + (8 * (p % 8) + j) by omega, lb_at L _ (by omega)]
    simp [h]
  · simp [h]
/-- bits and place -/
abbrev Co : Type := (Nat → Bool) × Nat
def wid (k : Nat) : Nat := ([144, 136, 104, 72, 168, 136, 168, 136, 168, 136, 168, 136, 168, 136, 168, 136] : List Nat).getD k 0
theorem wid_in : ∀ k, k < 16 → 72 ≤ wid k ∧ wid k ≤ 168 := by decide +kernel
def takeB (w : Nat) (c : Co) (v : Nat) : Co := if c.2 + 1 = w then (kecc (mixB c.1 c.2 v), 0) else (mixB c.1 c.2 v, c.2 + 1)
def takeR (w : Nat) (c : Co) (T : Nat → Nat) : Nat → Co
  | 0 => c
  | n + 1 => takeB w (takeR w c T n) (T n)
def takeL (w : Nat) (c : Co) (v : Nat) : Co := if v < 256 then takeB w (takeB w c 1) v else takeB w (takeB w (takeB w c 2) (v / 256)) (v % 256)
def takeE (w : Nat) (c : Co) (v : Nat) : Co := if v < 256 then takeB w (takeB w c v) 1 else takeB w (takeB w (takeB w c (v / 256)) (v % 256)) 2
def takeS (w : Nat) (c : Co) (T : Nat → Nat) (n : Nat) : Co := takeR w (takeL w c (8 * n)) T n
def fillU (c : Co) : Co := if c.2 = 0 then c else (kecc c.1, 0)
theorem takeB_lt {w : Nat} {c : Co} (v : Nat) (h : c.2 < w) : (takeB w c v).2 < w := by
  unfold takeB
  split
  · show 0 < w
    omega
  · show c.2 + 1 < w
    omega
theorem takeR_lt {w : Nat} {c : Co} (T : Nat → Nat) (h : c.2 < w) : ∀ n, (takeR w c T n).2 < w
  | 0 => h
  | n + 1 => takeB_lt _ (takeR_lt T h n)
theorem takeL_lt {w : Nat} {c : Co} (v : Nat) (h : c.2 < w) : (takeL w c v).2 < w := by
  unfold takeL
  split
  · exact takeB_lt _ (takeB_lt _ h)
  · exact takeB_lt _ (takeB_lt _ (takeB_lt _ h))
theorem takeE_lt {w : Nat} {c : Co} (v : Nat) (h : c.2 < w) : (takeE w c v).2 < w := by
  unfold takeE
  split
  · exact takeB_lt _ (takeB_lt _ h)
  · exact takeB_lt _ (takeB_lt _ (takeB_lt _ h))
theorem takeS_lt {w : Nat} {c : Co} (T : Nat → Nat) (n : Nat) (h : c.2 < w) : (takeS w c T n).2 < w := takeR_lt T (takeL_lt _ h) n
theorem fillU_0 (c : Co) : (fillU c).2 = 0 := by
  unfold fillU
  split
  · assumption
  · rfl
theorem takeR_congr {w : Nat} {c : Co} {T U : Nat → Nat} : ∀ n, (∀ j, j < n → T j = U j) → takeR w c T n = takeR w c U n
  | 0, _ => rfl
  | n + 1, h => by
    show takeB w (takeR w c T n) (T n) = takeB w (takeR w c U n) (U n)
    rw [takeR_congr n (fun j hj => h j (Nat.lt_succ_of_lt hj)), h n (Nat.lt_succ_self n)]
