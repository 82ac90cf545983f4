/-! The same permutation over 25 lanes of 64 bits, as the class has it, and that it is the one over bits. -/
def lShl (x : Int64) (n : Nat) : Int64 := x <<< ((nI n).toInt64 &&& 63)
def lShr (x : Int64) (n : Nat) : Int64 := (x.toUInt64 >>> ((nI n).toInt64.toUInt64 &&& Int64.toUInt64 63)).toInt64
def lBit (x : Int64) (j : Nat) : Bool := x.toBitVec.getLsbD j
theorem lBit_xor (x y : Int64) (j : Nat) : lBit (x ^^^ y) j = (lBit x j ^^ lBit y j) := by unfold lBit; rw [Int64.toBitVec_xor, BitVec.getLsbD_xor]
theorem lBit_and (x y : Int64) (j : Nat) : lBit (x &&& y) j = (lBit x j && lBit y j) := by unfold lBit; rw [Int64.toBitVec_and, BitVec.getLsbD_and]
theorem lBit_or (x y : Int64) (j : Nat) : lBit (x ||| y) j = (lBit x j || lBit y j) := by unfold lBit; rw [Int64.toBitVec_or, BitVec.getLsbD_or]
theorem lBit_big {x : Int64} {j : Nat} (h : 64 ≤ j) : lBit x j = false := BitVec.getLsbD_of_ge _ _ h
theorem lBit_ext {x y : Int64} (h : ∀ j, j < 64 → lBit x j = lBit y j) : x = y := Int64.toBitVec_inj.mp (BitVec.eq_of_getLsbD_eq fun i hi => h i hi)
theorem lSh_a : ∀ n, n < 64 → (((nI n).toInt64 &&& 63).toBitVec.smod 64).toNat = n := by decide +kernel
theorem lSh_b : ∀ n, n < 64 → (((nI n).toInt64.toUInt64 &&& Int64.toUInt64 63).toBitVec % 64).toNat = n := by decide +kernel
theorem lBit_shl (x : Int64) {n j : Nat} (hn : n < 64) (hj : j < 64) : lBit (lShl x n) j = (decide (n ≤ j) && lBit x (j - n)) := by
  unfold lBit lShl
  rw [Int64.toBitVec_shiftLeft, BitVec.shiftLeft_eq', lSh_a n hn, BitVec.getLsbD_shiftLeft]
  by_cases h : n ≤ j
  · simp [hj, h, Nat.not_lt.mpr h]
  · simp [h, Nat.lt_of_not_le h]
theorem lBit_shr (x : Int64) {n : Nat} (j : Nat) (hn : n < 64) : lBit (lShr x n) j = lBit x (n + j) := by
  unfold lBit lShr
  show ((x.toUInt64 >>> ((nI n).toInt64.toUInt64 &&& Int64.toUInt64 63)).toBitVec).getLsbD j = _
  rw [UInt64.toBitVec_shiftRight, BitVec.ushiftRight_eq', lSh_b n hn, BitVec.getLsbD_ushiftRight]
  rfl
def lRot (x : Int64) (n : Nat) : Int64 := lShl x n ||| lShr x (64 - n)
theorem lBit_rot (x : Int64) {n j : Nat} (h0 : 0 < n) (hn : n < 64) (hj : j < 64) : lBit (lRot x n) j = lBit x ((j + (64 - n)) % 64) := by
  unfold lRot
  rw [lBit_or, lBit_shl x hn hj, lBit_shr x j (by omega)]
  by_cases h : n ≤ j
  · rw [show (j + (64 - n)) % 64 = j - n by omega, lBit_big (show 64 ≤ 64 - n + j by omega)]
    simp [h]
  · rw [show (j + (64 - n)) % 64 = 64 - n + j by omega]
    simp [h]
def lb (L : Nat → Int64) (k : Nat) : Bool := lBit (L (k / 64)) (k % 64)
theorem lb_at (L : Nat → Int64) (i : Nat) {z : Nat} (hz : z < 64) : lb L (64 * i + z) = lBit (L i) z := by
  unfold lb
  rw [show (64 * i + z) / 64 = i by omega, show (64 * i + z) % 64 = z by omega]
theorem lb_eq {L M : Nat → Int64} (h : ∀ i, i < 25 → L i = M i) : kEq (lb L) (lb M) := fun k hk => by
  unfold lb
  rw [h (k / 64) (by omega)]
def lC (L : Nat → Int64) (x : Nat) : Int64 := L x ^^^ L (x + 5) ^^^ L (x + 10) ^^^ L (x + 15) ^^^ L (x + 20)
def lD (L : Nat → Int64) (x : Nat) : Int64 := lC L ((x + 4) % 5) ^^^ lRot (lC L ((x + 1) % 5)) 1
def lTheta (L : Nat → Int64) (i : Nat) : Int64 := L i ^^^ lD L (i % 5)
theorem kPar_lb (L : Nat → Int64) (x : Nat) {z : Nat} (hz : z < 64) : kPar (lb L) x z = lBit (lC L (x % 5)) z := by
  have h : ∀ y, lb L (kAt x y z) = lBit (L (5 * (y % 5) + x % 5)) z := fun y => lb_at L _ hz
  show (((((false ^^ lb L (kAt x 0 z)) ^^ lb L (kAt x 1 z)) ^^ lb L (kAt x 2 z)) ^^ lb L (kAt x 3 z)) ^^ lb L (kAt x 4 z)) = _
  rw [h 0, h 1, h 2, h 3, h 4, show 5 * (0 % 5) + x % 5 = x % 5 by omega, show 5 * (1 % 5) + x % 5 = x % 5 + 5 by omega, show 5 * (2 % 5) + x % 5 = x % 5 + 10 by omega, show 5 * (3 % 5) + x % 5 = x % 5 + 15 by omega, show 5 * (4 % 5) + x % 5 = x % 5 + 20 by omega, Bool.false_xor]
  unfold lC
  rw [lBit_xor, lBit_xor, lBit_xor, lBit_xor]
theorem lTheta_ok (L : Nat → Int64) : kEq (lb (lTheta L)) (kTheta (lb L)) := fun k hk => by
  have hz : k % 64 < 64 := Nat.mod_lt _ (by decide)
  unfold kTheta
  rw [kPar_lb L _ hz, kPar_lb L _ (Nat.mod_lt _ (by decide))]
  show lBit (L (k / 64) ^^^ lD L (k / 64 % 5)) (k % 64) = (lb L k ^^ _)
  rw [lBit_xor]
  unfold lD
  rw [lBit_xor, lBit_rot _ (by decide) (by decide) hz]
  rfl
def pPath (t : Nat) : Nat := ([10, 7, 11, 17, 18, 3, 5, 16, 8, 21, 24, 4, 15, 23, 19, 13, 12, 2, 20, 14, 22, 9, 6, 1] : List Nat).getD t 0
def pTurn (t : Nat) : Nat := ([1, 3, 6, 10, 15, 21, 28, 36, 45, 55, 2, 14, 27, 41, 56, 8, 25, 43, 62, 18, 39, 61, 20, 44] : List Nat).getD t 0
def lPrev (t : Nat) : Nat := if t = 0 then 1 else pPath (t - 1)
def lMove (L : Nat → Int64) : Nat → Nat → Int64
  | 0 => L
  | t + 1 => vp_updL (lMove L t) (pPath t) (lRot (L (lPrev t)) (pTurn t))
theorem pPath_inj : ∀ t, t < 24 → ∀ u, u < 24 → pPath t = pPath u → t = u := by decide +kernel
theorem pPath_all : ∀ i, i < 25 → i = 0 ∨ ∃ t, t < 24 ∧ i = pPath t := by decide +kernel
theorem pPath_ok : ∀ t, t < 24 → kSrc (pPath t) = lPrev t ∧ kOff (lPrev t) = pTurn t ∧ 0 < pTurn t ∧ pTurn t < 64 ∧ pPath t < 25 ∧ pPath t ≠ 0 := by decide +kernel
theorem lMove_un (L : Nat → Int64) (i : Nat) : ∀ n, (∀ u, u < n → pPath u ≠ i) → lMove L n i = L i
  | 0, _ => rfl
  | n + 1, h => by
    show vp_updL (lMove L n) (pPath n) _ i = _
    rw [pk_uLn (fun e => h n (Nat.lt_succ_self n) e.symm)]
    exact lMove_un L i n (fun u hu => h u (Nat.lt_succ_of_lt hu))
theorem lMove_at (L : Nat → Int64) (t : Nat) (ht : t < 24) : ∀ n, n ≤ 24 → t < n → lMove L n (pPath t) = lRot (L (lPrev t)) (pTurn t)
  | 0, _, h => absurd h (Nat.not_lt_zero t)
  | n + 1, hn, h => by
    show vp_updL (lMove L n) (pPath n) _ (pPath t) = _
    by_cases e : t = n
    · subst e
      rw [pk_uLs]
    · rw [pk_uLn (fun q => e (pPath_inj t ht n (by omega) q))]
      exact lMove_at L t ht n (by omega) (by omega)
theorem lMove_0 (L : Nat → Int64) : lMove L 24 0 = L 0 := lMove_un L 0 24 (fun u hu => (pPath_ok u hu).2.2.2.2.2)
theorem lMove_ok (L : Nat → Int64) : kEq (lb (lMove L 24)) (kPi (kRho (lb L))) := fun k hk => by
  have hz : k % 64 < 64 := Nat.mod_lt _ (by decide)
  have hi : k / 64 < 25 := by omega
  have hs := kSrc_lt (k / 64)
  have e1 : kPi (kRho (lb L)) k = lBit (L (kSrc (k / 64))) ((k % 64 + (64 - kOff (kSrc (k / 64)))) % 64) := by
    unfold kPi kRho
    rw [show (64 * kSrc (k / 64) + k % 64) / 64 = kSrc (k / 64) by omega, show (64 * kSrc (k / 64) + k % 64) % 64 = k % 64 by omega]
    exact lb_at L _ (Nat.mod_lt _ (by decide))
  rw [e1]
  show lBit (lMove L 24 (k / 64)) (k % 64) = _
  rcases pPath_all (k / 64) hi with h | ⟨t, ht, h⟩
  · rw [h, lMove_0, show kSrc 0 = 0 from rfl, show kOff 0 = 0 from rfl, show (k % 64 + (64 - 0)) % 64 = k % 64 by omega]
  · obtain ⟨h1, h2, h3, h4, -, -⟩ := pPath_ok t ht
    rw [h, lMove_at L t ht 24 (Nat.le_refl _) ht, h1, h2, lBit_rot _ h3 h4 hz]
def lChi (L : Nat → Int64) (i : Nat) : Int64 := L i ^^^ ((L (5 * (i / 5) + (i % 5 + 1) % 5) ^^^ (-1)) &&& L (5 * (i / 5) + (i % 5 + 2) % 5))
theorem lBit_m1 : ∀ j, j < 64 → lBit (-1) j = true := by decide +kernel
theorem lChi_ok (L : Nat → Int64) : kEq (lb (lChi L)) (kChi (lb L)) := fun k hk => by
  have hz : k % 64 < 64 := Nat.mod_lt _ (by decide)
  have hi : k / 64 / 5 % 5 = k / 64 / 5 := by omega
  unfold kChi kAt
  rw [hi, lb_at L _ hz, lb_at L _ hz]
  show lBit (L (k / 64) ^^^ _) (k % 64) = (lb L k ^^ _)
  rw [lBit_xor, lBit_and, lBit_xor, lBit_m1 _ hz, Bool.xor_true]
  rfl
def pRc (r : Nat) : Int64 := ([1, 32898, -9223372036854742902, -9223372034707259392, 32907, 2147483649, -9223372034707259263, -9223372036854743031, 138, 136, 2147516425, 2147483658, 2147516555, -9223372036854775669, -9223372036854742903, -9223372036854743037, -9223372036854743038, -9223372036854775680, 32778, -9223372034707292150, -9223372034707259263, -9223372036854742912, 2147483649, -9223372034707259384] : List Int64).getD r 0
theorem kIotaN_z (r : Nat) (A : Nat → Bool) (k : Nat) : ∀ n, kIotaN r A n k = (A k ^^ kIotaN r (fun _ => false) n k)
  | 0 => (Bool.xor_false _).symm
  | n + 1 => by
    show (if k = 2 ^ n - 1 then kIotaN r A n k ^^ kRc (7 * r + n) else kIotaN r A n k) = (A k ^^ (if k = 2 ^ n - 1 then kIotaN r (fun _ => false) n k ^^ kRc (7 * r + n) else kIotaN r (fun _ => false) n k))
    rw [kIotaN_z r A k n]
    split
    · rw [Bool.xor_assoc]
    · rfl
theorem pRc_ok : ∀ r, r < 24 → ∀ z, z < 64 → lBit (pRc r) z = kIotaN r (fun _ => false) 7 z := by decide +kernel
theorem kIotaN_hi (r : Nat) {k : Nat} (hk : 64 ≤ k) : ∀ n, n ≤ 7 → kIotaN r (fun _ => false) n k = false
  | 0, _ => rfl
  | n + 1, hn => by
    have h1 : 2 ^ n ≤ 2 ^ 6 := Nat.pow_le_pow_right (by decide) (by omega)
    show (if k = 2 ^ n - 1 then _ else kIotaN r (fun _ => false) n k) = false
    rw [if_neg (by omega)]
    exact kIotaN_hi r hk n (by omega)
theorem lIota_ok (L : Nat → Int64) {r : Nat} (hr : r < 24) : kEq (lb (vp_updL L 0 (L 0 ^^^ pRc r))) (kIota r (lb L)) := fun k hk => by
  unfold kIota
  rw [kIotaN_z]
  show lBit (vp_updL L 0 (L 0 ^^^ pRc r) (k / 64)) (k % 64) = (lBit (L (k / 64)) (k % 64) ^^ _)
  by_cases h : k < 64
  · rw [show k / 64 = 0 by omega, show k % 64 = k by omega, pk_uLs, lBit_xor, pRc_ok r hr k h]
  · rw [pk_uLn (by omega), kIotaN_hi r (by omega) 7 (by omega), Bool.xor_false]
theorem lRound_ok {L L1 L2 L3 A : Nat → Int64} {B : Nat → Bool} {r : Nat} (hr : r < 24) (h0 : kEq (lb L) B) (h1 : kEq (lb L1) (kTheta (lb L))) (h2 : kEq (lb L2) (kPi (kRho (lb L1)))) (h3 : kEq (lb L3) (kChi (lb L2))) : kEq (lb (vp_updL L3 0 (L3 0 ^^^ pRc r))) (kRound r B) :=
  (lIota_ok L3 hr).tr (kIotaN_eq ((h3.tr (kChi_eq (h2.tr (kPi_eq (kRho_eq (h1.tr (kTheta_eq h0)))))))) r 7)
