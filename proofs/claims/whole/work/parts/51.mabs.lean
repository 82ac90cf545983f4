theorem wid_ev : ∀ k, k < 16 → 4 ≤ k → k % 2 = 0 → wid k = 168 := by decide +kernel
theorem wid_od : ∀ k, k < 16 → 4 ≤ k → k % 2 ≠ 0 → wid k = 136 := by decide +kernel
def lenM (k : Nat) : Nat := if k = 0 then 28 else if k = 1 then 32 else if k = 2 then 48 else if k = 3 then 64 else 0
def hasL (k : Nat) : Bool := decide (k = 8 ∨ k = 9 ∨ k = 12 ∨ k = 13)
def numC (w : Nat) (c : Co) (v : Nat) : Co := if v < 256 then takeB w c v else takeB w (takeB w c (v / 256)) (v % 256)
theorem numC_lo {w v : Nat} {c : Co} (h : v < 256) : numC w c v = takeB w c (v / 2 ^ 0 % 2 ^ 8) := by
  unfold numC
  rw [if_pos h, Nat.pow_zero, Nat.div_one, Nat.mod_eq_of_lt (show v < 2 ^ 8 by omega)]
theorem numC_hi {w v : Nat} {c : Co} (h : ¬ v < 256) (h2 : v < 65536) : numC w c v = takeB w (takeB w c (v / 2 ^ 8 % 2 ^ 8)) (v / 2 ^ 0 % 2 ^ 8) := by
  unfold numC
  rw [if_neg h, Nat.pow_zero, Nat.div_one, Nat.mod_eq_of_lt (show v / 2 ^ 8 < 2 ^ 8 by omega)]
theorem takeL_num (w v : Nat) (c : Co) : takeL w c v = numC w (takeB w c (nB v)) v := by
  unfold takeL numC nB
  by_cases h : v < 256
  · rw [if_pos h, if_pos h, if_pos h]
  · rw [if_neg h, if_neg h, if_neg h]
theorem takeE_num (w v : Nat) (c : Co) : takeE w c v = takeB w (numC w c v) (nB v) := by
  unfold takeE numC nB
  by_cases h : v < 256
  · rw [if_pos h, if_pos h, if_pos h]
  · rw [if_neg h, if_neg h, if_neg h]
theorem numC_lt {w v : Nat} {c : Co} (h : c.2 < w) : (numC w c v).2 < w := by
  unfold numC
  split
  · exact takeB_lt _ h
  · exact takeB_lt _ (takeB_lt _ h)
theorem tb_iff (v i : Nat) : v.testBit i = true ↔ nI (v / 2 ^ i % 2 ^ 1) = nI 1 := by
  rw [nI_eq (by omega) (by decide), Nat.testBit_eq_decide_div_mod_eq, decide_eq_true_iff, Nat.pow_one]
theorem mixN_0 (B : Nat → Bool) (p v : Nat) : mixN B p v 0 = B := by
  funext k
  unfold mixN
  rw [if_neg (by omega)]
theorem meet_s {b1 b0 : Nat → Int32} {k0 p v i : Nat} {B : Nat → Bool} {x : Int32} (hi : i < 8) (hp : p < 200) (h : rS b1 b0 (1600 * k0) 1600 (mixN B p v i)) (hx : x = b2i (mixN B p v i (8 * p + i) ^^ v.testBit i)) : rS (upd b1 (1600 * k0 + 8 * p + i) x) b0 (1600 * k0) 1600 (mixN B p v (i + 1)) := by
  refine ⟨fun j hj => ?_, fun j hj => ?_⟩
  · by_cases e : j = 8 * p + i
    · rw [e, ← Nat.add_assoc, pk_us, hx]
      congr 1
      unfold mixN
      rw [if_neg (by omega), if_pos (by omega), show 8 * p + i - 8 * p = i by omega]
    · rw [pk_un (by omega), h.1 j hj]
      congr 1
      unfold mixN
      by_cases h2 : 8 * p ≤ j ∧ j < 8 * p + i
      · rw [if_pos h2, if_pos (by omega)]
      · rw [if_neg h2, if_neg (by omega)]
  · rw [pk_un (by omega)]
    exact h.2 j hj
/-- the bits and the place of sponge k are c -/
def mS (bt pl : Nat → Int32) (k : Nat) (c : Co) : Prop := (∀ j, j < 1600 → bt (1600 * k + j) = b2i (c.1 j)) ∧ pl k = nI c.2
/-- from bt, pl to b1, p1: sponge k is c now, the others as they were -/
def mR (bt pl : Nat → Int32) (k : Nat) (c : Co) (b1 p1 : Nat → Int32) : Prop := mS b1 p1 k c ∧ (∀ j, (j < 1600 * k ∨ 1600 * k + 1600 ≤ j) → b1 j = bt j) ∧ ∀ j, j ≠ k → p1 j = pl j
theorem mR.rf {bt pl : Nat → Int32} {k : Nat} {c : Co} (h : mS bt pl k c) : mR bt pl k c bt pl := ⟨h, fun _ _ => rfl, fun _ _ => rfl⟩
theorem mR.tr {bt pl b1 p1 b2 p2 : Nat → Int32} {k : Nat} {c c1 : Co} (h : mR bt pl k c b1 p1) (g : mR b1 p1 k c1 b2 p2) : mR bt pl k c1 b2 p2 := ⟨g.1, fun j hj => (g.2.1 j hj).trans (h.2.1 j hj), fun j hj => (g.2.2 j hj).trans (h.2.2 j hj)⟩
theorem mR_s {bt pl b1 : Nat → Int32} {k n : Nat} {A : Nat → Bool} (h : rS b1 bt (1600 * k) 1600 A) : mR bt pl k (A, n) b1 (upd pl k (nI n)) := ⟨⟨h.1, pk_us⟩, h.2, fun j hj => pk_un hj⟩
theorem rS_tr {b0 b1 b2 : Nat → Int32} {o n : Nat} {A B : Nat → Bool} (h : rS b1 b0 o n A) (g : rS b2 b1 o n B) : rS b2 b0 o n B := ⟨g.1, fun j hj => (g.2 j hj).trans (h.2 j hj)⟩
theorem upd_upd {f : Nat → Int32} {k : Nat} {x y : Int32} : upd (upd f k x) k y = upd f k y := by
  funext j
  by_cases h : j = k
  · rw [h, pk_us, pk_us]
  · rw [pk_un h, pk_un h, pk_un h]
theorem pKey_by : ∀ j, j < 4 → byAt 1128353099 j = pKey j := by decide +kernel
theorem pTup_by : ∀ j, j < 8 → byAt 8314005987550852436 j = pTup j := by decide +kernel
def fcore (w : Nat) (A : Nat → Bool) (p : Nat) : Co := if p = w then (kecc A, 0) else (A, p)
theorem fcore_s {w p : Nat} {A : Nat → Bool} : takeB w (A, p) 0 = fcore w A (p + 1) := by
  unfold takeB fcore
  rw [mixB_0]
theorem fcore_lt {w p : Nat} {A : Nat → Bool} (h : p ≠ w) : fcore w A p = (A, p) := if_neg h
