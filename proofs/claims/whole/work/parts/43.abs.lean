def giveC (w : Nat) (c : Co) : Co := if c.2 = w then (kecc c.1, 0) else c
def giveB (w : Nat) (c : Co) : Nat := byB (giveC w c).1 (giveC w c).2
def giveN (w : Nat) (c : Co) : Co := ((giveC w c).1, (giveC w c).2 + 1)
def sqC (w : Nat) (c : Co) : Nat → Co
  | 0 => c
  | i + 1 => giveN w (sqC w c i)
def sqV (w : Nat) (c : Co) : Nat → Int64
  | 0 => 0
  | i + 1 => sqV w c i ||| lShl (lN (giveB w (sqC w c i))) (8 * i)
theorem giveC_lt {w : Nat} {c : Co} (h : c.2 ≤ w) (h0 : 0 < w) : (giveC w c).2 < w := by
  unfold giveC
  split
  · exact h0
  · omega
theorem giveN_le {w : Nat} {c : Co} (h : c.2 ≤ w) (h0 : 0 < w) : (giveN w c).2 ≤ w := giveC_lt h h0
theorem sqC_le {w : Nat} {c : Co} (h : c.2 ≤ w) (h0 : 0 < w) : ∀ n, (sqC w c n).2 ≤ w
  | 0 => h
  | n + 1 => giveN_le (sqC_le h h0 n) h0
def canG (dn : Bool) (rm n : Int32) : Bool := dn && (decide (rm = -1) || decide (n ≤ rm))
def finC (w k : Nat) (c : Co) (len : Nat) : Co := if 8 ≤ k then takeE w c (8 * len) else c
def finA (w k : Nat) (c : Co) (len e : Nat) : Nat → Bool := kecc (mixB (mixB (finC w k c len).1 (finC w k c len).2 e) (w - 1) 128)
def tapC (w k : Nat) (c : Co) (T : Nat → Nat) (n : Nat) : Co := if 12 ≤ k then takeS w c T n else takeR w c T n
def preC (w : Nat) (c : Co) (T : Nat → Nat) (n : Nat) (U : Nat → Nat) (k : Nat) : Co := fillU (takeS w (takeS w (takeL w c w) T n) U k)
def keyC (w : Nat) (c : Co) (T : Nat → Nat) (n : Nat) : Co := fillU (takeS w (takeL w c w) T n)
def nB (v : Nat) : Nat := if v < 256 then 1 else 2
theorem finC_lt {w k len : Nat} {c : Co} (h : c.2 < w) : (finC w k c len).2 < w := by
  unfold finC
  split
  · exact takeE_lt _ h
  · exact h
theorem tapC_lt {w k n : Nat} {c : Co} (T : Nat → Nat) (h : c.2 < w) : (tapC w k c T n).2 < w := by
  unfold tapC
  split
  · exact takeS_lt _ _ h
  · exact takeR_lt _ h n
theorem takeL_lo {w v : Nat} {c : Co} (h : v < 256) : takeL w c v = takeB w (takeB w c (bv8 (nI 1))) (bv8 (nI (v / 2 ^ 0))) := by
  unfold takeL
  rw [if_pos h, bv8_nI (by decide), Nat.pow_zero, Nat.div_one, bv8_nI h]
theorem takeL_hi {w v : Nat} {c : Co} (h : ¬ v < 256) (h2 : v < 65536) : takeL w c v = takeB w (takeB w (takeB w c (bv8 (nI 2))) (bv8 (nI (v / 2 ^ 8)))) (bv8 (nI (v / 2 ^ 0))) := by
  unfold takeL
  rw [if_neg h, bv8_nI (by decide), Nat.pow_zero, Nat.div_one, bv8_nIm (by omega), bv8_nIm (by omega), Nat.mod_eq_of_lt (show v / 2 ^ 8 < 256 by omega)]
theorem takeE_lo {w v : Nat} {c : Co} (h : v < 256) : takeE w c v = takeB w (takeB w c (bv8 (nI (v / 2 ^ 0)))) (bv8 (nI 1)) := by
  unfold takeE
  rw [if_pos h, bv8_nI (n := 1) (by decide), Nat.pow_zero, Nat.div_one, bv8_nI h]
theorem takeE_hi {w v : Nat} {c : Co} (h : ¬ v < 256) (h2 : v < 65536) : takeE w c v = takeB w (takeB w (takeB w c (bv8 (nI (v / 2 ^ 8)))) (bv8 (nI (v / 2 ^ 0)))) (bv8 (nI 2)) := by
  unfold takeE
  rw [if_neg h, bv8_nI (n := 2) (by decide), Nat.pow_zero, Nat.div_one, bv8_nIm (by omega), bv8_nIm (by omega), Nat.mod_eq_of_lt (show v / 2 ^ 8 < 256 by omega)]
theorem takeB_f {w v : Nat} {c : Co} (h : ¬ c.2 + 1 = w) : takeB w c v = (mixB c.1 c.2 v, c.2 + 1) := if_neg h
theorem takeB_t {w v : Nat} {c : Co} (h : c.2 + 1 = w) : takeB w c v = (kecc (mixB c.1 c.2 v), 0) := if_pos h
theorem pKey_lt : ∀ j, pKey j < 256 := by
  intro j
  by_cases h : j < 4
  · revert j
    decide +kernel
  · unfold pKey
    rw [List.getD_eq_getElem?_getD, List.getElem?_eq_none (by simpa using h)]
    decide
theorem pTup_lt : ∀ j, pTup j < 256 := by
  intro j
  by_cases h : j < 9
  · revert j
    decide +kernel
  · unfold pTup
    rw [List.getD_eq_getElem?_getD, List.getElem?_eq_none (by simpa using h)]
    decide
