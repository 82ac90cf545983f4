theorem lenM_lt (k : Nat) : lenM k < 2 ^ 31 := by
  unfold lenM
  repeat (first | (split; decide) | decide)
theorem pLen_c : ∀ k, k < 16 → hasL k = true → pLen k = -1 := by decide +kernel
theorem pLen_f : ∀ k, k < 16 → hasL k = false → pLen k = nI (lenM k) := by decide +kernel
theorem nI_ne_m1 {n : Nat} (h : n < 2 ^ 31) : nI n ≠ -1 := fun q => absurd (show nI n < 0 by rw [q]; decide) (nI_not_neg h)
theorem lcmp_0 {x y : Int64} : lg_cmp x y = 0 ↔ x = y := by
  unfold lg_cmp
  by_cases h : x > y
  · rw [if_pos h]
    exact ⟨fun q => absurd q (by decide), fun q => absurd h (by rw [q]; exact Int64.lt_irrefl)⟩
  · rw [if_neg h]
    by_cases h2 : x = y
    · rw [if_pos h2]
      exact ⟨fun _ => h2, fun _ => rfl⟩
    · rw [if_neg h2]
      exact ⟨fun q => absurd q (by decide), fun q => absurd q h2⟩
theorem lN_inj {a b : Nat} (ha : a < 256) (hb : b < 256) (h : lN a = lN b) : a = b := by
  have h1 : (lN a).toBitVec.toNat = (lN b).toBitVec.toNat := by rw [h]
  rw [show (lN a).toBitVec = BitVec.ofNat 64 a from rfl, show (lN b).toBitVec = BitVec.ofNat 64 b from rfl, BitVec.toNat_ofNat, BitVec.toNat_ofNat, Nat.mod_eq_of_lt (by omega), Nat.mod_eq_of_lt (by omega)] at h1
  exact h1
theorem eqB_mono {w1 w2 : Nat} {c1 c2 : Co} {m : Nat} : ∀ n, m ≤ n → eqB w1 c1 w2 c2 n = true → eqB w1 c1 w2 c2 m = true
  | 0, h, q => by rw [show m = 0 by omega]; rfl
  | n + 1, h, q => by
    by_cases e : m = n + 1
    · rw [e]; exact q
    · exact eqB_mono n (by omega) (Bool.and_eq_true_iff.mp q).2
theorem eqB_ne {w1 w2 : Nat} {c1 c2 : Co} {i n : Nat} (h : i < n) (hne : giveB w2 (sqC w2 c2 i) ≠ giveB w1 (sqC w1 c1 i)) : eqB w1 c1 w2 c2 n = false := by
  cases hq : eqB w1 c1 w2 c2 n
  · rfl
  · exact absurd (of_decide_eq_true (Bool.and_eq_true_iff.mp (eqB_mono (m := i + 1) n h hq)).1) hne
theorem preC_0 (w : Nat) (c : Co) (T : Nat → Nat) (n : Nat) (U : Nat → Nat) (k : Nat) : (preC w c T n U k).2 = 0 := fillU_0 _
theorem keyC_0 (w : Nat) (c : Co) (T : Nat → Nat) (n : Nat) : (keyC w c T n).2 = 0 := fillU_0 _
