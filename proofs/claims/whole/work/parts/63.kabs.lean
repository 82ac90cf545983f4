theorem lenM_lt (k : Nat) : lenM k < 2 ^ 31 := by
  unfold lenM
  repeat (first | (split; decide) | decide)
theorem pLen_c : ∀ k, k < 16 → hasL k = true → pLen k = -1 := by decide +kernel
theorem pLen_f : ∀ k, k < 16 → hasL k = false → pLen k = nI (lenM k) := by decide +kernel
theorem nI_ne_m1 {n : Nat} (h : n < 2 ^ 31) : nI n ≠ -1 := fun q => absurd (show nI n < 0 by rw [q]; decide) (nI_not_neg h)
