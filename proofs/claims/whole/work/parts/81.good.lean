/-! What class and reference hold together. -/
def Good (sf : Nat → Option Nat) (sa : Nat → Nat) (R : Nat → Rw) (rf : Nat → Nat → Int32) (Y : Nat → Sp) (Lf : Nat → Nat → Int64) (F : MFn) : Prop :=
  (∀ j, j < 4 → (R j).2 ≤ 300 ∧ sb_Lat (R j).1 (R j).2 (rf j)) ∧ mTp (F 0) (R 0).1 (R 0).2 ∧ (∀ r, r < 3 → mRo (F 1) (F 2) r (R (r + 1))) ∧ ∀ k, k < 4 → sf k = some (sa k) ∧ kEq (lb (Lf k)) (Y k).1.1 ∧ mSg F k (Y k) ∧ spOk (Y k)
def upY (Y : Nat → Sp) (k : Nat) (y : Sp) : Nat → Sp := fun i => if i = k then y else Y i
def upL (f : Nat → Nat → Int64) (k : Nat) (v : Nat → Int64) : Nat → Nat → Int64 := fun i => if i = k then v else f i
theorem upY_s {Y : Nat → Sp} {k : Nat} {y : Sp} : upY Y k y k = y := if_pos rfl
theorem upY_n {Y : Nat → Sp} {k i : Nat} {y : Sp} (h : i ≠ k) : upY Y k y i = Y i := if_neg h
theorem upL_s {f : Nat → Nat → Int64} {k : Nat} {v : Nat → Int64} : upL f k v k = v := if_pos rfl
theorem upL_n {f : Nat → Nat → Int64} {k i : Nat} {v : Nat → Int64} (h : i ≠ k) : upL f k v i = f i := if_neg h
theorem upR_s {R : Nat → Rw} {k : Nat} {v : Rw} : upR R k v k = v := if_pos rfl
theorem upR_n {R : Nat → Rw} {k i : Nat} {v : Rw} (h : i ≠ k) : upR R k v i = R i := if_neg h
theorem upf_s {f : Nat → Nat → Int32} {k : Nat} {v : Nat → Int32} : upf f k v k = v := if_pos rfl
theorem upf_n {f : Nat → Nat → Int32} {k i : Nat} {v : Nat → Int32} (h : i ≠ k) : upf f k v i = f i := if_neg h
section GD
variable {sf : Nat → Option Nat} {sa : Nat → Nat} {R : Nat → Rw} {rf : Nat → Nat → Int32} {Y : Nat → Sp} {Lf : Nat → Nat → Int64} {F : MFn}
theorem Good.feed (G : Good sf sa R rf Y Lf F) {v : Rw} {f1 f2 : Nat → Int32} (hv : v.2 ≤ 300) (h1 : sb_Lat v.1 v.2 f1) (h2 : mTp f2 v.1 v.2) : Good sf sa (upR R 0 v) (upf rf 0 f1) Y Lf (upF F 0 f2) := by
  refine ⟨fun j hj => ?_, h2, fun r hr => ?_, fun k hk => ?_⟩
  · by_cases e : j = 0
    · rw [e, upR_s, upf_s]
      exact ⟨hv, h1⟩
    · rw [upR_n e, upf_n e]
      exact G.1 j hj
  · rw [upR_n (Nat.succ_ne_zero r)]
    exact G.2.2.1 r hr
  · exact G.2.2.2 k hk
theorem Good.wipe (G : Good sf sa R rf Y Lf F) : Good sf sa (upR R 0 ((R 0).1, 0)) rf Y Lf F := by
  refine ⟨fun j hj => ?_, fun j hj => absurd hj (Nat.not_lt_zero j), fun r hr => ?_, fun k hk => G.2.2.2 k hk⟩
  · by_cases e : j = 0
    · rw [e, upR_s]
      exact ⟨Nat.zero_le _, fun i hi => absurd hi (Nat.not_lt_zero i)⟩
    · rw [upR_n e]
      exact G.1 j hj
  · rw [upR_n (Nat.succ_ne_zero r)]
    exact G.2.2.1 r hr
theorem Good.let (G : Good sf sa R rf Y Lf F) {j : Nat} (hj1 : 1 ≤ j) (hj4 : j < 4) {v1 u1 u2 : Nat → Int32} (h1 : sb_Lat (R 0).1 (R 0).2 v1) (h2 : one u1 (F 1) (j - 1) (nI (R 0).2)) (h3 : rN u2 (F 2) (300 * (j - 1)) (R 0).2 (R 0).1) : Good sf sa (upR (upR R j (R 0)) 0 ((R 0).1, 0)) (upf rf j v1) Y Lf (upF (upF F 1 u1) 2 u2) := by
  have h00 := G.1 0 (by decide)
  refine ⟨fun i hi => ?_, fun i hi => absurd hi (Nat.not_lt_zero i), fun r hr => ?_, fun k hk => G.2.2.2 k hk⟩
  · by_cases e : i = 0
    · rw [e, upR_s]
      exact ⟨Nat.zero_le _, fun i hi => absurd hi (Nat.not_lt_zero i)⟩
    · rw [upR_n e]
      by_cases e2 : i = j
      · rw [e2, upR_s, upf_s]
        exact ⟨h00.1, h1⟩
      · rw [upR_n e2, upf_n e2]
        exact G.1 i hi
  · rw [upR_n (Nat.succ_ne_zero r)]
    show mRo u1 u2 r (upR R j (R 0) (r + 1))
    by_cases e : r + 1 = j
    · rw [e, upR_s, show r = j - 1 by omega]
      exact ⟨h2.1, h00.1, fun i hi => ⟨(G.2.1 i hi).1, h3.1 i hi⟩⟩
    · rw [upR_n e]
      obtain ⟨g1, g2, g3⟩ := G.2.2.1 r hr
      exact ⟨(h2.2 r (by omega)).trans g1, g2, fun i hi => ⟨(g3 i hi).1, (h3.2 _ (by omega)).trans (g3 i hi).2⟩⟩
theorem Good.sp (G : Good sf sa R rf Y Lf F) {k0 : Nat} {y : Sp} {M : Nat → Int64} {F2 : MFn} (hk0 : k0 < 4) (h0 : F2 0 = F 0) (h1 : F2 1 = F 1) (h2 : F2 2 = F 2) (hU : mU F F2 k0 y) (hM : kEq (lb M) y.1.1) (hok : spOk y) : Good sf sa R rf (upY Y k0 y) (upL Lf k0 M) F2 := by
  refine ⟨G.1, by rw [h0]; exact G.2.1, by rw [h1, h2]; exact G.2.2.1, fun k hk => ?_⟩
  obtain ⟨g1, g2, g3, g4⟩ := G.2.2.2 k hk
  by_cases e : k = k0
  · rw [e, upY_s, upL_s]
    exact ⟨e ▸ g1, hM, hU.sg, hok⟩
  · rw [upY_n e, upL_n e]
    exact ⟨g1, g2, hU.off e g3, g4⟩
theorem Good.same (G : Good sf sa R rf Y Lf F) {N1 N2 : Nat → Int64} {u : MFn} (hE : mE F u) : Good sf sa R rf Y (upL (upL Lf 4 N1) 5 N2) (hiF F u) := by
  refine ⟨G.1, G.2.1, G.2.2.1, fun k hk => ?_⟩
  obtain ⟨g1, g2, g3, g4⟩ := G.2.2.2 k hk
  rw [upL_n (show k ≠ 5 by omega), upL_n (show k ≠ 4 by omega)]
  exact ⟨g1, g2, mE.sg (F := F) (G := hiF F u) hE hk g3, g4⟩
end GD
theorem i_nat (x : Int32) (h : ¬ x < 0) : ∃ k, k < 2 ^ 31 ∧ x = nI k := by
  refine ⟨x.toBitVec.toNat, ?_, ?_⟩
  · rw [Int32.lt_iff_toInt_lt] at h
    have h1 : x.toInt = x.toBitVec.toInt := rfl
    rw [h1, BitVec.toInt_eq_toNat_cond] at h
    have h2 := x.toBitVec.isLt
    have h3 : (0 : Int32).toInt = 0 := rfl
    rw [h3] at h
    split at h <;> omega
  · exact Int32.toBitVec_inj.mp (by
      show x.toBitVec = BitVec.ofNat 32 x.toBitVec.toNat
      rw [BitVec.ofNat_toNat, BitVec.setWidth_eq])
theorem rng_c (x : Int32) (hi : Nat) (hh : hi ≤ 1000) : (x < nI 1 ∨ nI hi < x) ∨ ∃ k, 1 ≤ k ∧ k ≤ hi ∧ x = nI k := by
  by_cases h1 : x < nI 1
  · exact Or.inl (Or.inl h1)
  · by_cases h2 : nI hi < x
    · exact Or.inl (Or.inr h2)
    · obtain ⟨k, hk, rfl⟩ := i_nat x (fun q => h1 (Int32.lt_trans q (by decide)))
      exact Or.inr ⟨k, Nat.not_lt.mp (fun q => h1 ((nI_ltI hk (by decide)).mpr q)), Nat.not_lt.mp (fun q => h2 ((nI_ltI (by omega) hk).mpr q)), rfl⟩
theorem knd_c (x : Int32) (hi : Nat) (hh : hi ≤ 1000) : (x < 0 ∨ nI hi < x) ∨ ∃ k, k ≤ hi ∧ x = nI k := by
  by_cases h1 : x < 0
  · exact Or.inl (Or.inl h1)
  · by_cases h2 : nI hi < x
    · exact Or.inl (Or.inr h2)
    · obtain ⟨k, hk, rfl⟩ := i_nat x h1
      exact Or.inr ⟨k, Nat.not_lt.mp (fun q => h2 ((nI_ltI (by omega) hk).mpr q)), rfl⟩
theorem idx_c (x : Int32) : ¬ (¬ x < 0 ∧ x < 4) ∨ ∃ k, k < 4 ∧ x = nI k := by
  by_cases h : ¬ x < 0 ∧ x < 4
  · obtain ⟨k, hk, rfl⟩ := i_nat x h.1
    exact Or.inr ⟨k, (nI_ltI hk (show 4 < 2 ^ 31 by decide)).mp h.2, rfl⟩
  · exact Or.inl h
theorem len_c (k : Nat) (y : Int32) : ((hasL k = true ∧ (y < nI 1 ∨ nI 1000 < y)) ∨ (hasL k = false ∧ y ≠ nI (lenM k))) ∨ ∃ len, len ≤ 1000 ∧ ((hasL k = true ∧ 1 ≤ len) ∨ (hasL k = false ∧ len = lenM k)) ∧ y = nI len := by
  cases h : hasL k
  · by_cases e : y = nI (lenM k)
    · refine Or.inr ⟨lenM k, ?_, Or.inr ⟨rfl, rfl⟩, e⟩
      unfold lenM
      repeat (first | (split; decide) | decide)
    · exact Or.inl (Or.inr ⟨rfl, e⟩)
  · rcases rng_c y 1000 (Nat.le_refl _) with q | ⟨n, h1, h2, e⟩
    · exact Or.inl (Or.inl ⟨rfl, q⟩)
    · exact Or.inr ⟨n, h2, Or.inl ⟨rfl, h1⟩, e⟩
theorem and_15 (x : Int32) : ∃ k, k < 16 ∧ x &&& nI 15 = nI k := by
  refine ⟨(x &&& nI 15).toBitVec.toNat, ?_, ?_⟩
  · rw [Int32.toBitVec_and, BitVec.toNat_and]
    exact Nat.lt_of_le_of_lt Nat.and_le_right (by decide)
  · exact Int32.toBitVec_inj.mp (by
      show (x &&& nI 15).toBitVec = BitVec.ofNat 32 (x &&& nI 15).toBitVec.toNat
      rw [BitVec.ofNat_toNat, BitVec.setWidth_eq])
theorem sub_5 {L n : Nat} (hL : L ≤ 2560) (h : ¬ nI L - nI 5 < nI n) (hn : n ≤ 3000) : n + 5 ≤ L := by
  by_cases h5 : 5 ≤ L
  · rw [pk_sub h5, nI_ltI (by omega) (by omega)] at h
    omega
  · have h1 : ∀ L, L < 5 → nI L - nI 5 < 0 := by decide
    exact absurd (Int32.lt_of_lt_of_le (h1 L (by omega)) (Int32.not_lt.mp (nI_not_neg (by omega)))) h
theorem beginE_lt (k : Nat) (R : Nat → Rw) : beginE k R < 256 := by
  unfold beginE
  repeat (first | (split; decide) | split | decide)
theorem beginC_0 (k : Nat) (R : Nat → Rw) : (beginC k R).2 = 0 := by
  unfold beginC
  split
  · rfl
  · split
    · split
      · rfl
      · exact preC_0 _ _ _ _ _ _
    · split
      · exact keyC_0 _ _ _ _
      · exact preC_0 _ _ _ _ _ _
