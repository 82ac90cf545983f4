/-! The desk in numbers, and how the reference's arrays hold it. -/
abbrev Rw : Type := (Nat → Nat) × Nat
abbrev Sp : Type := Co × Nat × Nat × Int32 × Bool × Int32
abbrev MFn : Type := Nat → Nat → Int32
def zeroC : Co := (fun _ => false, 0)
def beginC (k : Nat) (R : Nat → Rw) : Co :=
  if k < 6 then zeroC else if k < 8 then (if (R 1).2 + (R 2).2 = 0 then zeroC else preC (wid k) zeroC (R 1).1 (R 1).2 (R 2).1 (R 2).2)
  else if k < 12 then keyC (wid k) (preC (wid k) zeroC pKey 4 (R 2).1 (R 2).2) (R 3).1 (R 3).2 else preC (wid k) zeroC pTup 9 (R 2).1 (R 2).2
def beginE (k : Nat) (R : Nat → Rw) : Nat := if k < 4 then 6 else if k < 6 then 31 else if k < 8 then (if (R 1).2 + (R 2).2 = 0 then 31 else 4) else 4
def mRo (f1 f2 : Nat → Int32) (r : Nat) (R : Rw) : Prop := f1 r = nI R.2 ∧ R.2 ≤ 300 ∧ ∀ j, j < R.2 → R.1 j < 256 ∧ f2 (300 * r + j) = nI (R.1 j)
def mTp (f : Nat → Int32) (T : Nat → Nat) (n : Nat) : Prop := ∀ j, j < n → T j < 256 ∧ f j = nI (T j)
def one (g f : Nat → Int32) (k : Nat) (v : Int32) : Prop := g k = v ∧ ∀ j, j ≠ k → g j = f j
theorem one.up {f : Nat → Int32} {k : Nat} {v : Int32} : one (upd f k v) f k v := ⟨pk_us, fun j h => pk_un h⟩
theorem one.up' {f : Nat → Int32} {k : Nat} {v w : Int32} (h : v = w) : one (upd f k v) f k w := ⟨pk_us.trans h, fun j h => pk_un h⟩
theorem one.rf {f : Nat → Int32} {k : Nat} {v : Int32} (h : f k = v) : one f f k v := ⟨h, fun _ _ => rfl⟩
theorem one.tr {f g g1 : Nat → Int32} {k : Nat} {v w : Int32} (h : one g f k v) (h1 : one g1 g k w) : one g1 f k w := ⟨h1.1, fun j hj => (h1.2 j hj).trans (h.2 j hj)⟩
def mSg (F : MFn) (k : Nat) (x : Sp) : Prop := mS (F 3) (F 5) k x.1 ∧ F 4 k = nI x.2.1 ∧ F 6 k = nI x.2.2.1 ∧ F 8 k = x.2.2.2.1 ∧ F 7 k = b2i x.2.2.2.2.1 ∧ F 9 k = x.2.2.2.2.2
def mU (F G : MFn) (k : Nat) (x : Sp) : Prop := mR (F 3) (F 5) k x.1 (G 3) (G 5) ∧ one (G 4) (F 4) k (nI x.2.1) ∧ one (G 6) (F 6) k (nI x.2.2.1) ∧ one (G 8) (F 8) k x.2.2.2.1 ∧ one (G 7) (F 7) k (b2i x.2.2.2.2.1) ∧ one (G 9) (F 9) k x.2.2.2.2.2
theorem mU.sg {F G : MFn} {k : Nat} {x : Sp} (h : mU F G k x) : mSg G k x := ⟨h.1.1, h.2.1.1, h.2.2.1.1, h.2.2.2.1.1, h.2.2.2.2.1.1, h.2.2.2.2.2.1⟩
theorem mU.off {F G : MFn} {k j : Nat} {x y : Sp} (h : mU F G k x) (hj : j ≠ k) (g : mSg F j y) : mSg G j y :=
  ⟨⟨fun i hi => (h.1.2.1 _ (by omega)).trans (g.1.1 i hi), (h.1.2.2 j hj).trans g.1.2⟩, (h.2.1.2 j hj).trans g.2.1, (h.2.2.1.2 j hj).trans g.2.2.1, (h.2.2.2.1.2 j hj).trans g.2.2.2.1, (h.2.2.2.2.1.2 j hj).trans g.2.2.2.2.1, (h.2.2.2.2.2.2 j hj).trans g.2.2.2.2.2⟩
def mkF (b k p e d c l n x : Nat → Int32) : MFn := fun i => match i with
  | 3 => b
  | 4 => k
  | 5 => p
  | 6 => e
  | 7 => d
  | 8 => c
  | 9 => l
  | 10 => n
  | _ => x
theorem isSp_ok : ∀ {k : Nat}, k < 4 → b2i (decide (¬ nI k < 0 ∧ nI k < 4)) = nI 1 := by decide +kernel
theorem isSp_no {k : Int32} (h : ¬ (¬ k < 0 ∧ k < 4)) : b2i (decide (¬ k < 0 ∧ k < 4)) = nI 0 := by
  rw [decide_eq_false h]
  rfl
def rN (g f : Nat → Int32) (o n : Nat) (T : Nat → Nat) : Prop := (∀ j, j < n → g (o + j) = nI (T j)) ∧ ∀ j, (j < o ∨ o + n ≤ j) → g j = f j
theorem rN_0 {f : Nat → Int32} {o : Nat} {T : Nat → Nat} : rN f f o 0 T := ⟨fun j h => absurd h (Nat.not_lt_zero j), fun _ _ => rfl⟩
theorem rN_s {g f : Nat → Int32} {o n : Nat} {T : Nat → Nat} {v : Int32} (h : rN g f o n T) (hv : v = nI (T n)) : rN (upd g (o + n) v) f o (n + 1) T := by
  refine ⟨fun j hj => ?_, fun j hj => ?_⟩
  · by_cases e : j = n
    · rw [e, pk_us, hv]
    · rw [pk_un (by omega)]
      exact h.1 j (by omega)
  · rw [pk_un (by omega)]
    exact h.2 j (by omega)
theorem mTp_0 {f : Nat → Int32} {T U : Nat → Nat} {n : Nat} (h : mTp f T n) : mTp f (sb_cat T n U) (n + 0) := fun j hj => by
  rw [sb_cat_lo (show j < n from hj)]
  exact h j hj
theorem mTp_s {f : Nat → Int32} {T U : Nat → Nat} {n i : Nat} {v : Int32} (h : mTp f (sb_cat T n U) (n + i)) (hu : U i < 256) (hv : v = nI (U i)) : mTp (upd f (n + i) v) (sb_cat T n U) (n + (i + 1)) := fun j hj => by
  by_cases e : j = n + i
  · rw [e, pk_us, sb_cat_hi]
    exact ⟨hu, hv⟩
  · rw [pk_un e]
    exact h j (by omega)
theorem b2i_if (b : Bool) : b2i b = nI (if b = true then 1 else 0) := by cases b <;> rfl
theorem i2l_by : ∀ n, n < 256 → (nI n).toInt64 = lN n := by decide +kernel
def rmD (rm : Int32) : Int32 := if rm < 0 then -1 else rm - 1
def lefI (rm : Int32) (i : Nat) : Int32 := if rm = -1 then rm else rm - nI i
def rOk (rm : Int32) : Prop := rm = -1 ∨ ∃ m, m ≤ 1000 ∧ rm = nI m
def spOk (x : Sp) : Prop := x.2.1 < 16 ∧ x.2.2.1 < 256 ∧ x.1.2 ≤ wid x.2.1 ∧ (x.2.2.2.2.1 = false → x.1.2 < wid x.2.1) ∧ rOk x.2.2.2.2.2
theorem nI_not_neg {m : Nat} (h : m < 2 ^ 31) : ¬ nI m < 0 := fun q => nI_pos h q
theorem lefI_0 (rm : Int32) : lefI rm 0 = rm := by
  unfold lefI
  split
  · rfl
  · exact Int32.sub_zero rm
theorem lefI_s {rm : Int32} {n i : Nat} (h : rOk rm) (hg : canG true rm (nI n) = true) (hi : i < n) (hn : n ≤ 64) : rmD (lefI rm i) = lefI rm (i + 1) := by
  rcases h with rfl | ⟨m, hm, rfl⟩
  · unfold lefI rmD
    rw [if_pos rfl, if_pos rfl, if_pos (by decide)]
  · have hne : nI m ≠ -1 := fun q => absurd (show nI m < 0 by rw [q]; decide) (nI_not_neg (by omega))
    have hle : n ≤ m := by
      unfold canG at hg
      rw [decide_eq_false hne, Bool.true_and, Bool.false_or, decide_eq_true_iff] at hg
      exact (nI_leI (by omega) (by omega)).mp hg
    unfold lefI rmD
    rw [if_neg hne, if_neg hne, pk_sub (by omega), pk_sub (by omega), if_neg (nI_not_neg (by omega)), show (1 : Int32) = nI 1 from rfl, pk_sub (by omega)]
    congr 1
theorem lefI_ok {rm : Int32} {n : Nat} (h : rOk rm) (hg : canG true rm (nI n) = true) (hn : n ≤ 64) : rOk (lefI rm n) := by
  rcases h with rfl | ⟨m, hm, rfl⟩
  · exact Or.inl rfl
  · have hne : nI m ≠ -1 := fun q => absurd (show nI m < 0 by rw [q]; decide) (nI_not_neg (by omega))
    have hle : n ≤ m := by
      unfold canG at hg
      rw [decide_eq_false hne, Bool.true_and, Bool.false_or, decide_eq_true_iff] at hg
      exact (nI_leI (by omega) (by omega)).mp hg
    unfold lefI
    rw [if_neg hne, pk_sub (by omega)]
    exact Or.inr ⟨m - n, by omega, rfl⟩
def eqB (w1 : Nat) (c1 : Co) (w2 : Nat) (c2 : Co) : Nat → Bool
  | 0 => true
  | n + 1 => decide (giveB w2 (sqC w2 c2 n) = giveB w1 (sqC w1 c1 n)) && eqB w1 c1 w2 c2 n
theorem canG_lt {dn : Bool} {rm n : Int32} (h : rOk rm) : canG dn rm n = (dn && (decide (rm < 0) || decide (n ≤ rm))) := by
  unfold canG
  rcases h with rfl | ⟨m, hm, rfl⟩
  · rfl
  · have hne : nI m ≠ -1 := fun q => absurd (show nI m < 0 by rw [q]; decide) (nI_not_neg (by omega))
    rw [decide_eq_false hne, decide_eq_false (nI_not_neg (show m < 2 ^ 31 by omega))]
/-- the first four sponges as they were -/
def mE (F G : MFn) : Prop := (∀ j, j < 6400 → G 3 j = F 3 j) ∧ ∀ j, j < 4 → G 4 j = F 4 j ∧ G 5 j = F 5 j ∧ G 6 j = F 6 j ∧ G 7 j = F 7 j ∧ G 8 j = F 8 j ∧ G 9 j = F 9 j
theorem mU.e {F G : MFn} {k : Nat} {x : Sp} (h : mU F G k x) (hk : 4 ≤ k) : mE F G := ⟨fun j hj => h.1.2.1 j (by omega), fun j hj => ⟨h.2.1.2 j (by omega), h.1.2.2 j (by omega), h.2.2.1.2 j (by omega), h.2.2.2.2.1.2 j (by omega), h.2.2.2.1.2 j (by omega), h.2.2.2.2.2.2 j (by omega)⟩⟩
theorem mE.tr {F G G1 : MFn} (h : mE F G) (g : mE G G1) : mE F G1 := ⟨fun j hj => (g.1 j hj).trans (h.1 j hj), fun j hj => by
  obtain ⟨a1, a2, a3, a4, a5, a6⟩ := h.2 j hj
  obtain ⟨b1, b2, b3, b4, b5, b6⟩ := g.2 j hj
  exact ⟨b1.trans a1, b2.trans a2, b3.trans a3, b4.trans a4, b5.trans a5, b6.trans a6⟩⟩
theorem mE.sg {F G : MFn} {k : Nat} {x : Sp} (h : mE F G) (hk : k < 4) (g : mSg F k x) : mSg G k x := by
  obtain ⟨a1, a2, a3, a4, a5, a6⟩ := h.2 k hk
  exact ⟨⟨fun i hi => (h.1 _ (by omega)).trans (g.1.1 i hi), a2.trans g.1.2⟩, a1.trans g.2.1, a3.trans g.2.2.1, a5.trans g.2.2.2.1, a4.trans g.2.2.2.2.1, a6.trans g.2.2.2.2.2⟩
