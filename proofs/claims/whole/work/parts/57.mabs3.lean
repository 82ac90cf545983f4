def sameI (F : MFn) (c1 c2 : Co) (b p l : Nat → Int32) : Prop := mS b p 4 c1 ∧ mS b p 5 c2 ∧ (∀ j, j < 6400 → b j = F 3 j) ∧ (∀ j, j < 4 → p j = F 5 j) ∧ ∀ j, j < 4 → l j = F 9 j
theorem sameI.a {F : MFn} {c1 c2 c : Co} {b p l b1 p1 l1 : Nat → Int32} {v : Int32} (h : sameI F c1 c2 b p l) (g : mR b p 4 c b1 p1) (o : one l1 l 4 v) : sameI F c c2 b1 p1 l1 :=
  ⟨g.1, ⟨fun j hj => (g.2.1 _ (by omega)).trans (h.2.1.1 j hj), (g.2.2 5 (by decide)).trans h.2.1.2⟩, fun j hj => (g.2.1 _ (by omega)).trans (h.2.2.1 j hj), fun j hj => (g.2.2 j (by omega)).trans (h.2.2.2.1 j hj), fun j hj => (o.2 j (by omega)).trans (h.2.2.2.2 j hj)⟩
theorem sameI.b {F : MFn} {c1 c2 c : Co} {b p l b1 p1 l1 : Nat → Int32} {v : Int32} (h : sameI F c1 c2 b p l) (g : mR b p 5 c b1 p1) (o : one l1 l 5 v) : sameI F c1 c b1 p1 l1 :=
  ⟨⟨fun j hj => (g.2.1 _ (by omega)).trans (h.1.1 j hj), (g.2.2 4 (by decide)).trans h.1.2⟩, g.1, fun j hj => (g.2.1 _ (by omega)).trans (h.2.2.1 j hj), fun j hj => (g.2.2 j (by omega)).trans (h.2.2.2.1 j hj), fun j hj => (o.2 j (by omega)).trans (h.2.2.2.2 j hj)⟩
def mkQ (a b c d e f g h i j k l : Nat) : Nat → Nat := fun n => match n with
  | 0 => a
  | 1 => b
  | 2 => c
  | 3 => d
  | 4 => e
  | 5 => f
  | 6 => g
  | 7 => h
  | 8 => i
  | 9 => j
  | 10 => k
  | _ => l
theorem mkQ_ex (a b c d e f g h i j k l : Nat) : ∃ q : Nat → Nat, a = q 0 ∧ b = q 1 ∧ c = q 2 ∧ d = q 3 ∧ e = q 4 ∧ f = q 5 ∧ g = q 6 ∧ h = q 7 ∧ i = q 8 ∧ j = q 9 ∧ k = q 10 ∧ l = q 11 := ⟨mkQ a b c d e f g h i j k l, rfl, rfl, rfl, rfl, rfl, rfl, rfl, rfl, rfl, rfl, rfl, rfl⟩
abbrev newSp : Sp := (zeroC, 0, 6, nI 0, false, -1)
def iniF (G : MFn) : MFn := fun n => match n with
  | 1 => fun _ => 0
  | 2 => fun _ => 0
  | n => G n
abbrev noRows : Nat → Rw := fun _ => (fun _ => 0, 0)
theorem iniF_ro (G : MFn) : ∀ r, r < 3 → mRo (iniF G 1) (iniF G 2) r (noRows (r + 1)) := fun _ _ => ⟨rfl, Nat.zero_le _, fun j hj => absurd hj (Nat.not_lt_zero j)⟩
