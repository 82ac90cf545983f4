theorem kLf_hi {k : Nat} (h : 255 < 2 * kLf k) : (2 * kLf k - 256) ^^^ 113 = kLf (k + 1) := (if_pos h).symm
theorem kLf_lo {k : Nat} (h : 2 * kLf k ≤ 255) : 2 * kLf k = kLf (k + 1) := (if_neg (Nat.not_lt.mpr h)).symm
theorem nI_xor (a b : Nat) : nI a ^^^ nI b = nI (a ^^^ b) := Int32.toBitVec_inj.mp (by
  rw [Int32.toBitVec_xor]
  show BitVec.ofNat 32 a ^^^ BitVec.ofNat 32 b = BitVec.ofNat 32 (a ^^^ b)
  apply BitVec.eq_of_toNat_eq
  rw [BitVec.toNat_xor, BitVec.toNat_ofNat, BitVec.toNat_ofNat, BitVec.toNat_ofNat, Nat.xor_mod_two_pow])
theorem rc_iff (k : Nat) : kRc k = true ↔ nI (kLf k % 2) = nI 1 := by
  unfold kRc
  rw [decide_eq_true_iff, nI_eq (by omega) (by decide)]
theorem iota_s {f : Nat → Int32} {r j : Nat} {B : Nat → Bool} {v : Int32} (h : rB f (kIotaN r B j)) (hv : v = b2i (kIotaN r B j (2 ^ j - 1) ^^ kRc (7 * r + j))) : rB (upd f (2 ^ j - 1) v) (kIotaN r B (j + 1)) := fun k hk => by
  show _ = b2i (if k = 2 ^ j - 1 then kIotaN r B j k ^^ kRc (7 * r + j) else kIotaN r B j k)
  by_cases e : k = 2 ^ j - 1
  · rw [if_pos e, e, pk_us, hv]
  · rw [if_neg e, pk_un e]
    exact h k hk
/-- a stretch of the bits is B, the rest as it was -/
def rS (b1 b0 : Nat → Int32) (o n : Nat) (B : Nat → Bool) : Prop := (∀ j, j < n → b1 (o + j) = b2i (B j)) ∧ ∀ j, (j < o ∨ o + n ≤ j) → b1 j = b0 j
theorem rS_0 {b0 : Nat → Int32} {o : Nat} {B : Nat → Bool} : rS b0 b0 o 0 B := ⟨fun j h => absurd h (Nat.not_lt_zero j), fun _ _ => rfl⟩
theorem rS_s {b1 b0 : Nat → Int32} {o n : Nat} {B : Nat → Bool} {v : Int32} (h : rS b1 b0 o n B) (hv : v = b2i (B n)) : rS (upd b1 (o + n) v) b0 o (n + 1) B := by
  refine ⟨fun j hj => ?_, fun j hj => ?_⟩
  · by_cases e : j = n
    · rw [e, pk_us, hv]
    · rw [pk_un (by omega)]
      exact h.1 j (by omega)
  · rw [pk_un (by omega)]
    exact h.2 j (by omega)
section RX
variable {p : Program} {l : Launch} {e : Env} {R : Room} {s : State} {m : MethodId} {args : Array Value} {below : List Frame} {meth : Method} {c : Code} {H : Heap} {locs : List Loc} {cells slots : Nat} {Q : State → Prop}
variable {cc : ByteArray} {nL : Nat} {Ts : List Cond} {own : String} {pc : Nat} {ls : Array Slot} {rest : List Value}
theorem n_xor (S : CallFix p m c cc nL s args Ts own) {x y : Nat} (hdg : decode cc pc = .ok (.ixor, 1)) (k : W p l e R s m args below meth c H locs cells slots Q (F0 m (pc + 1) ls (.int (nI (x ^^^ y)) :: rest))) : W p l e R s m args below meth c H locs cells slots Q (F0 m pc ls (.int (nI y) :: .int (nI x) :: rest)) := lv_ixor S.1 S.2.1 hdg (by rw [nI_xor]; exact k)
end RX
