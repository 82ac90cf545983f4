/-! Objects and rows that are made. -/
def mkL (a b c d e f : Nat → Int64) : Nat → Nat → Int64 := fun n => match n with
  | 0 => a
  | 1 => b
  | 2 => c
  | 3 => d
  | 4 => e
  | _ => f
theorem df_R : ∀ j, j < 2 → defaultValue (tyR j) = vp_V [.null, .int 0] j := by
  intro j hj
  obtain rfl | rfl : j = 0 ∨ j = 1 := by omega
  all_goals rfl
theorem df_S : ∀ j, j < 8 → defaultValue (tyS j) = vp_V [.null, .int 0, .int 0, .int 0, .int 0, .int 0, .int 0, .int 0] j := by
  intro j hj
  obtain rfl | rfl | rfl | rfl | rfl | rfl | rfl | rfl : j = 0 ∨ j = 1 ∨ j = 2 ∨ j = 3 ∨ j = 4 ∨ j = 5 ∨ j = 6 ∨ j = 7 := by omega
  all_goals rfl
theorem df_K : ∀ j, j < 7 → defaultValue (tyK j) = vp_V [.null, .null, .null, .null, .null, .null, .null] j := by
  intro j hj
  obtain rfl | rfl | rfl | rfl | rfl | rfl | rfl : j = 0 ∨ j = 1 ∨ j = 2 ∨ j = 3 ∨ j = 4 ∨ j = 5 ∨ j = 6 := by omega
  all_goals rfl
theorem df_M : ∀ j, j < 14 → defaultValue (tyM j) = vp_V [.int 0, .int 0, .null, .null, .null, .null, .null, .null, .null, .null, .null, .null, .null, .null] j := by
  intro j hj
  obtain rfl | rfl | rfl | rfl | rfl | rfl | rfl | rfl | rfl | rfl | rfl | rfl | rfl | rfl : j = 0 ∨ j = 1 ∨ j = 2 ∨ j = 3 ∨ j = 4 ∨ j = 5 ∨ j = 6 ∨ j = 7 ∨ j = 8 ∨ j = 9 ∨ j = 10 ∨ j = 11 ∨ j = 12 ∨ j = 13 := by omega
  all_goals rfl
theorem ao_in : Cond.arrayOver (.object "SpongeDesk$Sponge") ∈ tables_1 := by decide +kernel
section RN
variable {p : Program} {l : Launch} {e : Env} {R : Room} {s : State} {m : MethodId} {args : Array Value} {below : List Frame} {meth : Method} {c : Code} {H : Heap} {locs : List Loc} {cells slots : Nat} {Q : State → Prop}
variable {cc : ByteArray} {nL : Nat} {own : String} {pc : Nat} {ls : Array Slot} {rest st0 : List Value} {D : va_G} {ca : Nat → ClassId} {s0 : State} {a0 : Array Value} {A : Nat → Prop} {ws : va_W} {a : Nat}
theorem n_new (S : CallFix p m c cc nL s args lw_good own) (C : Cx D ca s0 A s ws H locs) {C0 : String} {T : u_T} {N ci index : Nat} (hin : ∀ w ∈ u_ws C0 T N, w ∈ lw_good) (ty : Nat → FieldType) (hty : ∀ k, k < N → parseFieldDescriptor (T k).2.2.1 = some (ty k)) (hc : vwCl[ci]? = some (C0, T, N)) {fs : List Value} (hfs : ∀ j, j < N → defaultValue (ty j) = vp_V fs j) (w1 : Cond.classLink own index C0 ∈ lw_good) (w2 : Cond.instantiable C0 N ∈ lw_good) (w3 : Cond.initialized C0 ∈ lw_good) (hcells : cells + 1 ≤ R.cells) (hslots : slots + N ≤ R.slots) (hdg : decode cc pc = .ok (.new index, 3))
    (kk : ∀ (q : Nat) (H1 : Heap), Cx D ca s0 A s (ws ++ [(q, .inr (ci, fs))]) H1 locs → W p l e R s m args below meth c H1 locs (cells + 1) (slots + N) Q (F0 m (pc + 3) ls (.ref q :: rest))) : W p l e R s m args below meth c H locs cells slots Q (F0 m pc ls rest) :=
  va_new S.1 S.2.1 S.2.2.2.2 hin ty hty S.2.2.2.1 (S.2.2.2.2 _ w1) (S.2.2.2.2 _ w2) (S.2.2.2.2 _ w3) C.1 C.2.1 C.2.2.1 C.2.2.2.1 C.2.2.2.2.1 hc hfs hcells hslots hdg (fun q H1 g1 g2 g3 => kk q H1 ⟨C.1, g1, g2, g3, C.2.2.2.2⟩)
theorem n_newq (S : CallFix p m c cc nL s args lw_good own) (C : Cx D ca s0 A s ws H locs) (Z : Wd a0 s0) {index N : Nat} (w1 : Cond.classLink own index "SpongeDesk$Sponge" ∈ lw_good) (hN : N < 2 ^ 27) (hcells : cells + 1 ≤ R.cells) (hslots : slots + N ≤ R.slots) (hdg : decode cc pc = .ok (.anewarray index, 3))
    (kk : ∀ (q : Nat) (H1 : Heap), Cx D ca s0 A s (ws ++ [(q, .inl (ca 4, N, .inr (.inr (.inr (.inr (fun _ => none))))))]) H1 locs → W p l e R s m args below meth c H1 locs (cells + 1) (slots + N) Q (F0 m (pc + 3) ls (.ref q :: rest))) : W p l e R s m args below meth c H locs cells slots Q (F0 m pc ls (.int (nI N) :: rest)) := by
  refine va_newq S.1 S.2.1 S.2.2.2.1 (S.2.2.2.2 _ w1) (va_AO.moved C.2.2.2.2.2.1.alike (va_AO.of (Z.tab ao_in))) C.1 C.2.1 C.2.2.1 C.2.2.2.1 C.2.2.2.2.1 (nI_pos (by omega)) (nI_clamp (by omega)) (by omega) hcells hslots hdg (fun q cA H1 k1 g1 g2 g3 => ?_)
  have h1 : va_RA s cA (.object "SpongeDesk$Sponge") := (k1.2 5 (cA, _) rfl).2
  have h2 : va_RA s (ca 4) (.object "SpongeDesk$Sponge") := (C.1.2 4 _ rfl).2
  obtain ⟨_, _, _, _, _, e1⟩ := h1
  obtain ⟨_, _, _, _, _, e2⟩ := h2
  have h3 : cA = ca 4 := Option.some.inj (e1.symm.trans e2)
  subst h3
  exact kk q H1 ⟨C.1, g1, g2, g3, C.2.2.2.2⟩
theorem n_aast (S : CallFix p m c cc nL s args lw_good own) (C : Cx D ca s0 A s ws H locs) (q0 qk : Nat) {n i v : Nat} {vs : List Value} {f : Nat → Option Nat} (ha : ws[q0]? = some (a, .inl (ca 4, n, .inr (.inr (.inr (.inr f)))))) (hv : ws[qk]? = some (v, .inr (1, vs))) (hi : i < n) (hn : n < 2 ^ 31) (hdg : decode cc pc = .ok (.aastore, 1))
    (kk : ∀ (H1 : Heap) (locs1 : List Loc), Cx D ca s0 A s (ws.set q0 (a, .inl (ca 4, n, .inr (.inr (.inr (.inr (va_up f i (some v)))))))) H1 locs1 → W p l e R s m args below meth c H1 locs1 cells slots Q (F0 m (pc + 1) ls rest)) : W p l e R s m args below meth c H locs cells slots Q (F0 m pc ls (.ref v :: .int (nI i) :: .ref a :: rest)) := by
  refine va_astq S.1 S.2.1 C.1 C.2.1 C.2.2.1 C.2.2.2.1 q0 4 qk 1 ha rfl hv rfl (vp_in_nI hi hn) hdg (fun H1 locs1 g1 g2 g3 => ?_)
  rw [nI_clamp (by omega)] at g1 g2
  exact kk H1 locs1 ⟨C.1, g1, g2, g3, C.2.2.2.2⟩
end RN
