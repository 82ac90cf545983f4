theorem dJ_fill_0 : decode cJ_fill 0 = .ok (.iconst 0, 1) := by decide +kernel
theorem dJ_fill_1 : decode cJ_fill 1 = .ok (.istore_n 3, 1) := by decide +kernel
theorem dJ_fill_2 : decode cJ_fill 2 = .ok (.aload_n 0, 1) := by decide +kernel
theorem dJ_fill_3 : decode cJ_fill 3 = .ok (.arraylength, 1) := by decide +kernel
theorem dJ_fill_4 : decode cJ_fill 4 = .ok (.istore 4, 2) := by decide +kernel
theorem dJ_fill_6 : decode cJ_fill 6 = .ok (.iload_n 3, 1) := by decide +kernel
theorem dJ_fill_7 : decode cJ_fill 7 = .ok (.iload 4, 2) := by decide +kernel
theorem dJ_fill_9 : decode cJ_fill 9 = .ok (.if_icmp .ge 13, 3) := by decide +kernel
theorem dJ_fill_12 : decode cJ_fill 12 = .ok (.aload_n 0, 1) := by decide +kernel
theorem dJ_fill_13 : decode cJ_fill 13 = .ok (.iload_n 3, 1) := by decide +kernel
theorem dJ_fill_14 : decode cJ_fill 14 = .ok (.lload_n 1, 1) := by decide +kernel
theorem dJ_fill_15 : decode cJ_fill 15 = .ok (.lastore, 1) := by decide +kernel
theorem dJ_fill_16 : decode cJ_fill 16 = .ok (.iinc 3 1, 3) := by decide +kernel
theorem dJ_fill_19 : decode cJ_fill 19 = .ok (.goto (-13), 3) := by decide +kernel
theorem dJ_fill_22 : decode cJ_fill 22 = .ok (.return_, 1) := by decide +kernel
def e0 (k : Nat) : Nat := if k < 4 then 6 else 31
theorem lb_zero {M : Nat → Int64} (h : ∀ i, i < 25 → M i = 0) : kEq (lb M) (fun _ => false) := fun k hk => by
  show lBit (M (k / 64)) (k % 64) = false
  rw [h _ (by omega)]
  unfold lBit
  simp
theorem lb_cpy {f g : Nat → Int64} : kEq (lb (va_cpy f g 0 0 25)) (lb f) := lb_eq (fun i hi => by rw [pk_cpy_in (Nat.zero_le _) (by omega)]; congr 1; omega)
theorem lat_cpy {T : Nat → Nat} {n : Nat} {f g : Nat → Int32} (h : sb_Lat T n f) : sb_Lat T n (va_cpy f g 0 0 n) := fun j hj => by
  rw [pk_cpy_in (Nat.zero_le _) (by omega), show 0 + (j - 0) = j by omega]
  exact h j hj
theorem lat_put {T : Nat → Nat} {n i : Nat} {f : Nat → Int32} {x : Int64} {y : Int32} (h : sb_Lat (sb_cat T n (byAt x)) (n + i) f) (hy : y = sb_b (byAt x i)) : sb_Lat (sb_cat T n (byAt x)) (n + (i + 1)) (upd f (n + i) y) := fun j hj => by
  by_cases e : j = n + i
  · rw [e, pk_us, sb_cat_hi]
    exact ⟨byAt_lt _ _, hy⟩
  · rw [pk_un e]
    exact h j (by omega)
theorem lat_0 {T U : Nat → Nat} {n : Nat} {f : Nat → Int32} (h : sb_Lat T n f) : sb_Lat (sb_cat T n U) (n + 0) f := fun j hj => by
  rw [sb_cat_lo (show j < n from hj)]
  exact h j hj
theorem lat_b (x : Int64) {i : Nat} (hi : i < 8) : vp_nar .byte (lShr x (8 * i)).toInt32.toInt8.toInt32 = sb_b (byAt x i) := by rw [sb_b_bv8, sb_b_nar, bv8_shr x hi]
section RN
variable {p : Program} {l : Launch} {e : Env} {R : Room} {s : State} {m : MethodId} {args : Array Value} {below : List Frame} {meth : Method} {c : Code} {H : Heap} {locs : List Loc} {cells slots : Nat} {Q : State → Prop}
variable {cc : ByteArray} {nL : Nat} {own : String} {pc : Nat} {ls : Array Slot} {rest : List Value} {D : va_G} {ca : Nat → ClassId} {s0 : State} {a0 : Array Value} {A : Nat → Prop} {ws : va_W} {a : Nat}
theorem n_copyl (S : CallFix p m c cc nL s args lw_good own) (C : Cx D ca s0 A s ws H locs) {index : Nat} (w1 : Cond.methodLink own index arraycopyName ∈ lw_good) (w2 : Cond.native arraycopyName ∈ lw_good) (w3 : Cond.static arraycopyName ∈ lw_good) (w4 : Cond.initialized "java/lang/System" ∈ lw_good) (q0 q1 : Nat) {b n0 n1 : Nat} {f g : Nat → Int64} (ha0 : ws[q0]? = some (b, .inl (ca 2, n0, .inr (.inl f)))) (ha1 : ws[q1]? = some (a, .inl (ca 2, n1, .inr (.inl g)))) {k : Nat} (h4 : k ≤ n0) (h5 : k ≤ n1) (hk : k < 2 ^ 31) (hsz : ls.size = nL) (hframes : 1 ≤ R.frames) (hlocals : (rest.map fun v => v.category).sum + (nativeFrameWords "java/lang/System" "arraycopy" 5 + 11) ≤ R.locals) (hdg : decode cc pc = .ok (.invokestatic index, 3))
    (kk : ∀ (H1 : Heap) (locs1 : List Loc), Cx D ca s0 A s (ws.set q1 (a, .inl (ca 2, n1, .inr (.inl (va_cpy f g 0 0 k))))) H1 locs1 → W p l e R s m args below meth c H1 locs1 cells slots Q (F0 m (pc + 3) ls rest)) : W p l e R s m args below meth c H locs cells slots Q (F0 m pc ls (.int (nI k) :: .int (nI 0) :: .ref a :: .int (nI 0) :: .ref b :: rest)) := by
  refine va_copyl S.1 S.2.1 (S.2.2.1.trans hsz.symm) S.2.2.2.1 (S.2.2.2.2 _ w1) (S.2.2.2.2 _ w2) (S.2.2.2.2 _ w3) (S.2.2.2.2 _ w4) C.1 C.2.1 C.2.2.1 C.2.2.2.1 q0 q1 2 2 ha0 ha1 rfl rfl rfl (nI_pos (by decide)) (nI_pos (by decide)) (nI_pos hk) (by rw [nI_clamp (by decide), nI_clamp hk]; omega) (by rw [nI_clamp (by decide), nI_clamp hk]; omega) (fun _ _ => rfl) hframes hlocals hdg (fun H1 locs1 g1 g2 g3 => ?_)
  rw [nI_clamp (by decide), nI_clamp hk] at g1 g2
  exact kk H1 locs1 ⟨C.1, g1, g2, g3, C.2.2.2.2⟩
theorem n_copyb (S : CallFix p m c cc nL s args lw_good own) (C : Cx D ca s0 A s ws H locs) {index : Nat} (w1 : Cond.methodLink own index arraycopyName ∈ lw_good) (w2 : Cond.native arraycopyName ∈ lw_good) (w3 : Cond.static arraycopyName ∈ lw_good) (w4 : Cond.initialized "java/lang/System" ∈ lw_good) (q0 q1 : Nat) {b n0 n1 : Nat} {f g : Nat → Int32} (ha0 : ws[q0]? = some (b, .inl (ca 3, n0, .inl f))) (ha1 : ws[q1]? = some (a, .inl (ca 3, n1, .inl g))) {k : Nat} (h4 : k ≤ n0) (h5 : k ≤ n1) (hk : k < 2 ^ 31) (hfit : ∀ i, i < k → fits .byte (.int (f i)) = true) (hsz : ls.size = nL) (hframes : 1 ≤ R.frames) (hlocals : (rest.map fun v => v.category).sum + (nativeFrameWords "java/lang/System" "arraycopy" 5 + 11) ≤ R.locals) (hdg : decode cc pc = .ok (.invokestatic index, 3))
    (kk : ∀ (H1 : Heap) (locs1 : List Loc), Cx D ca s0 A s (ws.set q1 (a, .inl (ca 3, n1, .inl (va_cpy f g 0 0 k)))) H1 locs1 → W p l e R s m args below meth c H1 locs1 cells slots Q (F0 m (pc + 3) ls rest)) : W p l e R s m args below meth c H locs cells slots Q (F0 m pc ls (.int (nI k) :: .int (nI 0) :: .ref a :: .int (nI 0) :: .ref b :: rest)) := by
  refine va_copyi S.1 S.2.1 (S.2.2.1.trans hsz.symm) S.2.2.2.1 (S.2.2.2.2 _ w1) (S.2.2.2.2 _ w2) (S.2.2.2.2 _ w3) (S.2.2.2.2 _ w4) C.1 C.2.1 C.2.2.1 C.2.2.2.1 q0 q1 3 3 ha0 ha1 rfl rfl rfl (nI_pos (by decide)) (nI_pos (by decide)) (nI_pos hk) (by rw [nI_clamp (by decide), nI_clamp hk]; omega) (by rw [nI_clamp (by decide), nI_clamp hk]; omega) (fun i hi => ?_) hframes hlocals hdg (fun H1 locs1 g1 g2 g3 => ?_)
  · rw [nI_clamp hk] at hi
    rw [nI_clamp (by decide), Nat.zero_add]
    exact hfit i hi
  · rw [nI_clamp (by decide), nI_clamp hk] at g1 g2
    exact kk H1 locs1 ⟨C.1, g1, g2, g3, C.2.2.2.2⟩
theorem n_objInit (S : CallFix p m c cc nL s args lw_good own) {idx : Nat} (w1 : Cond.methodLink own idx objectInit ∈ lw_good) (w2 : Cond.instanceMethod objectInit ∈ lw_good) (w3 : Cond.code objectInit ⟨#[0xb1]⟩ 1 none ∈ lw_good) (hsz : ls.size = nL) (hd : decode cc pc = .ok (.invokespecial idx, 3)) (hframes : 1 ≤ R.frames) (hlocals : (rest.map fun v => v.category).sum + 12 ≤ R.locals) (kk : W p l e R s m args below meth c H locs cells slots Q (F0 m (pc + 3) ls rest)) : W p l e R s m args below meth c H locs cells slots Q (F0 m pc ls (.ref a :: rest)) :=
  W.objInit S.1 S.2.1 S.2.2.2.1 (S.2.2.2.2 _ w1) (S.2.2.2.2 _ w2) (S.2.2.2.2 _ w3) rfl (hsz.trans S.2.2.1.symm) rfl hd hframes (by show 2 * 0 + _ + 12 ≤ _; omega) kk
theorem KG.arr {U : State} {t : Nat} {ty : FieldType} {cA cB : ClassId} (h : KG D ca U) (ht : (kTys ca)[t]? = some (cB, ty)) (hp : ∀ C, ty ≠ .object C) (hA : va_RA U cA ty) : cA = cB := by
  have h1 := (h.2 t _ ht).2
  cases ty with
  | object C => exact absurd rfl (hp C)
  | _ => exact Option.some.inj (hA.symm.trans h1)
theorem n_newa (S : CallFix p m c cc nL s args lw_good own) (C : Cx D ca s0 A s ws H locs) (t : Nat) {atype : ArrayType} {ty : FieldType} {cB : ClassId} (ht : (kTys ca)[t]? = some (cB, ty)) (hp : ∀ C, ty ≠ .object C) (harr : Cond.arrayClass ty ∈ lw_good) (hty : newarray.typeOf atype = ty) {N : Nat} {x : vp_A} (ha : ∀ cA : ClassId, vp_cell cA x = arrV cA N (fun _ => defaultValue ty)) (hN : N < 2 ^ 31) (hbytes : N * componentBytes ty ≤ 536870912) (hcells : cells + 1 ≤ R.cells) (hslots : slots + N ≤ R.slots) (hdg : decode cc pc = .ok (.newarray atype, 2))
    (kk : ∀ (q : Nat) (H1 : Heap), Cx D ca s0 A s (ws ++ [(q, .inl (cB, x))]) H1 locs → W p l e R s m args below meth c H1 locs (cells + 1) (slots + N) Q (F0 m (pc + 2) ls (.ref q :: rest))) : W p l e R s m args below meth c H locs cells slots Q (F0 m pc ls (.int (nI N) :: rest)) := by
  refine va_newa S.1 S.2.1 (by rw [hty]; exact S.2.2.2.2 _ harr) hty C.1 C.2.1 C.2.2.1 C.2.2.2.1 C.2.2.2.2.1 ha (nI_pos hN) (nI_clamp hN) hbytes hcells hslots hdg (fun q cA H1 k1 g1 g2 g3 => ?_)
  have h1 : va_RA s cA ty := (k1.2 5 (cA, ty) rfl).2
  have h2 := KG.arr C.1 ht hp h1
  subst h2
  exact kk q H1 ⟨C.1, g1, g2, g3, C.2.2.2.2⟩
end RN
