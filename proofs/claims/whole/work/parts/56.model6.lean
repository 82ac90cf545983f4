abbrev rm_M_has : Room := { frames := 0, cells := 0, slots := 0, locals := 0 }
set_option maxHeartbeats 4000000 in
set_option maxRecDepth 100000 in
theorem c_M_has (l : Launch) (D : va_G) (ca : Nat → ClassId) (s0 : State) (a0 : Array Value) (Z : Wd a0 s0) (h0 : Nat) (q : Nat → Nat) (th tz : Int32) (F : MFn) (k0 : Nat) (hk0 : k0 < 6) (dn : Bool) (rm y : Int32) (h7 : F 7 k0 = b2i dn) (h9 : F 9 k0 = rm) (hro : rOk rm) : CtI l yM_has [.code yM_has cM_has 3 (some .boolean)] rm_M_has 0 0 D ca s0 [.ref (h0), .int (nI k0), .int (y)] [(h0, .inr (3, mF q (th) (tz))), (q 7, .inl (ca 1, 6, .inl (F 7))), (q 9, .inl (ca 0, 6, .inl (F 9)))] (S := Unit) (fun r _ => r = b2i (canG dn rm y)) (fun _ => [(h0, .inr (3, mF q (th) (tz))), (q 7, .inl (ca 1, 6, .inl (F 7))), (q 9, .inl (ca 0, 6, .inl (F 9)))]) := by
  refine ctZ_of (cc := cM_has) (maxL := 3) (own := RM) Z rfl (by decide) rfl (Nat.le_of_ble_eq_true rfl) ?_
  intro p e s m args below meth c A ls Q S hnm ret C hl
  have hx := S.1
  have hb := S.2.1
  have hown := S.2.2.2.1
  have hts := S.2.2.2.2
  generalize s.heap = H at C ⊢
  generalize ([] : List Loc) = locs at C ⊢
  replace hl : lv_has ls 3 [(0, .ref (h0)), (1, .int (nI k0)), (2, .int (y))] := hl
  refine lv_aload_n hx hb dM_has_0 rfl (lv_at hl 0 rfl) ?_
  refine n_get S C hin_M 0 rfl rfl 9 (by decide) g_411 rfl dM_has_1 ?_
  refine lv_iload_n hx hb dM_has_4 rfl (lv_at hl 1 rfl) ?_
  refine n_zald S C 1 rfl (i := k0) (by omega) (by decide) dM_has_5 ?_
  refine lv_topi (nm_r (e' := b2i dn) h7 ?_)
  refine lv_if_eq (tgt := 32) hx hb dM_has_6 (by decide) (fun hc6 => ?_) (fun hc6 => ?_)
  · skip
    refine lv_iconst (v := nI 0) hx hb dM_has_32 (by decide) ?_
    exact ret (nI 0) (()) _ _ _ _ _ _ (by decide) (Nat.le_refl _) (Nat.le_refl _) (by rw [canG_lt hro]; first | (rw [b2i_0.mp hc6]; rfl) | (rw [b2i_n0.mp hc6, decide_eq_false hc15, decide_eq_false (Int32.not_le.mpr hc25)]; rfl)) C dM_has_33
  · skip
    refine lv_aload_n hx hb dM_has_9 rfl (lv_at hl 0 rfl) ?_
    refine n_get S C hin_M 0 rfl rfl 11 (by decide) g_413 rfl dM_has_10 ?_
    refine lv_iload_n hx hb dM_has_13 rfl (lv_at hl 1 rfl) ?_
    refine n_iald S C 2 rfl (i := k0) (by omega) (by decide) dM_has_14 ?_
    refine lv_topi (nm_r (e' := rm) h9 ?_)
    refine lv_if_lt (tgt := 28) hx hb dM_has_15 (by decide) (fun hc15 => ?_) (fun hc15 => ?_)
    · skip
      refine lv_iconst (v := nI 1) hx hb dM_has_28 (by decide) ?_
      refine lv_goto (tgt := 33) hx hb dM_has_29 (by decide) ?_
      exact ret (nI 1) (()) _ _ _ _ _ _ (by decide) (Nat.le_refl _) (Nat.le_refl _) (by rw [canG_lt hro]; first | (rw [b2i_n0.mp hc6, decide_eq_true hc15]; rfl) | (rw [b2i_n0.mp hc6, decide_eq_false hc15, decide_eq_true (Int32.not_lt.mp hc25)]; rfl)) C dM_has_33
    · skip
      refine lv_iload_n hx hb dM_has_18 rfl (lv_at hl 2 rfl) ?_
      refine lv_aload_n hx hb dM_has_19 rfl (lv_at hl 0 rfl) ?_
      refine n_get S C hin_M 0 rfl rfl 11 (by decide) g_413 rfl dM_has_20 ?_
      refine lv_iload_n hx hb dM_has_23 rfl (lv_at hl 1 rfl) ?_
      refine n_iald S C 2 rfl (i := k0) (by omega) (by decide) dM_has_24 ?_
      refine lv_topi (nm_r (e' := rm) h9 ?_)
      refine lv_icmp_gt (tgt := 32) hx hb dM_has_25 (by decide) (fun hc25 => ?_) (fun hc25 => ?_)
      · skip
        refine lv_iconst (v := nI 0) hx hb dM_has_32 (by decide) ?_
        exact ret (nI 0) (()) _ _ _ _ _ _ (by decide) (Nat.le_refl _) (Nat.le_refl _) (by rw [canG_lt hro]; first | (rw [b2i_0.mp hc6]; rfl) | (rw [b2i_n0.mp hc6, decide_eq_false hc15, decide_eq_false (Int32.not_le.mpr hc25)]; rfl)) C dM_has_33
      · skip
        refine lv_iconst (v := nI 1) hx hb dM_has_28 (by decide) ?_
        refine lv_goto (tgt := 33) hx hb dM_has_29 (by decide) ?_
        exact ret (nI 1) (()) _ _ _ _ _ _ (by decide) (Nat.le_refl _) (Nat.le_refl _) (by rw [canG_lt hro]; first | (rw [b2i_n0.mp hc6, decide_eq_true hc15]; rfl) | (rw [b2i_n0.mp hc6, decide_eq_false hc15, decide_eq_true (Int32.not_lt.mp hc25)]; rfl)) C dM_has_33
abbrev rm_M_comeOut : Room := { frames := 4, cells := 0, slots := 0, locals := 94 }
set_option maxHeartbeats 4000000 in
set_option maxRecDepth 100000 in
theorem c_M_comeOut (l : Launch) (D : va_G) (ca : Nat → ClassId) (s0 : State) (a0 : Array Value) (Z : Wd a0 s0) (h0 : Nat) (q : Nat → Nat) (th tz : Int32) (k0 k : Nat) (hk0 : k0 < 6) (hk : k < 16) (bt kd pl lf nw nx : Nat → Int32) (hkd : kd k0 = nI k) (rm : Int32) (hlf : lf k0 = rm) (c0 : Co) (hS : mS bt pl k0 c0) (hp0 : c0.2 ≤ wid k) : CtI l yM_comeOut [.code yM_comeOut cM_comeOut 4 (some .int)] rm_M_comeOut 0 0 D ca s0 [.ref (h0), .int (nI k0)] [(h0, .inr (3, mF q (th) (tz))), (q 3, .inl (ca 1, 9600, .inl (bt))), (q 4, .inl (ca 0, 6, .inl (kd))), (q 5, .inl (ca 0, 6, .inl (pl))), (q 9, .inl (ca 0, 6, .inl (lf))), (q 10, .inl (ca 1, 1600, .inl (nw))), (q 11, .inl (ca 1, 1600, .inl (nx)))] (S := (Nat → Int32) × (Nat → Int32) × (Nat → Int32) × (Nat → Int32) × (Nat → Int32)) (fun r u => r = nI (giveB (wid k) c0) ∧ mR bt pl k0 (giveN (wid k) c0) u.1 u.2.1 ∧ one u.2.2.1 lf k0 (rmD rm)) (fun u => [(h0, .inr (3, mF q th tz)), (q 3, .inl (ca 1, 9600, .inl u.1)), (q 4, .inl (ca 0, 6, .inl kd)), (q 5, .inl (ca 0, 6, .inl u.2.1)), (q 9, .inl (ca 0, 6, .inl u.2.2.1)), (q 10, .inl (ca 1, 1600, .inl u.2.2.2.1)), (q 11, .inl (ca 1, 1600, .inl u.2.2.2.2))]) := by
  refine ctI_of (cc := cM_comeOut) (maxL := 4) (own := RM) Z rfl (by decide) rfl (Nat.le_of_ble_eq_true rfl) ?_
  intro p e s m args below meth c A ls Q S hnm ret C hl
  have hx := S.1
  have hb := S.2.1
  have hown := S.2.2.2.1
  have hts := S.2.2.2.2
  generalize s.heap = H at C ⊢
  generalize ([] : List Loc) = locs at C ⊢
  replace hl : lv_has ls 4 [(0, .ref (h0)), (1, .int (nI k0))] := hl
  refine lv_aload_n hx hb dM_comeOut_0 rfl (lv_at hl 0 rfl) ?_
  refine n_get S C hin_M 0 rfl rfl 7 (by decide) g_409 rfl dM_comeOut_1 ?_
  refine lv_iload_n hx hb dM_comeOut_4 rfl (lv_at hl 1 rfl) ?_
  refine n_iald S C 3 rfl (i := k0) (by omega) (by decide) dM_comeOut_5 ?_
  refine lv_topi (nm_r (e' := nI (c0.2)) hS.2 ?_)
  refine lv_aload_n hx hb dM_comeOut_6 rfl (lv_at hl 0 rfl) ?_
  refine n_get S C hin_M 0 rfl rfl 6 (by decide) g_408 rfl dM_comeOut_7 ?_
  refine lv_iload_n hx hb dM_comeOut_10 rfl (lv_at hl 1 rfl) ?_
  refine n_iald S C 2 rfl (i := k0) (by omega) (by decide) dM_comeOut_11 ?_
  refine lv_topi (nm_r (e' := nI k) hkd ?_)
  refine n_callP C (fun hp => va_runS (rest := [.int (nI (c0.2))]) S (c_M_widthOf l D ca s0 a0 Z k hk _) (cwS 1 hts (gS g_345 g_346 g_34 g_347) rfl rfl rfl (by decide +kernel) ⟨Nat.le_of_ble_eq_true rfl, Nat.le_of_ble_eq_true rfl⟩) hp rfl rfl hl.1 rfl (lv_room (Nat.le_of_ble_eq_true rfl)) dM_comeOut_12 ⟨Nat.le_of_ble_eq_true rfl, Nat.le_of_ble_eq_true rfl⟩) (fun r u H locs hp C => ?_)
  subst hp
  have hwi := wid_in k hk
  have J30 : ∀ (b1 : Nat → Int32) (p1 : Nat → Int32) (n1 : Nat → Int32) (x1 : Nat → Int32) (H : Heap) (locs : List Loc) (ls : Array Slot), mR bt pl k0 (giveC (wid k) c0) b1 p1 → Cx D ca s0 A s [(h0, .inr (3, mF q (th) (tz))), (q 3, .inl (ca 1, 9600, .inl (b1))), (q 4, .inl (ca 0, 6, .inl (kd))), (q 5, .inl (ca 0, 6, .inl (p1))), (q 9, .inl (ca 0, 6, .inl (lf))), (q 10, .inl (ca 1, 1600, .inl (n1))), (q 11, .inl (ca 1, 1600, .inl (x1)))] H locs → lv_has ls 4 [(0, .ref (h0)), (1, .int (nI k0))] → W p l e rm_M_comeOut s m args below meth c H locs 0 0 Q (F0 m 30 ls []) := by
    intro b1 p1 n1 x1 H locs ls hG C hl
    refine lv_iconst (v := nI 0) hx hb dM_comeOut_30 (by decide) ?_
    have hgl : (giveC (wid k) c0).2 < wid k := giveC_lt hp0 (by omega)
    refine lv_istore_n hx hb dM_comeOut_31 rfl hl (Nat.le_of_ble_eq_true rfl) rfl (fun ls hl => ?_)
    replace hl : lv_has ls 4 [(2, .int (nI 0)), (0, .ref (h0)), (1, .int (nI k0))] := hl
    refine lv_bipush (v := nI 7) hx hb dM_comeOut_32 (by decide) ?_
    refine lv_istore_n hx hb dM_comeOut_34 rfl hl (Nat.le_of_ble_eq_true rfl) rfl (fun ls hl => ?_)
    replace hl : lv_has ls 4 [(3, .int (nI 7)), (2, .int (nI 0)), (0, .ref (h0)), (1, .int (nI k0))] := hl
    refine lv_iload_n hx hb dM_comeOut_35 rfl (lv_at hl 0 rfl) ?_
    refine n_if_lt (tgt := 80) S (by omega) dM_comeOut_36 (by decide) (fun hc => False.elim hc) (fun hc => ?_)
    refine lv_iconst (v := nI 2) hx hb dM_comeOut_39 (by decide) ?_
    refine lv_iload_n hx hb dM_comeOut_40 rfl (lv_at hl 1 rfl) ?_
    refine n_mul S dM_comeOut_41 ?_
    refine lv_aload_n hx hb dM_comeOut_42 rfl (lv_at hl 2 rfl) ?_
    refine n_get S C hin_M 0 rfl rfl 5 (by decide) g_407 rfl dM_comeOut_43 ?_
    refine lv_sipush (v := nI 1600) hx hb dM_comeOut_46 (by decide) ?_
    refine lv_iload_n hx hb dM_comeOut_49 rfl (lv_at hl 3 rfl) ?_
    refine n_mul S dM_comeOut_50 ?_
    refine lv_bipush (v := nI 8) hx hb dM_comeOut_51 (by decide) ?_
    refine lv_aload_n hx hb dM_comeOut_53 rfl (lv_at hl 2 rfl) ?_
    refine n_get S C hin_M 0 rfl rfl 7 (by decide) g_409 rfl dM_comeOut_54 ?_
    refine lv_iload_n hx hb dM_comeOut_57 rfl (lv_at hl 3 rfl) ?_
    refine n_iald S C 3 rfl (i := k0) (by omega) (by decide) dM_comeOut_58 ?_
    refine lv_topi (nm_r (e' := nI ((giveC (wid k) c0).2)) hG.1.2 ?_)
    refine n_mul S dM_comeOut_59 ?_
    refine n_add S dM_comeOut_60 ?_
    refine lv_iload_n hx hb dM_comeOut_61 rfl (lv_at hl 0 rfl) ?_
    refine n_add S dM_comeOut_62 ?_
    refine n_zald S C 1 rfl (i := ((1600 * k0) + (8 * ((giveC (wid k) c0).2))) + 7) (by omega) (by decide) dM_comeOut_63 ?_
    refine lv_topi (nm_r (e' := b2i ((giveC (wid k) c0).1 (8 * (giveC (wid k) c0).2 + 7))) (by rw [Nat.add_assoc]; exact hG.1.1 _ (by omega)) ?_)
    refine n_bz_eq S ((giveC (wid k) c0).1 (8 * (giveC (wid k) c0).2 + 7)) b2i_n0.symm dM_comeOut_64 dM_comeOut_67 dM_comeOut_68 dM_comeOut_71 (by decide) (by decide) ?_
    refine lv_topi (nm_r (e' := nI (if (giveC (wid k) c0).1 (8 * (giveC (wid k) c0).2 + 7) = true then 1 else 0)) (b2i_if _) ?_)
    refine n_add S dM_comeOut_72 ?_
    refine lv_topi (nm_r (e' := nI (byN (giveC (wid k) c0).1 (giveC (wid k) c0).2 1)) rfl ?_)
    refine lv_istore_n hx hb dM_comeOut_73 rfl hl (Nat.le_of_ble_eq_true rfl) rfl (fun ls hl => ?_)
    replace hl : lv_has ls 4 [(2, .int (nI (byN (giveC (wid k) c0).1 (giveC (wid k) c0).2 1))), (3, .int (nI 7)), (0, .ref (h0)), (1, .int (nI k0))] := hl
    refine lv_iinc (k := 1) (v := nI 6) hx hb dM_comeOut_74 hl rfl (n_dec1 (by omega)) (Nat.le_of_ble_eq_true rfl) rfl (fun ls hl => ?_)
    replace hl : lv_has ls 4 [(3, .int (nI 6)), (2, .int (nI (byN (giveC (wid k) c0).1 (giveC (wid k) c0).2 1))), (0, .ref (h0)), (1, .int (nI k0))] := hl
    refine lv_goto (tgt := 35) hx hb dM_comeOut_77 (by decide) ?_
    refine lv_iload_n hx hb dM_comeOut_35 rfl (lv_at hl 0 rfl) ?_
    refine n_if_lt (tgt := 80) S (by omega) dM_comeOut_36 (by decide) (fun hc => False.elim hc) (fun hc => ?_)
    refine lv_iconst (v := nI 2) hx hb dM_comeOut_39 (by decide) ?_
    refine lv_iload_n hx hb dM_comeOut_40 rfl (lv_at hl 1 rfl) ?_
    refine n_mul S dM_comeOut_41 ?_
    refine lv_aload_n hx hb dM_comeOut_42 rfl (lv_at hl 2 rfl) ?_
    refine n_get S C hin_M 0 rfl rfl 5 (by decide) g_407 rfl dM_comeOut_43 ?_
    refine lv_sipush (v := nI 1600) hx hb dM_comeOut_46 (by decide) ?_
    refine lv_iload_n hx hb dM_comeOut_49 rfl (lv_at hl 3 rfl) ?_
    refine n_mul S dM_comeOut_50 ?_
    refine lv_bipush (v := nI 8) hx hb dM_comeOut_51 (by decide) ?_
    refine lv_aload_n hx hb dM_comeOut_53 rfl (lv_at hl 2 rfl) ?_
    refine n_get S C hin_M 0 rfl rfl 7 (by decide) g_409 rfl dM_comeOut_54 ?_
    refine lv_iload_n hx hb dM_comeOut_57 rfl (lv_at hl 3 rfl) ?_
    refine n_iald S C 3 rfl (i := k0) (by omega) (by decide) dM_comeOut_58 ?_
    refine lv_topi (nm_r (e' := nI ((giveC (wid k) c0).2)) hG.1.2 ?_)
    refine n_mul S dM_comeOut_59 ?_
    refine n_add S dM_comeOut_60 ?_
    refine lv_iload_n hx hb dM_comeOut_61 rfl (lv_at hl 0 rfl) ?_
    refine n_add S dM_comeOut_62 ?_
    refine n_zald S C 1 rfl (i := ((1600 * k0) + (8 * ((giveC (wid k) c0).2))) + 6) (by omega) (by decide) dM_comeOut_63 ?_
    refine lv_topi (nm_r (e' := b2i ((giveC (wid k) c0).1 (8 * (giveC (wid k) c0).2 + 6))) (by rw [Nat.add_assoc]; exact hG.1.1 _ (by omega)) ?_)
    refine n_bz_eq S ((giveC (wid k) c0).1 (8 * (giveC (wid k) c0).2 + 6)) b2i_n0.symm dM_comeOut_64 dM_comeOut_67 dM_comeOut_68 dM_comeOut_71 (by decide) (by decide) ?_
    refine lv_topi (nm_r (e' := nI (if (giveC (wid k) c0).1 (8 * (giveC (wid k) c0).2 + 6) = true then 1 else 0)) (b2i_if _) ?_)
    refine n_add S dM_comeOut_72 ?_
    refine lv_topi (nm_r (e' := nI (byN (giveC (wid k) c0).1 (giveC (wid k) c0).2 2)) rfl ?_)
    refine lv_istore_n hx hb dM_comeOut_73 rfl hl (Nat.le_of_ble_eq_true rfl) rfl (fun ls hl => ?_)
    replace hl : lv_has ls 4 [(2, .int (nI (byN (giveC (wid k) c0).1 (giveC (wid k) c0).2 2))), (3, .int (nI 6)), (0, .ref (h0)), (1, .int (nI k0))] := hl
    refine lv_iinc (k := 1) (v := nI 5) hx hb dM_comeOut_74 hl rfl (n_dec1 (by omega)) (Nat.le_of_ble_eq_true rfl) rfl (fun ls hl => ?_)
    replace hl : lv_has ls 4 [(3, .int (nI 5)), (2, .int (nI (byN (giveC (wid k) c0).1 (giveC (wid k) c0).2 2))), (0, .ref (h0)), (1, .int (nI k0))] := hl
    refine lv_goto (tgt := 35) hx hb dM_comeOut_77 (by decide) ?_
    refine lv_iload_n hx hb dM_comeOut_35 rfl (lv_at hl 0 rfl) ?_
    refine n_if_lt (tgt := 80) S (by omega) dM_comeOut_36 (by decide) (fun hc => False.elim hc) (fun hc => ?_)
    refine lv_iconst (v := nI 2) hx hb dM_comeOut_39 (by decide) ?_
    refine lv_iload_n hx hb dM_comeOut_40 rfl (lv_at hl 1 rfl) ?_
    refine n_mul S dM_comeOut_41 ?_
    refine lv_aload_n hx hb dM_comeOut_42 rfl (lv_at hl 2 rfl) ?_
    refine n_get S C hin_M 0 rfl rfl 5 (by decide) g_407 rfl dM_comeOut_43 ?_
    refine lv_sipush (v := nI 1600) hx hb dM_comeOut_46 (by decide) ?_
    refine lv_iload_n hx hb dM_comeOut_49 rfl (lv_at hl 3 rfl) ?_
    refine n_mul S dM_comeOut_50 ?_
    refine lv_bipush (v := nI 8) hx hb dM_comeOut_51 (by decide) ?_
    refine lv_aload_n hx hb dM_comeOut_53 rfl (lv_at hl 2 rfl) ?_
    refine n_get S C hin_M 0 rfl rfl 7 (by decide) g_409 rfl dM_comeOut_54 ?_
    refine lv_iload_n hx hb dM_comeOut_57 rfl (lv_at hl 3 rfl) ?_
    refine n_iald S C 3 rfl (i := k0) (by omega) (by decide) dM_comeOut_58 ?_
    refine lv_topi (nm_r (e' := nI ((giveC (wid k) c0).2)) hG.1.2 ?_)
    refine n_mul S dM_comeOut_59 ?_
    refine n_add S dM_comeOut_60 ?_
    refine lv_iload_n hx hb dM_comeOut_61 rfl (lv_at hl 0 rfl) ?_
    refine n_add S dM_comeOut_62 ?_
    refine n_zald S C 1 rfl (i := ((1600 * k0) + (8 * ((giveC (wid k) c0).2))) + 5) (by omega) (by decide) dM_comeOut_63 ?_
    refine lv_topi (nm_r (e' := b2i ((giveC (wid k) c0).1 (8 * (giveC (wid k) c0).2 + 5))) (by rw [Nat.add_assoc]; exact hG.1.1 _ (by omega)) ?_)
    refine n_bz_eq S ((giveC (wid k) c0).1 (8 * (giveC (wid k) c0).2 + 5)) b2i_n0.symm dM_comeOut_64 dM_comeOut_67 dM_comeOut_68 dM_comeOut_71 (by decide) (by decide) ?_
    refine lv_topi (nm_r (e' := nI (if (giveC (wid k) c0).1 (8 * (giveC (wid k) c0).2 + 5) = true then 1 else 0)) (b2i_if _) ?_)
    refine n_add S dM_comeOut_72 ?_
    refine lv_topi (nm_r (e' := nI (byN (giveC (wid k) c0).1 (giveC (wid k) c0).2 3)) rfl ?_)
    refine lv_istore_n hx hb dM_comeOut_73 rfl hl (Nat.le_of_ble_eq_true rfl) rfl (fun ls hl => ?_)
    replace hl : lv_has ls 4 [(2, .int (nI (byN (giveC (wid k) c0).1 (giveC (wid k) c0).2 3))), (3, .int (nI 5)), (0, .ref (h0)), (1, .int (nI k0))] := hl
    refine lv_iinc (k := 1) (v := nI 4) hx hb dM_comeOut_74 hl rfl (n_dec1 (by omega)) (Nat.le_of_ble_eq_true rfl) rfl (fun ls hl => ?_)
    replace hl : lv_has ls 4 [(3, .int (nI 4)), (2, .int (nI (byN (giveC (wid k) c0).1 (giveC (wid k) c0).2 3))), (0, .ref (h0)), (1, .int (nI k0))] := hl
    refine lv_goto (tgt := 35) hx hb dM_comeOut_77 (by decide) ?_
    refine lv_iload_n hx hb dM_comeOut_35 rfl (lv_at hl 0 rfl) ?_
    refine n_if_lt (tgt := 80) S (by omega) dM_comeOut_36 (by decide) (fun hc => False.elim hc) (fun hc => ?_)
    refine lv_iconst (v := nI 2) hx hb dM_comeOut_39 (by decide) ?_
    refine lv_iload_n hx hb dM_comeOut_40 rfl (lv_at hl 1 rfl) ?_
    refine n_mul S dM_comeOut_41 ?_
    refine lv_aload_n hx hb dM_comeOut_42 rfl (lv_at hl 2 rfl) ?_
    refine n_get S C hin_M 0 rfl rfl 5 (by decide) g_407 rfl dM_comeOut_43 ?_
    refine lv_sipush (v := nI 1600) hx hb dM_comeOut_46 (by decide) ?_
    refine lv_iload_n hx hb dM_comeOut_49 rfl (lv_at hl 3 rfl) ?_
    refine n_mul S dM_comeOut_50 ?_
    refine lv_bipush (v := nI 8) hx hb dM_comeOut_51 (by decide) ?_
    refine lv_aload_n hx hb dM_comeOut_53 rfl (lv_at hl 2 rfl) ?_
    refine n_get S C hin_M 0 rfl rfl 7 (by decide) g_409 rfl dM_comeOut_54 ?_
    refine lv_iload_n hx hb dM_comeOut_57 rfl (lv_at hl 3 rfl) ?_
    refine n_iald S C 3 rfl (i := k0) (by omega) (by decide) dM_comeOut_58 ?_
    refine lv_topi (nm_r (e' := nI ((giveC (wid k) c0).2)) hG.1.2 ?_)
    refine n_mul S dM_comeOut_59 ?_
    refine n_add S dM_comeOut_60 ?_
    refine lv_iload_n hx hb dM_comeOut_61 rfl (lv_at hl 0 rfl) ?_
    refine n_add S dM_comeOut_62 ?_
    refine n_zald S C 1 rfl (i := ((1600 * k0) + (8 * ((giveC (wid k) c0).2))) + 4) (by omega) (by decide) dM_comeOut_63 ?_
    refine lv_topi (nm_r (e' := b2i ((giveC (wid k) c0).1 (8 * (giveC (wid k) c0).2 + 4))) (by rw [Nat.add_assoc]; exact hG.1.1 _ (by omega)) ?_)
    refine n_bz_eq S ((giveC (wid k) c0).1 (8 * (giveC (wid k) c0).2 + 4)) b2i_n0.symm dM_comeOut_64 dM_comeOut_67 dM_comeOut_68 dM_comeOut_71 (by decide) (by decide) ?_
    refine lv_topi (nm_r (e' := nI (if (giveC (wid k) c0).1 (8 * (giveC (wid k) c0).2 + 4) = true then 1 else 0)) (b2i_if _) ?_)
    refine n_add S dM_comeOut_72 ?_
    refine lv_topi (nm_r (e' := nI (byN (giveC (wid k) c0).1 (giveC (wid k) c0).2 4)) rfl ?_)
    refine lv_istore_n hx hb dM_comeOut_73 rfl hl (Nat.le_of_ble_eq_true rfl) rfl (fun ls hl => ?_)
    replace hl : lv_has ls 4 [(2, .int (nI (byN (giveC (wid k) c0).1 (giveC (wid k) c0).2 4))), (3, .int (nI 4)), (0, .ref (h0)), (1, .int (nI k0))] := hl
    refine lv_iinc (k := 1) (v := nI 3) hx hb dM_comeOut_74 hl rfl (n_dec1 (by omega)) (Nat.le_of_ble_eq_true rfl) rfl (fun ls hl => ?_)
    replace hl : lv_has ls 4 [(3, .int (nI 3)), (2, .int (nI (byN (giveC (wid k) c0).1 (giveC (wid k) c0).2 4))), (0, .ref (h0)), (1, .int (nI k0))] := hl
    refine lv_goto (tgt := 35) hx hb dM_comeOut_77 (by decide) ?_
    refine lv_iload_n hx hb dM_comeOut_35 rfl (lv_at hl 0 rfl) ?_
    refine n_if_lt (tgt := 80) S (by omega) dM_comeOut_36 (by decide) (fun hc => False.elim hc) (fun hc => ?_)
    refine lv_iconst (v := nI 2) hx hb dM_comeOut_39 (by decide) ?_
    refine lv_iload_n hx hb dM_comeOut_40 rfl (lv_at hl 1 rfl) ?_
    refine n_mul S dM_comeOut_41 ?_
    refine lv_aload_n hx hb dM_comeOut_42 rfl (lv_at hl 2 rfl) ?_
    refine n_get S C hin_M 0 rfl rfl 5 (by decide) g_407 rfl dM_comeOut_43 ?_
    refine lv_sipush (v := nI 1600) hx hb dM_comeOut_46 (by decide) ?_
    refine lv_iload_n hx hb dM_comeOut_49 rfl (lv_at hl 3 rfl) ?_
    refine n_mul S dM_comeOut_50 ?_
    refine lv_bipush (v := nI 8) hx hb dM_comeOut_51 (by decide) ?_
    refine lv_aload_n hx hb dM_comeOut_53 rfl (lv_at hl 2 rfl) ?_
    refine n_get S C hin_M 0 rfl rfl 7 (by decide) g_409 rfl dM_comeOut_54 ?_
    refine lv_iload_n hx hb dM_comeOut_57 rfl (lv_at hl 3 rfl) ?_
    refine n_iald S C 3 rfl (i := k0) (by omega) (by decide) dM_comeOut_58 ?_
    refine lv_topi (nm_r (e' := nI ((giveC (wid k) c0).2)) hG.1.2 ?_)
    refine n_mul S dM_comeOut_59 ?_
    refine n_add S dM_comeOut_60 ?_
    refine lv_iload_n hx hb dM_comeOut_61 rfl (lv_at hl 0 rfl) ?_
    refine n_add S dM_comeOut_62 ?_
    refine n_zald S C 1 rfl (i := ((1600 * k0) + (8 * ((giveC (wid k) c0).2))) + 3) (by omega) (by decide) dM_comeOut_63 ?_
    refine lv_topi (nm_r (e' := b2i ((giveC (wid k) c0).1 (8 * (giveC (wid k) c0).2 + 3))) (by rw [Nat.add_assoc]; exact hG.1.1 _ (by omega)) ?_)
    refine n_bz_eq S ((giveC (wid k) c0).1 (8 * (giveC (wid k) c0).2 + 3)) b2i_n0.symm dM_comeOut_64 dM_comeOut_67 dM_comeOut_68 dM_comeOut_71 (by decide) (by decide) ?_
    refine lv_topi (nm_r (e' := nI (if (giveC (wid k) c0).1 (8 * (giveC (wid k) c0).2 + 3) = true then 1 else 0)) (b2i_if _) ?_)
    refine n_add S dM_comeOut_72 ?_
    refine lv_topi (nm_r (e' := nI (byN (giveC (wid k) c0).1 (giveC (wid k) c0).2 5)) rfl ?_)
    refine lv_istore_n hx hb dM_comeOut_73 rfl hl (Nat.le_of_ble_eq_true rfl) rfl (fun ls hl => ?_)
    replace hl : lv_has ls 4 [(2, .int (nI (byN (giveC (wid k) c0).1 (giveC (wid k) c0).2 5))), (3, .int (nI 3)), (0, .ref (h0)), (1, .int (nI k0))] := hl
    refine lv_iinc (k := 1) (v := nI 2) hx hb dM_comeOut_74 hl rfl (n_dec1 (by omega)) (Nat.le_of_ble_eq_true rfl) rfl (fun ls hl => ?_)
    replace hl : lv_has ls 4 [(3, .int (nI 2)), (2, .int (nI (byN (giveC (wid k) c0).1 (giveC (wid k) c0).2 5))), (0, .ref (h0)), (1, .int (nI k0))] := hl
    refine lv_goto (tgt := 35) hx hb dM_comeOut_77 (by decide) ?_
    refine lv_iload_n hx hb dM_comeOut_35 rfl (lv_at hl 0 rfl) ?_
    refine n_if_lt (tgt := 80) S (by omega) dM_comeOut_36 (by decide) (fun hc => False.elim hc) (fun hc => ?_)
    refine lv_iconst (v := nI 2) hx hb dM_comeOut_39 (by decide) ?_
    refine lv_iload_n hx hb dM_comeOut_40 rfl (lv_at hl 1 rfl) ?_
    refine n_mul S dM_comeOut_41 ?_
    refine lv_aload_n hx hb dM_comeOut_42 rfl (lv_at hl 2 rfl) ?_
    refine n_get S C hin_M 0 rfl rfl 5 (by decide) g_407 rfl dM_comeOut_43 ?_
    refine lv_sipush (v := nI 1600) hx hb dM_comeOut_46 (by decide) ?_
    refine lv_iload_n hx hb dM_comeOut_49 rfl (lv_at hl 3 rfl) ?_
    refine n_mul S dM_comeOut_50 ?_
    refine lv_bipush (v := nI 8) hx hb dM_comeOut_51 (by decide) ?_
    refine lv_aload_n hx hb dM_comeOut_53 rfl (lv_at hl 2 rfl) ?_
    refine n_get S C hin_M 0 rfl rfl 7 (by decide) g_409 rfl dM_comeOut_54 ?_
    refine lv_iload_n hx hb dM_comeOut_57 rfl (lv_at hl 3 rfl) ?_
    refine n_iald S C 3 rfl (i := k0) (by omega) (by decide) dM_comeOut_58 ?_
    refine lv_topi (nm_r (e' := nI ((giveC (wid k) c0).2)) hG.1.2 ?_)
    refine n_mul S dM_comeOut_59 ?_
    refine n_add S dM_comeOut_60 ?_
    refine lv_iload_n hx hb dM_comeOut_61 rfl (lv_at hl 0 rfl) ?_
    refine n_add S dM_comeOut_62 ?_
    refine n_zald S C 1 rfl (i := ((1600 * k0) + (8 * ((giveC (wid k) c0).2))) + 2) (by omega) (by decide) dM_comeOut_63 ?_
    refine lv_topi (nm_r (e' := b2i ((giveC (wid k) c0).1 (8 * (giveC (wid k) c0).2 + 2))) (by rw [Nat.add_assoc]; exact hG.1.1 _ (by omega)) ?_)
    refine n_bz_eq S ((giveC (wid k) c0).1 (8 * (giveC (wid k) c0).2 + 2)) b2i_n0.symm dM_comeOut_64 dM_comeOut_67 dM_comeOut_68 dM_comeOut_71 (by decide) (by decide) ?_
    refine lv_topi (nm_r (e' := nI (if (giveC (wid k) c0).1 (8 * (giveC (wid k) c0).2 + 2) = true then 1 else 0)) (b2i_if _) ?_)
    refine n_add S dM_comeOut_72 ?_
    refine lv_topi (nm_r (e' := nI (byN (giveC (wid k) c0).1 (giveC (wid k) c0).2 6)) rfl ?_)
    refine lv_istore_n hx hb dM_comeOut_73 rfl hl (Nat.le_of_ble_eq_true rfl) rfl (fun ls hl => ?_)
    replace hl : lv_has ls 4 [(2, .int (nI (byN (giveC (wid k) c0).1 (giveC (wid k) c0).2 6))), (3, .int (nI 2)), (0, .ref (h0)), (1, .int (nI k0))] := hl
    refine lv_iinc (k := 1) (v := nI 1) hx hb dM_comeOut_74 hl rfl (n_dec1 (by omega)) (Nat.le_of_ble_eq_true rfl) rfl (fun ls hl => ?_)
    replace hl : lv_has ls 4 [(3, .int (nI 1)), (2, .int (nI (byN (giveC (wid k) c0).1 (giveC (wid k) c0).2 6))), (0, .ref (h0)), (1, .int (nI k0))] := hl
    refine lv_goto (tgt := 35) hx hb dM_comeOut_77 (by decide) ?_
    refine lv_iload_n hx hb dM_comeOut_35 rfl (lv_at hl 0 rfl) ?_
    refine n_if_lt (tgt := 80) S (by omega) dM_comeOut_36 (by decide) (fun hc => False.elim hc) (fun hc => ?_)
    refine lv_iconst (v := nI 2) hx hb dM_comeOut_39 (by decide) ?_
    refine lv_iload_n hx hb dM_comeOut_40 rfl (lv_at hl 1 rfl) ?_
    refine n_mul S dM_comeOut_41 ?_
    refine lv_aload_n hx hb dM_comeOut_42 rfl (lv_at hl 2 rfl) ?_
    refine n_get S C hin_M 0 rfl rfl 5 (by decide) g_407 rfl dM_comeOut_43 ?_
    refine lv_sipush (v := nI 1600) hx hb dM_comeOut_46 (by decide) ?_
    refine lv_iload_n hx hb dM_comeOut_49 rfl (lv_at hl 3 rfl) ?_
    refine n_mul S dM_comeOut_50 ?_
    refine lv_bipush (v := nI 8) hx hb dM_comeOut_51 (by decide) ?_
    refine lv_aload_n hx hb dM_comeOut_53 rfl (lv_at hl 2 rfl) ?_
    refine n_get S C hin_M 0 rfl rfl 7 (by decide) g_409 rfl dM_comeOut_54 ?_
    refine lv_iload_n hx hb dM_comeOut_57 rfl (lv_at hl 3 rfl) ?_
    refine n_iald S C 3 rfl (i := k0) (by omega) (by decide) dM_comeOut_58 ?_
    refine lv_topi (nm_r (e' := nI ((giveC (wid k) c0).2)) hG.1.2 ?_)
    refine n_mul S dM_comeOut_59 ?_
    refine n_add S dM_comeOut_60 ?_
    refine lv_iload_n hx hb dM_comeOut_61 rfl (lv_at hl 0 rfl) ?_
    refine n_add S dM_comeOut_62 ?_
    refine n_zald S C 1 rfl (i := ((1600 * k0) + (8 * ((giveC (wid k) c0).2))) + 1) (by omega) (by decide) dM_comeOut_63 ?_
    refine lv_topi (nm_r (e' := b2i ((giveC (wid k) c0).1 (8 * (giveC (wid k) c0).2 + 1))) (by rw [Nat.add_assoc]; exact hG.1.1 _ (by omega)) ?_)
    refine n_bz_eq S ((giveC (wid k) c0).1 (8 * (giveC (wid k) c0).2 + 1)) b2i_n0.symm dM_comeOut_64 dM_comeOut_67 dM_comeOut_68 dM_comeOut_71 (by decide) (by decide) ?_
    refine lv_topi (nm_r (e' := nI (if (giveC (wid k) c0).1 (8 * (giveC (wid k) c0).2 + 1) = true then 1 else 0)) (b2i_if _) ?_)
    refine n_add S dM_comeOut_72 ?_
    refine lv_topi (nm_r (e' := nI (byN (giveC (wid k) c0).1 (giveC (wid k) c0).2 7)) rfl ?_)
    refine lv_istore_n hx hb dM_comeOut_73 rfl hl (Nat.le_of_ble_eq_true rfl) rfl (fun ls hl => ?_)
    replace hl : lv_has ls 4 [(2, .int (nI (byN (giveC (wid k) c0).1 (giveC (wid k) c0).2 7))), (3, .int (nI 1)), (0, .ref (h0)), (1, .int (nI k0))] := hl
    refine lv_iinc (k := 1) (v := nI 0) hx hb dM_comeOut_74 hl rfl (n_dec1 (by omega)) (Nat.le_of_ble_eq_true rfl) rfl (fun ls hl => ?_)
    replace hl : lv_has ls 4 [(3, .int (nI 0)), (2, .int (nI (byN (giveC (wid k) c0).1 (giveC (wid k) c0).2 7))), (0, .ref (h0)), (1, .int (nI k0))] := hl
    refine lv_goto (tgt := 35) hx hb dM_comeOut_77 (by decide) ?_
    refine lv_iload_n hx hb dM_comeOut_35 rfl (lv_at hl 0 rfl) ?_
    refine n_if_lt (tgt := 80) S (by omega) dM_comeOut_36 (by decide) (fun hc => False.elim hc) (fun hc => ?_)
    refine lv_iconst (v := nI 2) hx hb dM_comeOut_39 (by decide) ?_
    refine lv_iload_n hx hb dM_comeOut_40 rfl (lv_at hl 1 rfl) ?_
    refine n_mul S dM_comeOut_41 ?_
    refine lv_aload_n hx hb dM_comeOut_42 rfl (lv_at hl 2 rfl) ?_
    refine n_get S C hin_M 0 rfl rfl 5 (by decide) g_407 rfl dM_comeOut_43 ?_
    refine lv_sipush (v := nI 1600) hx hb dM_comeOut_46 (by decide) ?_
    refine lv_iload_n hx hb dM_comeOut_49 rfl (lv_at hl 3 rfl) ?_
    refine n_mul S dM_comeOut_50 ?_
    refine lv_bipush (v := nI 8) hx hb dM_comeOut_51 (by decide) ?_
    refine lv_aload_n hx hb dM_comeOut_53 rfl (lv_at hl 2 rfl) ?_
    refine n_get S C hin_M 0 rfl rfl 7 (by decide) g_409 rfl dM_comeOut_54 ?_
    refine lv_iload_n hx hb dM_comeOut_57 rfl (lv_at hl 3 rfl) ?_
    refine n_iald S C 3 rfl (i := k0) (by omega) (by decide) dM_comeOut_58 ?_
    refine lv_topi (nm_r (e' := nI ((giveC (wid k) c0).2)) hG.1.2 ?_)
    refine n_mul S dM_comeOut_59 ?_
    refine n_add S dM_comeOut_60 ?_
    refine lv_iload_n hx hb dM_comeOut_61 rfl (lv_at hl 0 rfl) ?_
    refine n_add S dM_comeOut_62 ?_
    refine n_zald S C 1 rfl (i := ((1600 * k0) + (8 * ((giveC (wid k) c0).2))) + 0) (by omega) (by decide) dM_comeOut_63 ?_
    refine lv_topi (nm_r (e' := b2i ((giveC (wid k) c0).1 (8 * (giveC (wid k) c0).2 + 0))) (by rw [Nat.add_assoc]; exact hG.1.1 _ (by omega)) ?_)
    refine n_bz_eq S ((giveC (wid k) c0).1 (8 * (giveC (wid k) c0).2 + 0)) b2i_n0.symm dM_comeOut_64 dM_comeOut_67 dM_comeOut_68 dM_comeOut_71 (by decide) (by decide) ?_
    refine lv_topi (nm_r (e' := nI (if (giveC (wid k) c0).1 (8 * (giveC (wid k) c0).2 + 0) = true then 1 else 0)) (b2i_if _) ?_)
    refine n_add S dM_comeOut_72 ?_
    refine lv_topi (nm_r (e' := nI (byN (giveC (wid k) c0).1 (giveC (wid k) c0).2 8)) rfl ?_)
    refine lv_istore_n hx hb dM_comeOut_73 rfl hl (Nat.le_of_ble_eq_true rfl) rfl (fun ls hl => ?_)
    replace hl : lv_has ls 4 [(2, .int (nI (byN (giveC (wid k) c0).1 (giveC (wid k) c0).2 8))), (3, .int (nI 0)), (0, .ref (h0)), (1, .int (nI k0))] := hl
    refine lv_iinc (k := 1) (v := (-1)) hx hb dM_comeOut_74 hl rfl (by decide) (Nat.le_of_ble_eq_true rfl) rfl (fun ls hl => ?_)
    replace hl : lv_has ls 4 [(3, .int ((-1))), (2, .int (nI (byN (giveC (wid k) c0).1 (giveC (wid k) c0).2 8))), (0, .ref (h0)), (1, .int (nI k0))] := hl
    refine lv_goto (tgt := 35) hx hb dM_comeOut_77 (by decide) ?_
    refine lv_iload_n hx hb dM_comeOut_35 rfl (lv_at hl 0 rfl) ?_
    refine lv_if_lt (tgt := 80) hx hb dM_comeOut_36 (by decide) (fun hc => ?_) (fun hc => absurd (by decide) hc)
    refine lv_aload_n hx hb dM_comeOut_80 rfl (lv_at hl 2 rfl) ?_
    refine n_get S C hin_M 0 rfl rfl 7 (by decide) g_409 rfl dM_comeOut_81 ?_
    refine lv_iload_n hx hb dM_comeOut_84 rfl (lv_at hl 3 rfl) ?_
    refine lv_dup2_11 hx hb dM_comeOut_85 rfl rfl ?_
    refine n_iald S C 3 rfl (i := k0) (by omega) (by decide) dM_comeOut_86 ?_
    refine lv_topi (nm_r (e' := nI ((giveC (wid k) c0).2)) hG.1.2 ?_)
    refine lv_iconst (v := nI 1) hx hb dM_comeOut_87 (by decide) ?_
    refine n_add S dM_comeOut_88 ?_
    refine n_iast S C 3 rfl (i := k0) (by omega) (by decide) dM_comeOut_89 (fun H locs C => ?_)
    replace C : Cx D ca s0 A s [(h0, .inr (3, mF q (th) (tz))), (q 3, .inl (ca 1, 9600, .inl (b1))), (q 4, .inl (ca 0, 6, .inl (kd))), (q 5, .inl (ca 0, 6, .inl (upd p1 k0 (nI (((giveC (wid k) c0).2) + 1))))), (q 9, .inl (ca 0, 6, .inl (lf))), (q 10, .inl (ca 1, 1600, .inl (n1))), (q 11, .inl (ca 1, 1600, .inl (x1)))] H locs := C
    refine lv_aload_n hx hb dM_comeOut_90 rfl (lv_at hl 2 rfl) ?_
    refine n_get S C hin_M 0 rfl rfl 11 (by decide) g_413 rfl dM_comeOut_91 ?_
    refine lv_iload_n hx hb dM_comeOut_94 rfl (lv_at hl 3 rfl) ?_
    refine lv_aload_n hx hb dM_comeOut_95 rfl (lv_at hl 2 rfl) ?_
    refine n_get S C hin_M 0 rfl rfl 11 (by decide) g_413 rfl dM_comeOut_96 ?_
    refine lv_iload_n hx hb dM_comeOut_99 rfl (lv_at hl 3 rfl) ?_
    refine n_iald S C 4 rfl (i := k0) (by omega) (by decide) dM_comeOut_100 ?_
    refine lv_topi (nm_r (e' := rm) hlf ?_)
    refine lv_if_ge (tgt := 108) hx hb dM_comeOut_101 (by decide) (fun hc101 => ?_) (fun hc101 => ?_)
    · skip
      refine lv_aload_n hx hb dM_comeOut_108 rfl (lv_at hl 2 rfl) ?_
      refine n_get S C hin_M 0 rfl rfl 11 (by decide) g_413 rfl dM_comeOut_109 ?_
      refine lv_iload_n hx hb dM_comeOut_112 rfl (lv_at hl 3 rfl) ?_
      refine n_iald S C 4 rfl (i := k0) (by omega) (by decide) dM_comeOut_113 ?_
      refine lv_topi (nm_r (e' := rm) hlf ?_)
      refine lv_iconst (v := nI 1) hx hb dM_comeOut_114 (by decide) ?_
      refine lv_isub hx hb dM_comeOut_115 ?_
      refine n_iast S C 4 rfl (i := k0) (by omega) (by decide) dM_comeOut_116 (fun H locs C => ?_)
      replace C : Cx D ca s0 A s [(h0, .inr (3, mF q (th) (tz))), (q 3, .inl (ca 1, 9600, .inl (b1))), (q 4, .inl (ca 0, 6, .inl (kd))), (q 5, .inl (ca 0, 6, .inl (upd p1 k0 (nI (((giveC (wid k) c0).2) + 1))))), (q 9, .inl (ca 0, 6, .inl (upd lf k0 (rm - (nI 1))))), (q 10, .inl (ca 1, 1600, .inl (n1))), (q 11, .inl (ca 1, 1600, .inl (x1)))] H locs := C
      refine lv_iload_n hx hb dM_comeOut_117 rfl (lv_at hl 1 rfl) ?_
      exact ret (nI (byN (giveC (wid k) c0).1 (giveC (wid k) c0).2 8)) ((b1, upd p1 k0 (nI ((giveC (wid k) c0).2 + 1)), upd lf k0 (rm - (nI 1)), n1, x1)) _ _ _ _ _ _ (Nat.le_refl _) (Nat.le_refl _) (⟨rfl, hG.tr (mR_s ⟨hG.1.1, fun _ _ => rfl⟩), one.up' (show rm - nI 1 = rmD rm from (if_neg (Int32.not_lt.mpr hc101)).symm)⟩) C dM_comeOut_118
    · skip
      refine lv_iconst (v := (-1)) hx hb dM_comeOut_104 (by decide) ?_
      refine lv_goto (tgt := 116) hx hb dM_comeOut_105 (by decide) ?_
      refine n_iast S C 4 rfl (i := k0) (by omega) (by decide) dM_comeOut_116 (fun H locs C => ?_)
      replace C : Cx D ca s0 A s [(h0, .inr (3, mF q (th) (tz))), (q 3, .inl (ca 1, 9600, .inl (b1))), (q 4, .inl (ca 0, 6, .inl (kd))), (q 5, .inl (ca 0, 6, .inl (upd p1 k0 (nI (((giveC (wid k) c0).2) + 1))))), (q 9, .inl (ca 0, 6, .inl (upd lf k0 ((-1))))), (q 10, .inl (ca 1, 1600, .inl (n1))), (q 11, .inl (ca 1, 1600, .inl (x1)))] H locs := C
      refine lv_iload_n hx hb dM_comeOut_117 rfl (lv_at hl 1 rfl) ?_
      exact ret (nI (byN (giveC (wid k) c0).1 (giveC (wid k) c0).2 8)) ((b1, upd p1 k0 (nI ((giveC (wid k) c0).2 + 1)), upd lf k0 ((-1)), n1, x1)) _ _ _ _ _ _ (Nat.le_refl _) (Nat.le_refl _) (⟨rfl, hG.tr (mR_s ⟨hG.1.1, fun _ _ => rfl⟩), one.up' (show -1 = rmD rm from (if_pos (Int32.not_le.mp hc101)).symm)⟩) C dM_comeOut_118
  refine n_icmp_ne (tgt := 30) S (by omega) (by omega) dM_comeOut_15 (by decide) (fun hc15 => ?_) (fun hc15 => ?_)
  · skip
    exact J30 _ _ _ _ _ _ _ (by rw [show giveC (wid k) c0 = c0 from if_neg (by omega)]; exact mR.rf hS) C (lv_sub hl [0, 1] rfl)
  · skip
    refine lv_aload_n hx hb dM_comeOut_18 rfl (lv_at hl 0 rfl) ?_
    refine n_get S C hin_M 0 rfl rfl 7 (by decide) g_409 rfl dM_comeOut_19 ?_
    refine lv_iload_n hx hb dM_comeOut_22 rfl (lv_at hl 1 rfl) ?_
    refine lv_iconst (v := nI 0) hx hb dM_comeOut_23 (by decide) ?_
    refine n_iast S C 3 rfl (i := k0) (by omega) (by decide) dM_comeOut_24 (fun H locs C => ?_)
    replace C : Cx D ca s0 A s [(h0, .inr (3, mF q (th) (tz))), (q 3, .inl (ca 1, 9600, .inl (bt))), (q 4, .inl (ca 0, 6, .inl (kd))), (q 5, .inl (ca 0, 6, .inl (upd pl k0 (nI 0)))), (q 9, .inl (ca 0, 6, .inl (lf))), (q 10, .inl (ca 1, 1600, .inl (nw))), (q 11, .inl (ca 1, 1600, .inl (nx)))] H locs := C
    refine lv_aload_n hx hb dM_comeOut_25 rfl (lv_at hl 0 rfl) ?_
    refine lv_iload_n hx hb dM_comeOut_26 rfl (lv_at hl 1 rfl) ?_
    refine n_callV (wc := [(h0, .inr (3, mF q (th) (tz))), (q 3, .inl (ca 1, 9600, .inl (bt))), (q 10, .inl (ca 1, 1600, .inl (nw))), (q 11, .inl (ca 1, 1600, .inl (nx)))]) (wr := [(q 4, .inl (ca 0, 6, .inl (kd))), (q 5, .inl (ca 0, 6, .inl (upd pl k0 (nI 0)))), (q 9, .inl (ca 0, 6, .inl (lf)))]) C [0, 1, 5, 6] [2, 3, 4] rfl rfl rfl rfl (by decide) (fun hp => va_runV (rest := []) S (c_M_permute l D ca s0 a0 Z h0 q th tz k0 hk0 bt nw nx c0.1 hS.1 _) (cwV 1 hts (gV g_360 g_361 g_15 g_34 g_362) rfl rfl rfl (by decide +kernel) ⟨Nat.le_of_ble_eq_true rfl, Nat.le_of_ble_eq_true rfl⟩) ⟨hp.1, n_recv C 0 3 rfl rfl, hp.2⟩ rfl rfl hl.1 rfl (lv_room (Nat.le_of_ble_eq_true rfl)) dM_comeOut_27 ⟨Nat.le_of_ble_eq_true rfl, Nat.le_of_ble_eq_true rfl⟩) (fun u H locs hp C => ?_)
    replace C : Cx D ca s0 A s [(h0, .inr (3, mF q (th) (tz))), (q 3, .inl (ca 1, 9600, .inl (u.1))), (q 4, .inl (ca 0, 6, .inl (kd))), (q 5, .inl (ca 0, 6, .inl (upd pl k0 (nI 0)))), (q 9, .inl (ca 0, 6, .inl (lf))), (q 10, .inl (ca 1, 1600, .inl (u.2.1))), (q 11, .inl (ca 1, 1600, .inl (u.2.2)))] H locs := C.re [3, 4, 0, 1, 2, 5, 6] rfl rfl
    obtain ⟨u, ua, ub⟩ := u
    replace C : Cx D ca s0 A s [(h0, .inr (3, mF q (th) (tz))), (q 3, .inl (ca 1, 9600, .inl (u))), (q 4, .inl (ca 0, 6, .inl (kd))), (q 5, .inl (ca 0, 6, .inl (upd pl k0 (nI 0)))), (q 9, .inl (ca 0, 6, .inl (lf))), (q 10, .inl (ca 1, 1600, .inl (ua))), (q 11, .inl (ca 1, 1600, .inl (ub)))] H locs := C
    exact J30 _ _ _ _ _ _ _ (by rw [show giveC (wid k) c0 = (kecc c0.1, 0) from if_pos (by omega)]; exact mR_s hp) C (lv_sub hl [0, 1] rfl)
abbrev rm_M_squeeze_no1 : Room := { frames := 1, cells := 0, slots := 0, locals := 20 }
set_option maxHeartbeats 4000000 in
set_option maxRecDepth 100000 in
theorem c_M_squeeze_no1 (l : Launch) (D : va_G) (ca : Nat → ClassId) (s0 : State) (a0 : Array Value) (Z : Wd a0 s0) (h0 : Nat) (q : Nat → Nat) (th tz : Int32) (k : Int32) (hno : ¬ (¬ k < 0 ∧ k < 4)) (y : Int32) : CtL l yM_squeeze [.code yM_squeeze cM_squeeze 6 (some .long)] rm_M_squeeze_no1 0 0 D ca s0 [.ref (h0), .int (k), .int (y)] [(h0, .inr (3, mF q (th) (tz)))] (S := Unit) (fun _ _ => True) (fun _ => [(h0, .inr (3, mF q (nI 1) (tz)))]) := by
  refine ctL_of (cc := cM_squeeze) (maxL := 6) (own := RM) Z rfl (by decide) rfl (Nat.le_of_ble_eq_true rfl) ?_
  intro p e s m args below meth c A ls Q S hnm ret C hl
  have hx := S.1
  have hb := S.2.1
  have hown := S.2.2.2.1
  have hts := S.2.2.2.2
  generalize s.heap = H at C ⊢
  generalize ([] : List Loc) = locs at C ⊢
  replace hl : lv_has ls 6 [(0, .ref (h0)), (1, .int (k)), (2, .int (y))] := hl
  refine lv_aload_n hx hb dM_squeeze_0 rfl (lv_at hl 0 rfl) ?_
  refine lv_iload_n hx hb dM_squeeze_1 rfl (lv_at hl 1 rfl) ?_
  refine n_callP C (fun hp => va_runS (rest := [.ref (h0)]) S (c_M_isSponge l D ca s0 a0 Z (k) _) (cwS 1 hts (gS g_438 g_439 g_34 g_440) rfl rfl rfl (by decide +kernel) ⟨Nat.le_of_ble_eq_true rfl, Nat.le_of_ble_eq_true rfl⟩) hp rfl rfl hl.1 rfl (lv_room (Nat.le_of_ble_eq_true rfl)) dM_squeeze_2 ⟨Nat.le_of_ble_eq_true rfl, Nat.le_of_ble_eq_true rfl⟩) (fun r u H locs hp C => ?_)
  subst hp
  refine lv_topi (nm_r (e' := nI 0) (isSp_no hno) ?_)
  refine n_if_ne (tgt := 12) S (by omega) dM_squeeze_5 (by decide) (fun hc => False.elim (by omega)) (fun hc => ?_)
  refine lv_iconst (v := nI 1) hx hb dM_squeeze_8 (by decide) ?_
  refine lv_goto (tgt := 28) hx hb dM_squeeze_9 (by decide) ?_
  refine n_put S C hin_M tyM tyM_ok nmM 0 rfl rfl 0 (by decide) g_402 rfl rfl rfl rfl (Nat.le_of_ble_eq_true rfl) dM_squeeze_28 (fun H locs C => ?_)
  replace C : Cx D ca s0 A s [(h0, .inr (3, mF q (nI 1) (tz)))] H locs := C
  refine lv_aload_n hx hb dM_squeeze_31 rfl (lv_at hl 0 rfl) ?_
  refine n_get S C hin_M 0 rfl rfl 0 (by decide) g_402 rfl dM_squeeze_32 ?_
  refine n_if_le (tgt := 40) S (by omega) dM_squeeze_35 (by decide) (fun hc => False.elim (by omega)) (fun hc => ?_)
  refine lv_lconst (v := 0) hx hb dM_squeeze_38 (by decide) ?_
  exact ret 0 (()) _ _ _ _ _ _ (Nat.le_refl _) (Nat.le_refl _) trivial C dM_squeeze_39
abbrev rm_M_squeeze_no2 : Room := { frames := 1, cells := 0, slots := 0, locals := 20 }
set_option maxHeartbeats 4000000 in
set_option maxRecDepth 100000 in
theorem c_M_squeeze_no2 (l : Launch) (D : va_G) (ca : Nat → ClassId) (s0 : State) (a0 : Array Value) (Z : Wd a0 s0) (h0 : Nat) (q : Nat → Nat) (th tz : Int32) (k0 : Nat) (hk0 : k0 < 4) (y : Int32) (hr : y < nI 1 ∨ nI 8 < y) : CtL l yM_squeeze [.code yM_squeeze cM_squeeze 6 (some .long)] rm_M_squeeze_no2 0 0 D ca s0 [.ref (h0), .int (nI k0), .int (y)] [(h0, .inr (3, mF q (th) (tz)))] (S := Unit) (fun _ _ => True) (fun _ => [(h0, .inr (3, mF q (nI 2) (tz)))]) := by
  refine ctL_of (cc := cM_squeeze) (maxL := 6) (own := RM) Z rfl (by decide) rfl (Nat.le_of_ble_eq_true rfl) ?_
  intro p e s m args below meth c A ls Q S hnm ret C hl
  have hx := S.1
  have hb := S.2.1
  have hown := S.2.2.2.1
  have hts := S.2.2.2.2
  generalize s.heap = H at C ⊢
  generalize ([] : List Loc) = locs at C ⊢
  replace hl : lv_has ls 6 [(0, .ref (h0)), (1, .int (nI k0)), (2, .int (y))] := hl
  refine lv_aload_n hx hb dM_squeeze_0 rfl (lv_at hl 0 rfl) ?_
  refine lv_iload_n hx hb dM_squeeze_1 rfl (lv_at hl 1 rfl) ?_
  refine n_callP C (fun hp => va_runS (rest := [.ref (h0)]) S (c_M_isSponge l D ca s0 a0 Z (nI k0) _) (cwS 1 hts (gS g_438 g_439 g_34 g_440) rfl rfl rfl (by decide +kernel) ⟨Nat.le_of_ble_eq_true rfl, Nat.le_of_ble_eq_true rfl⟩) hp rfl rfl hl.1 rfl (lv_room (Nat.le_of_ble_eq_true rfl)) dM_squeeze_2 ⟨Nat.le_of_ble_eq_true rfl, Nat.le_of_ble_eq_true rfl⟩) (fun r u H locs hp C => ?_)
  subst hp
  refine lv_topi (nm_r (e' := nI 1) (isSp_ok hk0) ?_)
  refine n_if_ne (tgt := 12) S (by omega) dM_squeeze_5 (by decide) (fun hc => ?_) (fun hc => False.elim (by omega))
  refine lv_iload_n hx hb dM_squeeze_12 rfl (lv_at hl 2 rfl) ?_
  refine lv_iconst (v := nI 1) hx hb dM_squeeze_13 (by decide) ?_
  refine lv_icmp_lt (tgt := 23) hx hb dM_squeeze_14 (by decide) (fun hc14 => ?_) (fun hc14 => ?_)
  · skip
    refine lv_iconst (v := nI 2) hx hb dM_squeeze_23 (by decide) ?_
    refine lv_goto (tgt := 28) hx hb dM_squeeze_24 (by decide) ?_
    refine n_put S C hin_M tyM tyM_ok nmM 0 rfl rfl 0 (by decide) g_402 rfl rfl rfl rfl (Nat.le_of_ble_eq_true rfl) dM_squeeze_28 (fun H locs C => ?_)
    replace C : Cx D ca s0 A s [(h0, .inr (3, mF q (nI 2) (tz)))] H locs := C
    refine lv_aload_n hx hb dM_squeeze_31 rfl (lv_at hl 0 rfl) ?_
    refine n_get S C hin_M 0 rfl rfl 0 (by decide) g_402 rfl dM_squeeze_32 ?_
    refine n_if_le (tgt := 40) S (by omega) dM_squeeze_35 (by decide) (fun hc => False.elim (by omega)) (fun hc => ?_)
    refine lv_lconst (v := 0) hx hb dM_squeeze_38 (by decide) ?_
    exact ret 0 (()) _ _ _ _ _ _ (Nat.le_refl _) (Nat.le_refl _) trivial C dM_squeeze_39
  · skip
    refine lv_iload_n hx hb dM_squeeze_17 rfl (lv_at hl 2 rfl) ?_
    refine lv_bipush (v := nI 8) hx hb dM_squeeze_18 (by decide) ?_
    refine lv_icmp_le (tgt := 27) hx hb dM_squeeze_20 (by decide) (fun hc => absurd hc (Int32.not_le.mpr (hr.resolve_left hc14))) (fun hc => ?_)
    refine lv_iconst (v := nI 2) hx hb dM_squeeze_23 (by decide) ?_
    refine lv_goto (tgt := 28) hx hb dM_squeeze_24 (by decide) ?_
    refine n_put S C hin_M tyM tyM_ok nmM 0 rfl rfl 0 (by decide) g_402 rfl rfl rfl rfl (Nat.le_of_ble_eq_true rfl) dM_squeeze_28 (fun H locs C => ?_)
    replace C : Cx D ca s0 A s [(h0, .inr (3, mF q (nI 2) (tz)))] H locs := C
    refine lv_aload_n hx hb dM_squeeze_31 rfl (lv_at hl 0 rfl) ?_
    refine n_get S C hin_M 0 rfl rfl 0 (by decide) g_402 rfl dM_squeeze_32 ?_
    refine n_if_le (tgt := 40) S (by omega) dM_squeeze_35 (by decide) (fun hc => False.elim (by omega)) (fun hc => ?_)
    refine lv_lconst (v := 0) hx hb dM_squeeze_38 (by decide) ?_
    exact ret 0 (()) _ _ _ _ _ _ (Nat.le_refl _) (Nat.le_refl _) trivial C dM_squeeze_39
abbrev rm_M_squeeze_no3 : Room := { frames := 1, cells := 0, slots := 0, locals := 22 }
set_option maxHeartbeats 4000000 in
set_option maxRecDepth 100000 in
theorem c_M_squeeze_no3 (l : Launch) (D : va_G) (ca : Nat → ClassId) (s0 : State) (a0 : Array Value) (Z : Wd a0 s0) (h0 : Nat) (q : Nat → Nat) (th tz : Int32) (k0 : Nat) (hk0 : k0 < 4) (n : Nat) (hn1 : 1 ≤ n) (hn : n ≤ 8) (F : MFn) (dn : Bool) (rm : Int32) (h7 : F 7 k0 = b2i dn) (h9 : F 9 k0 = rm) (hro : rOk rm) (hcn : canG dn rm (nI n) = false) : CtL l yM_squeeze [.code yM_squeeze cM_squeeze 6 (some .long)] rm_M_squeeze_no3 0 0 D ca s0 [.ref (h0), .int (nI k0), .int (nI n)] [(h0, .inr (3, mF q (th) (tz))), (q 7, .inl (ca 1, 6, .inl (F 7))), (q 9, .inl (ca 0, 6, .inl (F 9)))] (S := Unit) (fun _ _ => True) (fun _ => [(h0, .inr (3, mF q (nI 3) (tz))), (q 7, .inl (ca 1, 6, .inl (F 7))), (q 9, .inl (ca 0, 6, .inl (F 9)))]) := by
  refine ctL_of (cc := cM_squeeze) (maxL := 6) (own := RM) Z rfl (by decide) rfl (Nat.le_of_ble_eq_true rfl) ?_
  intro p e s m args below meth c A ls Q S hnm ret C hl
  have hx := S.1
  have hb := S.2.1
  have hown := S.2.2.2.1
  have hts := S.2.2.2.2
  generalize s.heap = H at C ⊢
  generalize ([] : List Loc) = locs at C ⊢
  replace hl : lv_has ls 6 [(0, .ref (h0)), (1, .int (nI k0)), (2, .int (nI n))] := hl
  refine lv_aload_n hx hb dM_squeeze_0 rfl (lv_at hl 0 rfl) ?_
  refine lv_iload_n hx hb dM_squeeze_1 rfl (lv_at hl 1 rfl) ?_
  refine n_callP C (fun hp => va_runS (rest := [.ref (h0)]) S (c_M_isSponge l D ca s0 a0 Z (nI k0) _) (cwS 1 hts (gS g_438 g_439 g_34 g_440) rfl rfl rfl (by decide +kernel) ⟨Nat.le_of_ble_eq_true rfl, Nat.le_of_ble_eq_true rfl⟩) hp rfl rfl hl.1 rfl (lv_room (Nat.le_of_ble_eq_true rfl)) dM_squeeze_2 ⟨Nat.le_of_ble_eq_true rfl, Nat.le_of_ble_eq_true rfl⟩) (fun r u H locs hp C => ?_)
  subst hp
  refine lv_topi (nm_r (e' := nI 1) (isSp_ok hk0) ?_)
  refine n_if_ne (tgt := 12) S (by omega) dM_squeeze_5 (by decide) (fun hc => ?_) (fun hc => False.elim (by omega))
  refine lv_iload_n hx hb dM_squeeze_12 rfl (lv_at hl 2 rfl) ?_
  refine lv_iconst (v := nI 1) hx hb dM_squeeze_13 (by decide) ?_
  refine n_icmp_lt (tgt := 23) S (by omega) (by omega) dM_squeeze_14 (by decide) (fun hc => False.elim (by omega)) (fun hc => ?_)
  refine lv_iload_n hx hb dM_squeeze_17 rfl (lv_at hl 2 rfl) ?_
  refine lv_bipush (v := nI 8) hx hb dM_squeeze_18 (by decide) ?_
  refine n_icmp_le (tgt := 27) S (by omega) (by omega) dM_squeeze_20 (by decide) (fun hc => ?_) (fun hc => False.elim (by omega))
  refine lv_iconst (v := nI 0) hx hb dM_squeeze_27 (by decide) ?_
  refine n_put S C hin_M tyM tyM_ok nmM 0 rfl rfl 0 (by decide) g_402 rfl rfl rfl rfl (Nat.le_of_ble_eq_true rfl) dM_squeeze_28 (fun H locs C => ?_)
  replace C : Cx D ca s0 A s [(h0, .inr (3, mF q (nI 0) (tz))), (q 7, .inl (ca 1, 6, .inl (F 7))), (q 9, .inl (ca 0, 6, .inl (F 9)))] H locs := C
  refine lv_aload_n hx hb dM_squeeze_31 rfl (lv_at hl 0 rfl) ?_
  refine n_get S C hin_M 0 rfl rfl 0 (by decide) g_402 rfl dM_squeeze_32 ?_
  refine n_if_le (tgt := 40) S (by omega) dM_squeeze_35 (by decide) (fun hc => ?_) (fun hc => False.elim (by omega))
  refine lv_aload_n hx hb dM_squeeze_40 rfl (lv_at hl 0 rfl) ?_
  refine lv_aload_n hx hb dM_squeeze_41 rfl (lv_at hl 0 rfl) ?_
  refine lv_iload_n hx hb dM_squeeze_42 rfl (lv_at hl 1 rfl) ?_
  refine lv_iload_n hx hb dM_squeeze_43 rfl (lv_at hl 2 rfl) ?_
  refine n_callI (wc := [(h0, .inr (3, mF q (nI 0) (tz))), (q 7, .inl (ca 1, 6, .inl (F 7))), (q 9, .inl (ca 0, 6, .inl (F 9)))]) (wr := []) C [0, 1, 2] [] rfl rfl rfl rfl (by decide) (fun hp => va_runV (rest := [.ref (h0)]) S (c_M_has l D ca s0 a0 Z h0 q (nI 0) tz F k0 (by omega) dn rm (nI n) h7 h9 hro _) (cwV 2 hts (gV g_463 g_464 g_26 g_34 g_465) rfl rfl rfl (by decide +kernel) ⟨Nat.le_of_ble_eq_true rfl, Nat.le_of_ble_eq_true rfl⟩) ⟨hp.1, n_recv C 0 3 rfl rfl, hp.2⟩ rfl rfl hl.1 rfl (lv_room (Nat.le_of_ble_eq_true rfl)) dM_squeeze_44 ⟨Nat.le_of_ble_eq_true rfl, Nat.le_of_ble_eq_true rfl⟩) (fun r u H locs hp C => ?_)
  replace C : Cx D ca s0 A s [(h0, .inr (3, mF q (nI 0) (tz))), (q 7, .inl (ca 1, 6, .inl (F 7))), (q 9, .inl (ca 0, 6, .inl (F 9)))] H locs := C.re [0, 1, 2] rfl rfl
  subst hp
  refine lv_topi (nm_r (e' := nI 0) (by rw [hcn]; rfl) ?_)
  refine n_if_eq (tgt := 54) S (by omega) dM_squeeze_47 (by decide) (fun hc => ?_) (fun hc => False.elim (by omega))
  refine lv_iconst (v := nI 3) hx hb dM_squeeze_54 (by decide) ?_
  refine n_put S C hin_M tyM tyM_ok nmM 0 rfl rfl 0 (by decide) g_402 rfl rfl rfl rfl (Nat.le_of_ble_eq_true rfl) dM_squeeze_55 (fun H locs C => ?_)
  replace C : Cx D ca s0 A s [(h0, .inr (3, mF q (nI 3) (tz))), (q 7, .inl (ca 1, 6, .inl (F 7))), (q 9, .inl (ca 0, 6, .inl (F 9)))] H locs := C
  refine lv_aload_n hx hb dM_squeeze_58 rfl (lv_at hl 0 rfl) ?_
  refine n_get S C hin_M 0 rfl rfl 0 (by decide) g_402 rfl dM_squeeze_59 ?_
  refine n_if_le (tgt := 67) S (by omega) dM_squeeze_62 (by decide) (fun hc => False.elim (by omega)) (fun hc => ?_)
  refine lv_lconst (v := 0) hx hb dM_squeeze_65 (by decide) ?_
  exact ret 0 (()) _ _ _ _ _ _ (Nat.le_refl _) (Nat.le_refl _) trivial C dM_squeeze_66
abbrev rm_M_squeeze_ok : Room := { frames := 5, cells := 0, slots := 0, locals := 117 }
set_option maxHeartbeats 4000000 in
set_option maxRecDepth 100000 in
theorem c_M_squeeze_ok (l : Launch) (D : va_G) (ca : Nat → ClassId) (s0 : State) (a0 : Array Value) (Z : Wd a0 s0) (h0 : Nat) (q : Nat → Nat) (th tz : Int32) (F : MFn) (k0 : Nat) (hk0 : k0 < 4) (c0 : Co) (k en : Nat) (tk : Int32) (rm : Int32) (hk : k < 16) (hS : mSg F k0 (c0, k, en, tk, true, rm)) (hp0 : c0.2 ≤ wid k) (n : Nat) (hn1 : 1 ≤ n) (hn : n ≤ 8) (hro : rOk rm) (hcg : canG true rm (nI n) = true) : CtL l yM_squeeze [.code yM_squeeze cM_squeeze 6 (some .long)] rm_M_squeeze_ok 0 0 D ca s0 [.ref (h0), .int (nI k0), .int (nI n)] [(h0, .inr (3, mF q (th) (tz))), (q 3, .inl (ca 1, 9600, .inl (F 3))), (q 4, .inl (ca 0, 6, .inl (F 4))), (q 5, .inl (ca 0, 6, .inl (F 5))), (q 6, .inl (ca 0, 6, .inl (F 6))), (q 7, .inl (ca 1, 6, .inl (F 7))), (q 8, .inl (ca 0, 6, .inl (F 8))), (q 9, .inl (ca 0, 6, .inl (F 9))), (q 10, .inl (ca 1, 1600, .inl (F 10))), (q 11, .inl (ca 1, 1600, .inl (F 11)))] (S := MFn) (fun r u => r = sqV (wid k) c0 n ∧ mU F u k0 (sqC (wid k) c0 n, k, en, tk, true, lefI rm n)) (fun u => [(h0, .inr (3, mF q (nI 0) (tz))), (q 3, .inl (ca 1, 9600, .inl (u 3))), (q 4, .inl (ca 0, 6, .inl (u 4))), (q 5, .inl (ca 0, 6, .inl (u 5))), (q 6, .inl (ca 0, 6, .inl (u 6))), (q 7, .inl (ca 1, 6, .inl (u 7))), (q 8, .inl (ca 0, 6, .inl (u 8))), (q 9, .inl (ca 0, 6, .inl (u 9))), (q 10, .inl (ca 1, 1600, .inl (u 10))), (q 11, .inl (ca 1, 1600, .inl (u 11)))]) := by
  refine ctL_of (cc := cM_squeeze) (maxL := 6) (own := RM) Z rfl (by decide) rfl (Nat.le_of_ble_eq_true rfl) ?_
  intro p e s m args below meth c A ls Q S hnm ret C hl
  have hx := S.1
  have hb := S.2.1
  have hown := S.2.2.2.1
  have hts := S.2.2.2.2
  generalize s.heap = H at C ⊢
  generalize ([] : List Loc) = locs at C ⊢
  replace hl : lv_has ls 6 [(0, .ref (h0)), (1, .int (nI k0)), (2, .int (nI n))] := hl
  refine lv_aload_n hx hb dM_squeeze_0 rfl (lv_at hl 0 rfl) ?_
  refine lv_iload_n hx hb dM_squeeze_1 rfl (lv_at hl 1 rfl) ?_
  refine n_callP C (fun hp => va_runS (rest := [.ref (h0)]) S (c_M_isSponge l D ca s0 a0 Z (nI k0) _) (cwS 1 hts (gS g_438 g_439 g_34 g_440) rfl rfl rfl (by decide +kernel) ⟨Nat.le_of_ble_eq_true rfl, Nat.le_of_ble_eq_true rfl⟩) hp rfl rfl hl.1 rfl (lv_room (Nat.le_of_ble_eq_true rfl)) dM_squeeze_2 ⟨Nat.le_of_ble_eq_true rfl, Nat.le_of_ble_eq_true rfl⟩) (fun r u H locs hp C => ?_)
  subst hp
  refine lv_topi (nm_r (e' := nI 1) (isSp_ok hk0) ?_)
  refine n_if_ne (tgt := 12) S (by omega) dM_squeeze_5 (by decide) (fun hc => ?_) (fun hc => False.elim (by omega))
  refine lv_iload_n hx hb dM_squeeze_12 rfl (lv_at hl 2 rfl) ?_
  refine lv_iconst (v := nI 1) hx hb dM_squeeze_13 (by decide) ?_
  refine n_icmp_lt (tgt := 23) S (by omega) (by omega) dM_squeeze_14 (by decide) (fun hc => False.elim (by omega)) (fun hc => ?_)
  refine lv_iload_n hx hb dM_squeeze_17 rfl (lv_at hl 2 rfl) ?_
  refine lv_bipush (v := nI 8) hx hb dM_squeeze_18 (by decide) ?_
  refine n_icmp_le (tgt := 27) S (by omega) (by omega) dM_squeeze_20 (by decide) (fun hc => ?_) (fun hc => False.elim (by omega))
  refine lv_iconst (v := nI 0) hx hb dM_squeeze_27 (by decide) ?_
  refine n_put S C hin_M tyM tyM_ok nmM 0 rfl rfl 0 (by decide) g_402 rfl rfl rfl rfl (Nat.le_of_ble_eq_true rfl) dM_squeeze_28 (fun H locs C => ?_)
  replace C : Cx D ca s0 A s [(h0, .inr (3, mF q (nI 0) (tz))), (q 3, .inl (ca 1, 9600, .inl (F 3))), (q 4, .inl (ca 0, 6, .inl (F 4))), (q 5, .inl (ca 0, 6, .inl (F 5))), (q 6, .inl (ca 0, 6, .inl (F 6))), (q 7, .inl (ca 1, 6, .inl (F 7))), (q 8, .inl (ca 0, 6, .inl (F 8))), (q 9, .inl (ca 0, 6, .inl (F 9))), (q 10, .inl (ca 1, 1600, .inl (F 10))), (q 11, .inl (ca 1, 1600, .inl (F 11)))] H locs := C
  refine lv_aload_n hx hb dM_squeeze_31 rfl (lv_at hl 0 rfl) ?_
  refine n_get S C hin_M 0 rfl rfl 0 (by decide) g_402 rfl dM_squeeze_32 ?_
  refine n_if_le (tgt := 40) S (by omega) dM_squeeze_35 (by decide) (fun hc => ?_) (fun hc => False.elim (by omega))
  refine lv_aload_n hx hb dM_squeeze_40 rfl (lv_at hl 0 rfl) ?_
  refine lv_aload_n hx hb dM_squeeze_41 rfl (lv_at hl 0 rfl) ?_
  refine lv_iload_n hx hb dM_squeeze_42 rfl (lv_at hl 1 rfl) ?_
  refine lv_iload_n hx hb dM_squeeze_43 rfl (lv_at hl 2 rfl) ?_
  have h7 := hS.2.2.2.2.1
  have h9 := hS.2.2.2.2.2
  refine n_callI (wc := [(h0, .inr (3, mF q (nI 0) (tz))), (q 7, .inl (ca 1, 6, .inl (F 7))), (q 9, .inl (ca 0, 6, .inl (F 9)))]) (wr := [(q 3, .inl (ca 1, 9600, .inl (F 3))), (q 4, .inl (ca 0, 6, .inl (F 4))), (q 5, .inl (ca 0, 6, .inl (F 5))), (q 6, .inl (ca 0, 6, .inl (F 6))), (q 8, .inl (ca 0, 6, .inl (F 8))), (q 10, .inl (ca 1, 1600, .inl (F 10))), (q 11, .inl (ca 1, 1600, .inl (F 11)))]) C [0, 5, 7] [1, 2, 3, 4, 6, 8, 9] rfl rfl rfl rfl (by decide) (fun hp => va_runV (rest := [.ref (h0)]) S (c_M_has l D ca s0 a0 Z h0 q (nI 0) tz F k0 (by omega) true rm (nI n) h7 h9 hro _) (cwV 2 hts (gV g_463 g_464 g_26 g_34 g_465) rfl rfl rfl (by decide +kernel) ⟨Nat.le_of_ble_eq_true rfl, Nat.le_of_ble_eq_true rfl⟩) ⟨hp.1, n_recv C 0 3 rfl rfl, hp.2⟩ rfl rfl hl.1 rfl (lv_room (Nat.le_of_ble_eq_true rfl)) dM_squeeze_44 ⟨Nat.le_of_ble_eq_true rfl, Nat.le_of_ble_eq_true rfl⟩) (fun r u H locs hp C => ?_)
  replace C : Cx D ca s0 A s [(h0, .inr (3, mF q (nI 0) (tz))), (q 3, .inl (ca 1, 9600, .inl (F 3))), (q 4, .inl (ca 0, 6, .inl (F 4))), (q 5, .inl (ca 0, 6, .inl (F 5))), (q 6, .inl (ca 0, 6, .inl (F 6))), (q 7, .inl (ca 1, 6, .inl (F 7))), (q 8, .inl (ca 0, 6, .inl (F 8))), (q 9, .inl (ca 0, 6, .inl (F 9))), (q 10, .inl (ca 1, 1600, .inl (F 10))), (q 11, .inl (ca 1, 1600, .inl (F 11)))] H locs := C.re [7, 0, 1, 2, 3, 8, 4, 9, 5, 6] rfl rfl
  subst hp
  refine lv_topi (nm_r (e' := nI 1) (by rw [hcg]; rfl) ?_)
  refine n_if_eq (tgt := 54) S (by omega) dM_squeeze_47 (by decide) (fun hc => False.elim (by omega)) (fun hc => ?_)
  refine lv_iconst (v := nI 0) hx hb dM_squeeze_50 (by decide) ?_
  refine lv_goto (tgt := 55) hx hb dM_squeeze_51 (by decide) ?_
  refine n_put S C hin_M tyM tyM_ok nmM 0 rfl rfl 0 (by decide) g_402 rfl rfl rfl rfl (Nat.le_of_ble_eq_true rfl) dM_squeeze_55 (fun H locs C => ?_)
  replace C : Cx D ca s0 A s [(h0, .inr (3, mF q (nI 0) (tz))), (q 3, .inl (ca 1, 9600, .inl (F 3))), (q 4, .inl (ca 0, 6, .inl (F 4))), (q 5, .inl (ca 0, 6, .inl (F 5))), (q 6, .inl (ca 0, 6, .inl (F 6))), (q 7, .inl (ca 1, 6, .inl (F 7))), (q 8, .inl (ca 0, 6, .inl (F 8))), (q 9, .inl (ca 0, 6, .inl (F 9))), (q 10, .inl (ca 1, 1600, .inl (F 10))), (q 11, .inl (ca 1, 1600, .inl (F 11)))] H locs := C
  refine lv_aload_n hx hb dM_squeeze_58 rfl (lv_at hl 0 rfl) ?_
  refine n_get S C hin_M 0 rfl rfl 0 (by decide) g_402 rfl dM_squeeze_59 ?_
  refine n_if_le (tgt := 67) S (by omega) dM_squeeze_62 (by decide) (fun hc => ?_) (fun hc => False.elim (by omega))
  have hwi := wid_in k hk
  refine lv_lconst (v := 0) hx hb dM_squeeze_67 (by decide) ?_
  refine lv_lstore_n hx hb dM_squeeze_68 rfl hl (Nat.le_of_ble_eq_true rfl) rfl (fun ls hl => ?_)
  replace hl : lv_has ls 6 [(3, .long (0)), (0, .ref (h0)), (1, .int (nI k0)), (2, .int (nI n))] := hl
  refine lv_iconst (v := nI 0) hx hb dM_squeeze_69 (by decide) ?_
  refine lv_istore hx hb dM_squeeze_70 hl (Nat.le_of_ble_eq_true rfl) rfl (fun ls hl => ?_)
  replace hl : lv_has ls 6 [(5, .int (nI 0)), (3, .long (0)), (0, .ref (h0)), (1, .int (nI k0)), (2, .int (nI n))] := hl
  have lp72 : ∀ (nf : Nat) (i : Nat) (b1 : Nat → Int32) (p1 : Nat → Int32) (l1 : Nat → Int32) (n1 : Nat → Int32) (x1 : Nat → Int32) (H : Heap) (locs : List Loc) (ls : Array Slot), n - i < nf → i ≤ n → mR (F 3) (F 5) k0 (sqC (wid k) c0 i) b1 p1 → one l1 (F 9) k0 (lefI rm i) → Cx D ca s0 A s [(h0, .inr (3, mF q (nI 0) (tz))), (q 3, .inl (ca 1, 9600, .inl (b1))), (q 4, .inl (ca 0, 6, .inl (F 4))), (q 5, .inl (ca 0, 6, .inl (p1))), (q 6, .inl (ca 0, 6, .inl (F 6))), (q 7, .inl (ca 1, 6, .inl (F 7))), (q 8, .inl (ca 0, 6, .inl (F 8))), (q 9, .inl (ca 0, 6, .inl (l1))), (q 10, .inl (ca 1, 1600, .inl (n1))), (q 11, .inl (ca 1, 1600, .inl (x1)))] H locs → lv_has ls 6 [(5, .int (nI i)), (3, .long (sqV (wid k) c0 i)), (0, .ref (h0)), (1, .int (nI k0)), (2, .int (nI n))] → W p l e rm_M_squeeze_ok s m args below meth c H locs 0 0 Q (F0 m 72 ls []) := by
    intro nf
    induction nf with
    | zero => intro i b1 p1 l1 n1 x1 H locs ls hn; exact absurd hn (Nat.not_lt_zero _)
    | succ nf ih_lp72 =>
      intro i b1 p1 l1 n1 x1 H locs ls hn lp72_le hI hJ C hl
      refine lv_iload hx hb dM_squeeze_72 (lv_at hl 0 rfl) ?_
      refine lv_iload_n hx hb dM_squeeze_74 rfl (lv_at hl 4 rfl) ?_
      refine n_icmp_ge (tgt := 99) S (by omega) (by omega) dM_squeeze_75 (by decide) (fun hc75 => ?_) (fun hc75 => ?_)
      · skip
        rw [show i = n by omega] at hI hJ hl
        refine lv_lload_n hx hb dM_squeeze_99 rfl (lv_at hl 1 rfl) ?_
        exact ret (sqV (wid k) c0 n) ((mkF b1 (F 4) p1 (F 6) (F 7) (F 8) l1 n1 x1)) _ _ _ _ _ _ (Nat.le_refl _) (Nat.le_refl _) (⟨rfl, hI, one.rf hS.2.1, one.rf hS.2.2.1, one.rf hS.2.2.2.1, one.rf hS.2.2.2.2.1, hJ⟩) C dM_squeeze_100
      · skip
        refine lv_lload_n hx hb dM_squeeze_78 rfl (lv_at hl 1 rfl) ?_
        refine lv_aload_n hx hb dM_squeeze_79 rfl (lv_at hl 2 rfl) ?_
        refine lv_iload_n hx hb dM_squeeze_80 rfl (lv_at hl 3 rfl) ?_
        refine n_callI (wc := [(h0, .inr (3, mF q (nI 0) (tz))), (q 3, .inl (ca 1, 9600, .inl (b1))), (q 4, .inl (ca 0, 6, .inl (F 4))), (q 5, .inl (ca 0, 6, .inl (p1))), (q 9, .inl (ca 0, 6, .inl (l1))), (q 10, .inl (ca 1, 1600, .inl (n1))), (q 11, .inl (ca 1, 1600, .inl (x1)))]) (wr := [(q 6, .inl (ca 0, 6, .inl (F 6))), (q 7, .inl (ca 1, 6, .inl (F 7))), (q 8, .inl (ca 0, 6, .inl (F 8)))]) C [0, 1, 2, 3, 7, 8, 9] [4, 5, 6] rfl rfl rfl rfl (by decide) (fun hp => va_runV (rest := [.long (sqV (wid k) c0 i)]) S (c_M_comeOut l D ca s0 a0 Z h0 q (nI 0) tz k0 k (by omega) hk b1 (F 4) p1 l1 n1 x1 hS.2.1 (lefI rm i) hJ.1 (sqC (wid k) c0 i) hI.1 (sqC_le hp0 (by omega) i) _) (cwV 1 hts (gV g_466 g_467 g_27 g_34 g_468) rfl rfl rfl (by decide +kernel) ⟨Nat.le_of_ble_eq_true rfl, Nat.le_of_ble_eq_true rfl⟩) ⟨hp.1, n_recv C 0 3 rfl rfl, hp.2⟩ rfl rfl hl.1 rfl (lv_room (Nat.le_of_ble_eq_true rfl)) dM_squeeze_81 ⟨Nat.le_of_ble_eq_true rfl, Nat.le_of_ble_eq_true rfl⟩) (fun r u H locs hp C => ?_)
        replace C : Cx D ca s0 A s [(h0, .inr (3, mF q (nI 0) (tz))), (q 3, .inl (ca 1, 9600, .inl (u.1))), (q 4, .inl (ca 0, 6, .inl ((F 4)))), (q 5, .inl (ca 0, 6, .inl (u.2.1))), (q 6, .inl (ca 0, 6, .inl (F 6))), (q 7, .inl (ca 1, 6, .inl (F 7))), (q 8, .inl (ca 0, 6, .inl (F 8))), (q 9, .inl (ca 0, 6, .inl (u.2.2.1))), (q 10, .inl (ca 1, 1600, .inl (u.2.2.2.1))), (q 11, .inl (ca 1, 1600, .inl (u.2.2.2.2)))] H locs := C.re [3, 4, 5, 6, 0, 1, 2, 7, 8, 9] rfl rfl
        obtain ⟨bo, po, lo, no, xo⟩ := u
        replace C : Cx D ca s0 A s [(h0, .inr (3, mF q (nI 0) (tz))), (q 3, .inl (ca 1, 9600, .inl (bo))), (q 4, .inl (ca 0, 6, .inl ((F 4)))), (q 5, .inl (ca 0, 6, .inl (po))), (q 6, .inl (ca 0, 6, .inl (F 6))), (q 7, .inl (ca 1, 6, .inl (F 7))), (q 8, .inl (ca 0, 6, .inl (F 8))), (q 9, .inl (ca 0, 6, .inl (lo))), (q 10, .inl (ca 1, 1600, .inl (no))), (q 11, .inl (ca 1, 1600, .inl (xo)))] H locs := C
        obtain ⟨hp, hRo, hFo⟩ := hp
        subst hp
        refine lv_i2l (v := (nI (giveB (wid k) (sqC (wid k) c0 i))).toInt64) hx hb dM_squeeze_84 rfl ?_
        refine lv_topl (nm_r (e' := lN (giveB (wid k) (sqC (wid k) c0 i))) (i2l_by _ (byB_lt _ _)) ?_)
        refine lv_bipush (v := nI 8) hx hb dM_squeeze_85 (by decide) ?_
        refine lv_iload hx hb dM_squeeze_87 (lv_at hl 0 rfl) ?_
        refine n_mul S dM_squeeze_89 ?_
        refine lv_lshl (v := lShl (lN (giveB (wid k) (sqC (wid k) c0 i))) (8 * i)) hx hb dM_squeeze_90 rfl ?_
        refine lv_lor hx hb dM_squeeze_91 ?_
        refine lv_lstore_n hx hb dM_squeeze_92 rfl hl (Nat.le_of_ble_eq_true rfl) rfl (fun ls hl => ?_)
        replace hl : lv_has ls 6 [(3, .long ((sqV (wid k) c0 i) ||| (lShl (lN (giveB (wid k) (sqC (wid k) c0 i))) (8 * i)))), (5, .int (nI i)), (0, .ref (h0)), (1, .int (nI k0)), (2, .int (nI n))] := hl
        refine lv_iinc (k := 1) (v := nI (i + 1)) hx hb dM_squeeze_93 hl rfl (n_inc1 _) (Nat.le_of_ble_eq_true rfl) rfl (fun ls hl => ?_)
        replace hl : lv_has ls 6 [(5, .int (nI (i + 1))), (3, .long ((sqV (wid k) c0 i) ||| (lShl (lN (giveB (wid k) (sqC (wid k) c0 i))) (8 * i)))), (0, .ref (h0)), (1, .int (nI k0)), (2, .int (nI n))] := hl
        refine lv_goto (tgt := 72) hx hb dM_squeeze_96 (by decide) ?_
        exact ih_lp72 (i + 1) _ _ _ _ _ _ _ _ (by omega) (by omega) (hI.tr hRo) (hJ.tr (lefI_s hro hcg (by omega) (by omega) ▸ hFo)) C (lv_sub hl [0, 1, 2, 3, 4] rfl)
  exact lp72 (n + 1) 0 _ _ _ _ _ _ _ _ (by omega) (by omega) (mR.rf hS.1) (one.rf (hS.2.2.2.2.2.trans (lefI_0 rm).symm)) C (lv_sub hl [0, 1, 2, 3, 4] rfl)
abbrev rm_M_copyAll : Room := { frames := 0, cells := 0, slots := 0, locals := 0 }
set_option maxHeartbeats 4000000 in
set_option maxRecDepth 100000 in
theorem c_M_copyAll (l : Launch) (D : va_G) (ca : Nat → ClassId) (s0 : State) (a0 : Array Value) (Z : Wd a0 s0) (h0 : Nat) (q : Nat → Nat) (th tz : Int32) (F : MFn) (to fr : Nat) (hto : to < 6) (hfr : fr < 6) (c0 : Co) (k en : Nat) (tk : Int32) (dn : Bool) (rm : Int32) (hS : mSg F fr (c0, k, en, tk, dn, rm)) : CtV l yM_copyAll [.code yM_copyAll cM_copyAll 4 none] rm_M_copyAll 0 0 D ca s0 [.ref (h0), .int (nI to), .int (nI fr)] [(h0, .inr (3, mF q (th) (tz))), (q 3, .inl (ca 1, 9600, .inl (F 3))), (q 4, .inl (ca 0, 6, .inl (F 4))), (q 5, .inl (ca 0, 6, .inl (F 5))), (q 6, .inl (ca 0, 6, .inl (F 6))), (q 7, .inl (ca 1, 6, .inl (F 7))), (q 8, .inl (ca 0, 6, .inl (F 8))), (q 9, .inl (ca 0, 6, .inl (F 9)))] (S := MFn) (fun u => mU F u to (c0, k, en, tk, dn, rm)) (fun u => [(h0, .inr (3, mF q (th) (tz))), (q 3, .inl (ca 1, 9600, .inl (u 3))), (q 4, .inl (ca 0, 6, .inl (u 4))), (q 5, .inl (ca 0, 6, .inl (u 5))), (q 6, .inl (ca 0, 6, .inl (u 6))), (q 7, .inl (ca 1, 6, .inl (u 7))), (q 8, .inl (ca 0, 6, .inl (u 8))), (q 9, .inl (ca 0, 6, .inl (u 9)))]) := by
  refine ctV_of (cc := cM_copyAll) (maxL := 4) (own := RM) Z rfl (by decide) rfl (Nat.le_of_ble_eq_true rfl) ?_
  intro p e s m args below meth c A ls Q S hnm ret C hl
  have hx := S.1
  have hb := S.2.1
  have hown := S.2.2.2.1
  have hts := S.2.2.2.2
  generalize s.heap = H at C ⊢
  generalize ([] : List Loc) = locs at C ⊢
  replace hl : lv_has ls 4 [(0, .ref (h0)), (1, .int (nI to)), (2, .int (nI fr))] := hl
  refine lv_iconst (v := nI 0) hx hb dM_copyAll_0 (by decide) ?_
  refine lv_istore_n hx hb dM_copyAll_1 rfl hl (Nat.le_of_ble_eq_true rfl) rfl (fun ls hl => ?_)
  replace hl : lv_has ls 4 [(3, .int (nI 0)), (0, .ref (h0)), (1, .int (nI to)), (2, .int (nI fr))] := hl
  have lp2 : ∀ (nf : Nat) (i : Nat) (b1 : Nat → Int32) (H : Heap) (locs : List Loc) (ls : Array Slot), 1600 - i < nf → i ≤ 1600 → rS b1 (F 3) (1600 * to) i c0.1 → Cx D ca s0 A s [(h0, .inr (3, mF q (th) (tz))), (q 3, .inl (ca 1, 9600, .inl (b1))), (q 4, .inl (ca 0, 6, .inl (F 4))), (q 5, .inl (ca 0, 6, .inl (F 5))), (q 6, .inl (ca 0, 6, .inl (F 6))), (q 7, .inl (ca 1, 6, .inl (F 7))), (q 8, .inl (ca 0, 6, .inl (F 8))), (q 9, .inl (ca 0, 6, .inl (F 9)))] H locs → lv_has ls 4 [(3, .int (nI i)), (0, .ref (h0)), (1, .int (nI to)), (2, .int (nI fr))] → W p l e rm_M_copyAll s m args below meth c H locs 0 0 Q (F0 m 2 ls []) := by
    intro nf
    induction nf with
    | zero => intro i b1 H locs ls hn; exact absurd hn (Nat.not_lt_zero _)
    | succ nf ih_lp2 =>
      intro i b1 H locs ls hn lp2_le hI C hl
      refine lv_iload_n hx hb dM_copyAll_2 rfl (lv_at hl 0 rfl) ?_
      refine lv_sipush (v := nI 1600) hx hb dM_copyAll_3 (by decide) ?_
      refine n_icmp_ge (tgt := 39) S (by omega) (by omega) dM_copyAll_6 (by decide) (fun hc6 => ?_) (fun hc6 => ?_)
      · skip
        replace hI : rS b1 (F 3) (1600 * to) 1600 c0.1 := eq_of_le hc6 lp2_le ▸ hI
        refine lv_aload_n hx hb dM_copyAll_39 rfl (lv_at hl 1 rfl) ?_
        refine n_get S C hin_M 0 rfl rfl 6 (by decide) g_408 rfl dM_copyAll_40 ?_
        refine lv_iload_n hx hb dM_copyAll_43 rfl (lv_at hl 2 rfl) ?_
        refine lv_aload_n hx hb dM_copyAll_44 rfl (lv_at hl 1 rfl) ?_
        refine n_get S C hin_M 0 rfl rfl 6 (by decide) g_408 rfl dM_copyAll_45 ?_
        refine lv_iload_n hx hb dM_copyAll_48 rfl (lv_at hl 3 rfl) ?_
        refine n_iald S C 2 rfl (i := fr) (by omega) (by decide) dM_copyAll_49 ?_
        refine lv_topi (nm_r (e' := nI k) hS.2.1 ?_)
        refine n_iast S C 2 rfl (i := to) (by omega) (by decide) dM_copyAll_50 (fun H locs C => ?_)
        replace C : Cx D ca s0 A s [(h0, .inr (3, mF q (th) (tz))), (q 3, .inl (ca 1, 9600, .inl (b1))), (q 4, .inl (ca 0, 6, .inl (upd (F 4) to (nI k)))), (q 5, .inl (ca 0, 6, .inl (F 5))), (q 6, .inl (ca 0, 6, .inl (F 6))), (q 7, .inl (ca 1, 6, .inl (F 7))), (q 8, .inl (ca 0, 6, .inl (F 8))), (q 9, .inl (ca 0, 6, .inl (F 9)))] H locs := C
        refine lv_aload_n hx hb dM_copyAll_51 rfl (lv_at hl 1 rfl) ?_
        refine n_get S C hin_M 0 rfl rfl 7 (by decide) g_409 rfl dM_copyAll_52 ?_
        refine lv_iload_n hx hb dM_copyAll_55 rfl (lv_at hl 2 rfl) ?_
        refine lv_aload_n hx hb dM_copyAll_56 rfl (lv_at hl 1 rfl) ?_
        refine n_get S C hin_M 0 rfl rfl 7 (by decide) g_409 rfl dM_copyAll_57 ?_
        refine lv_iload_n hx hb dM_copyAll_60 rfl (lv_at hl 3 rfl) ?_
        refine n_iald S C 3 rfl (i := fr) (by omega) (by decide) dM_copyAll_61 ?_
        refine lv_topi (nm_r (e' := nI (c0.2)) hS.1.2 ?_)
        refine n_iast S C 3 rfl (i := to) (by omega) (by decide) dM_copyAll_62 (fun H locs C => ?_)
        replace C : Cx D ca s0 A s [(h0, .inr (3, mF q (th) (tz))), (q 3, .inl (ca 1, 9600, .inl (b1))), (q 4, .inl (ca 0, 6, .inl (upd (F 4) to (nI k)))), (q 5, .inl (ca 0, 6, .inl (upd (F 5) to (nI (c0.2))))), (q 6, .inl (ca 0, 6, .inl (F 6))), (q 7, .inl (ca 1, 6, .inl (F 7))), (q 8, .inl (ca 0, 6, .inl (F 8))), (q 9, .inl (ca 0, 6, .inl (F 9)))] H locs := C
        refine lv_aload_n hx hb dM_copyAll_63 rfl (lv_at hl 1 rfl) ?_
        refine n_get S C hin_M 0 rfl rfl 8 (by decide) g_410 rfl dM_copyAll_64 ?_
        refine lv_iload_n hx hb dM_copyAll_67 rfl (lv_at hl 2 rfl) ?_
        refine lv_aload_n hx hb dM_copyAll_68 rfl (lv_at hl 1 rfl) ?_
        refine n_get S C hin_M 0 rfl rfl 8 (by decide) g_410 rfl dM_copyAll_69 ?_
        refine lv_iload_n hx hb dM_copyAll_72 rfl (lv_at hl 3 rfl) ?_
        refine n_iald S C 4 rfl (i := fr) (by omega) (by decide) dM_copyAll_73 ?_
        refine lv_topi (nm_r (e' := nI en) hS.2.2.1 ?_)
        refine n_iast S C 4 rfl (i := to) (by omega) (by decide) dM_copyAll_74 (fun H locs C => ?_)
        replace C : Cx D ca s0 A s [(h0, .inr (3, mF q (th) (tz))), (q 3, .inl (ca 1, 9600, .inl (b1))), (q 4, .inl (ca 0, 6, .inl (upd (F 4) to (nI k)))), (q 5, .inl (ca 0, 6, .inl (upd (F 5) to (nI (c0.2))))), (q 6, .inl (ca 0, 6, .inl (upd (F 6) to (nI en)))), (q 7, .inl (ca 1, 6, .inl (F 7))), (q 8, .inl (ca 0, 6, .inl (F 8))), (q 9, .inl (ca 0, 6, .inl (F 9)))] H locs := C
        refine lv_aload_n hx hb dM_copyAll_75 rfl (lv_at hl 1 rfl) ?_
        refine n_get S C hin_M 0 rfl rfl 9 (by decide) g_411 rfl dM_copyAll_76 ?_
        refine lv_iload_n hx hb dM_copyAll_79 rfl (lv_at hl 2 rfl) ?_
        refine lv_aload_n hx hb dM_copyAll_80 rfl (lv_at hl 1 rfl) ?_
        refine n_get S C hin_M 0 rfl rfl 9 (by decide) g_411 rfl dM_copyAll_81 ?_
        refine lv_iload_n hx hb dM_copyAll_84 rfl (lv_at hl 3 rfl) ?_
        refine n_zald S C 5 rfl (i := fr) (by omega) (by decide) dM_copyAll_85 ?_
        refine lv_topi (nm_r (e' := b2i dn) hS.2.2.2.2.1 ?_)
        refine n_zast S C 5 rfl (i := to) (by omega) (by decide) dM_copyAll_86 (fun H locs C => ?_)
        replace C : Cx D ca s0 A s [(h0, .inr (3, mF q (th) (tz))), (q 3, .inl (ca 1, 9600, .inl (b1))), (q 4, .inl (ca 0, 6, .inl (upd (F 4) to (nI k)))), (q 5, .inl (ca 0, 6, .inl (upd (F 5) to (nI (c0.2))))), (q 6, .inl (ca 0, 6, .inl (upd (F 6) to (nI en)))), (q 7, .inl (ca 1, 6, .inl (upd (F 7) to (vp_nar .boolean (b2i dn))))), (q 8, .inl (ca 0, 6, .inl (F 8))), (q 9, .inl (ca 0, 6, .inl (F 9)))] H locs := C
        refine lv_aload_n hx hb dM_copyAll_87 rfl (lv_at hl 1 rfl) ?_
        refine n_get S C hin_M 0 rfl rfl 10 (by decide) g_412 rfl dM_copyAll_88 ?_
        refine lv_iload_n hx hb dM_copyAll_91 rfl (lv_at hl 2 rfl) ?_
        refine lv_aload_n hx hb dM_copyAll_92 rfl (lv_at hl 1 rfl) ?_
        refine n_get S C hin_M 0 rfl rfl 10 (by decide) g_412 rfl dM_copyAll_93 ?_
        refine lv_iload_n hx hb dM_copyAll_96 rfl (lv_at hl 3 rfl) ?_
        refine n_iald S C 6 rfl (i := fr) (by omega) (by decide) dM_copyAll_97 ?_
        refine lv_topi (nm_r (e' := tk) hS.2.2.2.1 ?_)
        refine n_iast S C 6 rfl (i := to) (by omega) (by decide) dM_copyAll_98 (fun H locs C => ?_)
        replace C : Cx D ca s0 A s [(h0, .inr (3, mF q (th) (tz))), (q 3, .inl (ca 1, 9600, .inl (b1))), (q 4, .inl (ca 0, 6, .inl (upd (F 4) to (nI k)))), (q 5, .inl (ca 0, 6, .inl (upd (F 5) to (nI (c0.2))))), (q 6, .inl (ca 0, 6, .inl (upd (F 6) to (nI en)))), (q 7, .inl (ca 1, 6, .inl (upd (F 7) to (vp_nar .boolean (b2i dn))))), (q 8, .inl (ca 0, 6, .inl (upd (F 8) to tk))), (q 9, .inl (ca 0, 6, .inl (F 9)))] H locs := C
        refine lv_aload_n hx hb dM_copyAll_99 rfl (lv_at hl 1 rfl) ?_
        refine n_get S C hin_M 0 rfl rfl 11 (by decide) g_413 rfl dM_copyAll_100 ?_
        refine lv_iload_n hx hb dM_copyAll_103 rfl (lv_at hl 2 rfl) ?_
        refine lv_aload_n hx hb dM_copyAll_104 rfl (lv_at hl 1 rfl) ?_
        refine n_get S C hin_M 0 rfl rfl 11 (by decide) g_413 rfl dM_copyAll_105 ?_
        refine lv_iload_n hx hb dM_copyAll_108 rfl (lv_at hl 3 rfl) ?_
        refine n_iald S C 7 rfl (i := fr) (by omega) (by decide) dM_copyAll_109 ?_
        refine lv_topi (nm_r (e' := rm) hS.2.2.2.2.2 ?_)
        refine n_iast S C 7 rfl (i := to) (by omega) (by decide) dM_copyAll_110 (fun H locs C => ?_)
        replace C : Cx D ca s0 A s [(h0, .inr (3, mF q (th) (tz))), (q 3, .inl (ca 1, 9600, .inl (b1))), (q 4, .inl (ca 0, 6, .inl (upd (F 4) to (nI k)))), (q 5, .inl (ca 0, 6, .inl (upd (F 5) to (nI (c0.2))))), (q 6, .inl (ca 0, 6, .inl (upd (F 6) to (nI en)))), (q 7, .inl (ca 1, 6, .inl (upd (F 7) to (vp_nar .boolean (b2i dn))))), (q 8, .inl (ca 0, 6, .inl (upd (F 8) to tk))), (q 9, .inl (ca 0, 6, .inl (upd (F 9) to rm)))] H locs := C
        exact ret ((mkF b1 (upd (F 4) to (nI k)) (upd (F 5) to (nI c0.2)) (upd (F 6) to (nI en)) (upd (F 7) to (vp_nar .boolean (b2i dn))) (upd (F 8) to tk) (upd (F 9) to rm) (F 10) (F 11))) _ _ _ _ _ _ (Nat.le_refl _) (Nat.le_refl _) (⟨mR_s hI, one.up, one.up, one.up, one.up' (b2i_nar _), one.up⟩) C dM_copyAll_111
      · skip
        refine lv_aload_n hx hb dM_copyAll_9 rfl (lv_at hl 1 rfl) ?_
        refine n_get S C hin_M 0 rfl rfl 5 (by decide) g_407 rfl dM_copyAll_10 ?_
        refine lv_sipush (v := nI 1600) hx hb dM_copyAll_13 (by decide) ?_
        refine lv_iload_n hx hb dM_copyAll_16 rfl (lv_at hl 2 rfl) ?_
        refine n_mul S dM_copyAll_17 ?_
        refine lv_iload_n hx hb dM_copyAll_18 rfl (lv_at hl 0 rfl) ?_
        refine n_add S dM_copyAll_19 ?_
        refine lv_aload_n hx hb dM_copyAll_20 rfl (lv_at hl 1 rfl) ?_
        refine n_get S C hin_M 0 rfl rfl 5 (by decide) g_407 rfl dM_copyAll_21 ?_
        refine lv_sipush (v := nI 1600) hx hb dM_copyAll_24 (by decide) ?_
        refine lv_iload_n hx hb dM_copyAll_27 rfl (lv_at hl 3 rfl) ?_
        refine n_mul S dM_copyAll_28 ?_
        refine lv_iload_n hx hb dM_copyAll_29 rfl (lv_at hl 0 rfl) ?_
        refine n_add S dM_copyAll_30 ?_
        refine n_zald S C 1 rfl (i := (1600 * fr) + i) (by omega) (by decide) dM_copyAll_31 ?_
        refine lv_topi (nm_r (e' := b2i (c0.1 i)) ((hI.2 _ (by omega)).trans (hS.1.1 i (by omega))) ?_)
        refine n_zast S C 1 rfl (i := (1600 * to) + i) (by omega) (by decide) dM_copyAll_32 (fun H locs C => ?_)
        replace C : Cx D ca s0 A s [(h0, .inr (3, mF q (th) (tz))), (q 3, .inl (ca 1, 9600, .inl (upd b1 ((1600 * to) + i) (vp_nar .boolean (b2i (c0.1 i)))))), (q 4, .inl (ca 0, 6, .inl (F 4))), (q 5, .inl (ca 0, 6, .inl (F 5))), (q 6, .inl (ca 0, 6, .inl (F 6))), (q 7, .inl (ca 1, 6, .inl (F 7))), (q 8, .inl (ca 0, 6, .inl (F 8))), (q 9, .inl (ca 0, 6, .inl (F 9)))] H locs := C
        refine lv_iinc (k := 0) (v := nI (i + 1)) hx hb dM_copyAll_33 hl rfl (n_inc1 _) (Nat.le_of_ble_eq_true rfl) rfl (fun ls hl => ?_)
        replace hl : lv_has ls 4 [(3, .int (nI (i + 1))), (0, .ref (h0)), (1, .int (nI to)), (2, .int (nI fr))] := hl
        refine lv_goto (tgt := 2) hx hb dM_copyAll_36 (by decide) ?_
        exact ih_lp2 (i + 1) _ _ _ _ (by omega) (by omega) (rS_s hI (b2i_nar _)) C (lv_sub hl [0, 1, 2, 3] rfl)
  exact lp2 (1600 + 1) 0 _ _ _ _ (by omega) (by omega) rS_0 C (lv_sub hl [0, 1, 2, 3] rfl)
abbrev rm_M_copy_no : Room := { frames := 1, cells := 0, slots := 0, locals := 20 }
set_option maxHeartbeats 4000000 in
set_option maxRecDepth 100000 in
theorem c_M_copy_no (l : Launch) (D : va_G) (ca : Nat → ClassId) (s0 : State) (a0 : Array Value) (Z : Wd a0 s0) (h0 : Nat) (q : Nat → Nat) (th tz : Int32) (y z : Int32) (hno2 : ¬ (¬ y < 0 ∧ y < 4) ∨ ¬ (¬ z < 0 ∧ z < 4)) : CtV l yM_copy [.code yM_copy cM_copy 3 none] rm_M_copy_no 0 0 D ca s0 [.ref (h0), .int (y), .int (z)] [(h0, .inr (3, mF q (th) (tz)))] (S := Unit) (fun _ => True) (fun _ => [(h0, .inr (3, mF q (nI 1) (tz)))]) := by
  refine ctV_of (cc := cM_copy) (maxL := 3) (own := RM) Z rfl (by decide) rfl (Nat.le_of_ble_eq_true rfl) ?_
  intro p e s m args below meth c A ls Q S hnm ret C hl
  have hx := S.1
  have hb := S.2.1
  have hown := S.2.2.2.1
  have hts := S.2.2.2.2
  generalize s.heap = H at C ⊢
  generalize ([] : List Loc) = locs at C ⊢
  replace hl : lv_has ls 3 [(0, .ref (h0)), (1, .int (y)), (2, .int (z))] := hl
  refine lv_aload_n hx hb dM_copy_0 rfl (lv_at hl 0 rfl) ?_
  refine lv_iload_n hx hb dM_copy_1 rfl (lv_at hl 1 rfl) ?_
  refine n_callP C (fun hp => va_runS (rest := [.ref (h0)]) S (c_M_isSponge l D ca s0 a0 Z (y) _) (cwS 1 hts (gS g_438 g_439 g_34 g_440) rfl rfl rfl (by decide +kernel) ⟨Nat.le_of_ble_eq_true rfl, Nat.le_of_ble_eq_true rfl⟩) hp rfl rfl hl.1 rfl (lv_room (Nat.le_of_ble_eq_true rfl)) dM_copy_2 ⟨Nat.le_of_ble_eq_true rfl, Nat.le_of_ble_eq_true rfl⟩) (fun r u H locs hp C => ?_)
  subst hp
  refine lv_if_eq (tgt := 19) hx hb dM_copy_5 (by decide) (fun hc5 => ?_) (fun hc5 => ?_)
  · skip
    refine lv_iconst (v := nI 1) hx hb dM_copy_19 (by decide) ?_
    refine n_put S C hin_M tyM tyM_ok nmM 0 rfl rfl 0 (by decide) g_402 rfl rfl rfl rfl (Nat.le_of_ble_eq_true rfl) dM_copy_20 (fun H locs C => ?_)
    replace C : Cx D ca s0 A s [(h0, .inr (3, mF q (nI 1) (tz)))] H locs := C
    refine lv_aload_n hx hb dM_copy_23 rfl (lv_at hl 0 rfl) ?_
    refine n_get S C hin_M 0 rfl rfl 0 (by decide) g_402 rfl dM_copy_24 ?_
    refine n_if_ne (tgt := 36) S (by omega) dM_copy_27 (by decide) (fun hc => ?_) (fun hc => False.elim (by omega))
    exact ret (()) _ _ _ _ _ _ (Nat.le_refl _) (Nat.le_refl _) trivial C dM_copy_36
  · skip
    refine lv_iload_n hx hb dM_copy_8 rfl (lv_at hl 2 rfl) ?_
    refine n_callP C (fun hp => va_runS (rest := [.ref (h0)]) S (c_M_isSponge l D ca s0 a0 Z (z) _) (cwS 1 hts (gS g_438 g_439 g_34 g_440) rfl rfl rfl (by decide +kernel) ⟨Nat.le_of_ble_eq_true rfl, Nat.le_of_ble_eq_true rfl⟩) hp rfl rfl hl.1 rfl (lv_room (Nat.le_of_ble_eq_true rfl)) dM_copy_9 ⟨Nat.le_of_ble_eq_true rfl, Nat.le_of_ble_eq_true rfl⟩) (fun r u H locs hp C => ?_)
    subst hp
    refine lv_topi (nm_r (e' := nI 0) (isSp_no (hno2.resolve_left (fun q => q (of_decide_eq_true (b2i_n0.mp hc5))))) ?_)
    refine n_if_eq (tgt := 19) S (by omega) dM_copy_12 (by decide) (fun hc => ?_) (fun hc => False.elim (by omega))
    refine lv_iconst (v := nI 1) hx hb dM_copy_19 (by decide) ?_
    refine n_put S C hin_M tyM tyM_ok nmM 0 rfl rfl 0 (by decide) g_402 rfl rfl rfl rfl (Nat.le_of_ble_eq_true rfl) dM_copy_20 (fun H locs C => ?_)
    replace C : Cx D ca s0 A s [(h0, .inr (3, mF q (nI 1) (tz)))] H locs := C
    refine lv_aload_n hx hb dM_copy_23 rfl (lv_at hl 0 rfl) ?_
    refine n_get S C hin_M 0 rfl rfl 0 (by decide) g_402 rfl dM_copy_24 ?_
    refine n_if_ne (tgt := 36) S (by omega) dM_copy_27 (by decide) (fun hc => ?_) (fun hc => False.elim (by omega))
    exact ret (()) _ _ _ _ _ _ (Nat.le_refl _) (Nat.le_refl _) trivial C dM_copy_36
abbrev rm_M_copy_ok : Room := { frames := 1, cells := 0, slots := 0, locals := 23 }
set_option maxHeartbeats 4000000 in
set_option maxRecDepth 100000 in
theorem c_M_copy_ok (l : Launch) (D : va_G) (ca : Nat → ClassId) (s0 : State) (a0 : Array Value) (Z : Wd a0 s0) (h0 : Nat) (q : Nat → Nat) (th tz : Int32) (F : MFn) (to fr : Nat) (hto : to < 4) (hfr : fr < 4) (c0 : Co) (k en : Nat) (tk : Int32) (dn : Bool) (rm : Int32) (hS : mSg F fr (c0, k, en, tk, dn, rm)) : CtV l yM_copy [.code yM_copy cM_copy 3 none] rm_M_copy_ok 0 0 D ca s0 [.ref (h0), .int (nI to), .int (nI fr)] [(h0, .inr (3, mF q (th) (tz))), (q 3, .inl (ca 1, 9600, .inl (F 3))), (q 4, .inl (ca 0, 6, .inl (F 4))), (q 5, .inl (ca 0, 6, .inl (F 5))), (q 6, .inl (ca 0, 6, .inl (F 6))), (q 7, .inl (ca 1, 6, .inl (F 7))), (q 8, .inl (ca 0, 6, .inl (F 8))), (q 9, .inl (ca 0, 6, .inl (F 9)))] (S := MFn) (fun u => mU F u to (c0, k, en, tk, dn, rm)) (fun u => [(h0, .inr (3, mF q (nI 0) (tz))), (q 3, .inl (ca 1, 9600, .inl (u 3))), (q 4, .inl (ca 0, 6, .inl (u 4))), (q 5, .inl (ca 0, 6, .inl (u 5))), (q 6, .inl (ca 0, 6, .inl (u 6))), (q 7, .inl (ca 1, 6, .inl (u 7))), (q 8, .inl (ca 0, 6, .inl (u 8))), (q 9, .inl (ca 0, 6, .inl (u 9)))]) := by
  refine ctV_of (cc := cM_copy) (maxL := 3) (own := RM) Z rfl (by decide) rfl (Nat.le_of_ble_eq_true rfl) ?_
  intro p e s m args below meth c A ls Q S hnm ret C hl
  have hx := S.1
  have hb := S.2.1
  have hown := S.2.2.2.1
  have hts := S.2.2.2.2
  generalize s.heap = H at C ⊢
  generalize ([] : List Loc) = locs at C ⊢
  replace hl : lv_has ls 3 [(0, .ref (h0)), (1, .int (nI to)), (2, .int (nI fr))] := hl
  refine lv_aload_n hx hb dM_copy_0 rfl (lv_at hl 0 rfl) ?_
  refine lv_iload_n hx hb dM_copy_1 rfl (lv_at hl 1 rfl) ?_
  refine n_callP C (fun hp => va_runS (rest := [.ref (h0)]) S (c_M_isSponge l D ca s0 a0 Z (nI to) _) (cwS 1 hts (gS g_438 g_439 g_34 g_440) rfl rfl rfl (by decide +kernel) ⟨Nat.le_of_ble_eq_true rfl, Nat.le_of_ble_eq_true rfl⟩) hp rfl rfl hl.1 rfl (lv_room (Nat.le_of_ble_eq_true rfl)) dM_copy_2 ⟨Nat.le_of_ble_eq_true rfl, Nat.le_of_ble_eq_true rfl⟩) (fun r u H locs hp C => ?_)
  subst hp
  refine lv_topi (nm_r (e' := nI 1) (isSp_ok hto) ?_)
  refine n_if_eq (tgt := 19) S (by omega) dM_copy_5 (by decide) (fun hc => False.elim (by omega)) (fun hc => ?_)
  refine lv_iload_n hx hb dM_copy_8 rfl (lv_at hl 2 rfl) ?_
  refine n_callP C (fun hp => va_runS (rest := [.ref (h0)]) S (c_M_isSponge l D ca s0 a0 Z (nI fr) _) (cwS 1 hts (gS g_438 g_439 g_34 g_440) rfl rfl rfl (by decide +kernel) ⟨Nat.le_of_ble_eq_true rfl, Nat.le_of_ble_eq_true rfl⟩) hp rfl rfl hl.1 rfl (lv_room (Nat.le_of_ble_eq_true rfl)) dM_copy_9 ⟨Nat.le_of_ble_eq_true rfl, Nat.le_of_ble_eq_true rfl⟩) (fun r u H locs hp C => ?_)
  subst hp
  refine lv_topi (nm_r (e' := nI 1) (isSp_ok hfr) ?_)
  refine n_if_eq (tgt := 19) S (by omega) dM_copy_12 (by decide) (fun hc => False.elim (by omega)) (fun hc => ?_)
  refine lv_iconst (v := nI 0) hx hb dM_copy_15 (by decide) ?_
  refine lv_goto (tgt := 20) hx hb dM_copy_16 (by decide) ?_
  refine n_put S C hin_M tyM tyM_ok nmM 0 rfl rfl 0 (by decide) g_402 rfl rfl rfl rfl (Nat.le_of_ble_eq_true rfl) dM_copy_20 (fun H locs C => ?_)
  replace C : Cx D ca s0 A s [(h0, .inr (3, mF q (nI 0) (tz))), (q 3, .inl (ca 1, 9600, .inl (F 3))), (q 4, .inl (ca 0, 6, .inl (F 4))), (q 5, .inl (ca 0, 6, .inl (F 5))), (q 6, .inl (ca 0, 6, .inl (F 6))), (q 7, .inl (ca 1, 6, .inl (F 7))), (q 8, .inl (ca 0, 6, .inl (F 8))), (q 9, .inl (ca 0, 6, .inl (F 9)))] H locs := C
  refine lv_aload_n hx hb dM_copy_23 rfl (lv_at hl 0 rfl) ?_
  refine n_get S C hin_M 0 rfl rfl 0 (by decide) g_402 rfl dM_copy_24 ?_
  refine n_if_ne (tgt := 36) S (by omega) dM_copy_27 (by decide) (fun hc => False.elim (by omega)) (fun hc => ?_)
  refine lv_aload_n hx hb dM_copy_30 rfl (lv_at hl 0 rfl) ?_
  refine lv_iload_n hx hb dM_copy_31 rfl (lv_at hl 1 rfl) ?_
  refine lv_iload_n hx hb dM_copy_32 rfl (lv_at hl 2 rfl) ?_
  refine n_callV (wc := [(h0, .inr (3, mF q (nI 0) (tz))), (q 3, .inl (ca 1, 9600, .inl (F 3))), (q 4, .inl (ca 0, 6, .inl (F 4))), (q 5, .inl (ca 0, 6, .inl (F 5))), (q 6, .inl (ca 0, 6, .inl (F 6))), (q 7, .inl (ca 1, 6, .inl (F 7))), (q 8, .inl (ca 0, 6, .inl (F 8))), (q 9, .inl (ca 0, 6, .inl (F 9)))]) (wr := []) C [0, 1, 2, 3, 4, 5, 6, 7] [] rfl rfl rfl rfl (by decide) (fun hp => va_runV (rest := []) S (c_M_copyAll l D ca s0 a0 Z h0 q (nI 0) tz F to fr (by omega) (by omega) c0 k en tk dn rm hS _) (cwV 2 hts (gV g_477 g_478 g_28 g_34 g_479) rfl rfl rfl (by decide +kernel) ⟨Nat.le_of_ble_eq_true rfl, Nat.le_of_ble_eq_true rfl⟩) ⟨hp.1, n_recv C 0 3 rfl rfl, hp.2⟩ rfl rfl hl.1 rfl (lv_room (Nat.le_of_ble_eq_true rfl)) dM_copy_33 ⟨Nat.le_of_ble_eq_true rfl, Nat.le_of_ble_eq_true rfl⟩) (fun u H locs hp C => ?_)
  replace C : Cx D ca s0 A s [(h0, .inr (3, mF q (nI 0) (tz))), (q 3, .inl (ca 1, 9600, .inl (u 3))), (q 4, .inl (ca 0, 6, .inl (u 4))), (q 5, .inl (ca 0, 6, .inl (u 5))), (q 6, .inl (ca 0, 6, .inl (u 6))), (q 7, .inl (ca 1, 6, .inl (u 7))), (q 8, .inl (ca 0, 6, .inl (u 8))), (q 9, .inl (ca 0, 6, .inl (u 9)))] H locs := C.re [0, 1, 2, 3, 4, 5, 6, 7] rfl rfl
  exact ret u _ _ _ _ _ _ (Nat.le_refl _) (Nat.le_refl _) hp C dM_copy_36
abbrev rm_M_end_no1 : Room := { frames := 1, cells := 0, slots := 0, locals := 20 }
set_option maxHeartbeats 4000000 in
set_option maxRecDepth 100000 in
theorem c_M_end_no1 (l : Launch) (D : va_G) (ca : Nat → ClassId) (s0 : State) (a0 : Array Value) (Z : Wd a0 s0) (h0 : Nat) (q : Nat → Nat) (th tz : Int32) (k : Int32) (hno : ¬ (¬ k < 0 ∧ k < 4)) (y : Int32) : CtV l yM_end [.code yM_end cM_end 4 none] rm_M_end_no1 0 0 D ca s0 [.ref (h0), .int (k), .int (y)] [(h0, .inr (3, mF q (th) (tz)))] (S := Unit) (fun _ => True) (fun _ => [(h0, .inr (3, mF q (nI 1) (tz)))]) := by
  refine ctV_of (cc := cM_end) (maxL := 4) (own := RM) Z rfl (by decide) rfl (Nat.le_of_ble_eq_true rfl) ?_
  intro p e s m args below meth c A ls Q S hnm ret C hl
  have hx := S.1
  have hb := S.2.1
  have hown := S.2.2.2.1
  have hts := S.2.2.2.2
  generalize s.heap = H at C ⊢
  generalize ([] : List Loc) = locs at C ⊢
  replace hl : lv_has ls 4 [(0, .ref (h0)), (1, .int (k)), (2, .int (y))] := hl
  refine lv_aload_n hx hb dM_end_0 rfl (lv_at hl 0 rfl) ?_
  refine lv_iload_n hx hb dM_end_1 rfl (lv_at hl 1 rfl) ?_
  refine n_callP C (fun hp => va_runS (rest := [.ref (h0)]) S (c_M_isSponge l D ca s0 a0 Z (k) _) (cwS 1 hts (gS g_438 g_439 g_34 g_440) rfl rfl rfl (by decide +kernel) ⟨Nat.le_of_ble_eq_true rfl, Nat.le_of_ble_eq_true rfl⟩) hp rfl rfl hl.1 rfl (lv_room (Nat.le_of_ble_eq_true rfl)) dM_end_2 ⟨Nat.le_of_ble_eq_true rfl, Nat.le_of_ble_eq_true rfl⟩) (fun r u H locs hp C => ?_)
  subst hp
  refine lv_topi (nm_r (e' := nI 0) (isSp_no hno) ?_)
  refine n_if_ne (tgt := 12) S (by omega) dM_end_5 (by decide) (fun hc => False.elim (by omega)) (fun hc => ?_)
  refine lv_iconst (v := nI 1) hx hb dM_end_8 (by decide) ?_
  refine lv_goto (tgt := 13) hx hb dM_end_9 (by decide) ?_
  refine n_put S C hin_M tyM tyM_ok nmM 0 rfl rfl 0 (by decide) g_402 rfl rfl rfl rfl (Nat.le_of_ble_eq_true rfl) dM_end_13 (fun H locs C => ?_)
  replace C : Cx D ca s0 A s [(h0, .inr (3, mF q (nI 1) (tz)))] H locs := C
  refine lv_aload_n hx hb dM_end_16 rfl (lv_at hl 0 rfl) ?_
  refine n_get S C hin_M 0 rfl rfl 0 (by decide) g_402 rfl dM_end_17 ?_
  refine n_if_le (tgt := 24) S (by omega) dM_end_20 (by decide) (fun hc => False.elim (by omega)) (fun hc => ?_)
  exact ret (()) _ _ _ _ _ _ (Nat.le_refl _) (Nat.le_refl _) trivial C dM_end_23
abbrev rm_M_end_no2 : Room := { frames := 1, cells := 0, slots := 0, locals := 20 }
set_option maxHeartbeats 4000000 in
set_option maxRecDepth 100000 in
theorem c_M_end_no2 (l : Launch) (D : va_G) (ca : Nat → ClassId) (s0 : State) (a0 : Array Value) (Z : Wd a0 s0) (h0 : Nat) (q : Nat → Nat) (th tz : Int32) (k0 : Nat) (hk0 : k0 < 4) (F : MFn) (k : Nat) (hk : k < 16) (h4 : F 4 k0 = nI k) (y : Int32) (hq : (hasL k = true ∧ (y < nI 1 ∨ nI 1000 < y)) ∨ (hasL k = false ∧ y ≠ nI (lenM k))) : CtV l yM_end [.code yM_end cM_end 4 none] rm_M_end_no2 0 0 D ca s0 [.ref (h0), .int (nI k0), .int (y)] [(h0, .inr (3, mF q (th) (tz))), (q 4, .inl (ca 0, 6, .inl (F 4)))] (S := Unit) (fun _ => True) (fun _ => [(h0, .inr (3, mF q (nI 2) (tz))), (q 4, .inl (ca 0, 6, .inl (F 4)))]) := by
  refine ctV_of (cc := cM_end) (maxL := 4) (own := RM) Z rfl (by decide) rfl (Nat.le_of_ble_eq_true rfl) ?_
  intro p e s m args below meth c A ls Q S hnm ret C hl
  have hx := S.1
  have hb := S.2.1
  have hown := S.2.2.2.1
  have hts := S.2.2.2.2
  generalize s.heap = H at C ⊢
  generalize ([] : List Loc) = locs at C ⊢
  replace hl : lv_has ls 4 [(0, .ref (h0)), (1, .int (nI k0)), (2, .int (y))] := hl
  refine lv_aload_n hx hb dM_end_0 rfl (lv_at hl 0 rfl) ?_
  refine lv_iload_n hx hb dM_end_1 rfl (lv_at hl 1 rfl) ?_
  refine n_callP C (fun hp => va_runS (rest := [.ref (h0)]) S (c_M_isSponge l D ca s0 a0 Z (nI k0) _) (cwS 1 hts (gS g_438 g_439 g_34 g_440) rfl rfl rfl (by decide +kernel) ⟨Nat.le_of_ble_eq_true rfl, Nat.le_of_ble_eq_true rfl⟩) hp rfl rfl hl.1 rfl (lv_room (Nat.le_of_ble_eq_true rfl)) dM_end_2 ⟨Nat.le_of_ble_eq_true rfl, Nat.le_of_ble_eq_true rfl⟩) (fun r u H locs hp C => ?_)
  subst hp
  refine lv_topi (nm_r (e' := nI 1) (isSp_ok hk0) ?_)
  refine n_if_ne (tgt := 12) S (by omega) dM_end_5 (by decide) (fun hc => ?_) (fun hc => False.elim (by omega))
  refine lv_iconst (v := nI 0) hx hb dM_end_12 (by decide) ?_
  refine n_put S C hin_M tyM tyM_ok nmM 0 rfl rfl 0 (by decide) g_402 rfl rfl rfl rfl (Nat.le_of_ble_eq_true rfl) dM_end_13 (fun H locs C => ?_)
  replace C : Cx D ca s0 A s [(h0, .inr (3, mF q (nI 0) (tz))), (q 4, .inl (ca 0, 6, .inl (F 4)))] H locs := C
  refine lv_aload_n hx hb dM_end_16 rfl (lv_at hl 0 rfl) ?_
  refine n_get S C hin_M 0 rfl rfl 0 (by decide) g_402 rfl dM_end_17 ?_
  refine n_if_le (tgt := 24) S (by omega) dM_end_20 (by decide) (fun hc => ?_) (fun hc => False.elim (by omega))
  refine lv_aload_n hx hb dM_end_24 rfl (lv_at hl 0 rfl) ?_
  refine n_get S C hin_M 0 rfl rfl 6 (by decide) g_408 rfl dM_end_25 ?_
  refine lv_iload_n hx hb dM_end_28 rfl (lv_at hl 1 rfl) ?_
  refine n_iald S C 1 rfl (i := k0) (by omega) (by decide) dM_end_29 ?_
  refine lv_topi (nm_r (e' := nI k) h4 ?_)
  refine n_callP C (fun hp => va_runS (rest := []) S (c_M_hasLength l D ca s0 a0 Z k hk _) (cwS 1 hts (gS g_453 g_454 g_34 g_455) rfl rfl rfl (by decide +kernel) ⟨Nat.le_of_ble_eq_true rfl, Nat.le_of_ble_eq_true rfl⟩) hp rfl rfl hl.1 rfl (lv_room (Nat.le_of_ble_eq_true rfl)) dM_end_30 ⟨Nat.le_of_ble_eq_true rfl, Nat.le_of_ble_eq_true rfl⟩) (fun r u H locs hp C => ?_)
  subst hp
  rcases hq with ⟨hH, hq⟩ | ⟨hH, hq⟩
  · skip
    refine lv_topi (nm_r (e' := nI 1) (by rw [hH]; rfl) ?_)
    refine n_if_eq (tgt := 56) S (by omega) dM_end_33 (by decide) (fun hc => False.elim (by omega)) (fun hc => ?_)
    refine lv_iload_n hx hb dM_end_36 rfl (lv_at hl 2 rfl) ?_
    refine lv_iconst (v := nI 1) hx hb dM_end_37 (by decide) ?_
    refine lv_icmp_lt (tgt := 52) hx hb dM_end_38 (by decide) (fun hc38 => ?_) (fun hc38 => ?_)
    · skip
      refine lv_iconst (v := nI 0) hx hb dM_end_52 (by decide) ?_
      refine lv_goto (tgt := 74) hx hb dM_end_53 (by decide) ?_
      refine lv_istore_n hx hb dM_end_74 rfl hl (Nat.le_of_ble_eq_true rfl) rfl (fun ls hl => ?_)
      replace hl : lv_has ls 4 [(3, .int (nI 0)), (0, .ref (h0)), (1, .int (nI k0)), (2, .int (y))] := hl
      refine lv_aload_n hx hb dM_end_75 rfl (lv_at hl 1 rfl) ?_
      refine lv_iload_n hx hb dM_end_76 rfl (lv_at hl 0 rfl) ?_
      refine n_if_ne (tgt := 84) S (by omega) dM_end_77 (by decide) (fun hc => False.elim (by omega)) (fun hc => ?_)
      refine lv_iconst (v := nI 2) hx hb dM_end_80 (by decide) ?_
      refine lv_goto (tgt := 98) hx hb dM_end_81 (by decide) ?_
      refine n_put S C hin_M tyM tyM_ok nmM 0 rfl rfl 0 (by decide) g_402 rfl rfl rfl rfl (Nat.le_of_ble_eq_true rfl) dM_end_98 (fun H locs C => ?_)
      replace C : Cx D ca s0 A s [(h0, .inr (3, mF q (nI 2) (tz))), (q 4, .inl (ca 0, 6, .inl (F 4)))] H locs := C
      refine lv_aload_n hx hb dM_end_101 rfl (lv_at hl 1 rfl) ?_
      refine n_get S C hin_M 0 rfl rfl 0 (by decide) g_402 rfl dM_end_102 ?_
      refine n_if_le (tgt := 109) S (by omega) dM_end_105 (by decide) (fun hc => False.elim (by omega)) (fun hc => ?_)
      exact ret (()) _ _ _ _ _ _ (Nat.le_refl _) (Nat.le_refl _) trivial C dM_end_108
    · skip
      refine lv_iload_n hx hb dM_end_41 rfl (lv_at hl 2 rfl) ?_
      refine lv_sipush (v := nI 1000) hx hb dM_end_42 (by decide) ?_
      refine lv_icmp_gt (tgt := 52) hx hb dM_end_45 (by decide) (fun hc => ?_) (fun hc => absurd (hq.resolve_left hc38) hc)
      refine lv_iconst (v := nI 0) hx hb dM_end_52 (by decide) ?_
      refine lv_goto (tgt := 74) hx hb dM_end_53 (by decide) ?_
      refine lv_istore_n hx hb dM_end_74 rfl hl (Nat.le_of_ble_eq_true rfl) rfl (fun ls hl => ?_)
      replace hl : lv_has ls 4 [(3, .int (nI 0)), (0, .ref (h0)), (1, .int (nI k0)), (2, .int (y))] := hl
      refine lv_aload_n hx hb dM_end_75 rfl (lv_at hl 1 rfl) ?_
      refine lv_iload_n hx hb dM_end_76 rfl (lv_at hl 0 rfl) ?_
      refine n_if_ne (tgt := 84) S (by omega) dM_end_77 (by decide) (fun hc => False.elim (by omega)) (fun hc => ?_)
      refine lv_iconst (v := nI 2) hx hb dM_end_80 (by decide) ?_
      refine lv_goto (tgt := 98) hx hb dM_end_81 (by decide) ?_
      refine n_put S C hin_M tyM tyM_ok nmM 0 rfl rfl 0 (by decide) g_402 rfl rfl rfl rfl (Nat.le_of_ble_eq_true rfl) dM_end_98 (fun H locs C => ?_)
      replace C : Cx D ca s0 A s [(h0, .inr (3, mF q (nI 2) (tz))), (q 4, .inl (ca 0, 6, .inl (F 4)))] H locs := C
      refine lv_aload_n hx hb dM_end_101 rfl (lv_at hl 1 rfl) ?_
      refine n_get S C hin_M 0 rfl rfl 0 (by decide) g_402 rfl dM_end_102 ?_
      refine n_if_le (tgt := 109) S (by omega) dM_end_105 (by decide) (fun hc => False.elim (by omega)) (fun hc => ?_)
      exact ret (()) _ _ _ _ _ _ (Nat.le_refl _) (Nat.le_refl _) trivial C dM_end_108
  · skip
    refine lv_topi (nm_r (e' := nI 0) (by rw [hH]; rfl) ?_)
    refine n_if_eq (tgt := 56) S (by omega) dM_end_33 (by decide) (fun hc => ?_) (fun hc => False.elim (by omega))
    refine lv_iload_n hx hb dM_end_56 rfl (lv_at hl 2 rfl) ?_
    refine lv_aload_n hx hb dM_end_57 rfl (lv_at hl 0 rfl) ?_
    refine n_get S C hin_M 0 rfl rfl 6 (by decide) g_408 rfl dM_end_58 ?_
    refine lv_iload_n hx hb dM_end_61 rfl (lv_at hl 1 rfl) ?_
    refine n_iald S C 1 rfl (i := k0) (by omega) (by decide) dM_end_62 ?_
    refine lv_topi (nm_r (e' := nI k) h4 ?_)
    refine n_callP C (fun hp => va_runS (rest := [.int (y)]) S (c_M_lengthOf l D ca s0 a0 Z k hk _) (cwS 1 hts (gS g_456 g_457 g_34 g_458) rfl rfl rfl (by decide +kernel) ⟨Nat.le_of_ble_eq_true rfl, Nat.le_of_ble_eq_true rfl⟩) hp rfl rfl hl.1 rfl (lv_room (Nat.le_of_ble_eq_true rfl)) dM_end_63 ⟨Nat.le_of_ble_eq_true rfl, Nat.le_of_ble_eq_true rfl⟩) (fun r u H locs hp C => ?_)
    subst hp
    refine lv_icmp_ne (tgt := 73) hx hb dM_end_66 (by decide) (fun hc => ?_) (fun hc => absurd hc hq)
    refine lv_iconst (v := nI 0) hx hb dM_end_73 (by decide) ?_
    refine lv_istore_n hx hb dM_end_74 rfl hl (Nat.le_of_ble_eq_true rfl) rfl (fun ls hl => ?_)
    replace hl : lv_has ls 4 [(3, .int (nI 0)), (0, .ref (h0)), (1, .int (nI k0)), (2, .int (y))] := hl
    refine lv_aload_n hx hb dM_end_75 rfl (lv_at hl 1 rfl) ?_
    refine lv_iload_n hx hb dM_end_76 rfl (lv_at hl 0 rfl) ?_
    refine n_if_ne (tgt := 84) S (by omega) dM_end_77 (by decide) (fun hc => False.elim (by omega)) (fun hc => ?_)
    refine lv_iconst (v := nI 2) hx hb dM_end_80 (by decide) ?_
    refine lv_goto (tgt := 98) hx hb dM_end_81 (by decide) ?_
    refine n_put S C hin_M tyM tyM_ok nmM 0 rfl rfl 0 (by decide) g_402 rfl rfl rfl rfl (Nat.le_of_ble_eq_true rfl) dM_end_98 (fun H locs C => ?_)
    replace C : Cx D ca s0 A s [(h0, .inr (3, mF q (nI 2) (tz))), (q 4, .inl (ca 0, 6, .inl (F 4)))] H locs := C
    refine lv_aload_n hx hb dM_end_101 rfl (lv_at hl 1 rfl) ?_
    refine n_get S C hin_M 0 rfl rfl 0 (by decide) g_402 rfl dM_end_102 ?_
    refine n_if_le (tgt := 109) S (by omega) dM_end_105 (by decide) (fun hc => False.elim (by omega)) (fun hc => ?_)
    exact ret (()) _ _ _ _ _ _ (Nat.le_refl _) (Nat.le_refl _) trivial C dM_end_108
abbrev rm_M_end_no3 : Room := { frames := 1, cells := 0, slots := 0, locals := 20 }
set_option maxHeartbeats 4000000 in
set_option maxRecDepth 100000 in
theorem c_M_end_no3 (l : Launch) (D : va_G) (ca : Nat → ClassId) (s0 : State) (a0 : Array Value) (Z : Wd a0 s0) (h0 : Nat) (q : Nat → Nat) (th tz : Int32) (k0 : Nat) (hk0 : k0 < 4) (F : MFn) (k : Nat) (hk : k < 16) (h4 : F 4 k0 = nI k) (h7 : F 7 k0 = b2i true) (len : Nat) (hlen : len ≤ 1000) (hq : (hasL k = true ∧ 1 ≤ len) ∨ (hasL k = false ∧ len = lenM k)) : CtV l yM_end [.code yM_end cM_end 4 none] rm_M_end_no3 0 0 D ca s0 [.ref (h0), .int (nI k0), .int (nI len)] [(h0, .inr (3, mF q (th) (tz))), (q 4, .inl (ca 0, 6, .inl (F 4))), (q 7, .inl (ca 1, 6, .inl (F 7)))] (S := Unit) (fun _ => True) (fun _ => [(h0, .inr (3, mF q (nI 3) (tz))), (q 4, .inl (ca 0, 6, .inl (F 4))), (q 7, .inl (ca 1, 6, .inl (F 7)))]) := by
  refine ctV_of (cc := cM_end) (maxL := 4) (own := RM) Z rfl (by decide) rfl (Nat.le_of_ble_eq_true rfl) ?_
  intro p e s m args below meth c A ls Q S hnm ret C hl
  have hx := S.1
  have hb := S.2.1
  have hown := S.2.2.2.1
  have hts := S.2.2.2.2
  generalize s.heap = H at C ⊢
  generalize ([] : List Loc) = locs at C ⊢
  replace hl : lv_has ls 4 [(0, .ref (h0)), (1, .int (nI k0)), (2, .int (nI len))] := hl
  refine lv_aload_n hx hb dM_end_0 rfl (lv_at hl 0 rfl) ?_
  refine lv_iload_n hx hb dM_end_1 rfl (lv_at hl 1 rfl) ?_
  refine n_callP C (fun hp => va_runS (rest := [.ref (h0)]) S (c_M_isSponge l D ca s0 a0 Z (nI k0) _) (cwS 1 hts (gS g_438 g_439 g_34 g_440) rfl rfl rfl (by decide +kernel) ⟨Nat.le_of_ble_eq_true rfl, Nat.le_of_ble_eq_true rfl⟩) hp rfl rfl hl.1 rfl (lv_room (Nat.le_of_ble_eq_true rfl)) dM_end_2 ⟨Nat.le_of_ble_eq_true rfl, Nat.le_of_ble_eq_true rfl⟩) (fun r u H locs hp C => ?_)
  subst hp
  refine lv_topi (nm_r (e' := nI 1) (isSp_ok hk0) ?_)
  refine n_if_ne (tgt := 12) S (by omega) dM_end_5 (by decide) (fun hc => ?_) (fun hc => False.elim (by omega))
  refine lv_iconst (v := nI 0) hx hb dM_end_12 (by decide) ?_
  refine n_put S C hin_M tyM tyM_ok nmM 0 rfl rfl 0 (by decide) g_402 rfl rfl rfl rfl (Nat.le_of_ble_eq_true rfl) dM_end_13 (fun H locs C => ?_)
  replace C : Cx D ca s0 A s [(h0, .inr (3, mF q (nI 0) (tz))), (q 4, .inl (ca 0, 6, .inl (F 4))), (q 7, .inl (ca 1, 6, .inl (F 7)))] H locs := C
  refine lv_aload_n hx hb dM_end_16 rfl (lv_at hl 0 rfl) ?_
  refine n_get S C hin_M 0 rfl rfl 0 (by decide) g_402 rfl dM_end_17 ?_
  refine n_if_le (tgt := 24) S (by omega) dM_end_20 (by decide) (fun hc => ?_) (fun hc => False.elim (by omega))
  refine lv_aload_n hx hb dM_end_24 rfl (lv_at hl 0 rfl) ?_
  refine n_get S C hin_M 0 rfl rfl 6 (by decide) g_408 rfl dM_end_25 ?_
  refine lv_iload_n hx hb dM_end_28 rfl (lv_at hl 1 rfl) ?_
  refine n_iald S C 1 rfl (i := k0) (by omega) (by decide) dM_end_29 ?_
  refine lv_topi (nm_r (e' := nI k) h4 ?_)
  refine n_callP C (fun hp => va_runS (rest := []) S (c_M_hasLength l D ca s0 a0 Z k hk _) (cwS 1 hts (gS g_453 g_454 g_34 g_455) rfl rfl rfl (by decide +kernel) ⟨Nat.le_of_ble_eq_true rfl, Nat.le_of_ble_eq_true rfl⟩) hp rfl rfl hl.1 rfl (lv_room (Nat.le_of_ble_eq_true rfl)) dM_end_30 ⟨Nat.le_of_ble_eq_true rfl, Nat.le_of_ble_eq_true rfl⟩) (fun r u H locs hp C => ?_)
  subst hp
  rcases hq with ⟨hH, hq⟩ | ⟨hH, hq⟩
  · skip
    refine lv_topi (nm_r (e' := nI 1) (by rw [hH]; rfl) ?_)
    refine n_if_eq (tgt := 56) S (by omega) dM_end_33 (by decide) (fun hc => False.elim (by omega)) (fun hc => ?_)
    refine lv_iload_n hx hb dM_end_36 rfl (lv_at hl 2 rfl) ?_
    refine lv_iconst (v := nI 1) hx hb dM_end_37 (by decide) ?_
    refine n_icmp_lt (tgt := 52) S (by omega) (by omega) dM_end_38 (by decide) (fun hc => False.elim (by omega)) (fun hc => ?_)
    refine lv_iload_n hx hb dM_end_41 rfl (lv_at hl 2 rfl) ?_
    refine lv_sipush (v := nI 1000) hx hb dM_end_42 (by decide) ?_
    refine n_icmp_gt (tgt := 52) S (by omega) (by omega) dM_end_45 (by decide) (fun hc => False.elim (by omega)) (fun hc => ?_)
    refine lv_iconst (v := nI 1) hx hb dM_end_48 (by decide) ?_
    refine lv_goto (tgt := 74) hx hb dM_end_49 (by decide) ?_
    refine lv_istore_n hx hb dM_end_74 rfl hl (Nat.le_of_ble_eq_true rfl) rfl (fun ls hl => ?_)
    replace hl : lv_has ls 4 [(3, .int (nI 1)), (0, .ref (h0)), (1, .int (nI k0)), (2, .int (nI len))] := hl
    refine lv_aload_n hx hb dM_end_75 rfl (lv_at hl 1 rfl) ?_
    refine lv_iload_n hx hb dM_end_76 rfl (lv_at hl 0 rfl) ?_
    refine n_if_ne (tgt := 84) S (by omega) dM_end_77 (by decide) (fun hc => ?_) (fun hc => False.elim (by omega))
    refine lv_aload_n hx hb dM_end_84 rfl (lv_at hl 1 rfl) ?_
    refine n_get S C hin_M 0 rfl rfl 9 (by decide) g_411 rfl dM_end_85 ?_
    refine lv_iload_n hx hb dM_end_88 rfl (lv_at hl 2 rfl) ?_
    refine n_zald S C 2 rfl (i := k0) (by omega) (by decide) dM_end_89 ?_
    refine lv_topi (nm_r (e' := nI 1) h7 ?_)
    refine n_if_eq (tgt := 97) S (by omega) dM_end_90 (by decide) (fun hc => False.elim (by omega)) (fun hc => ?_)
    refine lv_iconst (v := nI 3) hx hb dM_end_93 (by decide) ?_
    refine lv_goto (tgt := 98) hx hb dM_end_94 (by decide) ?_
    refine n_put S C hin_M tyM tyM_ok nmM 0 rfl rfl 0 (by decide) g_402 rfl rfl rfl rfl (Nat.le_of_ble_eq_true rfl) dM_end_98 (fun H locs C => ?_)
    replace C : Cx D ca s0 A s [(h0, .inr (3, mF q (nI 3) (tz))), (q 4, .inl (ca 0, 6, .inl (F 4))), (q 7, .inl (ca 1, 6, .inl (F 7)))] H locs := C
    refine lv_aload_n hx hb dM_end_101 rfl (lv_at hl 1 rfl) ?_
    refine n_get S C hin_M 0 rfl rfl 0 (by decide) g_402 rfl dM_end_102 ?_
    refine n_if_le (tgt := 109) S (by omega) dM_end_105 (by decide) (fun hc => False.elim (by omega)) (fun hc => ?_)
    exact ret (()) _ _ _ _ _ _ (Nat.le_refl _) (Nat.le_refl _) trivial C dM_end_108
  · skip
    refine lv_topi (nm_r (e' := nI 0) (by rw [hH]; rfl) ?_)
    refine n_if_eq (tgt := 56) S (by omega) dM_end_33 (by decide) (fun hc => ?_) (fun hc => False.elim (by omega))
    refine lv_iload_n hx hb dM_end_56 rfl (lv_at hl 2 rfl) ?_
    refine lv_aload_n hx hb dM_end_57 rfl (lv_at hl 0 rfl) ?_
    refine n_get S C hin_M 0 rfl rfl 6 (by decide) g_408 rfl dM_end_58 ?_
    refine lv_iload_n hx hb dM_end_61 rfl (lv_at hl 1 rfl) ?_
    refine n_iald S C 1 rfl (i := k0) (by omega) (by decide) dM_end_62 ?_
    refine lv_topi (nm_r (e' := nI k) h4 ?_)
    refine n_callP C (fun hp => va_runS (rest := [.int (nI len)]) S (c_M_lengthOf l D ca s0 a0 Z k hk _) (cwS 1 hts (gS g_456 g_457 g_34 g_458) rfl rfl rfl (by decide +kernel) ⟨Nat.le_of_ble_eq_true rfl, Nat.le_of_ble_eq_true rfl⟩) hp rfl rfl hl.1 rfl (lv_room (Nat.le_of_ble_eq_true rfl)) dM_end_63 ⟨Nat.le_of_ble_eq_true rfl, Nat.le_of_ble_eq_true rfl⟩) (fun r u H locs hp C => ?_)
    subst hp
    refine n_icmp_ne (tgt := 73) S (by omega) (by omega) dM_end_66 (by decide) (fun hc => False.elim (by omega)) (fun hc => ?_)
    refine lv_iconst (v := nI 1) hx hb dM_end_69 (by decide) ?_
    refine lv_goto (tgt := 74) hx hb dM_end_70 (by decide) ?_
    refine lv_istore_n hx hb dM_end_74 rfl hl (Nat.le_of_ble_eq_true rfl) rfl (fun ls hl => ?_)
    replace hl : lv_has ls 4 [(3, .int (nI 1)), (0, .ref (h0)), (1, .int (nI k0)), (2, .int (nI len))] := hl
    refine lv_aload_n hx hb dM_end_75 rfl (lv_at hl 1 rfl) ?_
    refine lv_iload_n hx hb dM_end_76 rfl (lv_at hl 0 rfl) ?_
    refine n_if_ne (tgt := 84) S (by omega) dM_end_77 (by decide) (fun hc => ?_) (fun hc => False.elim (by omega))
    refine lv_aload_n hx hb dM_end_84 rfl (lv_at hl 1 rfl) ?_
    refine n_get S C hin_M 0 rfl rfl 9 (by decide) g_411 rfl dM_end_85 ?_
    refine lv_iload_n hx hb dM_end_88 rfl (lv_at hl 2 rfl) ?_
    refine n_zald S C 2 rfl (i := k0) (by omega) (by decide) dM_end_89 ?_
    refine lv_topi (nm_r (e' := nI 1) h7 ?_)
    refine n_if_eq (tgt := 97) S (by omega) dM_end_90 (by decide) (fun hc => False.elim (by omega)) (fun hc => ?_)
    refine lv_iconst (v := nI 3) hx hb dM_end_93 (by decide) ?_
    refine lv_goto (tgt := 98) hx hb dM_end_94 (by decide) ?_
    refine n_put S C hin_M tyM tyM_ok nmM 0 rfl rfl 0 (by decide) g_402 rfl rfl rfl rfl (Nat.le_of_ble_eq_true rfl) dM_end_98 (fun H locs C => ?_)
    replace C : Cx D ca s0 A s [(h0, .inr (3, mF q (nI 3) (tz))), (q 4, .inl (ca 0, 6, .inl (F 4))), (q 7, .inl (ca 1, 6, .inl (F 7)))] H locs := C
    refine lv_aload_n hx hb dM_end_101 rfl (lv_at hl 1 rfl) ?_
    refine n_get S C hin_M 0 rfl rfl 0 (by decide) g_402 rfl dM_end_102 ?_
    refine n_if_le (tgt := 109) S (by omega) dM_end_105 (by decide) (fun hc => False.elim (by omega)) (fun hc => ?_)
    exact ret (()) _ _ _ _ _ _ (Nat.le_refl _) (Nat.le_refl _) trivial C dM_end_108
abbrev rm_M_end_ok : Room := { frames := 6, cells := 0, slots := 0, locals := 139 }
set_option maxHeartbeats 4000000 in
set_option maxRecDepth 100000 in
theorem c_M_end_ok (l : Launch) (D : va_G) (ca : Nat → ClassId) (s0 : State) (a0 : Array Value) (Z : Wd a0 s0) (h0 : Nat) (q : Nat → Nat) (th tz : Int32) (F : MFn) (k0 : Nat) (hk0 : k0 < 4) (c0 : Co) (k en : Nat) (tk : Int32) (rm : Int32) (hk : k < 16) (hS : mSg F k0 (c0, k, en, tk, false, rm)) (hp0 : c0.2 < wid k) (hen : en < 256) (len : Nat) (hlen : len ≤ 1000) (hq : (hasL k = true ∧ 1 ≤ len) ∨ (hasL k = false ∧ len = lenM k)) : CtV l yM_end [.code yM_end cM_end 4 none] rm_M_end_ok 0 0 D ca s0 [.ref (h0), .int (nI k0), .int (nI len)] [(h0, .inr (3, mF q (th) (tz))), (q 3, .inl (ca 1, 9600, .inl (F 3))), (q 4, .inl (ca 0, 6, .inl (F 4))), (q 5, .inl (ca 0, 6, .inl (F 5))), (q 6, .inl (ca 0, 6, .inl (F 6))), (q 7, .inl (ca 1, 6, .inl (F 7))), (q 8, .inl (ca 0, 6, .inl (F 8))), (q 9, .inl (ca 0, 6, .inl (F 9))), (q 10, .inl (ca 1, 1600, .inl (F 10))), (q 11, .inl (ca 1, 1600, .inl (F 11)))] (S := MFn) (fun u => mU F u k0 ((finA (wid k) k c0 len en, 0), k, en, tk, true, (if len = 0 then -1 else nI len))) (fun u => [(h0, .inr (3, mF q (nI 0) (tz))), (q 3, .inl (ca 1, 9600, .inl (u 3))), (q 4, .inl (ca 0, 6, .inl (u 4))), (q 5, .inl (ca 0, 6, .inl (u 5))), (q 6, .inl (ca 0, 6, .inl (u 6))), (q 7, .inl (ca 1, 6, .inl (u 7))), (q 8, .inl (ca 0, 6, .inl (u 8))), (q 9, .inl (ca 0, 6, .inl (u 9))), (q 10, .inl (ca 1, 1600, .inl (u 10))), (q 11, .inl (ca 1, 1600, .inl (u 11)))]) := by
  refine ctV_of (cc := cM_end) (maxL := 4) (own := RM) Z rfl (by decide) rfl (Nat.le_of_ble_eq_true rfl) ?_
  intro p e s m args below meth c A ls Q S hnm ret C hl
  have hx := S.1
  have hb := S.2.1
  have hown := S.2.2.2.1
  have hts := S.2.2.2.2
  generalize s.heap = H at C ⊢
  generalize ([] : List Loc) = locs at C ⊢
  replace hl : lv_has ls 4 [(0, .ref (h0)), (1, .int (nI k0)), (2, .int (nI len))] := hl
  refine lv_aload_n hx hb dM_end_0 rfl (lv_at hl 0 rfl) ?_
  refine lv_iload_n hx hb dM_end_1 rfl (lv_at hl 1 rfl) ?_
  refine n_callP C (fun hp => va_runS (rest := [.ref (h0)]) S (c_M_isSponge l D ca s0 a0 Z (nI k0) _) (cwS 1 hts (gS g_438 g_439 g_34 g_440) rfl rfl rfl (by decide +kernel) ⟨Nat.le_of_ble_eq_true rfl, Nat.le_of_ble_eq_true rfl⟩) hp rfl rfl hl.1 rfl (lv_room (Nat.le_of_ble_eq_true rfl)) dM_end_2 ⟨Nat.le_of_ble_eq_true rfl, Nat.le_of_ble_eq_true rfl⟩) (fun r u H locs hp C => ?_)
  subst hp
  refine lv_topi (nm_r (e' := nI 1) (isSp_ok hk0) ?_)
  refine n_if_ne (tgt := 12) S (by omega) dM_end_5 (by decide) (fun hc => ?_) (fun hc => False.elim (by omega))
  refine lv_iconst (v := nI 0) hx hb dM_end_12 (by decide) ?_
  refine n_put S C hin_M tyM tyM_ok nmM 0 rfl rfl 0 (by decide) g_402 rfl rfl rfl rfl (Nat.le_of_ble_eq_true rfl) dM_end_13 (fun H locs C => ?_)
  replace C : Cx D ca s0 A s [(h0, .inr (3, mF q (nI 0) (tz))), (q 3, .inl (ca 1, 9600, .inl (F 3))), (q 4, .inl (ca 0, 6, .inl (F 4))), (q 5, .inl (ca 0, 6, .inl (F 5))), (q 6, .inl (ca 0, 6, .inl (F 6))), (q 7, .inl (ca 1, 6, .inl (F 7))), (q 8, .inl (ca 0, 6, .inl (F 8))), (q 9, .inl (ca 0, 6, .inl (F 9))), (q 10, .inl (ca 1, 1600, .inl (F 10))), (q 11, .inl (ca 1, 1600, .inl (F 11)))] H locs := C
  refine lv_aload_n hx hb dM_end_16 rfl (lv_at hl 0 rfl) ?_
  refine n_get S C hin_M 0 rfl rfl 0 (by decide) g_402 rfl dM_end_17 ?_
  refine n_if_le (tgt := 24) S (by omega) dM_end_20 (by decide) (fun hc => ?_) (fun hc => False.elim (by omega))
  refine lv_aload_n hx hb dM_end_24 rfl (lv_at hl 0 rfl) ?_
  refine n_get S C hin_M 0 rfl rfl 6 (by decide) g_408 rfl dM_end_25 ?_
  refine lv_iload_n hx hb dM_end_28 rfl (lv_at hl 1 rfl) ?_
  refine n_iald S C 2 rfl (i := k0) (by omega) (by decide) dM_end_29 ?_
  refine lv_topi (nm_r (e' := nI k) hS.2.1 ?_)
  refine n_callP C (fun hp => va_runS (rest := []) S (c_M_hasLength l D ca s0 a0 Z k hk _) (cwS 1 hts (gS g_453 g_454 g_34 g_455) rfl rfl rfl (by decide +kernel) ⟨Nat.le_of_ble_eq_true rfl, Nat.le_of_ble_eq_true rfl⟩) hp rfl rfl hl.1 rfl (lv_room (Nat.le_of_ble_eq_true rfl)) dM_end_30 ⟨Nat.le_of_ble_eq_true rfl, Nat.le_of_ble_eq_true rfl⟩) (fun r u H locs hp C => ?_)
  subst hp
  rcases hq with ⟨hH, hq⟩ | ⟨hH, hq⟩
  · skip
    refine lv_topi (nm_r (e' := nI 1) (by rw [hH]; rfl) ?_)
    refine n_if_eq (tgt := 56) S (by omega) dM_end_33 (by decide) (fun hc => False.elim (by omega)) (fun hc => ?_)
    refine lv_iload_n hx hb dM_end_36 rfl (lv_at hl 2 rfl) ?_
    refine lv_iconst (v := nI 1) hx hb dM_end_37 (by decide) ?_
    refine n_icmp_lt (tgt := 52) S (by omega) (by omega) dM_end_38 (by decide) (fun hc => False.elim (by omega)) (fun hc => ?_)
    refine lv_iload_n hx hb dM_end_41 rfl (lv_at hl 2 rfl) ?_
    refine lv_sipush (v := nI 1000) hx hb dM_end_42 (by decide) ?_
    refine n_icmp_gt (tgt := 52) S (by omega) (by omega) dM_end_45 (by decide) (fun hc => False.elim (by omega)) (fun hc => ?_)
    refine lv_iconst (v := nI 1) hx hb dM_end_48 (by decide) ?_
    refine lv_goto (tgt := 74) hx hb dM_end_49 (by decide) ?_
    refine lv_istore_n hx hb dM_end_74 rfl hl (Nat.le_of_ble_eq_true rfl) rfl (fun ls hl => ?_)
    replace hl : lv_has ls 4 [(3, .int (nI 1)), (0, .ref (h0)), (1, .int (nI k0)), (2, .int (nI len))] := hl
    refine lv_aload_n hx hb dM_end_75 rfl (lv_at hl 1 rfl) ?_
    refine lv_iload_n hx hb dM_end_76 rfl (lv_at hl 0 rfl) ?_
    refine n_if_ne (tgt := 84) S (by omega) dM_end_77 (by decide) (fun hc => ?_) (fun hc => False.elim (by omega))
    refine lv_aload_n hx hb dM_end_84 rfl (lv_at hl 1 rfl) ?_
    refine n_get S C hin_M 0 rfl rfl 9 (by decide) g_411 rfl dM_end_85 ?_
    refine lv_iload_n hx hb dM_end_88 rfl (lv_at hl 2 rfl) ?_
    refine n_zald S C 5 rfl (i := k0) (by omega) (by decide) dM_end_89 ?_
    refine lv_topi (nm_r (e' := nI 0) hS.2.2.2.2.1 ?_)
    refine n_if_eq (tgt := 97) S (by omega) dM_end_90 (by decide) (fun hc => ?_) (fun hc => False.elim (by omega))
    refine lv_iconst (v := nI 0) hx hb dM_end_97 (by decide) ?_
    refine n_put S C hin_M tyM tyM_ok nmM 0 rfl rfl 0 (by decide) g_402 rfl rfl rfl rfl (Nat.le_of_ble_eq_true rfl) dM_end_98 (fun H locs C => ?_)
    replace C : Cx D ca s0 A s [(h0, .inr (3, mF q (nI 0) (tz))), (q 3, .inl (ca 1, 9600, .inl (F 3))), (q 4, .inl (ca 0, 6, .inl (F 4))), (q 5, .inl (ca 0, 6, .inl (F 5))), (q 6, .inl (ca 0, 6, .inl (F 6))), (q 7, .inl (ca 1, 6, .inl (F 7))), (q 8, .inl (ca 0, 6, .inl (F 8))), (q 9, .inl (ca 0, 6, .inl (F 9))), (q 10, .inl (ca 1, 1600, .inl (F 10))), (q 11, .inl (ca 1, 1600, .inl (F 11)))] H locs := C
    refine lv_aload_n hx hb dM_end_101 rfl (lv_at hl 1 rfl) ?_
    refine n_get S C hin_M 0 rfl rfl 0 (by decide) g_402 rfl dM_end_102 ?_
    refine n_if_le (tgt := 109) S (by omega) dM_end_105 (by decide) (fun hc => ?_) (fun hc => False.elim (by omega))
    have hwi := wid_in k hk
    replace hk0 : k0 < 6 := by omega
    refine lv_aload_n hx hb dM_end_109 rfl (lv_at hl 1 rfl) ?_
    refine n_get S C hin_M 0 rfl rfl 6 (by decide) g_408 rfl dM_end_110 ?_
    refine lv_iload_n hx hb dM_end_113 rfl (lv_at hl 2 rfl) ?_
    refine n_iald S C 2 rfl (i := k0) (by omega) (by decide) dM_end_114 ?_
    refine lv_topi (nm_r (e' := nI k) hS.2.1 ?_)
    refine lv_bipush (v := nI 7) hx hb dM_end_115 (by decide) ?_
    have J141 : ∀ (b1 : Nat → Int32) (p1 : Nat → Int32) (n1 : Nat → Int32) (x1 : Nat → Int32) (H : Heap) (locs : List Loc) (ls : Array Slot), mR (F 3) (F 5) k0 (finC (wid k) k c0 len) b1 p1 → Cx D ca s0 A s [(h0, .inr (3, mF q (nI 0) (tz))), (q 3, .inl (ca 1, 9600, .inl (b1))), (q 4, .inl (ca 0, 6, .inl (F 4))), (q 5, .inl (ca 0, 6, .inl (p1))), (q 6, .inl (ca 0, 6, .inl (F 6))), (q 7, .inl (ca 1, 6, .inl (F 7))), (q 8, .inl (ca 0, 6, .inl (F 8))), (q 9, .inl (ca 0, 6, .inl (F 9))), (q 10, .inl (ca 1, 1600, .inl (n1))), (q 11, .inl (ca 1, 1600, .inl (x1)))] H locs → lv_has ls 4 [(0, .ref (h0)), (1, .int (nI k0)), (2, .int (nI len))] → W p l e rm_M_end_ok s m args below meth c H locs 0 0 Q (F0 m 141 ls []) := by
      intro b1 p1 n1 x1 H locs ls hI C hl
      refine lv_aload_n hx hb dM_end_141 rfl (lv_at hl 0 rfl) ?_
      refine lv_iload_n hx hb dM_end_142 rfl (lv_at hl 1 rfl) ?_
      refine lv_aload_n hx hb dM_end_143 rfl (lv_at hl 0 rfl) ?_
      refine n_get S C hin_M 0 rfl rfl 7 (by decide) g_409 rfl dM_end_144 ?_
      refine lv_iload_n hx hb dM_end_147 rfl (lv_at hl 1 rfl) ?_
      refine n_iald S C 3 rfl (i := k0) (by omega) (by decide) dM_end_148 ?_
      refine lv_topi (nm_r (e' := nI ((finC (wid k) k c0 len).2)) hI.1.2 ?_)
      refine lv_aload_n hx hb dM_end_149 rfl (lv_at hl 0 rfl) ?_
      refine n_get S C hin_M 0 rfl rfl 8 (by decide) g_410 rfl dM_end_150 ?_
      refine lv_iload_n hx hb dM_end_153 rfl (lv_at hl 1 rfl) ?_
      refine n_iald S C 4 rfl (i := k0) (by omega) (by decide) dM_end_154 ?_
      refine lv_topi (nm_r (e' := nI en) hS.2.2.1 ?_)
      refine n_callV (wc := [(h0, .inr (3, mF q (nI 0) (tz))), (q 3, .inl (ca 1, 9600, .inl (b1)))]) (wr := [(q 4, .inl (ca 0, 6, .inl (F 4))), (q 5, .inl (ca 0, 6, .inl (p1))), (q 6, .inl (ca 0, 6, .inl (F 6))), (q 7, .inl (ca 1, 6, .inl (F 7))), (q 8, .inl (ca 0, 6, .inl (F 8))), (q 9, .inl (ca 0, 6, .inl (F 9))), (q 10, .inl (ca 1, 1600, .inl (n1))), (q 11, .inl (ca 1, 1600, .inl (x1)))]) C [0, 1] [2, 3, 4, 5, 6, 7, 8, 9] rfl rfl rfl rfl (by decide) (fun hp => va_runV (rest := []) S (c_M_meet l D ca s0 a0 Z h0 q (nI 0) tz k0 ((finC (wid k) k c0 len).2) (en) hk0 (by have := finC_lt (k := k) (len := len) hp0; omega) hen b1 ((finC (wid k) k c0 len).1) hI.1.1 _) (cwV 3 hts (gV g_357 g_358 g_14 g_34 g_359) rfl rfl rfl (by decide +kernel) ⟨Nat.le_of_ble_eq_true rfl, Nat.le_of_ble_eq_true rfl⟩) ⟨hp.1, n_recv C 0 3 rfl rfl, hp.2⟩ rfl rfl hl.1 rfl (lv_room (Nat.le_of_ble_eq_true rfl)) dM_end_155 ⟨Nat.le_of_ble_eq_true rfl, Nat.le_of_ble_eq_true rfl⟩) (fun u H locs hp C => ?_)
      replace C : Cx D ca s0 A s [(h0, .inr (3, mF q (nI 0) (tz))), (q 3, .inl (ca 1, 9600, .inl (u))), (q 4, .inl (ca 0, 6, .inl (F 4))), (q 5, .inl (ca 0, 6, .inl (p1))), (q 6, .inl (ca 0, 6, .inl (F 6))), (q 7, .inl (ca 1, 6, .inl (F 7))), (q 8, .inl (ca 0, 6, .inl (F 8))), (q 9, .inl (ca 0, 6, .inl (F 9))), (q 10, .inl (ca 1, 1600, .inl (n1))), (q 11, .inl (ca 1, 1600, .inl (x1)))] H locs := C.re [8, 9, 0, 1, 2, 3, 4, 5, 6, 7] rfl rfl
      obtain ⟨bm, rfl⟩ : ∃ z, z = u := ⟨_, rfl⟩
      have hbm := hp
      refine lv_aload_n hx hb dM_end_158 rfl (lv_at hl 0 rfl) ?_
      refine lv_iload_n hx hb dM_end_159 rfl (lv_at hl 1 rfl) ?_
      refine lv_aload_n hx hb dM_end_160 rfl (lv_at hl 0 rfl) ?_
      refine n_get S C hin_M 0 rfl rfl 6 (by decide) g_408 rfl dM_end_161 ?_
      refine lv_iload_n hx hb dM_end_164 rfl (lv_at hl 1 rfl) ?_
      refine n_iald S C 2 rfl (i := k0) (by omega) (by decide) dM_end_165 ?_
      refine lv_topi (nm_r (e' := nI k) hS.2.1 ?_)
      refine n_callP C (fun hp => va_runS (rest := [.int (nI k0), .ref (h0)]) S (c_M_widthOf l D ca s0 a0 Z k hk _) (cwS 1 hts (gS g_345 g_346 g_34 g_347) rfl rfl rfl (by decide +kernel) ⟨Nat.le_of_ble_eq_true rfl, Nat.le_of_ble_eq_true rfl⟩) hp rfl rfl hl.1 rfl (lv_room (Nat.le_of_ble_eq_true rfl)) dM_end_166 ⟨Nat.le_of_ble_eq_true rfl, Nat.le_of_ble_eq_true rfl⟩) (fun r u H locs hp C => ?_)
      subst hp
      refine lv_iconst (v := nI 1) hx hb dM_end_169 (by decide) ?_
      refine n_sub S (by omega) dM_end_170 ?_
      refine lv_sipush (v := nI 128) hx hb dM_end_171 (by decide) ?_
      refine n_callV (wc := [(h0, .inr (3, mF q (nI 0) (tz))), (q 3, .inl (ca 1, 9600, .inl (bm)))]) (wr := [(q 4, .inl (ca 0, 6, .inl (F 4))), (q 5, .inl (ca 0, 6, .inl (p1))), (q 6, .inl (ca 0, 6, .inl (F 6))), (q 7, .inl (ca 1, 6, .inl (F 7))), (q 8, .inl (ca 0, 6, .inl (F 8))), (q 9, .inl (ca 0, 6, .inl (F 9))), (q 10, .inl (ca 1, 1600, .inl (n1))), (q 11, .inl (ca 1, 1600, .inl (x1)))]) C [0, 1] [2, 3, 4, 5, 6, 7, 8, 9] rfl rfl rfl rfl (by decide) (fun hp => va_runV (rest := []) S (c_M_meet l D ca s0 a0 Z h0 q (nI 0) tz k0 (wid k - 1) (128) hk0 (by omega) (by decide) bm (mixB (finC (wid k) k c0 len).1 (finC (wid k) k c0 len).2 en) hbm.1 _) (cwV 3 hts (gV g_357 g_358 g_14 g_34 g_359) rfl rfl rfl (by decide +kernel) ⟨Nat.le_of_ble_eq_true rfl, Nat.le_of_ble_eq_true rfl⟩) ⟨hp.1, n_recv C 0 3 rfl rfl, hp.2⟩ rfl rfl hl.1 rfl (lv_room (Nat.le_of_ble_eq_true rfl)) dM_end_174 ⟨Nat.le_of_ble_eq_true rfl, Nat.le_of_ble_eq_true rfl⟩) (fun u H locs hp C => ?_)
      replace C : Cx D ca s0 A s [(h0, .inr (3, mF q (nI 0) (tz))), (q 3, .inl (ca 1, 9600, .inl (u))), (q 4, .inl (ca 0, 6, .inl (F 4))), (q 5, .inl (ca 0, 6, .inl (p1))), (q 6, .inl (ca 0, 6, .inl (F 6))), (q 7, .inl (ca 1, 6, .inl (F 7))), (q 8, .inl (ca 0, 6, .inl (F 8))), (q 9, .inl (ca 0, 6, .inl (F 9))), (q 10, .inl (ca 1, 1600, .inl (n1))), (q 11, .inl (ca 1, 1600, .inl (x1)))] H locs := C.re [8, 9, 0, 1, 2, 3, 4, 5, 6, 7] rfl rfl
      obtain ⟨bn, rfl⟩ : ∃ z, z = u := ⟨_, rfl⟩
      have hbn := hp
      refine lv_aload_n hx hb dM_end_177 rfl (lv_at hl 0 rfl) ?_
      refine lv_iload_n hx hb dM_end_178 rfl (lv_at hl 1 rfl) ?_
      refine n_callV (wc := [(h0, .inr (3, mF q (nI 0) (tz))), (q 3, .inl (ca 1, 9600, .inl (bn))), (q 10, .inl (ca 1, 1600, .inl (n1))), (q 11, .inl (ca 1, 1600, .inl (x1)))]) (wr := [(q 4, .inl (ca 0, 6, .inl (F 4))), (q 5, .inl (ca 0, 6, .inl (p1))), (q 6, .inl (ca 0, 6, .inl (F 6))), (q 7, .inl (ca 1, 6, .inl (F 7))), (q 8, .inl (ca 0, 6, .inl (F 8))), (q 9, .inl (ca 0, 6, .inl (F 9)))]) C [0, 1, 8, 9] [2, 3, 4, 5, 6, 7] rfl rfl rfl rfl (by decide) (fun hp => va_runV (rest := []) S (c_M_permute l D ca s0 a0 Z h0 q (nI 0) tz k0 hk0 bn n1 x1 (mixB (mixB (finC (wid k) k c0 len).1 (finC (wid k) k c0 len).2 en) (wid k - 1) 128) hbn.1 _) (cwV 1 hts (gV g_360 g_361 g_15 g_34 g_362) rfl rfl rfl (by decide +kernel) ⟨Nat.le_of_ble_eq_true rfl, Nat.le_of_ble_eq_true rfl⟩) ⟨hp.1, n_recv C 0 3 rfl rfl, hp.2⟩ rfl rfl hl.1 rfl (lv_room (Nat.le_of_ble_eq_true rfl)) dM_end_179 ⟨Nat.le_of_ble_eq_true rfl, Nat.le_of_ble_eq_true rfl⟩) (fun u H locs hp C => ?_)
      replace C : Cx D ca s0 A s [(h0, .inr (3, mF q (nI 0) (tz))), (q 3, .inl (ca 1, 9600, .inl (u.1))), (q 4, .inl (ca 0, 6, .inl (F 4))), (q 5, .inl (ca 0, 6, .inl (p1))), (q 6, .inl (ca 0, 6, .inl (F 6))), (q 7, .inl (ca 1, 6, .inl (F 7))), (q 8, .inl (ca 0, 6, .inl (F 8))), (q 9, .inl (ca 0, 6, .inl (F 9))), (q 10, .inl (ca 1, 1600, .inl (u.2.1))), (q 11, .inl (ca 1, 1600, .inl (u.2.2)))] H locs := C.re [6, 7, 0, 1, 2, 3, 4, 5, 8, 9] rfl rfl
      obtain ⟨u, ua, ub⟩ := u
      replace C : Cx D ca s0 A s [(h0, .inr (3, mF q (nI 0) (tz))), (q 3, .inl (ca 1, 9600, .inl (u))), (q 4, .inl (ca 0, 6, .inl (F 4))), (q 5, .inl (ca 0, 6, .inl (p1))), (q 6, .inl (ca 0, 6, .inl (F 6))), (q 7, .inl (ca 1, 6, .inl (F 7))), (q 8, .inl (ca 0, 6, .inl (F 8))), (q 9, .inl (ca 0, 6, .inl (F 9))), (q 10, .inl (ca 1, 1600, .inl (ua))), (q 11, .inl (ca 1, 1600, .inl (ub)))] H locs := C
      refine lv_aload_n hx hb dM_end_182 rfl (lv_at hl 0 rfl) ?_
      refine n_get S C hin_M 0 rfl rfl 7 (by decide) g_409 rfl dM_end_183 ?_
      refine lv_iload_n hx hb dM_end_186 rfl (lv_at hl 1 rfl) ?_
      refine lv_iconst (v := nI 0) hx hb dM_end_187 (by decide) ?_
      refine n_iast S C 3 rfl (i := k0) (by omega) (by decide) dM_end_188 (fun H locs C => ?_)
      replace C : Cx D ca s0 A s [(h0, .inr (3, mF q (nI 0) (tz))), (q 3, .inl (ca 1, 9600, .inl (u))), (q 4, .inl (ca 0, 6, .inl (F 4))), (q 5, .inl (ca 0, 6, .inl (upd p1 k0 (nI 0)))), (q 6, .inl (ca 0, 6, .inl (F 6))), (q 7, .inl (ca 1, 6, .inl (F 7))), (q 8, .inl (ca 0, 6, .inl (F 8))), (q 9, .inl (ca 0, 6, .inl (F 9))), (q 10, .inl (ca 1, 1600, .inl (ua))), (q 11, .inl (ca 1, 1600, .inl (ub)))] H locs := C
      refine lv_aload_n hx hb dM_end_189 rfl (lv_at hl 0 rfl) ?_
      refine n_get S C hin_M 0 rfl rfl 9 (by decide) g_411 rfl dM_end_190 ?_
      refine lv_iload_n hx hb dM_end_193 rfl (lv_at hl 1 rfl) ?_
      refine lv_iconst (v := nI 1) hx hb dM_end_194 (by decide) ?_
      refine n_zast S C 5 rfl (i := k0) (by omega) (by decide) dM_end_195 (fun H locs C => ?_)
      replace C : Cx D ca s0 A s [(h0, .inr (3, mF q (nI 0) (tz))), (q 3, .inl (ca 1, 9600, .inl (u))), (q 4, .inl (ca 0, 6, .inl (F 4))), (q 5, .inl (ca 0, 6, .inl (upd p1 k0 (nI 0)))), (q 6, .inl (ca 0, 6, .inl (F 6))), (q 7, .inl (ca 1, 6, .inl (upd (F 7) k0 (vp_nar .boolean (nI 1))))), (q 8, .inl (ca 0, 6, .inl (F 8))), (q 9, .inl (ca 0, 6, .inl (F 9))), (q 10, .inl (ca 1, 1600, .inl (ua))), (q 11, .inl (ca 1, 1600, .inl (ub)))] H locs := C
      refine lv_aload_n hx hb dM_end_196 rfl (lv_at hl 0 rfl) ?_
      refine n_get S C hin_M 0 rfl rfl 11 (by decide) g_413 rfl dM_end_197 ?_
      refine lv_iload_n hx hb dM_end_200 rfl (lv_at hl 1 rfl) ?_
      refine lv_iload_n hx hb dM_end_201 rfl (lv_at hl 2 rfl) ?_
      refine n_if_le (tgt := 209) S (by omega) dM_end_202 (by decide) (fun hc202 => ?_) (fun hc202 => ?_)
      · skip
        refine lv_iconst (v := (-1)) hx hb dM_end_209 (by decide) ?_
        refine n_iast S C 7 rfl (i := k0) (by omega) (by decide) dM_end_210 (fun H locs C => ?_)
        replace C : Cx D ca s0 A s [(h0, .inr (3, mF q (nI 0) (tz))), (q 3, .inl (ca 1, 9600, .inl (u))), (q 4, .inl (ca 0, 6, .inl (F 4))), (q 5, .inl (ca 0, 6, .inl (upd p1 k0 (nI 0)))), (q 6, .inl (ca 0, 6, .inl (F 6))), (q 7, .inl (ca 1, 6, .inl (upd (F 7) k0 (vp_nar .boolean (nI 1))))), (q 8, .inl (ca 0, 6, .inl (F 8))), (q 9, .inl (ca 0, 6, .inl (upd (F 9) k0 ((-1))))), (q 10, .inl (ca 1, 1600, .inl (ua))), (q 11, .inl (ca 1, 1600, .inl (ub)))] H locs := C
        exact ret ((mkF u (F 4) (upd p1 k0 (nI 0)) (F 6) (upd (F 7) k0 (vp_nar .boolean (nI 1))) (F 8) (upd (F 9) k0 ((-1))) ua ub)) _ _ _ _ _ _ (Nat.le_refl _) (Nat.le_refl _) (⟨hI.tr (mR_s (rS_tr (rS_tr hbm hbn) hp)), one.rf hS.2.1, one.rf hS.2.2.1, one.rf hS.2.2.2.1, one.up' rfl, one.up' (by rw [if_pos (by omega)])⟩) C dM_end_211
      · skip
        refine lv_iload_n hx hb dM_end_205 rfl (lv_at hl 2 rfl) ?_
        refine lv_goto (tgt := 210) hx hb dM_end_206 (by decide) ?_
        refine n_iast S C 7 rfl (i := k0) (by omega) (by decide) dM_end_210 (fun H locs C => ?_)
        replace C : Cx D ca s0 A s [(h0, .inr (3, mF q (nI 0) (tz))), (q 3, .inl (ca 1, 9600, .inl (u))), (q 4, .inl (ca 0, 6, .inl (F 4))), (q 5, .inl (ca 0, 6, .inl (upd p1 k0 (nI 0)))), (q 6, .inl (ca 0, 6, .inl (F 6))), (q 7, .inl (ca 1, 6, .inl (upd (F 7) k0 (vp_nar .boolean (nI 1))))), (q 8, .inl (ca 0, 6, .inl (F 8))), (q 9, .inl (ca 0, 6, .inl (upd (F 9) k0 (nI len)))), (q 10, .inl (ca 1, 1600, .inl (ua))), (q 11, .inl (ca 1, 1600, .inl (ub)))] H locs := C
        exact ret ((mkF u (F 4) (upd p1 k0 (nI 0)) (F 6) (upd (F 7) k0 (vp_nar .boolean (nI 1))) (F 8) (upd (F 9) k0 (nI len)) ua ub)) _ _ _ _ _ _ (Nat.le_refl _) (Nat.le_refl _) (⟨hI.tr (mR_s (rS_tr (rS_tr hbm hbn) hp)), one.rf hS.2.1, one.rf hS.2.2.1, one.rf hS.2.2.2.1, one.up' rfl, one.up' (by rw [if_neg (by omega)])⟩) C dM_end_211
    refine n_icmp_le (tgt := 141) S (by omega) (by omega) dM_end_117 (by decide) (fun hc117 => ?_) (fun hc117 => ?_)
    · skip
      exact J141 ((F 3)) ((F 5)) ((F 10)) ((F 11)) _ _ _ (by rw [show finC (wid k) k c0 len = c0 from if_neg (by omega)]; exact mR.rf hS.1) C (lv_sub hl [1, 2, 3] rfl)
    · skip
      refine lv_aload_n hx hb dM_end_120 rfl (lv_at hl 1 rfl) ?_
      refine lv_iload_n hx hb dM_end_121 rfl (lv_at hl 2 rfl) ?_
      refine lv_bipush (v := nI 8) hx hb dM_end_122 (by decide) ?_
      refine lv_iload_n hx hb dM_end_124 rfl (lv_at hl 3 rfl) ?_
      refine n_mul S dM_end_125 ?_
      refine n_callV (wc := [(h0, .inr (3, mF q (nI 0) (tz))), (q 3, .inl (ca 1, 9600, .inl (F 3))), (q 4, .inl (ca 0, 6, .inl (F 4))), (q 5, .inl (ca 0, 6, .inl (F 5))), (q 10, .inl (ca 1, 1600, .inl (F 10))), (q 11, .inl (ca 1, 1600, .inl (F 11)))]) (wr := [(q 6, .inl (ca 0, 6, .inl (F 6))), (q 7, .inl (ca 1, 6, .inl (F 7))), (q 8, .inl (ca 0, 6, .inl (F 8))), (q 9, .inl (ca 0, 6, .inl (F 9)))]) C [0, 1, 2, 3, 8, 9] [4, 5, 6, 7] rfl rfl rfl rfl (by decide) (fun hp => va_runV (rest := []) S (c_M_number l D ca s0 a0 Z h0 q (nI 0) tz k0 k hk0 hk (F 3) (F 4) (F 5) (F 10) (F 11) hS.2.1 (c0) (mR.rf hS.1).1 hp0 (8 * len) (by omega) _) (cwV 2 hts (gV g_387 g_388 g_22 g_34 g_389) rfl rfl rfl (by decide +kernel) ⟨Nat.le_of_ble_eq_true rfl, Nat.le_of_ble_eq_true rfl⟩) ⟨hp.1, n_recv C 0 3 rfl rfl, hp.2⟩ rfl rfl hl.1 rfl (lv_room (Nat.le_of_ble_eq_true rfl)) dM_end_126 ⟨Nat.le_of_ble_eq_true rfl, Nat.le_of_ble_eq_true rfl⟩) (fun u H locs hp C => ?_)
      replace C : Cx D ca s0 A s [(h0, .inr (3, mF q (nI 0) (tz))), (q 3, .inl (ca 1, 9600, .inl (u.1))), (q 4, .inl (ca 0, 6, .inl ((F 4)))), (q 5, .inl (ca 0, 6, .inl (u.2.1))), (q 6, .inl (ca 0, 6, .inl (F 6))), (q 7, .inl (ca 1, 6, .inl (F 7))), (q 8, .inl (ca 0, 6, .inl (F 8))), (q 9, .inl (ca 0, 6, .inl (F 9))), (q 10, .inl (ca 1, 1600, .inl (u.2.2.1))), (q 11, .inl (ca 1, 1600, .inl (u.2.2.2)))] H locs := C.re [4, 5, 6, 7, 0, 1, 2, 3, 8, 9] rfl rfl
      obtain ⟨b37, p37, n37, x37⟩ := u
      have h37 := (mR.rf hS.1).tr hp
      replace C : Cx D ca s0 A s [(h0, .inr (3, mF q (nI 0) (tz))), (q 3, .inl (ca 1, 9600, .inl (b37))), (q 4, .inl (ca 0, 6, .inl ((F 4)))), (q 5, .inl (ca 0, 6, .inl (p37))), (q 6, .inl (ca 0, 6, .inl (F 6))), (q 7, .inl (ca 1, 6, .inl (F 7))), (q 8, .inl (ca 0, 6, .inl (F 8))), (q 9, .inl (ca 0, 6, .inl (F 9))), (q 10, .inl (ca 1, 1600, .inl (n37))), (q 11, .inl (ca 1, 1600, .inl (x37)))] H locs := C
      refine lv_aload_n hx hb dM_end_129 rfl (lv_at hl 1 rfl) ?_
      refine lv_iload_n hx hb dM_end_130 rfl (lv_at hl 2 rfl) ?_
      refine lv_bipush (v := nI 8) hx hb dM_end_131 (by decide) ?_
      refine lv_iload_n hx hb dM_end_133 rfl (lv_at hl 3 rfl) ?_
      refine n_mul S dM_end_134 ?_
      refine n_callP C (fun hp => va_runS (rest := [.int (nI k0), .ref (h0)]) S (c_M_bytesOf l D ca s0 a0 Z (8 * len) (by omega) _) (cwS 1 hts (gS g_351 g_352 g_34 g_353) rfl rfl rfl (by decide +kernel) ⟨Nat.le_of_ble_eq_true rfl, Nat.le_of_ble_eq_true rfl⟩) hp rfl rfl hl.1 rfl (lv_room (Nat.le_of_ble_eq_true rfl)) dM_end_135 ⟨Nat.le_of_ble_eq_true rfl, Nat.le_of_ble_eq_true rfl⟩) (fun r u H locs hp C => ?_)
      subst hp
      refine n_callV (wc := [(h0, .inr (3, mF q (nI 0) (tz))), (q 3, .inl (ca 1, 9600, .inl (b37))), (q 4, .inl (ca 0, 6, .inl ((F 4)))), (q 5, .inl (ca 0, 6, .inl (p37))), (q 10, .inl (ca 1, 1600, .inl (n37))), (q 11, .inl (ca 1, 1600, .inl (x37)))]) (wr := [(q 6, .inl (ca 0, 6, .inl (F 6))), (q 7, .inl (ca 1, 6, .inl (F 7))), (q 8, .inl (ca 0, 6, .inl (F 8))), (q 9, .inl (ca 0, 6, .inl (F 9)))]) C [0, 1, 2, 3, 8, 9] [4, 5, 6, 7] rfl rfl rfl rfl (by decide) (fun hp => va_runV (rest := []) S (c_M_comeIn l D ca s0 a0 Z h0 q (nI 0) tz k0 k hk0 hk b37 (F 4) p37 n37 x37 hS.2.1 (numC (wid k) c0 (8 * len)) h37.1 (numC_lt hp0) (nB (8 * len)) (by unfold nB; split <;> decide) _) (cwV 2 hts (gV g_354 g_355 g_13 g_34 g_356) rfl rfl rfl (by decide +kernel) ⟨Nat.le_of_ble_eq_true rfl, Nat.le_of_ble_eq_true rfl⟩) ⟨hp.1, n_recv C 0 3 rfl rfl, hp.2⟩ rfl rfl hl.1 rfl (lv_room (Nat.le_of_ble_eq_true rfl)) dM_end_138 ⟨Nat.le_of_ble_eq_true rfl, Nat.le_of_ble_eq_true rfl⟩) (fun u H locs hp C => ?_)
      replace C : Cx D ca s0 A s [(h0, .inr (3, mF q (nI 0) (tz))), (q 3, .inl (ca 1, 9600, .inl (u.1))), (q 4, .inl (ca 0, 6, .inl ((F 4)))), (q 5, .inl (ca 0, 6, .inl (u.2.1))), (q 6, .inl (ca 0, 6, .inl (F 6))), (q 7, .inl (ca 1, 6, .inl (F 7))), (q 8, .inl (ca 0, 6, .inl (F 8))), (q 9, .inl (ca 0, 6, .inl (F 9))), (q 10, .inl (ca 1, 1600, .inl (u.2.2.1))), (q 11, .inl (ca 1, 1600, .inl (u.2.2.2)))] H locs := C.re [4, 5, 6, 7, 0, 1, 2, 3, 8, 9] rfl rfl
      obtain ⟨b38, p38, n38, x38⟩ := u
      have h38 := h37.tr hp
      replace C : Cx D ca s0 A s [(h0, .inr (3, mF q (nI 0) (tz))), (q 3, .inl (ca 1, 9600, .inl (b38))), (q 4, .inl (ca 0, 6, .inl ((F 4)))), (q 5, .inl (ca 0, 6, .inl (p38))), (q 6, .inl (ca 0, 6, .inl (F 6))), (q 7, .inl (ca 1, 6, .inl (F 7))), (q 8, .inl (ca 0, 6, .inl (F 8))), (q 9, .inl (ca 0, 6, .inl (F 9))), (q 10, .inl (ca 1, 1600, .inl (n38))), (q 11, .inl (ca 1, 1600, .inl (x38)))] H locs := C
      exact J141 b38 p38 n38 x38 _ _ _ (by rw [show finC (wid k) k c0 len = takeE (wid k) c0 (8 * len) from if_pos (by omega), takeE_num]; exact h38) C (lv_sub hl [1, 2, 3] rfl)
  · skip
    refine lv_topi (nm_r (e' := nI 0) (by rw [hH]; rfl) ?_)
    refine n_if_eq (tgt := 56) S (by omega) dM_end_33 (by decide) (fun hc => ?_) (fun hc => False.elim (by omega))
    refine lv_iload_n hx hb dM_end_56 rfl (lv_at hl 2 rfl) ?_
    refine lv_aload_n hx hb dM_end_57 rfl (lv_at hl 0 rfl) ?_
    refine n_get S C hin_M 0 rfl rfl 6 (by decide) g_408 rfl dM_end_58 ?_
    refine lv_iload_n hx hb dM_end_61 rfl (lv_at hl 1 rfl) ?_
    refine n_iald S C 2 rfl (i := k0) (by omega) (by decide) dM_end_62 ?_
    refine lv_topi (nm_r (e' := nI k) hS.2.1 ?_)
    refine n_callP C (fun hp => va_runS (rest := [.int (nI len)]) S (c_M_lengthOf l D ca s0 a0 Z k hk _) (cwS 1 hts (gS g_456 g_457 g_34 g_458) rfl rfl rfl (by decide +kernel) ⟨Nat.le_of_ble_eq_true rfl, Nat.le_of_ble_eq_true rfl⟩) hp rfl rfl hl.1 rfl (lv_room (Nat.le_of_ble_eq_true rfl)) dM_end_63 ⟨Nat.le_of_ble_eq_true rfl, Nat.le_of_ble_eq_true rfl⟩) (fun r u H locs hp C => ?_)
    subst hp
    refine n_icmp_ne (tgt := 73) S (by omega) (by omega) dM_end_66 (by decide) (fun hc => False.elim (by omega)) (fun hc => ?_)
    refine lv_iconst (v := nI 1) hx hb dM_end_69 (by decide) ?_
    refine lv_goto (tgt := 74) hx hb dM_end_70 (by decide) ?_
    refine lv_istore_n hx hb dM_end_74 rfl hl (Nat.le_of_ble_eq_true rfl) rfl (fun ls hl => ?_)
    replace hl : lv_has ls 4 [(3, .int (nI 1)), (0, .ref (h0)), (1, .int (nI k0)), (2, .int (nI len))] := hl
    refine lv_aload_n hx hb dM_end_75 rfl (lv_at hl 1 rfl) ?_
    refine lv_iload_n hx hb dM_end_76 rfl (lv_at hl 0 rfl) ?_
    refine n_if_ne (tgt := 84) S (by omega) dM_end_77 (by decide) (fun hc => ?_) (fun hc => False.elim (by omega))
    refine lv_aload_n hx hb dM_end_84 rfl (lv_at hl 1 rfl) ?_
    refine n_get S C hin_M 0 rfl rfl 9 (by decide) g_411 rfl dM_end_85 ?_
    refine lv_iload_n hx hb dM_end_88 rfl (lv_at hl 2 rfl) ?_
    refine n_zald S C 5 rfl (i := k0) (by omega) (by decide) dM_end_89 ?_
    refine lv_topi (nm_r (e' := nI 0) hS.2.2.2.2.1 ?_)
    refine n_if_eq (tgt := 97) S (by omega) dM_end_90 (by decide) (fun hc => ?_) (fun hc => False.elim (by omega))
    refine lv_iconst (v := nI 0) hx hb dM_end_97 (by decide) ?_
    refine n_put S C hin_M tyM tyM_ok nmM 0 rfl rfl 0 (by decide) g_402 rfl rfl rfl rfl (Nat.le_of_ble_eq_true rfl) dM_end_98 (fun H locs C => ?_)
    replace C : Cx D ca s0 A s [(h0, .inr (3, mF q (nI 0) (tz))), (q 3, .inl (ca 1, 9600, .inl (F 3))), (q 4, .inl (ca 0, 6, .inl (F 4))), (q 5, .inl (ca 0, 6, .inl (F 5))), (q 6, .inl (ca 0, 6, .inl (F 6))), (q 7, .inl (ca 1, 6, .inl (F 7))), (q 8, .inl (ca 0, 6, .inl (F 8))), (q 9, .inl (ca 0, 6, .inl (F 9))), (q 10, .inl (ca 1, 1600, .inl (F 10))), (q 11, .inl (ca 1, 1600, .inl (F 11)))] H locs := C
    refine lv_aload_n hx hb dM_end_101 rfl (lv_at hl 1 rfl) ?_
    refine n_get S C hin_M 0 rfl rfl 0 (by decide) g_402 rfl dM_end_102 ?_
    refine n_if_le (tgt := 109) S (by omega) dM_end_105 (by decide) (fun hc => ?_) (fun hc => False.elim (by omega))
    have hwi := wid_in k hk
    replace hk0 : k0 < 6 := by omega
    refine lv_aload_n hx hb dM_end_109 rfl (lv_at hl 1 rfl) ?_
    refine n_get S C hin_M 0 rfl rfl 6 (by decide) g_408 rfl dM_end_110 ?_
    refine lv_iload_n hx hb dM_end_113 rfl (lv_at hl 2 rfl) ?_
    refine n_iald S C 2 rfl (i := k0) (by omega) (by decide) dM_end_114 ?_
    refine lv_topi (nm_r (e' := nI k) hS.2.1 ?_)
    refine lv_bipush (v := nI 7) hx hb dM_end_115 (by decide) ?_
    have J141 : ∀ (b1 : Nat → Int32) (p1 : Nat → Int32) (n1 : Nat → Int32) (x1 : Nat → Int32) (H : Heap) (locs : List Loc) (ls : Array Slot), mR (F 3) (F 5) k0 (finC (wid k) k c0 len) b1 p1 → Cx D ca s0 A s [(h0, .inr (3, mF q (nI 0) (tz))), (q 3, .inl (ca 1, 9600, .inl (b1))), (q 4, .inl (ca 0, 6, .inl (F 4))), (q 5, .inl (ca 0, 6, .inl (p1))), (q 6, .inl (ca 0, 6, .inl (F 6))), (q 7, .inl (ca 1, 6, .inl (F 7))), (q 8, .inl (ca 0, 6, .inl (F 8))), (q 9, .inl (ca 0, 6, .inl (F 9))), (q 10, .inl (ca 1, 1600, .inl (n1))), (q 11, .inl (ca 1, 1600, .inl (x1)))] H locs → lv_has ls 4 [(0, .ref (h0)), (1, .int (nI k0)), (2, .int (nI len))] → W p l e rm_M_end_ok s m args below meth c H locs 0 0 Q (F0 m 141 ls []) := by
      intro b1 p1 n1 x1 H locs ls hI C hl
      refine lv_aload_n hx hb dM_end_141 rfl (lv_at hl 0 rfl) ?_
      refine lv_iload_n hx hb dM_end_142 rfl (lv_at hl 1 rfl) ?_
      refine lv_aload_n hx hb dM_end_143 rfl (lv_at hl 0 rfl) ?_
      refine n_get S C hin_M 0 rfl rfl 7 (by decide) g_409 rfl dM_end_144 ?_
      refine lv_iload_n hx hb dM_end_147 rfl (lv_at hl 1 rfl) ?_
      refine n_iald S C 3 rfl (i := k0) (by omega) (by decide) dM_end_148 ?_
      refine lv_topi (nm_r (e' := nI ((finC (wid k) k c0 len).2)) hI.1.2 ?_)
      refine lv_aload_n hx hb dM_end_149 rfl (lv_at hl 0 rfl) ?_
      refine n_get S C hin_M 0 rfl rfl 8 (by decide) g_410 rfl dM_end_150 ?_
      refine lv_iload_n hx hb dM_end_153 rfl (lv_at hl 1 rfl) ?_
      refine n_iald S C 4 rfl (i := k0) (by omega) (by decide) dM_end_154 ?_
      refine lv_topi (nm_r (e' := nI en) hS.2.2.1 ?_)
      refine n_callV (wc := [(h0, .inr (3, mF q (nI 0) (tz))), (q 3, .inl (ca 1, 9600, .inl (b1)))]) (wr := [(q 4, .inl (ca 0, 6, .inl (F 4))), (q 5, .inl (ca 0, 6, .inl (p1))), (q 6, .inl (ca 0, 6, .inl (F 6))), (q 7, .inl (ca 1, 6, .inl (F 7))), (q 8, .inl (ca 0, 6, .inl (F 8))), (q 9, .inl (ca 0, 6, .inl (F 9))), (q 10, .inl (ca 1, 1600, .inl (n1))), (q 11, .inl (ca 1, 1600, .inl (x1)))]) C [0, 1] [2, 3, 4, 5, 6, 7, 8, 9] rfl rfl rfl rfl (by decide) (fun hp => va_runV (rest := []) S (c_M_meet l D ca s0 a0 Z h0 q (nI 0) tz k0 ((finC (wid k) k c0 len).2) (en) hk0 (by have := finC_lt (k := k) (len := len) hp0; omega) hen b1 ((finC (wid k) k c0 len).1) hI.1.1 _) (cwV 3 hts (gV g_357 g_358 g_14 g_34 g_359) rfl rfl rfl (by decide +kernel) ⟨Nat.le_of_ble_eq_true rfl, Nat.le_of_ble_eq_true rfl⟩) ⟨hp.1, n_recv C 0 3 rfl rfl, hp.2⟩ rfl rfl hl.1 rfl (lv_room (Nat.le_of_ble_eq_true rfl)) dM_end_155 ⟨Nat.le_of_ble_eq_true rfl, Nat.le_of_ble_eq_true rfl⟩) (fun u H locs hp C => ?_)
      replace C : Cx D ca s0 A s [(h0, .inr (3, mF q (nI 0) (tz))), (q 3, .inl (ca 1, 9600, .inl (u))), (q 4, .inl (ca 0, 6, .inl (F 4))), (q 5, .inl (ca 0, 6, .inl (p1))), (q 6, .inl (ca 0, 6, .inl (F 6))), (q 7, .inl (ca 1, 6, .inl (F 7))), (q 8, .inl (ca 0, 6, .inl (F 8))), (q 9, .inl (ca 0, 6, .inl (F 9))), (q 10, .inl (ca 1, 1600, .inl (n1))), (q 11, .inl (ca 1, 1600, .inl (x1)))] H locs := C.re [8, 9, 0, 1, 2, 3, 4, 5, 6, 7] rfl rfl
      obtain ⟨bm, rfl⟩ : ∃ z, z = u := ⟨_, rfl⟩
      have hbm := hp
      refine lv_aload_n hx hb dM_end_158 rfl (lv_at hl 0 rfl) ?_
      refine lv_iload_n hx hb dM_end_159 rfl (lv_at hl 1 rfl) ?_
      refine lv_aload_n hx hb dM_end_160 rfl (lv_at hl 0 rfl) ?_
      refine n_get S C hin_M 0 rfl rfl 6 (by decide) g_408 rfl dM_end_161 ?_
      refine lv_iload_n hx hb dM_end_164 rfl (lv_at hl 1 rfl) ?_
      refine n_iald S C 2 rfl (i := k0) (by omega) (by decide) dM_end_165 ?_
      refine lv_topi (nm_r (e' := nI k) hS.2.1 ?_)
      refine n_callP C (fun hp => va_runS (rest := [.int (nI k0), .ref (h0)]) S (c_M_widthOf l D ca s0 a0 Z k hk _) (cwS 1 hts (gS g_345 g_346 g_34 g_347) rfl rfl rfl (by decide +kernel) ⟨Nat.le_of_ble_eq_true rfl, Nat.le_of_ble_eq_true rfl⟩) hp rfl rfl hl.1 rfl (lv_room (Nat.le_of_ble_eq_true rfl)) dM_end_166 ⟨Nat.le_of_ble_eq_true rfl, Nat.le_of_ble_eq_true rfl⟩) (fun r u H locs hp C => ?_)
      subst hp
      refine lv_iconst (v := nI 1) hx hb dM_end_169 (by decide) ?_
      refine n_sub S (by omega) dM_end_170 ?_
      refine lv_sipush (v := nI 128) hx hb dM_end_171 (by decide) ?_
      refine n_callV (wc := [(h0, .inr (3, mF q (nI 0) (tz))), (q 3, .inl (ca 1, 9600, .inl (bm)))]) (wr := [(q 4, .inl (ca 0, 6, .inl (F 4))), (q 5, .inl (ca 0, 6, .inl (p1))), (q 6, .inl (ca 0, 6, .inl (F 6))), (q 7, .inl (ca 1, 6, .inl (F 7))), (q 8, .inl (ca 0, 6, .inl (F 8))), (q 9, .inl (ca 0, 6, .inl (F 9))), (q 10, .inl (ca 1, 1600, .inl (n1))), (q 11, .inl (ca 1, 1600, .inl (x1)))]) C [0, 1] [2, 3, 4, 5, 6, 7, 8, 9] rfl rfl rfl rfl (by decide) (fun hp => va_runV (rest := []) S (c_M_meet l D ca s0 a0 Z h0 q (nI 0) tz k0 (wid k - 1) (128) hk0 (by omega) (by decide) bm (mixB (finC (wid k) k c0 len).1 (finC (wid k) k c0 len).2 en) hbm.1 _) (cwV 3 hts (gV g_357 g_358 g_14 g_34 g_359) rfl rfl rfl (by decide +kernel) ⟨Nat.le_of_ble_eq_true rfl, Nat.le_of_ble_eq_true rfl⟩) ⟨hp.1, n_recv C 0 3 rfl rfl, hp.2⟩ rfl rfl hl.1 rfl (lv_room (Nat.le_of_ble_eq_true rfl)) dM_end_174 ⟨Nat.le_of_ble_eq_true rfl, Nat.le_of_ble_eq_true rfl⟩) (fun u H locs hp C => ?_)
      replace C : Cx D ca s0 A s [(h0, .inr (3, mF q (nI 0) (tz))), (q 3, .inl (ca 1, 9600, .inl (u))), (q 4, .inl (ca 0, 6, .inl (F 4))), (q 5, .inl (ca 0, 6, .inl (p1))), (q 6, .inl (ca 0, 6, .inl (F 6))), (q 7, .inl (ca 1, 6, .inl (F 7))), (q 8, .inl (ca 0, 6, .inl (F 8))), (q 9, .inl (ca 0, 6, .inl (F 9))), (q 10, .inl (ca 1, 1600, .inl (n1))), (q 11, .inl (ca 1, 1600, .inl (x1)))] H locs := C.re [8, 9, 0, 1, 2, 3, 4, 5, 6, 7] rfl rfl
      obtain ⟨bn, rfl⟩ : ∃ z, z = u := ⟨_, rfl⟩
      have hbn := hp
      refine lv_aload_n hx hb dM_end_177 rfl (lv_at hl 0 rfl) ?_
      refine lv_iload_n hx hb dM_end_178 rfl (lv_at hl 1 rfl) ?_
      refine n_callV (wc := [(h0, .inr (3, mF q (nI 0) (tz))), (q 3, .inl (ca 1, 9600, .inl (bn))), (q 10, .inl (ca 1, 1600, .inl (n1))), (q 11, .inl (ca 1, 1600, .inl (x1)))]) (wr := [(q 4, .inl (ca 0, 6, .inl (F 4))), (q 5, .inl (ca 0, 6, .inl (p1))), (q 6, .inl (ca 0, 6, .inl (F 6))), (q 7, .inl (ca 1, 6, .inl (F 7))), (q 8, .inl (ca 0, 6, .inl (F 8))), (q 9, .inl (ca 0, 6, .inl (F 9)))]) C [0, 1, 8, 9] [2, 3, 4, 5, 6, 7] rfl rfl rfl rfl (by decide) (fun hp => va_runV (rest := []) S (c_M_permute l D ca s0 a0 Z h0 q (nI 0) tz k0 hk0 bn n1 x1 (mixB (mixB (finC (wid k) k c0 len).1 (finC (wid k) k c0 len).2 en) (wid k - 1) 128) hbn.1 _) (cwV 1 hts (gV g_360 g_361 g_15 g_34 g_362) rfl rfl rfl (by decide +kernel) ⟨Nat.le_of_ble_eq_true rfl, Nat.le_of_ble_eq_true rfl⟩) ⟨hp.1, n_recv C 0 3 rfl rfl, hp.2⟩ rfl rfl hl.1 rfl (lv_room (Nat.le_of_ble_eq_true rfl)) dM_end_179 ⟨Nat.le_of_ble_eq_true rfl, Nat.le_of_ble_eq_true rfl⟩) (fun u H locs hp C => ?_)
      replace C : Cx D ca s0 A s [(h0, .inr (3, mF q (nI 0) (tz))), (q 3, .inl (ca 1, 9600, .inl (u.1))), (q 4, .inl (ca 0, 6, .inl (F 4))), (q 5, .inl (ca 0, 6, .inl (p1))), (q 6, .inl (ca 0, 6, .inl (F 6))), (q 7, .inl (ca 1, 6, .inl (F 7))), (q 8, .inl (ca 0, 6, .inl (F 8))), (q 9, .inl (ca 0, 6, .inl (F 9))), (q 10, .inl (ca 1, 1600, .inl (u.2.1))), (q 11, .inl (ca 1, 1600, .inl (u.2.2)))] H locs := C.re [6, 7, 0, 1, 2, 3, 4, 5, 8, 9] rfl rfl
      obtain ⟨u, ua, ub⟩ := u
      replace C : Cx D ca s0 A s [(h0, .inr (3, mF q (nI 0) (tz))), (q 3, .inl (ca 1, 9600, .inl (u))), (q 4, .inl (ca 0, 6, .inl (F 4))), (q 5, .inl (ca 0, 6, .inl (p1))), (q 6, .inl (ca 0, 6, .inl (F 6))), (q 7, .inl (ca 1, 6, .inl (F 7))), (q 8, .inl (ca 0, 6, .inl (F 8))), (q 9, .inl (ca 0, 6, .inl (F 9))), (q 10, .inl (ca 1, 1600, .inl (ua))), (q 11, .inl (ca 1, 1600, .inl (ub)))] H locs := C
      refine lv_aload_n hx hb dM_end_182 rfl (lv_at hl 0 rfl) ?_
      refine n_get S C hin_M 0 rfl rfl 7 (by decide) g_409 rfl dM_end_183 ?_
      refine lv_iload_n hx hb dM_end_186 rfl (lv_at hl 1 rfl) ?_
      refine lv_iconst (v := nI 0) hx hb dM_end_187 (by decide) ?_
      refine n_iast S C 3 rfl (i := k0) (by omega) (by decide) dM_end_188 (fun H locs C => ?_)
      replace C : Cx D ca s0 A s [(h0, .inr (3, mF q (nI 0) (tz))), (q 3, .inl (ca 1, 9600, .inl (u))), (q 4, .inl (ca 0, 6, .inl (F 4))), (q 5, .inl (ca 0, 6, .inl (upd p1 k0 (nI 0)))), (q 6, .inl (ca 0, 6, .inl (F 6))), (q 7, .inl (ca 1, 6, .inl (F 7))), (q 8, .inl (ca 0, 6, .inl (F 8))), (q 9, .inl (ca 0, 6, .inl (F 9))), (q 10, .inl (ca 1, 1600, .inl (ua))), (q 11, .inl (ca 1, 1600, .inl (ub)))] H locs := C
      refine lv_aload_n hx hb dM_end_189 rfl (lv_at hl 0 rfl) ?_
      refine n_get S C hin_M 0 rfl rfl 9 (by decide) g_411 rfl dM_end_190 ?_
      refine lv_iload_n hx hb dM_end_193 rfl (lv_at hl 1 rfl) ?_
      refine lv_iconst (v := nI 1) hx hb dM_end_194 (by decide) ?_
      refine n_zast S C 5 rfl (i := k0) (by omega) (by decide) dM_end_195 (fun H locs C => ?_)
      replace C : Cx D ca s0 A s [(h0, .inr (3, mF q (nI 0) (tz))), (q 3, .inl (ca 1, 9600, .inl (u))), (q 4, .inl (ca 0, 6, .inl (F 4))), (q 5, .inl (ca 0, 6, .inl (upd p1 k0 (nI 0)))), (q 6, .inl (ca 0, 6, .inl (F 6))), (q 7, .inl (ca 1, 6, .inl (upd (F 7) k0 (vp_nar .boolean (nI 1))))), (q 8, .inl (ca 0, 6, .inl (F 8))), (q 9, .inl (ca 0, 6, .inl (F 9))), (q 10, .inl (ca 1, 1600, .inl (ua))), (q 11, .inl (ca 1, 1600, .inl (ub)))] H locs := C
      refine lv_aload_n hx hb dM_end_196 rfl (lv_at hl 0 rfl) ?_
      refine n_get S C hin_M 0 rfl rfl 11 (by decide) g_413 rfl dM_end_197 ?_
      refine lv_iload_n hx hb dM_end_200 rfl (lv_at hl 1 rfl) ?_
      refine lv_iload_n hx hb dM_end_201 rfl (lv_at hl 2 rfl) ?_
      refine n_if_le (tgt := 209) S (by omega) dM_end_202 (by decide) (fun hc202 => ?_) (fun hc202 => ?_)
      · skip
        refine lv_iconst (v := (-1)) hx hb dM_end_209 (by decide) ?_
        refine n_iast S C 7 rfl (i := k0) (by omega) (by decide) dM_end_210 (fun H locs C => ?_)
        replace C : Cx D ca s0 A s [(h0, .inr (3, mF q (nI 0) (tz))), (q 3, .inl (ca 1, 9600, .inl (u))), (q 4, .inl (ca 0, 6, .inl (F 4))), (q 5, .inl (ca 0, 6, .inl (upd p1 k0 (nI 0)))), (q 6, .inl (ca 0, 6, .inl (F 6))), (q 7, .inl (ca 1, 6, .inl (upd (F 7) k0 (vp_nar .boolean (nI 1))))), (q 8, .inl (ca 0, 6, .inl (F 8))), (q 9, .inl (ca 0, 6, .inl (upd (F 9) k0 ((-1))))), (q 10, .inl (ca 1, 1600, .inl (ua))), (q 11, .inl (ca 1, 1600, .inl (ub)))] H locs := C
        exact ret ((mkF u (F 4) (upd p1 k0 (nI 0)) (F 6) (upd (F 7) k0 (vp_nar .boolean (nI 1))) (F 8) (upd (F 9) k0 ((-1))) ua ub)) _ _ _ _ _ _ (Nat.le_refl _) (Nat.le_refl _) (⟨hI.tr (mR_s (rS_tr (rS_tr hbm hbn) hp)), one.rf hS.2.1, one.rf hS.2.2.1, one.rf hS.2.2.2.1, one.up' rfl, one.up' (by rw [if_pos (by omega)])⟩) C dM_end_211
      · skip
        refine lv_iload_n hx hb dM_end_205 rfl (lv_at hl 2 rfl) ?_
        refine lv_goto (tgt := 210) hx hb dM_end_206 (by decide) ?_
        refine n_iast S C 7 rfl (i := k0) (by omega) (by decide) dM_end_210 (fun H locs C => ?_)
        replace C : Cx D ca s0 A s [(h0, .inr (3, mF q (nI 0) (tz))), (q 3, .inl (ca 1, 9600, .inl (u))), (q 4, .inl (ca 0, 6, .inl (F 4))), (q 5, .inl (ca 0, 6, .inl (upd p1 k0 (nI 0)))), (q 6, .inl (ca 0, 6, .inl (F 6))), (q 7, .inl (ca 1, 6, .inl (upd (F 7) k0 (vp_nar .boolean (nI 1))))), (q 8, .inl (ca 0, 6, .inl (F 8))), (q 9, .inl (ca 0, 6, .inl (upd (F 9) k0 (nI len)))), (q 10, .inl (ca 1, 1600, .inl (ua))), (q 11, .inl (ca 1, 1600, .inl (ub)))] H locs := C
        exact ret ((mkF u (F 4) (upd p1 k0 (nI 0)) (F 6) (upd (F 7) k0 (vp_nar .boolean (nI 1))) (F 8) (upd (F 9) k0 (nI len)) ua ub)) _ _ _ _ _ _ (Nat.le_refl _) (Nat.le_refl _) (⟨hI.tr (mR_s (rS_tr (rS_tr hbm hbn) hp)), one.rf hS.2.1, one.rf hS.2.2.1, one.rf hS.2.2.2.1, one.up' rfl, one.up' (by rw [if_neg (by omega)])⟩) C dM_end_211
    refine n_icmp_le (tgt := 141) S (by omega) (by omega) dM_end_117 (by decide) (fun hc117 => ?_) (fun hc117 => ?_)
    · skip
      exact J141 ((F 3)) ((F 5)) ((F 10)) ((F 11)) _ _ _ (by rw [show finC (wid k) k c0 len = c0 from if_neg (by omega)]; exact mR.rf hS.1) C (lv_sub hl [1, 2, 3] rfl)
    · skip
      refine lv_aload_n hx hb dM_end_120 rfl (lv_at hl 1 rfl) ?_
      refine lv_iload_n hx hb dM_end_121 rfl (lv_at hl 2 rfl) ?_
      refine lv_bipush (v := nI 8) hx hb dM_end_122 (by decide) ?_
      refine lv_iload_n hx hb dM_end_124 rfl (lv_at hl 3 rfl) ?_
      refine n_mul S dM_end_125 ?_
      refine n_callV (wc := [(h0, .inr (3, mF q (nI 0) (tz))), (q 3, .inl (ca 1, 9600, .inl (F 3))), (q 4, .inl (ca 0, 6, .inl (F 4))), (q 5, .inl (ca 0, 6, .inl (F 5))), (q 10, .inl (ca 1, 1600, .inl (F 10))), (q 11, .inl (ca 1, 1600, .inl (F 11)))]) (wr := [(q 6, .inl (ca 0, 6, .inl (F 6))), (q 7, .inl (ca 1, 6, .inl (F 7))), (q 8, .inl (ca 0, 6, .inl (F 8))), (q 9, .inl (ca 0, 6, .inl (F 9)))]) C [0, 1, 2, 3, 8, 9] [4, 5, 6, 7] rfl rfl rfl rfl (by decide) (fun hp => va_runV (rest := []) S (c_M_number l D ca s0 a0 Z h0 q (nI 0) tz k0 k hk0 hk (F 3) (F 4) (F 5) (F 10) (F 11) hS.2.1 (c0) (mR.rf hS.1).1 hp0 (8 * len) (by omega) _) (cwV 2 hts (gV g_387 g_388 g_22 g_34 g_389) rfl rfl rfl (by decide +kernel) ⟨Nat.le_of_ble_eq_true rfl, Nat.le_of_ble_eq_true rfl⟩) ⟨hp.1, n_recv C 0 3 rfl rfl, hp.2⟩ rfl rfl hl.1 rfl (lv_room (Nat.le_of_ble_eq_true rfl)) dM_end_126 ⟨Nat.le_of_ble_eq_true rfl, Nat.le_of_ble_eq_true rfl⟩) (fun u H locs hp C => ?_)
      replace C : Cx D ca s0 A s [(h0, .inr (3, mF q (nI 0) (tz))), (q 3, .inl (ca 1, 9600, .inl (u.1))), (q 4, .inl (ca 0, 6, .inl ((F 4)))), (q 5, .inl (ca 0, 6, .inl (u.2.1))), (q 6, .inl (ca 0, 6, .inl (F 6))), (q 7, .inl (ca 1, 6, .inl (F 7))), (q 8, .inl (ca 0, 6, .inl (F 8))), (q 9, .inl (ca 0, 6, .inl (F 9))), (q 10, .inl (ca 1, 1600, .inl (u.2.2.1))), (q 11, .inl (ca 1, 1600, .inl (u.2.2.2)))] H locs := C.re [4, 5, 6, 7, 0, 1, 2, 3, 8, 9] rfl rfl
      obtain ⟨b39, p39, n39, x39⟩ := u
      have h39 := (mR.rf hS.1).tr hp
      replace C : Cx D ca s0 A s [(h0, .inr (3, mF q (nI 0) (tz))), (q 3, .inl (ca 1, 9600, .inl (b39))), (q 4, .inl (ca 0, 6, .inl ((F 4)))), (q 5, .inl (ca 0, 6, .inl (p39))), (q 6, .inl (ca 0, 6, .inl (F 6))), (q 7, .inl (ca 1, 6, .inl (F 7))), (q 8, .inl (ca 0, 6, .inl (F 8))), (q 9, .inl (ca 0, 6, .inl (F 9))), (q 10, .inl (ca 1, 1600, .inl (n39))), (q 11, .inl (ca 1, 1600, .inl (x39)))] H locs := C
      refine lv_aload_n hx hb dM_end_129 rfl (lv_at hl 1 rfl) ?_
      refine lv_iload_n hx hb dM_end_130 rfl (lv_at hl 2 rfl) ?_
      refine lv_bipush (v := nI 8) hx hb dM_end_131 (by decide) ?_
      refine lv_iload_n hx hb dM_end_133 rfl (lv_at hl 3 rfl) ?_
      refine n_mul S dM_end_134 ?_
      refine n_callP C (fun hp => va_runS (rest := [.int (nI k0), .ref (h0)]) S (c_M_bytesOf l D ca s0 a0 Z (8 * len) (by omega) _) (cwS 1 hts (gS g_351 g_352 g_34 g_353) rfl rfl rfl (by decide +kernel) ⟨Nat.le_of_ble_eq_true rfl, Nat.le_of_ble_eq_true rfl⟩) hp rfl rfl hl.1 rfl (lv_room (Nat.le_of_ble_eq_true rfl)) dM_end_135 ⟨Nat.le_of_ble_eq_true rfl, Nat.le_of_ble_eq_true rfl⟩) (fun r u H locs hp C => ?_)
      subst hp
      refine n_callV (wc := [(h0, .inr (3, mF q (nI 0) (tz))), (q 3, .inl (ca 1, 9600, .inl (b39))), (q 4, .inl (ca 0, 6, .inl ((F 4)))), (q 5, .inl (ca 0, 6, .inl (p39))), (q 10, .inl (ca 1, 1600, .inl (n39))), (q 11, .inl (ca 1, 1600, .inl (x39)))]) (wr := [(q 6, .inl (ca 0, 6, .inl (F 6))), (q 7, .inl (ca 1, 6, .inl (F 7))), (q 8, .inl (ca 0, 6, .inl (F 8))), (q 9, .inl (ca 0, 6, .inl (F 9)))]) C [0, 1, 2, 3, 8, 9] [4, 5, 6, 7] rfl rfl rfl rfl (by decide) (fun hp => va_runV (rest := []) S (c_M_comeIn l D ca s0 a0 Z h0 q (nI 0) tz k0 k hk0 hk b39 (F 4) p39 n39 x39 hS.2.1 (numC (wid k) c0 (8 * len)) h39.1 (numC_lt hp0) (nB (8 * len)) (by unfold nB; split <;> decide) _) (cwV 2 hts (gV g_354 g_355 g_13 g_34 g_356) rfl rfl rfl (by decide +kernel) ⟨Nat.le_of_ble_eq_true rfl, Nat.le_of_ble_eq_true rfl⟩) ⟨hp.1, n_recv C 0 3 rfl rfl, hp.2⟩ rfl rfl hl.1 rfl (lv_room (Nat.le_of_ble_eq_true rfl)) dM_end_138 ⟨Nat.le_of_ble_eq_true rfl, Nat.le_of_ble_eq_true rfl⟩) (fun u H locs hp C => ?_)
      replace C : Cx D ca s0 A s [(h0, .inr (3, mF q (nI 0) (tz))), (q 3, .inl (ca 1, 9600, .inl (u.1))), (q 4, .inl (ca 0, 6, .inl ((F 4)))), (q 5, .inl (ca 0, 6, .inl (u.2.1))), (q 6, .inl (ca 0, 6, .inl (F 6))), (q 7, .inl (ca 1, 6, .inl (F 7))), (q 8, .inl (ca 0, 6, .inl (F 8))), (q 9, .inl (ca 0, 6, .inl (F 9))), (q 10, .inl (ca 1, 1600, .inl (u.2.2.1))), (q 11, .inl (ca 1, 1600, .inl (u.2.2.2)))] H locs := C.re [4, 5, 6, 7, 0, 1, 2, 3, 8, 9] rfl rfl
      obtain ⟨b40, p40, n40, x40⟩ := u
      have h40 := h39.tr hp
      replace C : Cx D ca s0 A s [(h0, .inr (3, mF q (nI 0) (tz))), (q 3, .inl (ca 1, 9600, .inl (b40))), (q 4, .inl (ca 0, 6, .inl ((F 4)))), (q 5, .inl (ca 0, 6, .inl (p40))), (q 6, .inl (ca 0, 6, .inl (F 6))), (q 7, .inl (ca 1, 6, .inl (F 7))), (q 8, .inl (ca 0, 6, .inl (F 8))), (q 9, .inl (ca 0, 6, .inl (F 9))), (q 10, .inl (ca 1, 1600, .inl (n40))), (q 11, .inl (ca 1, 1600, .inl (x40)))] H locs := C
      exact J141 b40 p40 n40 x40 _ _ _ (by rw [show finC (wid k) k c0 len = takeE (wid k) c0 (8 * len) from if_pos (by omega), takeE_num]; exact h40) C (lv_sub hl [1, 2, 3] rfl)
