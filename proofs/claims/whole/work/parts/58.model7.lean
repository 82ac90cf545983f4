abbrev rm_M_same_no1 : Room := { frames := 1, cells := 0, slots := 0, locals := 20 }
set_option maxHeartbeats 4000000 in
set_option maxRecDepth 100000 in
theorem c_M_same_no1 (l : Launch) (D : va_G) (ca : Nat → ClassId) (s0 : State) (a0 : Array Value) (Z : Wd a0 s0) (h0 : Nat) (q : Nat → Nat) (th tz : Int32) (y z w : Int32) (hno2 : ¬ (¬ y < 0 ∧ y < 4) ∨ ¬ (¬ z < 0 ∧ z < 4)) : CtI l yM_same [.code yM_same cM_same 7 (some .boolean)] rm_M_same_no1 0 0 D ca s0 [.ref (h0), .int (y), .int (z), .int (w)] [(h0, .inr (3, mF q (th) (tz)))] (S := Unit) (fun _ _ => True) (fun _ => [(h0, .inr (3, mF q (nI 1) (tz)))]) := by
  refine ctZ_of (cc := cM_same) (maxL := 7) (own := RM) Z rfl (by decide) rfl (Nat.le_of_ble_eq_true rfl) ?_
  intro p e s m args below meth c A ls Q S hnm ret C hl
  have hx := S.1
  have hb := S.2.1
  have hown := S.2.2.2.1
  have hts := S.2.2.2.2
  generalize s.heap = H at C ⊢
  generalize ([] : List Loc) = locs at C ⊢
  replace hl : lv_has ls 7 [(0, .ref (h0)), (1, .int (y)), (2, .int (z)), (3, .int (w))] := hl
  refine lv_aload_n hx hb dM_same_0 rfl (lv_at hl 0 rfl) ?_
  refine lv_iload_n hx hb dM_same_1 rfl (lv_at hl 1 rfl) ?_
  refine n_callP C (fun hp => va_runS (rest := [.ref (h0)]) S (c_M_isSponge l D ca s0 a0 Z (y) _) (cwS 1 hts (gS g_438 g_439 g_34 g_440) rfl rfl rfl (by decide +kernel) ⟨Nat.le_of_ble_eq_true rfl, Nat.le_of_ble_eq_true rfl⟩) hp rfl rfl hl.1 rfl (lv_room (Nat.le_of_ble_eq_true rfl)) dM_same_2 ⟨Nat.le_of_ble_eq_true rfl, Nat.le_of_ble_eq_true rfl⟩) (fun r u H locs hp C => ?_)
  subst hp
  refine lv_if_eq (tgt := 15) hx hb dM_same_5 (by decide) (fun hc5 => ?_) (fun hc5 => ?_)
  · skip
    refine lv_iconst (v := nI 1) hx hb dM_same_15 (by decide) ?_
    refine lv_goto (tgt := 35) hx hb dM_same_16 (by decide) ?_
    refine n_put S C hin_M tyM tyM_ok nmM 0 rfl rfl 0 (by decide) g_402 rfl rfl rfl rfl (Nat.le_of_ble_eq_true rfl) dM_same_35 (fun H locs C => ?_)
    replace C : Cx D ca s0 A s [(h0, .inr (3, mF q (nI 1) (tz)))] H locs := C
    refine lv_aload_n hx hb dM_same_38 rfl (lv_at hl 0 rfl) ?_
    refine n_get S C hin_M 0 rfl rfl 0 (by decide) g_402 rfl dM_same_39 ?_
    refine n_if_le (tgt := 47) S (by omega) dM_same_42 (by decide) (fun hc => False.elim (by omega)) (fun hc => ?_)
    refine lv_iconst (v := nI 0) hx hb dM_same_45 (by decide) ?_
    exact ret (nI 0) (()) _ _ _ _ _ _ (by decide) (Nat.le_refl _) (Nat.le_refl _) trivial C dM_same_46
  · skip
    refine lv_iload_n hx hb dM_same_8 rfl (lv_at hl 2 rfl) ?_
    refine n_callP C (fun hp => va_runS (rest := [.ref (h0)]) S (c_M_isSponge l D ca s0 a0 Z (z) _) (cwS 1 hts (gS g_438 g_439 g_34 g_440) rfl rfl rfl (by decide +kernel) ⟨Nat.le_of_ble_eq_true rfl, Nat.le_of_ble_eq_true rfl⟩) hp rfl rfl hl.1 rfl (lv_room (Nat.le_of_ble_eq_true rfl)) dM_same_9 ⟨Nat.le_of_ble_eq_true rfl, Nat.le_of_ble_eq_true rfl⟩) (fun r u H locs hp C => ?_)
    subst hp
    refine lv_topi (nm_r (e' := nI 0) (isSp_no (hno2.resolve_left (fun q => q (of_decide_eq_true (b2i_n0.mp hc5))))) ?_)
    refine n_if_ne (tgt := 19) S (by omega) dM_same_12 (by decide) (fun hc => False.elim (by omega)) (fun hc => ?_)
    refine lv_iconst (v := nI 1) hx hb dM_same_15 (by decide) ?_
    refine lv_goto (tgt := 35) hx hb dM_same_16 (by decide) ?_
    refine n_put S C hin_M tyM tyM_ok nmM 0 rfl rfl 0 (by decide) g_402 rfl rfl rfl rfl (Nat.le_of_ble_eq_true rfl) dM_same_35 (fun H locs C => ?_)
    replace C : Cx D ca s0 A s [(h0, .inr (3, mF q (nI 1) (tz)))] H locs := C
    refine lv_aload_n hx hb dM_same_38 rfl (lv_at hl 0 rfl) ?_
    refine n_get S C hin_M 0 rfl rfl 0 (by decide) g_402 rfl dM_same_39 ?_
    refine n_if_le (tgt := 47) S (by omega) dM_same_42 (by decide) (fun hc => False.elim (by omega)) (fun hc => ?_)
    refine lv_iconst (v := nI 0) hx hb dM_same_45 (by decide) ?_
    exact ret (nI 0) (()) _ _ _ _ _ _ (by decide) (Nat.le_refl _) (Nat.le_refl _) trivial C dM_same_46
abbrev rm_M_same_no2 : Room := { frames := 1, cells := 0, slots := 0, locals := 20 }
set_option maxHeartbeats 4000000 in
set_option maxRecDepth 100000 in
theorem c_M_same_no2 (l : Launch) (D : va_G) (ca : Nat → ClassId) (s0 : State) (a0 : Array Value) (Z : Wd a0 s0) (h0 : Nat) (q : Nat → Nat) (th tz : Int32) (k0 k1 : Nat) (hk0 : k0 < 4) (hk1 : k1 < 4) (y : Int32) (hr : y < nI 1 ∨ nI 64 < y) : CtI l yM_same [.code yM_same cM_same 7 (some .boolean)] rm_M_same_no2 0 0 D ca s0 [.ref (h0), .int (nI k0), .int (nI k1), .int (y)] [(h0, .inr (3, mF q (th) (tz)))] (S := Unit) (fun _ _ => True) (fun _ => [(h0, .inr (3, mF q (nI 2) (tz)))]) := by
  refine ctZ_of (cc := cM_same) (maxL := 7) (own := RM) Z rfl (by decide) rfl (Nat.le_of_ble_eq_true rfl) ?_
  intro p e s m args below meth c A ls Q S hnm ret C hl
  have hx := S.1
  have hb := S.2.1
  have hown := S.2.2.2.1
  have hts := S.2.2.2.2
  generalize s.heap = H at C ⊢
  generalize ([] : List Loc) = locs at C ⊢
  replace hl : lv_has ls 7 [(0, .ref (h0)), (1, .int (nI k0)), (2, .int (nI k1)), (3, .int (y))] := hl
  refine lv_aload_n hx hb dM_same_0 rfl (lv_at hl 0 rfl) ?_
  refine lv_iload_n hx hb dM_same_1 rfl (lv_at hl 1 rfl) ?_
  refine n_callP C (fun hp => va_runS (rest := [.ref (h0)]) S (c_M_isSponge l D ca s0 a0 Z (nI k0) _) (cwS 1 hts (gS g_438 g_439 g_34 g_440) rfl rfl rfl (by decide +kernel) ⟨Nat.le_of_ble_eq_true rfl, Nat.le_of_ble_eq_true rfl⟩) hp rfl rfl hl.1 rfl (lv_room (Nat.le_of_ble_eq_true rfl)) dM_same_2 ⟨Nat.le_of_ble_eq_true rfl, Nat.le_of_ble_eq_true rfl⟩) (fun r u H locs hp C => ?_)
  subst hp
  refine lv_topi (nm_r (e' := nI 1) (isSp_ok hk0) ?_)
  refine n_if_eq (tgt := 15) S (by omega) dM_same_5 (by decide) (fun hc => False.elim (by omega)) (fun hc => ?_)
  refine lv_iload_n hx hb dM_same_8 rfl (lv_at hl 2 rfl) ?_
  refine n_callP C (fun hp => va_runS (rest := [.ref (h0)]) S (c_M_isSponge l D ca s0 a0 Z (nI k1) _) (cwS 1 hts (gS g_438 g_439 g_34 g_440) rfl rfl rfl (by decide +kernel) ⟨Nat.le_of_ble_eq_true rfl, Nat.le_of_ble_eq_true rfl⟩) hp rfl rfl hl.1 rfl (lv_room (Nat.le_of_ble_eq_true rfl)) dM_same_9 ⟨Nat.le_of_ble_eq_true rfl, Nat.le_of_ble_eq_true rfl⟩) (fun r u H locs hp C => ?_)
  subst hp
  refine lv_topi (nm_r (e' := nI 1) (isSp_ok hk1) ?_)
  refine n_if_ne (tgt := 19) S (by omega) dM_same_12 (by decide) (fun hc => ?_) (fun hc => False.elim (by omega))
  refine lv_iload_n hx hb dM_same_19 rfl (lv_at hl 3 rfl) ?_
  refine lv_iconst (v := nI 1) hx hb dM_same_20 (by decide) ?_
  refine lv_icmp_lt (tgt := 30) hx hb dM_same_21 (by decide) (fun hc21 => ?_) (fun hc21 => ?_)
  · skip
    refine lv_iconst (v := nI 2) hx hb dM_same_30 (by decide) ?_
    refine lv_goto (tgt := 35) hx hb dM_same_31 (by decide) ?_
    refine n_put S C hin_M tyM tyM_ok nmM 0 rfl rfl 0 (by decide) g_402 rfl rfl rfl rfl (Nat.le_of_ble_eq_true rfl) dM_same_35 (fun H locs C => ?_)
    replace C : Cx D ca s0 A s [(h0, .inr (3, mF q (nI 2) (tz)))] H locs := C
    refine lv_aload_n hx hb dM_same_38 rfl (lv_at hl 0 rfl) ?_
    refine n_get S C hin_M 0 rfl rfl 0 (by decide) g_402 rfl dM_same_39 ?_
    refine n_if_le (tgt := 47) S (by omega) dM_same_42 (by decide) (fun hc => False.elim (by omega)) (fun hc => ?_)
    refine lv_iconst (v := nI 0) hx hb dM_same_45 (by decide) ?_
    exact ret (nI 0) (()) _ _ _ _ _ _ (by decide) (Nat.le_refl _) (Nat.le_refl _) trivial C dM_same_46
  · skip
    refine lv_iload_n hx hb dM_same_24 rfl (lv_at hl 3 rfl) ?_
    refine lv_bipush (v := nI 64) hx hb dM_same_25 (by decide) ?_
    refine lv_icmp_le (tgt := 34) hx hb dM_same_27 (by decide) (fun hc => absurd hc (Int32.not_le.mpr (hr.resolve_left hc21))) (fun hc => ?_)
    refine lv_iconst (v := nI 2) hx hb dM_same_30 (by decide) ?_
    refine lv_goto (tgt := 35) hx hb dM_same_31 (by decide) ?_
    refine n_put S C hin_M tyM tyM_ok nmM 0 rfl rfl 0 (by decide) g_402 rfl rfl rfl rfl (Nat.le_of_ble_eq_true rfl) dM_same_35 (fun H locs C => ?_)
    replace C : Cx D ca s0 A s [(h0, .inr (3, mF q (nI 2) (tz)))] H locs := C
    refine lv_aload_n hx hb dM_same_38 rfl (lv_at hl 0 rfl) ?_
    refine n_get S C hin_M 0 rfl rfl 0 (by decide) g_402 rfl dM_same_39 ?_
    refine n_if_le (tgt := 47) S (by omega) dM_same_42 (by decide) (fun hc => False.elim (by omega)) (fun hc => ?_)
    refine lv_iconst (v := nI 0) hx hb dM_same_45 (by decide) ?_
    exact ret (nI 0) (()) _ _ _ _ _ _ (by decide) (Nat.le_refl _) (Nat.le_refl _) trivial C dM_same_46
abbrev rm_M_same_no3 : Room := { frames := 1, cells := 0, slots := 0, locals := 22 }
set_option maxHeartbeats 4000000 in
set_option maxRecDepth 100000 in
theorem c_M_same_no3 (l : Launch) (D : va_G) (ca : Nat → ClassId) (s0 : State) (a0 : Array Value) (Z : Wd a0 s0) (h0 : Nat) (q : Nat → Nat) (th tz : Int32) (k0 k1 : Nat) (hk0 : k0 < 4) (hk1 : k1 < 4) (n : Nat) (hn1 : 1 ≤ n) (hn : n ≤ 64) (F : MFn) (dn dn2 : Bool) (rm rm2 : Int32) (h7 : F 7 k0 = b2i dn) (h9 : F 9 k0 = rm) (hro : rOk rm) (h72 : F 7 k1 = b2i dn2) (h92 : F 9 k1 = rm2) (hro2 : rOk rm2) (hcn : canG dn rm (nI n) = false ∨ canG dn2 rm2 (nI n) = false) : CtI l yM_same [.code yM_same cM_same 7 (some .boolean)] rm_M_same_no3 0 0 D ca s0 [.ref (h0), .int (nI k0), .int (nI k1), .int (nI n)] [(h0, .inr (3, mF q (th) (tz))), (q 7, .inl (ca 1, 6, .inl (F 7))), (q 9, .inl (ca 0, 6, .inl (F 9)))] (S := Unit) (fun _ _ => True) (fun _ => [(h0, .inr (3, mF q (nI 3) (tz))), (q 7, .inl (ca 1, 6, .inl (F 7))), (q 9, .inl (ca 0, 6, .inl (F 9)))]) := by
  refine ctZ_of (cc := cM_same) (maxL := 7) (own := RM) Z rfl (by decide) rfl (Nat.le_of_ble_eq_true rfl) ?_
  intro p e s m args below meth c A ls Q S hnm ret C hl
  have hx := S.1
  have hb := S.2.1
  have hown := S.2.2.2.1
  have hts := S.2.2.2.2
  generalize s.heap = H at C ⊢
  generalize ([] : List Loc) = locs at C ⊢
  replace hl : lv_has ls 7 [(0, .ref (h0)), (1, .int (nI k0)), (2, .int (nI k1)), (3, .int (nI n))] := hl
  refine lv_aload_n hx hb dM_same_0 rfl (lv_at hl 0 rfl) ?_
  refine lv_iload_n hx hb dM_same_1 rfl (lv_at hl 1 rfl) ?_
  refine n_callP C (fun hp => va_runS (rest := [.ref (h0)]) S (c_M_isSponge l D ca s0 a0 Z (nI k0) _) (cwS 1 hts (gS g_438 g_439 g_34 g_440) rfl rfl rfl (by decide +kernel) ⟨Nat.le_of_ble_eq_true rfl, Nat.le_of_ble_eq_true rfl⟩) hp rfl rfl hl.1 rfl (lv_room (Nat.le_of_ble_eq_true rfl)) dM_same_2 ⟨Nat.le_of_ble_eq_true rfl, Nat.le_of_ble_eq_true rfl⟩) (fun r u H locs hp C => ?_)
  subst hp
  refine lv_topi (nm_r (e' := nI 1) (isSp_ok hk0) ?_)
  refine n_if_eq (tgt := 15) S (by omega) dM_same_5 (by decide) (fun hc => False.elim (by omega)) (fun hc => ?_)
  refine lv_iload_n hx hb dM_same_8 rfl (lv_at hl 2 rfl) ?_
  refine n_callP C (fun hp => va_runS (rest := [.ref (h0)]) S (c_M_isSponge l D ca s0 a0 Z (nI k1) _) (cwS 1 hts (gS g_438 g_439 g_34 g_440) rfl rfl rfl (by decide +kernel) ⟨Nat.le_of_ble_eq_true rfl, Nat.le_of_ble_eq_true rfl⟩) hp rfl rfl hl.1 rfl (lv_room (Nat.le_of_ble_eq_true rfl)) dM_same_9 ⟨Nat.le_of_ble_eq_true rfl, Nat.le_of_ble_eq_true rfl⟩) (fun r u H locs hp C => ?_)
  subst hp
  refine lv_topi (nm_r (e' := nI 1) (isSp_ok hk1) ?_)
  refine n_if_ne (tgt := 19) S (by omega) dM_same_12 (by decide) (fun hc => ?_) (fun hc => False.elim (by omega))
  refine lv_iload_n hx hb dM_same_19 rfl (lv_at hl 3 rfl) ?_
  refine lv_iconst (v := nI 1) hx hb dM_same_20 (by decide) ?_
  refine n_icmp_lt (tgt := 30) S (by omega) (by omega) dM_same_21 (by decide) (fun hc => False.elim (by omega)) (fun hc => ?_)
  refine lv_iload_n hx hb dM_same_24 rfl (lv_at hl 3 rfl) ?_
  refine lv_bipush (v := nI 64) hx hb dM_same_25 (by decide) ?_
  refine n_icmp_le (tgt := 34) S (by omega) (by omega) dM_same_27 (by decide) (fun hc => ?_) (fun hc => False.elim (by omega))
  refine lv_iconst (v := nI 0) hx hb dM_same_34 (by decide) ?_
  refine n_put S C hin_M tyM tyM_ok nmM 0 rfl rfl 0 (by decide) g_402 rfl rfl rfl rfl (Nat.le_of_ble_eq_true rfl) dM_same_35 (fun H locs C => ?_)
  replace C : Cx D ca s0 A s [(h0, .inr (3, mF q (nI 0) (tz))), (q 7, .inl (ca 1, 6, .inl (F 7))), (q 9, .inl (ca 0, 6, .inl (F 9)))] H locs := C
  refine lv_aload_n hx hb dM_same_38 rfl (lv_at hl 0 rfl) ?_
  refine n_get S C hin_M 0 rfl rfl 0 (by decide) g_402 rfl dM_same_39 ?_
  refine n_if_le (tgt := 47) S (by omega) dM_same_42 (by decide) (fun hc => ?_) (fun hc => False.elim (by omega))
  refine lv_aload_n hx hb dM_same_47 rfl (lv_at hl 0 rfl) ?_
  refine lv_aload_n hx hb dM_same_48 rfl (lv_at hl 0 rfl) ?_
  refine lv_iload_n hx hb dM_same_49 rfl (lv_at hl 1 rfl) ?_
  refine lv_iload_n hx hb dM_same_50 rfl (lv_at hl 3 rfl) ?_
  refine n_callI (wc := [(h0, .inr (3, mF q (nI 0) (tz))), (q 7, .inl (ca 1, 6, .inl (F 7))), (q 9, .inl (ca 0, 6, .inl (F 9)))]) (wr := []) C [0, 1, 2] [] rfl rfl rfl rfl (by decide) (fun hp => va_runV (rest := [.ref (h0)]) S (c_M_has l D ca s0 a0 Z h0 q (nI 0) tz F k0 (by omega) dn rm (nI n) h7 h9 hro _) (cwV 2 hts (gV g_463 g_464 g_26 g_34 g_465) rfl rfl rfl (by decide +kernel) ⟨Nat.le_of_ble_eq_true rfl, Nat.le_of_ble_eq_true rfl⟩) ⟨hp.1, n_recv C 0 3 rfl rfl, hp.2⟩ rfl rfl hl.1 rfl (lv_room (Nat.le_of_ble_eq_true rfl)) dM_same_51 ⟨Nat.le_of_ble_eq_true rfl, Nat.le_of_ble_eq_true rfl⟩) (fun r u H locs hp C => ?_)
  replace C : Cx D ca s0 A s [(h0, .inr (3, mF q (nI 0) (tz))), (q 7, .inl (ca 1, 6, .inl (F 7))), (q 9, .inl (ca 0, 6, .inl (F 9)))] H locs := C.re [0, 1, 2] rfl rfl
  subst hp
  refine lv_if_eq (tgt := 70) hx hb dM_same_54 (by decide) (fun hc54 => ?_) (fun hc54 => ?_)
  · skip
    refine lv_iconst (v := nI 3) hx hb dM_same_70 (by decide) ?_
    refine n_put S C hin_M tyM tyM_ok nmM 0 rfl rfl 0 (by decide) g_402 rfl rfl rfl rfl (Nat.le_of_ble_eq_true rfl) dM_same_71 (fun H locs C => ?_)
    replace C : Cx D ca s0 A s [(h0, .inr (3, mF q (nI 3) (tz))), (q 7, .inl (ca 1, 6, .inl (F 7))), (q 9, .inl (ca 0, 6, .inl (F 9)))] H locs := C
    refine lv_aload_n hx hb dM_same_74 rfl (lv_at hl 0 rfl) ?_
    refine n_get S C hin_M 0 rfl rfl 0 (by decide) g_402 rfl dM_same_75 ?_
    refine n_if_le (tgt := 83) S (by omega) dM_same_78 (by decide) (fun hc => False.elim (by omega)) (fun hc => ?_)
    refine lv_iconst (v := nI 0) hx hb dM_same_81 (by decide) ?_
    exact ret (nI 0) (()) _ _ _ _ _ _ (by decide) (Nat.le_refl _) (Nat.le_refl _) trivial C dM_same_82
  · skip
    refine lv_aload_n hx hb dM_same_57 rfl (lv_at hl 0 rfl) ?_
    refine lv_iload_n hx hb dM_same_58 rfl (lv_at hl 2 rfl) ?_
    refine lv_iload_n hx hb dM_same_59 rfl (lv_at hl 3 rfl) ?_
    refine n_callI (wc := [(h0, .inr (3, mF q (nI 0) (tz))), (q 7, .inl (ca 1, 6, .inl (F 7))), (q 9, .inl (ca 0, 6, .inl (F 9)))]) (wr := []) C [0, 1, 2] [] rfl rfl rfl rfl (by decide) (fun hp => va_runV (rest := [.ref (h0)]) S (c_M_has l D ca s0 a0 Z h0 q (nI 0) tz F k1 (by omega) dn2 rm2 (nI n) h72 h92 hro2 _) (cwV 2 hts (gV g_463 g_464 g_26 g_34 g_465) rfl rfl rfl (by decide +kernel) ⟨Nat.le_of_ble_eq_true rfl, Nat.le_of_ble_eq_true rfl⟩) ⟨hp.1, n_recv C 0 3 rfl rfl, hp.2⟩ rfl rfl hl.1 rfl (lv_room (Nat.le_of_ble_eq_true rfl)) dM_same_60 ⟨Nat.le_of_ble_eq_true rfl, Nat.le_of_ble_eq_true rfl⟩) (fun r u H locs hp C => ?_)
    replace C : Cx D ca s0 A s [(h0, .inr (3, mF q (nI 0) (tz))), (q 7, .inl (ca 1, 6, .inl (F 7))), (q 9, .inl (ca 0, 6, .inl (F 9)))] H locs := C.re [0, 1, 2] rfl rfl
    subst hp
    refine lv_topi (nm_r (e' := nI 0) (by rw [hcn.resolve_left (fun q => absurd (b2i_n0.mp hc54) (by rw [q]; decide))]; rfl) ?_)
    refine n_if_eq (tgt := 70) S (by omega) dM_same_63 (by decide) (fun hc => ?_) (fun hc => False.elim (by omega))
    refine lv_iconst (v := nI 3) hx hb dM_same_70 (by decide) ?_
    refine n_put S C hin_M tyM tyM_ok nmM 0 rfl rfl 0 (by decide) g_402 rfl rfl rfl rfl (Nat.le_of_ble_eq_true rfl) dM_same_71 (fun H locs C => ?_)
    replace C : Cx D ca s0 A s [(h0, .inr (3, mF q (nI 3) (tz))), (q 7, .inl (ca 1, 6, .inl (F 7))), (q 9, .inl (ca 0, 6, .inl (F 9)))] H locs := C
    refine lv_aload_n hx hb dM_same_74 rfl (lv_at hl 0 rfl) ?_
    refine n_get S C hin_M 0 rfl rfl 0 (by decide) g_402 rfl dM_same_75 ?_
    refine n_if_le (tgt := 83) S (by omega) dM_same_78 (by decide) (fun hc => False.elim (by omega)) (fun hc => ?_)
    refine lv_iconst (v := nI 0) hx hb dM_same_81 (by decide) ?_
    exact ret (nI 0) (()) _ _ _ _ _ _ (by decide) (Nat.le_refl _) (Nat.le_refl _) trivial C dM_same_82
abbrev rm_M_same_ok : Room := { frames := 5, cells := 0, slots := 0, locals := 117 }
set_option maxHeartbeats 4000000 in
set_option maxRecDepth 100000 in
theorem c_M_same_ok (l : Launch) (D : va_G) (ca : Nat → ClassId) (s0 : State) (a0 : Array Value) (Z : Wd a0 s0) (h0 : Nat) (q : Nat → Nat) (th tz : Int32) (F : MFn) (k0 k1 : Nat) (hk0 : k0 < 4) (hk1 : k1 < 4) (n : Nat) (hn1 : 1 ≤ n) (hn : n ≤ 64) (c0 : Co) (k en : Nat) (tk rm : Int32) (hk : k < 16) (hS : mSg F k0 (c0, k, en, tk, true, rm)) (hp0 : c0.2 ≤ wid k) (hro : rOk rm) (hcg : canG true rm (nI n) = true) (d0 : Co) (j0 en2 : Nat) (tk2 rm2 : Int32) (hj0 : j0 < 16) (hS2 : mSg F k1 (d0, j0, en2, tk2, true, rm2)) (hq0 : d0.2 ≤ wid j0) (hro2 : rOk rm2) (hcg2 : canG true rm2 (nI n) = true) : CtI l yM_same [.code yM_same cM_same 7 (some .boolean)] rm_M_same_ok 0 0 D ca s0 [.ref (h0), .int (nI k0), .int (nI k1), .int (nI n)] [(h0, .inr (3, mF q (th) (tz))), (q 3, .inl (ca 1, 9600, .inl (F 3))), (q 4, .inl (ca 0, 6, .inl (F 4))), (q 5, .inl (ca 0, 6, .inl (F 5))), (q 6, .inl (ca 0, 6, .inl (F 6))), (q 7, .inl (ca 1, 6, .inl (F 7))), (q 8, .inl (ca 0, 6, .inl (F 8))), (q 9, .inl (ca 0, 6, .inl (F 9))), (q 10, .inl (ca 1, 1600, .inl (F 10))), (q 11, .inl (ca 1, 1600, .inl (F 11)))] (S := MFn) (fun r u => r = b2i (eqB (wid k) c0 (wid j0) d0 n) ∧ mE F u) (fun u => [(h0, .inr (3, mF q (nI 0) (tz))), (q 3, .inl (ca 1, 9600, .inl (u 3))), (q 4, .inl (ca 0, 6, .inl (u 4))), (q 5, .inl (ca 0, 6, .inl (u 5))), (q 6, .inl (ca 0, 6, .inl (u 6))), (q 7, .inl (ca 1, 6, .inl (u 7))), (q 8, .inl (ca 0, 6, .inl (u 8))), (q 9, .inl (ca 0, 6, .inl (u 9))), (q 10, .inl (ca 1, 1600, .inl (u 10))), (q 11, .inl (ca 1, 1600, .inl (u 11)))]) := by
  refine ctZ_of (cc := cM_same) (maxL := 7) (own := RM) Z rfl (by decide) rfl (Nat.le_of_ble_eq_true rfl) ?_
  intro p e s m args below meth c A ls Q S hnm ret C hl
  have hx := S.1
  have hb := S.2.1
  have hown := S.2.2.2.1
  have hts := S.2.2.2.2
  generalize s.heap = H at C ⊢
  generalize ([] : List Loc) = locs at C ⊢
  replace hl : lv_has ls 7 [(0, .ref (h0)), (1, .int (nI k0)), (2, .int (nI k1)), (3, .int (nI n))] := hl
  refine lv_aload_n hx hb dM_same_0 rfl (lv_at hl 0 rfl) ?_
  refine lv_iload_n hx hb dM_same_1 rfl (lv_at hl 1 rfl) ?_
  refine n_callP C (fun hp => va_runS (rest := [.ref (h0)]) S (c_M_isSponge l D ca s0 a0 Z (nI k0) _) (cwS 1 hts (gS g_438 g_439 g_34 g_440) rfl rfl rfl (by decide +kernel) ⟨Nat.le_of_ble_eq_true rfl, Nat.le_of_ble_eq_true rfl⟩) hp rfl rfl hl.1 rfl (lv_room (Nat.le_of_ble_eq_true rfl)) dM_same_2 ⟨Nat.le_of_ble_eq_true rfl, Nat.le_of_ble_eq_true rfl⟩) (fun r u H locs hp C => ?_)
  subst hp
  refine lv_topi (nm_r (e' := nI 1) (isSp_ok hk0) ?_)
  refine n_if_eq (tgt := 15) S (by omega) dM_same_5 (by decide) (fun hc => False.elim (by omega)) (fun hc => ?_)
  refine lv_iload_n hx hb dM_same_8 rfl (lv_at hl 2 rfl) ?_
  refine n_callP C (fun hp => va_runS (rest := [.ref (h0)]) S (c_M_isSponge l D ca s0 a0 Z (nI k1) _) (cwS 1 hts (gS g_438 g_439 g_34 g_440) rfl rfl rfl (by decide +kernel) ⟨Nat.le_of_ble_eq_true rfl, Nat.le_of_ble_eq_true rfl⟩) hp rfl rfl hl.1 rfl (lv_room (Nat.le_of_ble_eq_true rfl)) dM_same_9 ⟨Nat.le_of_ble_eq_true rfl, Nat.le_of_ble_eq_true rfl⟩) (fun r u H locs hp C => ?_)
  subst hp
  refine lv_topi (nm_r (e' := nI 1) (isSp_ok hk1) ?_)
  refine n_if_ne (tgt := 19) S (by omega) dM_same_12 (by decide) (fun hc => ?_) (fun hc => False.elim (by omega))
  refine lv_iload_n hx hb dM_same_19 rfl (lv_at hl 3 rfl) ?_
  refine lv_iconst (v := nI 1) hx hb dM_same_20 (by decide) ?_
  refine n_icmp_lt (tgt := 30) S (by omega) (by omega) dM_same_21 (by decide) (fun hc => False.elim (by omega)) (fun hc => ?_)
  refine lv_iload_n hx hb dM_same_24 rfl (lv_at hl 3 rfl) ?_
  refine lv_bipush (v := nI 64) hx hb dM_same_25 (by decide) ?_
  refine n_icmp_le (tgt := 34) S (by omega) (by omega) dM_same_27 (by decide) (fun hc => ?_) (fun hc => False.elim (by omega))
  refine lv_iconst (v := nI 0) hx hb dM_same_34 (by decide) ?_
  refine n_put S C hin_M tyM tyM_ok nmM 0 rfl rfl 0 (by decide) g_402 rfl rfl rfl rfl (Nat.le_of_ble_eq_true rfl) dM_same_35 (fun H locs C => ?_)
  replace C : Cx D ca s0 A s [(h0, .inr (3, mF q (nI 0) (tz))), (q 3, .inl (ca 1, 9600, .inl (F 3))), (q 4, .inl (ca 0, 6, .inl (F 4))), (q 5, .inl (ca 0, 6, .inl (F 5))), (q 6, .inl (ca 0, 6, .inl (F 6))), (q 7, .inl (ca 1, 6, .inl (F 7))), (q 8, .inl (ca 0, 6, .inl (F 8))), (q 9, .inl (ca 0, 6, .inl (F 9))), (q 10, .inl (ca 1, 1600, .inl (F 10))), (q 11, .inl (ca 1, 1600, .inl (F 11)))] H locs := C
  refine lv_aload_n hx hb dM_same_38 rfl (lv_at hl 0 rfl) ?_
  refine n_get S C hin_M 0 rfl rfl 0 (by decide) g_402 rfl dM_same_39 ?_
  refine n_if_le (tgt := 47) S (by omega) dM_same_42 (by decide) (fun hc => ?_) (fun hc => False.elim (by omega))
  refine lv_aload_n hx hb dM_same_47 rfl (lv_at hl 0 rfl) ?_
  refine lv_aload_n hx hb dM_same_48 rfl (lv_at hl 0 rfl) ?_
  refine lv_iload_n hx hb dM_same_49 rfl (lv_at hl 1 rfl) ?_
  refine lv_iload_n hx hb dM_same_50 rfl (lv_at hl 3 rfl) ?_
  refine n_callI (wc := [(h0, .inr (3, mF q (nI 0) (tz))), (q 7, .inl (ca 1, 6, .inl (F 7))), (q 9, .inl (ca 0, 6, .inl (F 9)))]) (wr := [(q 3, .inl (ca 1, 9600, .inl (F 3))), (q 4, .inl (ca 0, 6, .inl (F 4))), (q 5, .inl (ca 0, 6, .inl (F 5))), (q 6, .inl (ca 0, 6, .inl (F 6))), (q 8, .inl (ca 0, 6, .inl (F 8))), (q 10, .inl (ca 1, 1600, .inl (F 10))), (q 11, .inl (ca 1, 1600, .inl (F 11)))]) C [0, 5, 7] [1, 2, 3, 4, 6, 8, 9] rfl rfl rfl rfl (by decide) (fun hp => va_runV (rest := [.ref (h0)]) S (c_M_has l D ca s0 a0 Z h0 q (nI 0) tz F k0 (by omega) true rm (nI n) hS.2.2.2.2.1 hS.2.2.2.2.2 hro _) (cwV 2 hts (gV g_463 g_464 g_26 g_34 g_465) rfl rfl rfl (by decide +kernel) ⟨Nat.le_of_ble_eq_true rfl, Nat.le_of_ble_eq_true rfl⟩) ⟨hp.1, n_recv C 0 3 rfl rfl, hp.2⟩ rfl rfl hl.1 rfl (lv_room (Nat.le_of_ble_eq_true rfl)) dM_same_51 ⟨Nat.le_of_ble_eq_true rfl, Nat.le_of_ble_eq_true rfl⟩) (fun r u H locs hp C => ?_)
  replace C : Cx D ca s0 A s [(h0, .inr (3, mF q (nI 0) (tz))), (q 3, .inl (ca 1, 9600, .inl (F 3))), (q 4, .inl (ca 0, 6, .inl (F 4))), (q 5, .inl (ca 0, 6, .inl (F 5))), (q 6, .inl (ca 0, 6, .inl (F 6))), (q 7, .inl (ca 1, 6, .inl (F 7))), (q 8, .inl (ca 0, 6, .inl (F 8))), (q 9, .inl (ca 0, 6, .inl (F 9))), (q 10, .inl (ca 1, 1600, .inl (F 10))), (q 11, .inl (ca 1, 1600, .inl (F 11)))] H locs := C.re [7, 0, 1, 2, 3, 8, 4, 9, 5, 6] rfl rfl
  subst hp
  refine lv_topi (nm_r (e' := nI 1) (by rw [hcg]; rfl) ?_)
  refine n_if_eq (tgt := 70) S (by omega) dM_same_54 (by decide) (fun hc => False.elim (by omega)) (fun hc => ?_)
  refine lv_aload_n hx hb dM_same_57 rfl (lv_at hl 0 rfl) ?_
  refine lv_iload_n hx hb dM_same_58 rfl (lv_at hl 2 rfl) ?_
  refine lv_iload_n hx hb dM_same_59 rfl (lv_at hl 3 rfl) ?_
  refine n_callI (wc := [(h0, .inr (3, mF q (nI 0) (tz))), (q 7, .inl (ca 1, 6, .inl (F 7))), (q 9, .inl (ca 0, 6, .inl (F 9)))]) (wr := [(q 3, .inl (ca 1, 9600, .inl (F 3))), (q 4, .inl (ca 0, 6, .inl (F 4))), (q 5, .inl (ca 0, 6, .inl (F 5))), (q 6, .inl (ca 0, 6, .inl (F 6))), (q 8, .inl (ca 0, 6, .inl (F 8))), (q 10, .inl (ca 1, 1600, .inl (F 10))), (q 11, .inl (ca 1, 1600, .inl (F 11)))]) C [0, 5, 7] [1, 2, 3, 4, 6, 8, 9] rfl rfl rfl rfl (by decide) (fun hp => va_runV (rest := [.ref (h0)]) S (c_M_has l D ca s0 a0 Z h0 q (nI 0) tz F k1 (by omega) true rm2 (nI n) hS2.2.2.2.2.1 hS2.2.2.2.2.2 hro2 _) (cwV 2 hts (gV g_463 g_464 g_26 g_34 g_465) rfl rfl rfl (by decide +kernel) ⟨Nat.le_of_ble_eq_true rfl, Nat.le_of_ble_eq_true rfl⟩) ⟨hp.1, n_recv C 0 3 rfl rfl, hp.2⟩ rfl rfl hl.1 rfl (lv_room (Nat.le_of_ble_eq_true rfl)) dM_same_60 ⟨Nat.le_of_ble_eq_true rfl, Nat.le_of_ble_eq_true rfl⟩) (fun r u H locs hp C => ?_)
  replace C : Cx D ca s0 A s [(h0, .inr (3, mF q (nI 0) (tz))), (q 3, .inl (ca 1, 9600, .inl (F 3))), (q 4, .inl (ca 0, 6, .inl (F 4))), (q 5, .inl (ca 0, 6, .inl (F 5))), (q 6, .inl (ca 0, 6, .inl (F 6))), (q 7, .inl (ca 1, 6, .inl (F 7))), (q 8, .inl (ca 0, 6, .inl (F 8))), (q 9, .inl (ca 0, 6, .inl (F 9))), (q 10, .inl (ca 1, 1600, .inl (F 10))), (q 11, .inl (ca 1, 1600, .inl (F 11)))] H locs := C.re [7, 0, 1, 2, 3, 8, 4, 9, 5, 6] rfl rfl
  subst hp
  refine lv_topi (nm_r (e' := nI 1) (by rw [hcg2]; rfl) ?_)
  refine n_if_eq (tgt := 70) S (by omega) dM_same_63 (by decide) (fun hc => False.elim (by omega)) (fun hc => ?_)
  refine lv_iconst (v := nI 0) hx hb dM_same_66 (by decide) ?_
  refine lv_goto (tgt := 71) hx hb dM_same_67 (by decide) ?_
  refine n_put S C hin_M tyM tyM_ok nmM 0 rfl rfl 0 (by decide) g_402 rfl rfl rfl rfl (Nat.le_of_ble_eq_true rfl) dM_same_71 (fun H locs C => ?_)
  replace C : Cx D ca s0 A s [(h0, .inr (3, mF q (nI 0) (tz))), (q 3, .inl (ca 1, 9600, .inl (F 3))), (q 4, .inl (ca 0, 6, .inl (F 4))), (q 5, .inl (ca 0, 6, .inl (F 5))), (q 6, .inl (ca 0, 6, .inl (F 6))), (q 7, .inl (ca 1, 6, .inl (F 7))), (q 8, .inl (ca 0, 6, .inl (F 8))), (q 9, .inl (ca 0, 6, .inl (F 9))), (q 10, .inl (ca 1, 1600, .inl (F 10))), (q 11, .inl (ca 1, 1600, .inl (F 11)))] H locs := C
  refine lv_aload_n hx hb dM_same_74 rfl (lv_at hl 0 rfl) ?_
  refine n_get S C hin_M 0 rfl rfl 0 (by decide) g_402 rfl dM_same_75 ?_
  refine n_if_le (tgt := 83) S (by omega) dM_same_78 (by decide) (fun hc => ?_) (fun hc => False.elim (by omega))
  refine lv_aload_n hx hb dM_same_83 rfl (lv_at hl 0 rfl) ?_
  refine lv_iconst (v := nI 4) hx hb dM_same_84 (by decide) ?_
  refine lv_iload_n hx hb dM_same_85 rfl (lv_at hl 1 rfl) ?_
  refine n_callV (wc := [(h0, .inr (3, mF q (nI 0) (tz))), (q 3, .inl (ca 1, 9600, .inl (F 3))), (q 4, .inl (ca 0, 6, .inl (F 4))), (q 5, .inl (ca 0, 6, .inl (F 5))), (q 6, .inl (ca 0, 6, .inl (F 6))), (q 7, .inl (ca 1, 6, .inl (F 7))), (q 8, .inl (ca 0, 6, .inl (F 8))), (q 9, .inl (ca 0, 6, .inl (F 9)))]) (wr := [(q 10, .inl (ca 1, 1600, .inl (F 10))), (q 11, .inl (ca 1, 1600, .inl (F 11)))]) C [0, 1, 2, 3, 4, 5, 6, 7] [8, 9] rfl rfl rfl rfl (by decide) (fun hp => va_runV (rest := []) S (c_M_copyAll l D ca s0 a0 Z h0 q (nI 0) tz F 4 k0 (by decide) (by omega) c0 k en tk true rm hS _) (cwV 2 hts (gV g_477 g_478 g_28 g_34 g_479) rfl rfl rfl (by decide +kernel) ⟨Nat.le_of_ble_eq_true rfl, Nat.le_of_ble_eq_true rfl⟩) ⟨hp.1, n_recv C 0 3 rfl rfl, hp.2⟩ rfl rfl hl.1 rfl (lv_room (Nat.le_of_ble_eq_true rfl)) dM_same_86 ⟨Nat.le_of_ble_eq_true rfl, Nat.le_of_ble_eq_true rfl⟩) (fun u H locs hp C => ?_)
  replace C : Cx D ca s0 A s [(h0, .inr (3, mF q (nI 0) (tz))), (q 3, .inl (ca 1, 9600, .inl (u 3))), (q 4, .inl (ca 0, 6, .inl (u 4))), (q 5, .inl (ca 0, 6, .inl (u 5))), (q 6, .inl (ca 0, 6, .inl (u 6))), (q 7, .inl (ca 1, 6, .inl (u 7))), (q 8, .inl (ca 0, 6, .inl (u 8))), (q 9, .inl (ca 0, 6, .inl (u 9))), (q 10, .inl (ca 1, 1600, .inl (F 10))), (q 11, .inl (ca 1, 1600, .inl (F 11)))] H locs := C.re [2, 3, 4, 5, 6, 7, 8, 9, 0, 1] rfl rfl
  obtain ⟨G, rfl⟩ : ∃ z, z = u := ⟨_, rfl⟩
  have hU := hp
  have hS3 := hU.off (j := k1) (by omega) hS2
  refine lv_aload_n hx hb dM_same_89 rfl (lv_at hl 0 rfl) ?_
  refine lv_iconst (v := nI 5) hx hb dM_same_90 (by decide) ?_
  refine lv_iload_n hx hb dM_same_91 rfl (lv_at hl 2 rfl) ?_
  refine n_callV (wc := [(h0, .inr (3, mF q (nI 0) (tz))), (q 3, .inl (ca 1, 9600, .inl (G 3))), (q 4, .inl (ca 0, 6, .inl (G 4))), (q 5, .inl (ca 0, 6, .inl (G 5))), (q 6, .inl (ca 0, 6, .inl (G 6))), (q 7, .inl (ca 1, 6, .inl (G 7))), (q 8, .inl (ca 0, 6, .inl (G 8))), (q 9, .inl (ca 0, 6, .inl (G 9)))]) (wr := [(q 10, .inl (ca 1, 1600, .inl (F 10))), (q 11, .inl (ca 1, 1600, .inl (F 11)))]) C [0, 1, 2, 3, 4, 5, 6, 7] [8, 9] rfl rfl rfl rfl (by decide) (fun hp => va_runV (rest := []) S (c_M_copyAll l D ca s0 a0 Z h0 q (nI 0) tz G 5 k1 (by decide) (by omega) d0 j0 en2 tk2 true rm2 hS3 _) (cwV 2 hts (gV g_477 g_478 g_28 g_34 g_479) rfl rfl rfl (by decide +kernel) ⟨Nat.le_of_ble_eq_true rfl, Nat.le_of_ble_eq_true rfl⟩) ⟨hp.1, n_recv C 0 3 rfl rfl, hp.2⟩ rfl rfl hl.1 rfl (lv_room (Nat.le_of_ble_eq_true rfl)) dM_same_92 ⟨Nat.le_of_ble_eq_true rfl, Nat.le_of_ble_eq_true rfl⟩) (fun u H locs hp C => ?_)
  replace C : Cx D ca s0 A s [(h0, .inr (3, mF q (nI 0) (tz))), (q 3, .inl (ca 1, 9600, .inl (u 3))), (q 4, .inl (ca 0, 6, .inl (u 4))), (q 5, .inl (ca 0, 6, .inl (u 5))), (q 6, .inl (ca 0, 6, .inl (u 6))), (q 7, .inl (ca 1, 6, .inl (u 7))), (q 8, .inl (ca 0, 6, .inl (u 8))), (q 9, .inl (ca 0, 6, .inl (u 9))), (q 10, .inl (ca 1, 1600, .inl (F 10))), (q 11, .inl (ca 1, 1600, .inl (F 11)))] H locs := C.re [2, 3, 4, 5, 6, 7, 8, 9, 0, 1] rfl rfl
  obtain ⟨Y, rfl⟩ : ∃ z, z = u := ⟨_, rfl⟩
  have hV := hp
  have hE := (hU.e (by decide)).tr (hV.e (by decide))
  have hS4 := hV.off (j := 4) (by decide) hU.sg
  have hS5 := hV.sg
  have hwi := wid_in k hk
  have hwj := wid_in j0 hj0
  refine lv_iconst (v := nI 1) hx hb dM_same_95 (by decide) ?_
  refine lv_istore hx hb dM_same_96 hl (Nat.le_of_ble_eq_true rfl) rfl (fun ls hl => ?_)
  replace hl : lv_has ls 7 [(4, .int (nI 1)), (0, .ref (h0)), (1, .int (nI k0)), (2, .int (nI k1)), (3, .int (nI n))] := hl
  refine lv_iconst (v := nI 0) hx hb dM_same_98 (by decide) ?_
  refine lv_istore hx hb dM_same_99 hl (Nat.le_of_ble_eq_true rfl) rfl (fun ls hl => ?_)
  replace hl : lv_has ls 7 [(5, .int (nI 0)), (4, .int (nI 1)), (0, .ref (h0)), (1, .int (nI k0)), (2, .int (nI k1)), (3, .int (nI n))] := hl
  have lp101 : ∀ (nf : Nat) (i : Nat) (b1 : Nat → Int32) (p1 : Nat → Int32) (l1 : Nat → Int32) (n1 : Nat → Int32) (x1 : Nat → Int32) (H : Heap) (locs : List Loc) (ls : Array Slot), n - i < nf → i ≤ n → sameI F (sqC (wid k) c0 i) (sqC (wid j0) d0 i) b1 p1 l1 → Cx D ca s0 A s [(h0, .inr (3, mF q (nI 0) (tz))), (q 3, .inl (ca 1, 9600, .inl (b1))), (q 4, .inl (ca 0, 6, .inl (Y 4))), (q 5, .inl (ca 0, 6, .inl (p1))), (q 6, .inl (ca 0, 6, .inl (Y 6))), (q 7, .inl (ca 1, 6, .inl (Y 7))), (q 8, .inl (ca 0, 6, .inl (Y 8))), (q 9, .inl (ca 0, 6, .inl (l1))), (q 10, .inl (ca 1, 1600, .inl (n1))), (q 11, .inl (ca 1, 1600, .inl (x1)))] H locs → lv_has ls 7 [(5, .int (nI i)), (4, .int (b2i (eqB (wid k) c0 (wid j0) d0 i))), (0, .ref (h0)), (1, .int (nI k0)), (2, .int (nI k1)), (3, .int (nI n))] → W p l e rm_M_same_ok s m args below meth c H locs 0 0 Q (F0 m 101 ls []) := by
    intro nf
    induction nf with
    | zero => intro i b1 p1 l1 n1 x1 H locs ls hn; exact absurd hn (Nat.not_lt_zero _)
    | succ nf ih_lp101 =>
      intro i b1 p1 l1 n1 x1 H locs ls hn lp101_le hI C hl
      refine lv_iload hx hb dM_same_101 (lv_at hl 0 rfl) ?_
      refine lv_iload_n hx hb dM_same_103 rfl (lv_at hl 5 rfl) ?_
      refine n_icmp_ge (tgt := 142) S (by omega) (by omega) dM_same_104 (by decide) (fun hc104 => ?_) (fun hc104 => ?_)
      · skip
        rw [show i = n by omega] at hI hl
        refine lv_iload hx hb dM_same_142 (lv_at hl 1 rfl) ?_
        exact ret (b2i (eqB (wid k) c0 (wid j0) d0 n)) ((mkF b1 (Y 4) p1 (Y 6) (Y 7) (Y 8) l1 n1 x1)) _ _ _ _ _ _ (b2i_narrow _) (Nat.le_refl _) (Nat.le_refl _) (⟨rfl, hI.2.2.1, fun j hj => ⟨(hE.2 j hj).1, hI.2.2.2.1 j hj, (hE.2 j hj).2.2.1, (hE.2 j hj).2.2.2.1, (hE.2 j hj).2.2.2.2.1, hI.2.2.2.2 j hj⟩⟩) C dM_same_144
      · skip
        refine lv_aload_n hx hb dM_same_107 rfl (lv_at hl 2 rfl) ?_
        refine lv_iconst (v := nI 4) hx hb dM_same_108 (by decide) ?_
        refine n_callI (wc := [(h0, .inr (3, mF q (nI 0) (tz))), (q 3, .inl (ca 1, 9600, .inl (b1))), (q 4, .inl (ca 0, 6, .inl (Y 4))), (q 5, .inl (ca 0, 6, .inl (p1))), (q 9, .inl (ca 0, 6, .inl (l1))), (q 10, .inl (ca 1, 1600, .inl (n1))), (q 11, .inl (ca 1, 1600, .inl (x1)))]) (wr := [(q 6, .inl (ca 0, 6, .inl (Y 6))), (q 7, .inl (ca 1, 6, .inl (Y 7))), (q 8, .inl (ca 0, 6, .inl (Y 8)))]) C [0, 1, 2, 3, 7, 8, 9] [4, 5, 6] rfl rfl rfl rfl (by decide) (fun hp => va_runV (rest := []) S (c_M_comeOut l D ca s0 a0 Z h0 q (nI 0) tz 4 k (by decide) hk b1 (Y 4) p1 l1 n1 x1 hS4.2.1 (l1 4) rfl (sqC (wid k) c0 i) hI.1 (sqC_le hp0 (by omega) i) _) (cwV 1 hts (gV g_466 g_467 g_27 g_34 g_468) rfl rfl rfl (by decide +kernel) ⟨Nat.le_of_ble_eq_true rfl, Nat.le_of_ble_eq_true rfl⟩) ⟨hp.1, n_recv C 0 3 rfl rfl, hp.2⟩ rfl rfl hl.1 rfl (lv_room (Nat.le_of_ble_eq_true rfl)) dM_same_109 ⟨Nat.le_of_ble_eq_true rfl, Nat.le_of_ble_eq_true rfl⟩) (fun r u H locs hp C => ?_)
        replace C : Cx D ca s0 A s [(h0, .inr (3, mF q (nI 0) (tz))), (q 3, .inl (ca 1, 9600, .inl (u.1))), (q 4, .inl (ca 0, 6, .inl ((Y 4)))), (q 5, .inl (ca 0, 6, .inl (u.2.1))), (q 6, .inl (ca 0, 6, .inl (Y 6))), (q 7, .inl (ca 1, 6, .inl (Y 7))), (q 8, .inl (ca 0, 6, .inl (Y 8))), (q 9, .inl (ca 0, 6, .inl (u.2.2.1))), (q 10, .inl (ca 1, 1600, .inl (u.2.2.2.1))), (q 11, .inl (ca 1, 1600, .inl (u.2.2.2.2)))] H locs := C.re [3, 4, 5, 6, 0, 1, 2, 7, 8, 9] rfl rfl
        obtain ⟨bAo, pAo, lAo, nAo, xAo⟩ := u
        replace C : Cx D ca s0 A s [(h0, .inr (3, mF q (nI 0) (tz))), (q 3, .inl (ca 1, 9600, .inl (bAo))), (q 4, .inl (ca 0, 6, .inl ((Y 4)))), (q 5, .inl (ca 0, 6, .inl (pAo))), (q 6, .inl (ca 0, 6, .inl (Y 6))), (q 7, .inl (ca 1, 6, .inl (Y 7))), (q 8, .inl (ca 0, 6, .inl (Y 8))), (q 9, .inl (ca 0, 6, .inl (lAo))), (q 10, .inl (ca 1, 1600, .inl (nAo))), (q 11, .inl (ca 1, 1600, .inl (xAo)))] H locs := C
        obtain ⟨hp, hRAo, hFAo⟩ := hp
        subst hp
        have hI2 := hI.a hRAo hFAo
        refine lv_istore hx hb dM_same_112 hl (Nat.le_of_ble_eq_true rfl) rfl (fun ls hl => ?_)
        replace hl : lv_has ls 7 [(6, .int (nI (giveB (wid k) (sqC (wid k) c0 i)))), (5, .int (nI i)), (4, .int (b2i (eqB (wid k) c0 (wid j0) d0 i))), (0, .ref (h0)), (1, .int (nI k0)), (2, .int (nI k1)), (3, .int (nI n))] := hl
        refine lv_aload_n hx hb dM_same_114 rfl (lv_at hl 3 rfl) ?_
        refine lv_iconst (v := nI 5) hx hb dM_same_115 (by decide) ?_
        refine n_callI (wc := [(h0, .inr (3, mF q (nI 0) (tz))), (q 3, .inl (ca 1, 9600, .inl (bAo))), (q 4, .inl (ca 0, 6, .inl ((Y 4)))), (q 5, .inl (ca 0, 6, .inl (pAo))), (q 9, .inl (ca 0, 6, .inl (lAo))), (q 10, .inl (ca 1, 1600, .inl (nAo))), (q 11, .inl (ca 1, 1600, .inl (xAo)))]) (wr := [(q 6, .inl (ca 0, 6, .inl (Y 6))), (q 7, .inl (ca 1, 6, .inl (Y 7))), (q 8, .inl (ca 0, 6, .inl (Y 8)))]) C [0, 1, 2, 3, 7, 8, 9] [4, 5, 6] rfl rfl rfl rfl (by decide) (fun hp => va_runV (rest := []) S (c_M_comeOut l D ca s0 a0 Z h0 q (nI 0) tz 5 j0 (by decide) hj0 bAo (Y 4) pAo lAo nAo xAo hS5.2.1 (lAo 5) rfl (sqC (wid j0) d0 i) hI2.2.1 (sqC_le hq0 (by omega) i) _) (cwV 1 hts (gV g_466 g_467 g_27 g_34 g_468) rfl rfl rfl (by decide +kernel) ⟨Nat.le_of_ble_eq_true rfl, Nat.le_of_ble_eq_true rfl⟩) ⟨hp.1, n_recv C 0 3 rfl rfl, hp.2⟩ rfl rfl hl.1 rfl (lv_room (Nat.le_of_ble_eq_true rfl)) dM_same_116 ⟨Nat.le_of_ble_eq_true rfl, Nat.le_of_ble_eq_true rfl⟩) (fun r u H locs hp C => ?_)
        replace C : Cx D ca s0 A s [(h0, .inr (3, mF q (nI 0) (tz))), (q 3, .inl (ca 1, 9600, .inl (u.1))), (q 4, .inl (ca 0, 6, .inl ((Y 4)))), (q 5, .inl (ca 0, 6, .inl (u.2.1))), (q 6, .inl (ca 0, 6, .inl (Y 6))), (q 7, .inl (ca 1, 6, .inl (Y 7))), (q 8, .inl (ca 0, 6, .inl (Y 8))), (q 9, .inl (ca 0, 6, .inl (u.2.2.1))), (q 10, .inl (ca 1, 1600, .inl (u.2.2.2.1))), (q 11, .inl (ca 1, 1600, .inl (u.2.2.2.2)))] H locs := C.re [3, 4, 5, 6, 0, 1, 2, 7, 8, 9] rfl rfl
        obtain ⟨bBo, pBo, lBo, nBo, xBo⟩ := u
        replace C : Cx D ca s0 A s [(h0, .inr (3, mF q (nI 0) (tz))), (q 3, .inl (ca 1, 9600, .inl (bBo))), (q 4, .inl (ca 0, 6, .inl ((Y 4)))), (q 5, .inl (ca 0, 6, .inl (pBo))), (q 6, .inl (ca 0, 6, .inl (Y 6))), (q 7, .inl (ca 1, 6, .inl (Y 7))), (q 8, .inl (ca 0, 6, .inl (Y 8))), (q 9, .inl (ca 0, 6, .inl (lBo))), (q 10, .inl (ca 1, 1600, .inl (nBo))), (q 11, .inl (ca 1, 1600, .inl (xBo)))] H locs := C
        obtain ⟨hp, hRBo, hFBo⟩ := hp
        subst hp
        have hI3 := hI2.b hRBo hFBo
        refine lv_iload hx hb dM_same_119 (lv_at hl 0 rfl) ?_
        refine n_icmp_ne (tgt := 133) S (Nat.lt_trans (byB_lt _ _) (by decide)) (Nat.lt_trans (byB_lt _ _) (by decide)) dM_same_121 (by decide) (fun hc121 => ?_) (fun hc121 => ?_)
        · skip
          refine lv_iconst (v := nI 0) hx hb dM_same_133 (by decide) ?_
          refine lv_topi (nm_r (e' := b2i (eqB (wid k) c0 (wid j0) d0 (i + 1))) (show nI 0 = b2i (decide (giveB (wid j0) (sqC (wid j0) d0 i) = giveB (wid k) (sqC (wid k) c0 i)) && eqB (wid k) c0 (wid j0) d0 i) from by first | (rw [decide_eq_false hc121]; rfl) | (rw [b2i_0.mp hc126, Bool.and_false]; rfl)) ?_)
          refine lv_istore hx hb dM_same_134 hl (Nat.le_of_ble_eq_true rfl) rfl (fun ls hl => ?_)
          replace hl : lv_has ls 7 [(4, .int (b2i (eqB (wid k) c0 (wid j0) d0 (i + 1)))), (6, .int (nI (giveB (wid k) (sqC (wid k) c0 i)))), (5, .int (nI i)), (0, .ref (h0)), (1, .int (nI k0)), (2, .int (nI k1)), (3, .int (nI n))] := hl
          refine lv_iinc (k := 2) (v := nI (i + 1)) hx hb dM_same_136 hl rfl (n_inc1 _) (Nat.le_of_ble_eq_true rfl) rfl (fun ls hl => ?_)
          replace hl : lv_has ls 7 [(5, .int (nI (i + 1))), (4, .int (b2i (eqB (wid k) c0 (wid j0) d0 (i + 1)))), (6, .int (nI (giveB (wid k) (sqC (wid k) c0 i)))), (0, .ref (h0)), (1, .int (nI k0)), (2, .int (nI k1)), (3, .int (nI n))] := hl
          refine lv_goto (tgt := 101) hx hb dM_same_139 (by decide) ?_
          exact ih_lp101 (i + 1) _ _ _ _ _ _ _ _ (by omega) (by omega) hI3 C (lv_sub hl [0, 1, 3, 4, 5, 6] rfl)
        · skip
          refine lv_iload hx hb dM_same_124 (lv_at hl 2 rfl) ?_
          refine lv_if_eq (tgt := 133) hx hb dM_same_126 (by decide) (fun hc126 => ?_) (fun hc126 => ?_)
          · skip
            refine lv_iconst (v := nI 0) hx hb dM_same_133 (by decide) ?_
            refine lv_topi (nm_r (e' := b2i (eqB (wid k) c0 (wid j0) d0 (i + 1))) (show nI 0 = b2i (decide (giveB (wid j0) (sqC (wid j0) d0 i) = giveB (wid k) (sqC (wid k) c0 i)) && eqB (wid k) c0 (wid j0) d0 i) from by first | (rw [decide_eq_false hc121]; rfl) | (rw [b2i_0.mp hc126, Bool.and_false]; rfl)) ?_)
            refine lv_istore hx hb dM_same_134 hl (Nat.le_of_ble_eq_true rfl) rfl (fun ls hl => ?_)
            replace hl : lv_has ls 7 [(4, .int (b2i (eqB (wid k) c0 (wid j0) d0 (i + 1)))), (6, .int (nI (giveB (wid k) (sqC (wid k) c0 i)))), (5, .int (nI i)), (0, .ref (h0)), (1, .int (nI k0)), (2, .int (nI k1)), (3, .int (nI n))] := hl
            refine lv_iinc (k := 2) (v := nI (i + 1)) hx hb dM_same_136 hl rfl (n_inc1 _) (Nat.le_of_ble_eq_true rfl) rfl (fun ls hl => ?_)
            replace hl : lv_has ls 7 [(5, .int (nI (i + 1))), (4, .int (b2i (eqB (wid k) c0 (wid j0) d0 (i + 1)))), (6, .int (nI (giveB (wid k) (sqC (wid k) c0 i)))), (0, .ref (h0)), (1, .int (nI k0)), (2, .int (nI k1)), (3, .int (nI n))] := hl
            refine lv_goto (tgt := 101) hx hb dM_same_139 (by decide) ?_
            exact ih_lp101 (i + 1) _ _ _ _ _ _ _ _ (by omega) (by omega) hI3 C (lv_sub hl [0, 1, 3, 4, 5, 6] rfl)
          · skip
            refine lv_iconst (v := nI 1) hx hb dM_same_129 (by decide) ?_
            refine lv_goto (tgt := 134) hx hb dM_same_130 (by decide) ?_
            refine lv_topi (nm_r (e' := b2i (eqB (wid k) c0 (wid j0) d0 (i + 1))) (show nI 1 = b2i (decide (giveB (wid j0) (sqC (wid j0) d0 i) = giveB (wid k) (sqC (wid k) c0 i)) && eqB (wid k) c0 (wid j0) d0 i) from by rw [decide_eq_true hc121, b2i_n0.mp hc126]; rfl) ?_)
            refine lv_istore hx hb dM_same_134 hl (Nat.le_of_ble_eq_true rfl) rfl (fun ls hl => ?_)
            replace hl : lv_has ls 7 [(4, .int (b2i (eqB (wid k) c0 (wid j0) d0 (i + 1)))), (6, .int (nI (giveB (wid k) (sqC (wid k) c0 i)))), (5, .int (nI i)), (0, .ref (h0)), (1, .int (nI k0)), (2, .int (nI k1)), (3, .int (nI n))] := hl
            refine lv_iinc (k := 2) (v := nI (i + 1)) hx hb dM_same_136 hl rfl (n_inc1 _) (Nat.le_of_ble_eq_true rfl) rfl (fun ls hl => ?_)
            replace hl : lv_has ls 7 [(5, .int (nI (i + 1))), (4, .int (b2i (eqB (wid k) c0 (wid j0) d0 (i + 1)))), (6, .int (nI (giveB (wid k) (sqC (wid k) c0 i)))), (0, .ref (h0)), (1, .int (nI k0)), (2, .int (nI k1)), (3, .int (nI n))] := hl
            refine lv_goto (tgt := 101) hx hb dM_same_139 (by decide) ?_
            exact ih_lp101 (i + 1) _ _ _ _ _ _ _ _ (by omega) (by omega) hI3 C (lv_sub hl [0, 1, 3, 4, 5, 6] rfl)
  exact lp101 (n + 1) 0 _ _ _ _ _ _ _ _ (by omega) (by omega) ⟨hS4.1, hS5.1, hE.1, fun j hj => (hE.2 j hj).2.1, fun j hj => (hE.2 j hj).2.2.2.2.2⟩ C (lv_sub hl [0, 1, 2, 3, 4, 5] rfl)
abbrev rm_M_init : Room := { frames := 9, cells := 12, slots := 14039, locals := 210 }
set_option maxHeartbeats 4000000 in
set_option maxRecDepth 100000 in
theorem c_M_init (l : Launch) (D : va_G) (ca : Nat → ClassId) (s0 : State) (a0 : Array Value) (Z : Wd a0 s0) (h0 : Nat) : CtV l yM_init [.code yM_init cM_init 2 none] rm_M_init 12 14039 D ca s0 [.ref (h0)] [(h0, .inr (3, [.int (0), .int (0), .null, .null, .null, .null, .null, .null, .null, .null, .null, .null, .null, .null]))] (S := (Nat → Nat) × MFn) (fun u => ∀ k, k < 4 → mSg u.2 k newSp) (fun u => [(h0, .inr (3, mF u.1 0 0)), (u.1 0, .inl (ca 0, 300, .inl (fun _ => 0))), (u.1 1, .inl (ca 0, 3, .inl (fun _ => 0))), (u.1 2, .inl (ca 0, 900, .inl (fun _ => 0))), (u.1 3, .inl (ca 1, 9600, .inl (u.2 3))), (u.1 4, .inl (ca 0, 6, .inl (u.2 4))), (u.1 5, .inl (ca 0, 6, .inl (u.2 5))), (u.1 6, .inl (ca 0, 6, .inl (u.2 6))), (u.1 7, .inl (ca 1, 6, .inl (u.2 7))), (u.1 8, .inl (ca 0, 6, .inl (u.2 8))), (u.1 9, .inl (ca 0, 6, .inl (u.2 9))), (u.1 10, .inl (ca 1, 1600, .inl (u.2 10))), (u.1 11, .inl (ca 1, 1600, .inl (u.2 11)))]) := by
  refine ctV_of (cc := cM_init) (maxL := 2) (own := RM) Z rfl (by decide) rfl (Nat.le_of_ble_eq_true rfl) ?_
  intro p e s m args below meth c A ls Q S hnm ret C hl
  have hx := S.1
  have hb := S.2.1
  have hown := S.2.2.2.1
  have hts := S.2.2.2.2
  generalize s.heap = H at C ⊢
  generalize ([] : List Loc) = locs at C ⊢
  replace hl : lv_has ls 2 [(0, .ref (h0))] := hl
  have hin2 : meth.name = "<init>" := hnm
  refine lv_aload_n hx hb dM_init_0 rfl (lv_at hl 0 rfl) ?_
  refine n_objInit S g_341 g_49 g_50 hl.1 dM_init_1 (Nat.le_of_ble_eq_true rfl) (Nat.le_of_ble_eq_true rfl) ?_
  refine lv_aload_n hx hb dM_init_4 rfl (lv_at hl 0 rfl) ?_
  refine lv_sipush (v := nI 300) hx hb dM_init_5 (by decide) ?_
  refine n_newa (N := 300) (x := (300, .inl (fun _ => 0))) S C 0 rfl (fun _ h => by cases h) g_416 rfl (fun _ => rfl) (by decide) (by decide) (Nat.le_of_ble_eq_true rfl) (Nat.le_of_ble_eq_true rfl) dM_init_8 (fun v0 H C => ?_)
  replace C : Cx D ca s0 A s [(h0, .inr (3, [.int (0), .int (0), .null, .null, .null, .null, .null, .null, .null, .null, .null, .null, .null, .null])), (v0, .inl (ca 0, 300, .inl (fun _ => 0)))] H locs := C
  refine n_putF S C hin_M tyM tyM_ok nmM 0 rfl rfl 2 (by decide) g_404 rfl hin2 rfl rfl rfl rfl (Nat.le_of_ble_eq_true rfl) dM_init_10 (fun H locs C => ?_)
  replace C : Cx D ca s0 A s [(h0, .inr (3, [.int (0), .int (0), .ref (v0), .null, .null, .null, .null, .null, .null, .null, .null, .null, .null, .null])), (v0, .inl (ca 0, 300, .inl (fun _ => 0)))] H locs := C
  refine lv_aload_n hx hb dM_init_13 rfl (lv_at hl 0 rfl) ?_
  refine lv_iconst (v := nI 3) hx hb dM_init_14 (by decide) ?_
  refine n_newa (N := 3) (x := (3, .inl (fun _ => 0))) S C 0 rfl (fun _ h => by cases h) g_416 rfl (fun _ => rfl) (by decide) (by decide) (Nat.le_of_ble_eq_true rfl) (Nat.le_of_ble_eq_true rfl) dM_init_15 (fun v1 H C => ?_)
  replace C : Cx D ca s0 A s [(h0, .inr (3, [.int (0), .int (0), .ref (v0), .null, .null, .null, .null, .null, .null, .null, .null, .null, .null, .null])), (v0, .inl (ca 0, 300, .inl (fun _ => 0))), (v1, .inl (ca 0, 3, .inl (fun _ => 0)))] H locs := C
  refine n_putF S C hin_M tyM tyM_ok nmM 0 rfl rfl 3 (by decide) g_405 rfl hin2 rfl rfl rfl rfl (Nat.le_of_ble_eq_true rfl) dM_init_17 (fun H locs C => ?_)
  replace C : Cx D ca s0 A s [(h0, .inr (3, [.int (0), .int (0), .ref (v0), .ref (v1), .null, .null, .null, .null, .null, .null, .null, .null, .null, .null])), (v0, .inl (ca 0, 300, .inl (fun _ => 0))), (v1, .inl (ca 0, 3, .inl (fun _ => 0)))] H locs := C
  refine lv_aload_n hx hb dM_init_20 rfl (lv_at hl 0 rfl) ?_
  refine lv_sipush (v := nI 900) hx hb dM_init_21 (by decide) ?_
  refine n_newa (N := 900) (x := (900, .inl (fun _ => 0))) S C 0 rfl (fun _ h => by cases h) g_416 rfl (fun _ => rfl) (by decide) (by decide) (Nat.le_of_ble_eq_true rfl) (Nat.le_of_ble_eq_true rfl) dM_init_24 (fun v2 H C => ?_)
  replace C : Cx D ca s0 A s [(h0, .inr (3, [.int (0), .int (0), .ref (v0), .ref (v1), .null, .null, .null, .null, .null, .null, .null, .null, .null, .null])), (v0, .inl (ca 0, 300, .inl (fun _ => 0))), (v1, .inl (ca 0, 3, .inl (fun _ => 0))), (v2, .inl (ca 0, 900, .inl (fun _ => 0)))] H locs := C
  refine n_putF S C hin_M tyM tyM_ok nmM 0 rfl rfl 4 (by decide) g_406 rfl hin2 rfl rfl rfl rfl (Nat.le_of_ble_eq_true rfl) dM_init_26 (fun H locs C => ?_)
  replace C : Cx D ca s0 A s [(h0, .inr (3, [.int (0), .int (0), .ref (v0), .ref (v1), .ref (v2), .null, .null, .null, .null, .null, .null, .null, .null, .null])), (v0, .inl (ca 0, 300, .inl (fun _ => 0))), (v1, .inl (ca 0, 3, .inl (fun _ => 0))), (v2, .inl (ca 0, 900, .inl (fun _ => 0)))] H locs := C
  refine lv_aload_n hx hb dM_init_29 rfl (lv_at hl 0 rfl) ?_
  refine lv_sipush (v := nI 9600) hx hb dM_init_30 (by decide) ?_
  refine n_newa (N := 9600) (x := (9600, .inl (fun _ => 0))) S C 1 rfl (fun _ h => by cases h) g_417 rfl (fun _ => rfl) (by decide) (by decide) (Nat.le_of_ble_eq_true rfl) (Nat.le_of_ble_eq_true rfl) dM_init_33 (fun v3 H C => ?_)
  replace C : Cx D ca s0 A s [(h0, .inr (3, [.int (0), .int (0), .ref (v0), .ref (v1), .ref (v2), .null, .null, .null, .null, .null, .null, .null, .null, .null])), (v0, .inl (ca 0, 300, .inl (fun _ => 0))), (v1, .inl (ca 0, 3, .inl (fun _ => 0))), (v2, .inl (ca 0, 900, .inl (fun _ => 0))), (v3, .inl (ca 1, 9600, .inl (fun _ => 0)))] H locs := C
  refine n_putF S C hin_M tyM tyM_ok nmM 0 rfl rfl 5 (by decide) g_407 rfl hin2 rfl rfl rfl rfl (Nat.le_of_ble_eq_true rfl) dM_init_35 (fun H locs C => ?_)
  replace C : Cx D ca s0 A s [(h0, .inr (3, [.int (0), .int (0), .ref (v0), .ref (v1), .ref (v2), .ref (v3), .null, .null, .null, .null, .null, .null, .null, .null])), (v0, .inl (ca 0, 300, .inl (fun _ => 0))), (v1, .inl (ca 0, 3, .inl (fun _ => 0))), (v2, .inl (ca 0, 900, .inl (fun _ => 0))), (v3, .inl (ca 1, 9600, .inl (fun _ => 0)))] H locs := C
  refine lv_aload_n hx hb dM_init_38 rfl (lv_at hl 0 rfl) ?_
  refine lv_bipush (v := nI 6) hx hb dM_init_39 (by decide) ?_
  refine n_newa (N := 6) (x := (6, .inl (fun _ => 0))) S C 0 rfl (fun _ h => by cases h) g_416 rfl (fun _ => rfl) (by decide) (by decide) (Nat.le_of_ble_eq_true rfl) (Nat.le_of_ble_eq_true rfl) dM_init_41 (fun v4 H C => ?_)
  replace C : Cx D ca s0 A s [(h0, .inr (3, [.int (0), .int (0), .ref (v0), .ref (v1), .ref (v2), .ref (v3), .null, .null, .null, .null, .null, .null, .null, .null])), (v0, .inl (ca 0, 300, .inl (fun _ => 0))), (v1, .inl (ca 0, 3, .inl (fun _ => 0))), (v2, .inl (ca 0, 900, .inl (fun _ => 0))), (v3, .inl (ca 1, 9600, .inl (fun _ => 0))), (v4, .inl (ca 0, 6, .inl (fun _ => 0)))] H locs := C
  refine n_putF S C hin_M tyM tyM_ok nmM 0 rfl rfl 6 (by decide) g_408 rfl hin2 rfl rfl rfl rfl (Nat.le_of_ble_eq_true rfl) dM_init_43 (fun H locs C => ?_)
  replace C : Cx D ca s0 A s [(h0, .inr (3, [.int (0), .int (0), .ref (v0), .ref (v1), .ref (v2), .ref (v3), .ref (v4), .null, .null, .null, .null, .null, .null, .null])), (v0, .inl (ca 0, 300, .inl (fun _ => 0))), (v1, .inl (ca 0, 3, .inl (fun _ => 0))), (v2, .inl (ca 0, 900, .inl (fun _ => 0))), (v3, .inl (ca 1, 9600, .inl (fun _ => 0))), (v4, .inl (ca 0, 6, .inl (fun _ => 0)))] H locs := C
  refine lv_aload_n hx hb dM_init_46 rfl (lv_at hl 0 rfl) ?_
  refine lv_bipush (v := nI 6) hx hb dM_init_47 (by decide) ?_
  refine n_newa (N := 6) (x := (6, .inl (fun _ => 0))) S C 0 rfl (fun _ h => by cases h) g_416 rfl (fun _ => rfl) (by decide) (by decide) (Nat.le_of_ble_eq_true rfl) (Nat.le_of_ble_eq_true rfl) dM_init_49 (fun v5 H C => ?_)
  replace C : Cx D ca s0 A s [(h0, .inr (3, [.int (0), .int (0), .ref (v0), .ref (v1), .ref (v2), .ref (v3), .ref (v4), .null, .null, .null, .null, .null, .null, .null])), (v0, .inl (ca 0, 300, .inl (fun _ => 0))), (v1, .inl (ca 0, 3, .inl (fun _ => 0))), (v2, .inl (ca 0, 900, .inl (fun _ => 0))), (v3, .inl (ca 1, 9600, .inl (fun _ => 0))), (v4, .inl (ca 0, 6, .inl (fun _ => 0))), (v5, .inl (ca 0, 6, .inl (fun _ => 0)))] H locs := C
  refine n_putF S C hin_M tyM tyM_ok nmM 0 rfl rfl 7 (by decide) g_409 rfl hin2 rfl rfl rfl rfl (Nat.le_of_ble_eq_true rfl) dM_init_51 (fun H locs C => ?_)
  replace C : Cx D ca s0 A s [(h0, .inr (3, [.int (0), .int (0), .ref (v0), .ref (v1), .ref (v2), .ref (v3), .ref (v4), .ref (v5), .null, .null, .null, .null, .null, .null])), (v0, .inl (ca 0, 300, .inl (fun _ => 0))), (v1, .inl (ca 0, 3, .inl (fun _ => 0))), (v2, .inl (ca 0, 900, .inl (fun _ => 0))), (v3, .inl (ca 1, 9600, .inl (fun _ => 0))), (v4, .inl (ca 0, 6, .inl (fun _ => 0))), (v5, .inl (ca 0, 6, .inl (fun _ => 0)))] H locs := C
  refine lv_aload_n hx hb dM_init_54 rfl (lv_at hl 0 rfl) ?_
  refine lv_bipush (v := nI 6) hx hb dM_init_55 (by decide) ?_
  refine n_newa (N := 6) (x := (6, .inl (fun _ => 0))) S C 0 rfl (fun _ h => by cases h) g_416 rfl (fun _ => rfl) (by decide) (by decide) (Nat.le_of_ble_eq_true rfl) (Nat.le_of_ble_eq_true rfl) dM_init_57 (fun v6 H C => ?_)
  replace C : Cx D ca s0 A s [(h0, .inr (3, [.int (0), .int (0), .ref (v0), .ref (v1), .ref (v2), .ref (v3), .ref (v4), .ref (v5), .null, .null, .null, .null, .null, .null])), (v0, .inl (ca 0, 300, .inl (fun _ => 0))), (v1, .inl (ca 0, 3, .inl (fun _ => 0))), (v2, .inl (ca 0, 900, .inl (fun _ => 0))), (v3, .inl (ca 1, 9600, .inl (fun _ => 0))), (v4, .inl (ca 0, 6, .inl (fun _ => 0))), (v5, .inl (ca 0, 6, .inl (fun _ => 0))), (v6, .inl (ca 0, 6, .inl (fun _ => 0)))] H locs := C
  refine n_putF S C hin_M tyM tyM_ok nmM 0 rfl rfl 8 (by decide) g_410 rfl hin2 rfl rfl rfl rfl (Nat.le_of_ble_eq_true rfl) dM_init_59 (fun H locs C => ?_)
  replace C : Cx D ca s0 A s [(h0, .inr (3, [.int (0), .int (0), .ref (v0), .ref (v1), .ref (v2), .ref (v3), .ref (v4), .ref (v5), .ref (v6), .null, .null, .null, .null, .null])), (v0, .inl (ca 0, 300, .inl (fun _ => 0))), (v1, .inl (ca 0, 3, .inl (fun _ => 0))), (v2, .inl (ca 0, 900, .inl (fun _ => 0))), (v3, .inl (ca 1, 9600, .inl (fun _ => 0))), (v4, .inl (ca 0, 6, .inl (fun _ => 0))), (v5, .inl (ca 0, 6, .inl (fun _ => 0))), (v6, .inl (ca 0, 6, .inl (fun _ => 0)))] H locs := C
  refine lv_aload_n hx hb dM_init_62 rfl (lv_at hl 0 rfl) ?_
  refine lv_bipush (v := nI 6) hx hb dM_init_63 (by decide) ?_
  refine n_newa (N := 6) (x := (6, .inl (fun _ => 0))) S C 1 rfl (fun _ h => by cases h) g_417 rfl (fun _ => rfl) (by decide) (by decide) (Nat.le_of_ble_eq_true rfl) (Nat.le_of_ble_eq_true rfl) dM_init_65 (fun v7 H C => ?_)
  replace C : Cx D ca s0 A s [(h0, .inr (3, [.int (0), .int (0), .ref (v0), .ref (v1), .ref (v2), .ref (v3), .ref (v4), .ref (v5), .ref (v6), .null, .null, .null, .null, .null])), (v0, .inl (ca 0, 300, .inl (fun _ => 0))), (v1, .inl (ca 0, 3, .inl (fun _ => 0))), (v2, .inl (ca 0, 900, .inl (fun _ => 0))), (v3, .inl (ca 1, 9600, .inl (fun _ => 0))), (v4, .inl (ca 0, 6, .inl (fun _ => 0))), (v5, .inl (ca 0, 6, .inl (fun _ => 0))), (v6, .inl (ca 0, 6, .inl (fun _ => 0))), (v7, .inl (ca 1, 6, .inl (fun _ => 0)))] H locs := C
  refine n_putF S C hin_M tyM tyM_ok nmM 0 rfl rfl 9 (by decide) g_411 rfl hin2 rfl rfl rfl rfl (Nat.le_of_ble_eq_true rfl) dM_init_67 (fun H locs C => ?_)
  replace C : Cx D ca s0 A s [(h0, .inr (3, [.int (0), .int (0), .ref (v0), .ref (v1), .ref (v2), .ref (v3), .ref (v4), .ref (v5), .ref (v6), .ref (v7), .null, .null, .null, .null])), (v0, .inl (ca 0, 300, .inl (fun _ => 0))), (v1, .inl (ca 0, 3, .inl (fun _ => 0))), (v2, .inl (ca 0, 900, .inl (fun _ => 0))), (v3, .inl (ca 1, 9600, .inl (fun _ => 0))), (v4, .inl (ca 0, 6, .inl (fun _ => 0))), (v5, .inl (ca 0, 6, .inl (fun _ => 0))), (v6, .inl (ca 0, 6, .inl (fun _ => 0))), (v7, .inl (ca 1, 6, .inl (fun _ => 0)))] H locs := C
  refine lv_aload_n hx hb dM_init_70 rfl (lv_at hl 0 rfl) ?_
  refine lv_bipush (v := nI 6) hx hb dM_init_71 (by decide) ?_
  refine n_newa (N := 6) (x := (6, .inl (fun _ => 0))) S C 0 rfl (fun _ h => by cases h) g_416 rfl (fun _ => rfl) (by decide) (by decide) (Nat.le_of_ble_eq_true rfl) (Nat.le_of_ble_eq_true rfl) dM_init_73 (fun v8 H C => ?_)
  replace C : Cx D ca s0 A s [(h0, .inr (3, [.int (0), .int (0), .ref (v0), .ref (v1), .ref (v2), .ref (v3), .ref (v4), .ref (v5), .ref (v6), .ref (v7), .null, .null, .null, .null])), (v0, .inl (ca 0, 300, .inl (fun _ => 0))), (v1, .inl (ca 0, 3, .inl (fun _ => 0))), (v2, .inl (ca 0, 900, .inl (fun _ => 0))), (v3, .inl (ca 1, 9600, .inl (fun _ => 0))), (v4, .inl (ca 0, 6, .inl (fun _ => 0))), (v5, .inl (ca 0, 6, .inl (fun _ => 0))), (v6, .inl (ca 0, 6, .inl (fun _ => 0))), (v7, .inl (ca 1, 6, .inl (fun _ => 0))), (v8, .inl (ca 0, 6, .inl (fun _ => 0)))] H locs := C
  refine n_putF S C hin_M tyM tyM_ok nmM 0 rfl rfl 10 (by decide) g_412 rfl hin2 rfl rfl rfl rfl (Nat.le_of_ble_eq_true rfl) dM_init_75 (fun H locs C => ?_)
  replace C : Cx D ca s0 A s [(h0, .inr (3, [.int (0), .int (0), .ref (v0), .ref (v1), .ref (v2), .ref (v3), .ref (v4), .ref (v5), .ref (v6), .ref (v7), .ref (v8), .null, .null, .null])), (v0, .inl (ca 0, 300, .inl (fun _ => 0))), (v1, .inl (ca 0, 3, .inl (fun _ => 0))), (v2, .inl (ca 0, 900, .inl (fun _ => 0))), (v3, .inl (ca 1, 9600, .inl (fun _ => 0))), (v4, .inl (ca 0, 6, .inl (fun _ => 0))), (v5, .inl (ca 0, 6, .inl (fun _ => 0))), (v6, .inl (ca 0, 6, .inl (fun _ => 0))), (v7, .inl (ca 1, 6, .inl (fun _ => 0))), (v8, .inl (ca 0, 6, .inl (fun _ => 0)))] H locs := C
  refine lv_aload_n hx hb dM_init_78 rfl (lv_at hl 0 rfl) ?_
  refine lv_bipush (v := nI 6) hx hb dM_init_79 (by decide) ?_
  refine n_newa (N := 6) (x := (6, .inl (fun _ => 0))) S C 0 rfl (fun _ h => by cases h) g_416 rfl (fun _ => rfl) (by decide) (by decide) (Nat.le_of_ble_eq_true rfl) (Nat.le_of_ble_eq_true rfl) dM_init_81 (fun v9 H C => ?_)
  replace C : Cx D ca s0 A s [(h0, .inr (3, [.int (0), .int (0), .ref (v0), .ref (v1), .ref (v2), .ref (v3), .ref (v4), .ref (v5), .ref (v6), .ref (v7), .ref (v8), .null, .null, .null])), (v0, .inl (ca 0, 300, .inl (fun _ => 0))), (v1, .inl (ca 0, 3, .inl (fun _ => 0))), (v2, .inl (ca 0, 900, .inl (fun _ => 0))), (v3, .inl (ca 1, 9600, .inl (fun _ => 0))), (v4, .inl (ca 0, 6, .inl (fun _ => 0))), (v5, .inl (ca 0, 6, .inl (fun _ => 0))), (v6, .inl (ca 0, 6, .inl (fun _ => 0))), (v7, .inl (ca 1, 6, .inl (fun _ => 0))), (v8, .inl (ca 0, 6, .inl (fun _ => 0))), (v9, .inl (ca 0, 6, .inl (fun _ => 0)))] H locs := C
  refine n_putF S C hin_M tyM tyM_ok nmM 0 rfl rfl 11 (by decide) g_413 rfl hin2 rfl rfl rfl rfl (Nat.le_of_ble_eq_true rfl) dM_init_83 (fun H locs C => ?_)
  replace C : Cx D ca s0 A s [(h0, .inr (3, [.int (0), .int (0), .ref (v0), .ref (v1), .ref (v2), .ref (v3), .ref (v4), .ref (v5), .ref (v6), .ref (v7), .ref (v8), .ref (v9), .null, .null])), (v0, .inl (ca 0, 300, .inl (fun _ => 0))), (v1, .inl (ca 0, 3, .inl (fun _ => 0))), (v2, .inl (ca 0, 900, .inl (fun _ => 0))), (v3, .inl (ca 1, 9600, .inl (fun _ => 0))), (v4, .inl (ca 0, 6, .inl (fun _ => 0))), (v5, .inl (ca 0, 6, .inl (fun _ => 0))), (v6, .inl (ca 0, 6, .inl (fun _ => 0))), (v7, .inl (ca 1, 6, .inl (fun _ => 0))), (v8, .inl (ca 0, 6, .inl (fun _ => 0))), (v9, .inl (ca 0, 6, .inl (fun _ => 0)))] H locs := C
  refine lv_aload_n hx hb dM_init_86 rfl (lv_at hl 0 rfl) ?_
  refine lv_sipush (v := nI 1600) hx hb dM_init_87 (by decide) ?_
  refine n_newa (N := 1600) (x := (1600, .inl (fun _ => 0))) S C 1 rfl (fun _ h => by cases h) g_417 rfl (fun _ => rfl) (by decide) (by decide) (Nat.le_of_ble_eq_true rfl) (Nat.le_of_ble_eq_true rfl) dM_init_90 (fun v10 H C => ?_)
  replace C : Cx D ca s0 A s [(h0, .inr (3, [.int (0), .int (0), .ref (v0), .ref (v1), .ref (v2), .ref (v3), .ref (v4), .ref (v5), .ref (v6), .ref (v7), .ref (v8), .ref (v9), .null, .null])), (v0, .inl (ca 0, 300, .inl (fun _ => 0))), (v1, .inl (ca 0, 3, .inl (fun _ => 0))), (v2, .inl (ca 0, 900, .inl (fun _ => 0))), (v3, .inl (ca 1, 9600, .inl (fun _ => 0))), (v4, .inl (ca 0, 6, .inl (fun _ => 0))), (v5, .inl (ca 0, 6, .inl (fun _ => 0))), (v6, .inl (ca 0, 6, .inl (fun _ => 0))), (v7, .inl (ca 1, 6, .inl (fun _ => 0))), (v8, .inl (ca 0, 6, .inl (fun _ => 0))), (v9, .inl (ca 0, 6, .inl (fun _ => 0))), (v10, .inl (ca 1, 1600, .inl (fun _ => 0)))] H locs := C
  refine n_putF S C hin_M tyM tyM_ok nmM 0 rfl rfl 12 (by decide) g_414 rfl hin2 rfl rfl rfl rfl (Nat.le_of_ble_eq_true rfl) dM_init_92 (fun H locs C => ?_)
  replace C : Cx D ca s0 A s [(h0, .inr (3, [.int (0), .int (0), .ref (v0), .ref (v1), .ref (v2), .ref (v3), .ref (v4), .ref (v5), .ref (v6), .ref (v7), .ref (v8), .ref (v9), .ref (v10), .null])), (v0, .inl (ca 0, 300, .inl (fun _ => 0))), (v1, .inl (ca 0, 3, .inl (fun _ => 0))), (v2, .inl (ca 0, 900, .inl (fun _ => 0))), (v3, .inl (ca 1, 9600, .inl (fun _ => 0))), (v4, .inl (ca 0, 6, .inl (fun _ => 0))), (v5, .inl (ca 0, 6, .inl (fun _ => 0))), (v6, .inl (ca 0, 6, .inl (fun _ => 0))), (v7, .inl (ca 1, 6, .inl (fun _ => 0))), (v8, .inl (ca 0, 6, .inl (fun _ => 0))), (v9, .inl (ca 0, 6, .inl (fun _ => 0))), (v10, .inl (ca 1, 1600, .inl (fun _ => 0)))] H locs := C
  refine lv_aload_n hx hb dM_init_95 rfl (lv_at hl 0 rfl) ?_
  refine lv_sipush (v := nI 1600) hx hb dM_init_96 (by decide) ?_
  refine n_newa (N := 1600) (x := (1600, .inl (fun _ => 0))) S C 1 rfl (fun _ h => by cases h) g_417 rfl (fun _ => rfl) (by decide) (by decide) (Nat.le_of_ble_eq_true rfl) (Nat.le_of_ble_eq_true rfl) dM_init_99 (fun v11 H C => ?_)
  replace C : Cx D ca s0 A s [(h0, .inr (3, [.int (0), .int (0), .ref (v0), .ref (v1), .ref (v2), .ref (v3), .ref (v4), .ref (v5), .ref (v6), .ref (v7), .ref (v8), .ref (v9), .ref (v10), .null])), (v0, .inl (ca 0, 300, .inl (fun _ => 0))), (v1, .inl (ca 0, 3, .inl (fun _ => 0))), (v2, .inl (ca 0, 900, .inl (fun _ => 0))), (v3, .inl (ca 1, 9600, .inl (fun _ => 0))), (v4, .inl (ca 0, 6, .inl (fun _ => 0))), (v5, .inl (ca 0, 6, .inl (fun _ => 0))), (v6, .inl (ca 0, 6, .inl (fun _ => 0))), (v7, .inl (ca 1, 6, .inl (fun _ => 0))), (v8, .inl (ca 0, 6, .inl (fun _ => 0))), (v9, .inl (ca 0, 6, .inl (fun _ => 0))), (v10, .inl (ca 1, 1600, .inl (fun _ => 0))), (v11, .inl (ca 1, 1600, .inl (fun _ => 0)))] H locs := C
  refine n_putF S C hin_M tyM tyM_ok nmM 0 rfl rfl 13 (by decide) g_415 rfl hin2 rfl rfl rfl rfl (Nat.le_of_ble_eq_true rfl) dM_init_101 (fun H locs C => ?_)
  replace C : Cx D ca s0 A s [(h0, .inr (3, [.int (0), .int (0), .ref (v0), .ref (v1), .ref (v2), .ref (v3), .ref (v4), .ref (v5), .ref (v6), .ref (v7), .ref (v8), .ref (v9), .ref (v10), .ref (v11)])), (v0, .inl (ca 0, 300, .inl (fun _ => 0))), (v1, .inl (ca 0, 3, .inl (fun _ => 0))), (v2, .inl (ca 0, 900, .inl (fun _ => 0))), (v3, .inl (ca 1, 9600, .inl (fun _ => 0))), (v4, .inl (ca 0, 6, .inl (fun _ => 0))), (v5, .inl (ca 0, 6, .inl (fun _ => 0))), (v6, .inl (ca 0, 6, .inl (fun _ => 0))), (v7, .inl (ca 1, 6, .inl (fun _ => 0))), (v8, .inl (ca 0, 6, .inl (fun _ => 0))), (v9, .inl (ca 0, 6, .inl (fun _ => 0))), (v10, .inl (ca 1, 1600, .inl (fun _ => 0))), (v11, .inl (ca 1, 1600, .inl (fun _ => 0)))] H locs := C
  obtain ⟨q, rfl, rfl, rfl, rfl, rfl, rfl, rfl, rfl, rfl, rfl, rfl, rfl⟩ := mkQ_ex v0 v1 v2 v3 v4 v5 v6 v7 v8 v9 v10 v11
  replace C : Cx D ca s0 A s [(h0, .inr (3, mF q (0) (0))), (q 0, .inl (ca 0, 300, .inl (fun _ => 0))), (q 1, .inl (ca 0, 3, .inl (fun _ => 0))), (q 2, .inl (ca 0, 900, .inl (fun _ => 0))), (q 3, .inl (ca 1, 9600, .inl (fun _ => 0))), (q 4, .inl (ca 0, 6, .inl (fun _ => 0))), (q 5, .inl (ca 0, 6, .inl (fun _ => 0))), (q 6, .inl (ca 0, 6, .inl (fun _ => 0))), (q 7, .inl (ca 1, 6, .inl (fun _ => 0))), (q 8, .inl (ca 0, 6, .inl (fun _ => 0))), (q 9, .inl (ca 0, 6, .inl (fun _ => 0))), (q 10, .inl (ca 1, 1600, .inl (fun _ => 0))), (q 11, .inl (ca 1, 1600, .inl (fun _ => 0)))] H locs := C
  refine lv_iconst (v := nI 0) hx hb dM_init_104 (by decide) ?_
  refine lv_istore_n hx hb dM_init_105 rfl hl (Nat.le_of_ble_eq_true rfl) rfl (fun ls hl => ?_)
  replace hl : lv_has ls 2 [(1, .int (nI 0)), (0, .ref (h0))] := hl
  have lp106 : ∀ (nf : Nat) (i : Nat) (G : MFn) (H : Heap) (locs : List Loc) (ls : Array Slot), 4 - i < nf → i ≤ 4 → (∀ j, j < i → mSg G j newSp) → Cx D ca s0 A s [(h0, .inr (3, mF q (0) (0))), (q 0, .inl (ca 0, 300, .inl (fun _ => 0))), (q 1, .inl (ca 0, 3, .inl (fun _ => 0))), (q 2, .inl (ca 0, 900, .inl (fun _ => 0))), (q 3, .inl (ca 1, 9600, .inl (G 3))), (q 4, .inl (ca 0, 6, .inl (G 4))), (q 5, .inl (ca 0, 6, .inl (G 5))), (q 6, .inl (ca 0, 6, .inl (G 6))), (q 7, .inl (ca 1, 6, .inl (G 7))), (q 8, .inl (ca 0, 6, .inl (G 8))), (q 9, .inl (ca 0, 6, .inl (G 9))), (q 10, .inl (ca 1, 1600, .inl (G 10))), (q 11, .inl (ca 1, 1600, .inl (G 11)))] H locs → lv_has ls 2 [(1, .int (nI i)), (0, .ref (h0))] → W p l e rm_M_init s m args below meth c H locs (0 + 1 + 1 + 1 + 1 + 1 + 1 + 1 + 1 + 1 + 1 + 1 + 1) (0 + 300 + 3 + 900 + 9600 + 6 + 6 + 6 + 6 + 6 + 6 + 1600 + 1600) Q (F0 m 106 ls []) := by
    intro nf
    induction nf with
    | zero => intro i G H locs ls hn; exact absurd hn (Nat.not_lt_zero _)
    | succ nf ih_lp106 =>
      intro i G H locs ls hn lp106_le hG C hl
      refine lv_iload_n hx hb dM_init_106 rfl (lv_at hl 0 rfl) ?_
      refine lv_iconst (v := nI 4) hx hb dM_init_107 (by decide) ?_
      refine n_icmp_ge (tgt := 123) S (by omega) (by omega) dM_init_108 (by decide) (fun hc108 => ?_) (fun hc108 => ?_)
      · skip
        exact ret ((q, G)) _ _ _ _ _ _ (Nat.le_refl _) (Nat.le_refl _) (fun k hk => hG k (by omega)) C dM_init_123
      · skip
        refine lv_aload_n hx hb dM_init_111 rfl (lv_at hl 1 rfl) ?_
        refine lv_iload_n hx hb dM_init_112 rfl (lv_at hl 0 rfl) ?_
        refine lv_iconst (v := nI 0) hx hb dM_init_113 (by decide) ?_
        refine n_callV (wc := [(h0, .inr (3, mF q (0) (0))), (q 1, .inl (ca 0, 3, .inl (fun _ => 0))), (q 2, .inl (ca 0, 900, .inl (fun _ => 0))), (q 3, .inl (ca 1, 9600, .inl (G 3))), (q 4, .inl (ca 0, 6, .inl (G 4))), (q 5, .inl (ca 0, 6, .inl (G 5))), (q 6, .inl (ca 0, 6, .inl (G 6))), (q 7, .inl (ca 1, 6, .inl (G 7))), (q 8, .inl (ca 0, 6, .inl (G 8))), (q 9, .inl (ca 0, 6, .inl (G 9))), (q 10, .inl (ca 1, 1600, .inl (G 10))), (q 11, .inl (ca 1, 1600, .inl (G 11)))]) (wr := [(q 0, .inl (ca 0, 300, .inl (fun _ => 0)))]) C [0, 2, 3, 4, 5, 6, 7, 8, 9, 10, 11, 12] [1] rfl rfl rfl rfl (by decide) (fun hp => va_runV (rest := []) S (c_M_start l D ca s0 a0 Z h0 q 0 0 (iniF G) i 0 (by omega) (by decide) noRows (iniF_ro G) _) (cwV 2 hts (gV g_342 g_343 g_11 g_34 g_344) rfl rfl rfl (by decide +kernel) ⟨Nat.le_of_ble_eq_true rfl, Nat.le_of_ble_eq_true rfl⟩) ⟨hp.1, n_recv C 0 3 rfl rfl, hp.2⟩ rfl rfl hl.1 rfl (lv_room (Nat.le_of_ble_eq_true rfl)) dM_init_114 ⟨Nat.le_of_ble_eq_true rfl, Nat.le_of_ble_eq_true rfl⟩) (fun u H locs hp C => ?_)
        replace C : Cx D ca s0 A s [(h0, .inr (3, mF q (0) (0))), (q 0, .inl (ca 0, 300, .inl (fun _ => 0))), (q 1, .inl (ca 0, 3, .inl (fun _ => 0))), (q 2, .inl (ca 0, 900, .inl (fun _ => 0))), (q 3, .inl (ca 1, 9600, .inl (u 3))), (q 4, .inl (ca 0, 6, .inl (u 4))), (q 5, .inl (ca 0, 6, .inl (u 5))), (q 6, .inl (ca 0, 6, .inl (u 6))), (q 7, .inl (ca 1, 6, .inl (u 7))), (q 8, .inl (ca 0, 6, .inl (u 8))), (q 9, .inl (ca 0, 6, .inl (u 9))), (q 10, .inl (ca 1, 1600, .inl (u 10))), (q 11, .inl (ca 1, 1600, .inl (u 11)))] H locs := C.re [1, 0, 2, 3, 4, 5, 6, 7, 8, 9, 10, 11, 12] rfl rfl
        replace hp : mU G u i newSp := hp
        refine lv_iinc (k := 0) (v := nI (i + 1)) hx hb dM_init_117 hl rfl (n_inc1 _) (Nat.le_of_ble_eq_true rfl) rfl (fun ls hl => ?_)
        replace hl : lv_has ls 2 [(1, .int (nI (i + 1))), (0, .ref (h0))] := hl
        refine lv_goto (tgt := 106) hx hb dM_init_120 (by decide) ?_
        exact ih_lp106 (i + 1) u _ _ _ (by omega) (by omega) (fun j hj => by by_cases ej : j = i; (rw [ej]; exact hp.sg); (exact hp.off ej (hG j (by omega)))) C (lv_sub hl [0, 1] rfl)
  exact lp106 (4 + 1) 0 ((mkF (fun _ => 0) (fun _ => 0) (fun _ => 0) (fun _ => 0) (fun _ => 0) (fun _ => 0) (fun _ => 0) (fun _ => 0) (fun _ => 0))) _ _ _ (by omega) (by omega) (fun j h => absurd h (Nat.not_lt_zero j)) C (lv_sub hl [0, 1] rfl)
