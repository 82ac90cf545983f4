abbrev kF (g : Nat → Nat) : List Value := [.ref (g 0), .ref (g 1), .ref (g 2), .ref (g 3), .ref (g 4), .ref (g 5), .ref (g 6)]
abbrev rm_K_refuseUnless : Room := { frames := 0, cells := 0, slots := 0, locals := 0 }
set_option maxHeartbeats 4000000 in
set_option maxRecDepth 100000 in
theorem c_K_refuseUnless (l : Launch) (D : va_G) (ca : Nat → ClassId) (s0 : State) (a0 : Array Value) (Z : Wd a0 s0)  : CtV l yK_refuseUnless [.code yK_refuseUnless cK_refuseUnless 1 none] rm_K_refuseUnless 0 0 D ca s0 [.int (nI 1)] [] (S := Unit) (fun _ => True) (fun _ => []) := by
  refine ctV_of (cc := cK_refuseUnless) (maxL := 1) (own := RK) Z rfl (by decide) rfl (Nat.le_of_ble_eq_true rfl) ?_
  intro p e s m args below meth c A ls Q S hnm ret C hl
  have hx := S.1
  have hb := S.2.1
  have hown := S.2.2.2.1
  have hts := S.2.2.2.2
  generalize s.heap = H at C ⊢
  generalize ([] : List Loc) = locs at C ⊢
  replace hl : lv_has ls 1 [(0, .int (nI 1))] := hl
  refine lv_iload_n hx hb dK_refuseUnless_0 rfl (lv_at hl 0 rfl) ?_
  refine n_if_ne (tgt := 14) S (by omega) dK_refuseUnless_1 (by decide) (fun hc => ?_) (fun hc => False.elim (by omega))
  exact ret (()) _ _ _ _ _ _ (Nat.le_refl _) (Nat.le_refl _) trivial C dK_refuseUnless_14
abbrev rm_x_K_refuseUnless : Room := { frames := 6, cells := 1, slots := 6, locals := 90 }
set_option maxHeartbeats 4000000 in
set_option maxRecDepth 100000 in
theorem x_K_refuseUnless (l : Launch) (D : va_G) (ca : Nat → ClassId) (s0 : State) (a0 : Array Value) (Z : Wd a0 s0) (hl0 : l.stackTraces = false) (sx : Nat → Nat) (Xs : XS sx s0) : CtX l yK_refuseUnless [.code yK_refuseUnless cK_refuseUnless 1 none] rm_x_K_refuseUnless 1 6 D ca s0 [.int (nI 0)] [] (xE 1) := by
  refine ctX_of (cc := cK_refuseUnless) (maxL := 1) (own := RK) (ret := none) Z rfl (by decide) rfl (Nat.le_of_ble_eq_true rfl) ?_
  intro p e s m args below meth c A ls Q S htb hlk hA hQ thr C hl
  have hx := S.1
  have hb := S.2.1
  have hown := S.2.2.2.1
  have hts := S.2.2.2.2
  generalize s.heap = H at C ⊢
  generalize ([] : List Loc) = locs at C ⊢
  replace hl : lv_has ls 1 [(0, .int (nI 0))] := hl
  refine lv_iload_n hx hb dK_refuseUnless_0 rfl (lv_at hl 0 rfl) ?_
  refine n_if_ne (tgt := 14) S (by omega) dK_refuseUnless_1 (by decide) (fun hc => False.elim (by omega)) (fun hc => ?_)
  subst hA
  subst hQ
  exact n_throwS (i := 1) S C Z hl0 Xs.1 Xs.2.2.1 xm_1 xo_1 xt_1 (by decide +kernel) hl.1 dK_refuseUnless_4 dK_refuseUnless_7 dK_refuseUnless_8 dK_refuseUnless_10 dK_refuseUnless_13 htb (Nat.le_of_ble_eq_true rfl) (Nat.le_of_ble_eq_true rfl) (Nat.le_of_ble_eq_true rfl) (Nat.le_of_ble_eq_true rfl) hlk (Nat.le_of_ble_eq_true rfl) (Nat.le_of_ble_eq_true rfl)
abbrev rm_K_refuseStateUnless : Room := { frames := 0, cells := 0, slots := 0, locals := 0 }
set_option maxHeartbeats 4000000 in
set_option maxRecDepth 100000 in
theorem c_K_refuseStateUnless (l : Launch) (D : va_G) (ca : Nat → ClassId) (s0 : State) (a0 : Array Value) (Z : Wd a0 s0)  : CtV l yK_refuseStateUnless [.code yK_refuseStateUnless cK_refuseStateUnless 1 none] rm_K_refuseStateUnless 0 0 D ca s0 [.int (nI 1)] [] (S := Unit) (fun _ => True) (fun _ => []) := by
  refine ctV_of (cc := cK_refuseStateUnless) (maxL := 1) (own := RK) Z rfl (by decide) rfl (Nat.le_of_ble_eq_true rfl) ?_
  intro p e s m args below meth c A ls Q S hnm ret C hl
  have hx := S.1
  have hb := S.2.1
  have hown := S.2.2.2.1
  have hts := S.2.2.2.2
  generalize s.heap = H at C ⊢
  generalize ([] : List Loc) = locs at C ⊢
  replace hl : lv_has ls 1 [(0, .int (nI 1))] := hl
  refine lv_iload_n hx hb dK_refuseStateUnless_0 rfl (lv_at hl 0 rfl) ?_
  refine n_if_ne (tgt := 14) S (by omega) dK_refuseStateUnless_1 (by decide) (fun hc => ?_) (fun hc => False.elim (by omega))
  exact ret (()) _ _ _ _ _ _ (Nat.le_refl _) (Nat.le_refl _) trivial C dK_refuseStateUnless_14
abbrev rm_x_K_refuseStateUnless : Room := { frames := 6, cells := 1, slots := 6, locals := 90 }
set_option maxHeartbeats 4000000 in
set_option maxRecDepth 100000 in
theorem x_K_refuseStateUnless (l : Launch) (D : va_G) (ca : Nat → ClassId) (s0 : State) (a0 : Array Value) (Z : Wd a0 s0) (hl0 : l.stackTraces = false) (sx : Nat → Nat) (Xs : XS sx s0) : CtX l yK_refuseStateUnless [.code yK_refuseStateUnless cK_refuseStateUnless 1 none] rm_x_K_refuseStateUnless 1 6 D ca s0 [.int (nI 0)] [] (xE 2) := by
  refine ctX_of (cc := cK_refuseStateUnless) (maxL := 1) (own := RK) (ret := none) Z rfl (by decide) rfl (Nat.le_of_ble_eq_true rfl) ?_
  intro p e s m args below meth c A ls Q S htb hlk hA hQ thr C hl
  have hx := S.1
  have hb := S.2.1
  have hown := S.2.2.2.1
  have hts := S.2.2.2.2
  generalize s.heap = H at C ⊢
  generalize ([] : List Loc) = locs at C ⊢
  replace hl : lv_has ls 1 [(0, .int (nI 0))] := hl
  refine lv_iload_n hx hb dK_refuseStateUnless_0 rfl (lv_at hl 0 rfl) ?_
  refine n_if_ne (tgt := 14) S (by omega) dK_refuseStateUnless_1 (by decide) (fun hc => False.elim (by omega)) (fun hc => ?_)
  subst hA
  subst hQ
  exact n_throwS (i := 2) S C Z hl0 Xs.1 Xs.2.2.2 xm_2 xo_2 xt_2 (by decide +kernel) hl.1 dK_refuseStateUnless_4 dK_refuseStateUnless_7 dK_refuseStateUnless_8 dK_refuseStateUnless_10 dK_refuseStateUnless_13 htb (Nat.le_of_ble_eq_true rfl) (Nat.le_of_ble_eq_true rfl) (Nat.le_of_ble_eq_true rfl) (Nat.le_of_ble_eq_true rfl) hlk (Nat.le_of_ble_eq_true rfl) (Nat.le_of_ble_eq_true rfl)
abbrev rm_K_spongeAt : Room := { frames := 0, cells := 0, slots := 0, locals := 0 }
set_option maxHeartbeats 4000000 in
set_option maxRecDepth 100000 in
theorem c_K_spongeAt (l : Launch) (D : va_G) (ca : Nat → ClassId) (s0 : State) (a0 : Array Value) (Z : Wd a0 s0) (d : Nat) (g : Nat → Nat) (sf : Nat → Option Nat) (k0 : Nat) (hk0 : k0 < 4) (h : Nat) (hsf : sf k0 = some h) : CtR l yK_spongeAt [.code yK_spongeAt cK_spongeAt 2 (some (.object "SpongeDesk$Sponge"))] rm_K_spongeAt 0 0 D ca s0 [.ref (d), .int (nI k0)] [(d, .inr (2, kF g)), (g 4, .inl (ca 4, 4, .inr (.inr (.inr (.inr sf)))))] h := by
  refine ctR_of (cc := cK_spongeAt) (maxL := 2) (own := RK) ⟨_, rfl⟩ Z rfl (by decide) rfl (Nat.le_of_ble_eq_true rfl) ?_
  intro p e s m args below meth c A ls Q S ret C hl
  have hx := S.1
  have hb := S.2.1
  have hown := S.2.2.2.1
  have hts := S.2.2.2.2
  generalize s.heap = H at C ⊢
  generalize ([] : List Loc) = locs at C ⊢
  replace hl : lv_has ls 2 [(0, .ref (d)), (1, .int (nI k0))] := hl
  refine lv_iload_n hx hb dK_spongeAt_0 rfl (lv_at hl 1 rfl) ?_
  refine n_if_lt (tgt := 9) S (by omega) dK_spongeAt_1 (by decide) (fun hc => hc.elim) (fun hc => ?_)
  refine lv_iload_n hx hb dK_spongeAt_4 rfl (lv_at hl 1 rfl) ?_
  refine lv_iconst (v := nI 4) hx hb dK_spongeAt_5 (by decide) ?_
  refine n_icmp_lt (tgt := 19) S (by omega) (by omega) dK_spongeAt_6 (by decide) (fun hc => ?_) (fun hc => False.elim (by omega))
  refine lv_aload_n hx hb dK_spongeAt_19 rfl (lv_at hl 0 rfl) ?_
  refine n_get S C hin_K 0 rfl rfl 4 (by decide) g_86 rfl dK_spongeAt_20 ?_
  refine lv_iload_n hx hb dK_spongeAt_23 rfl (lv_at hl 1 rfl) ?_
  refine n_aald S C 1 rfl (i := k0) (by omega) (by decide) hsf dK_spongeAt_24 ?_
  exact ret _ _ _ _ _ _ (Nat.le_refl _) (Nat.le_refl _) C dK_spongeAt_25
abbrev rm_x_K_spongeAt : Room := { frames := 6, cells := 1, slots := 6, locals := 90 }
set_option maxHeartbeats 4000000 in
set_option maxRecDepth 100000 in
theorem x_K_spongeAt (l : Launch) (D : va_G) (ca : Nat → ClassId) (s0 : State) (a0 : Array Value) (Z : Wd a0 s0) (hl0 : l.stackTraces = false) (sx : Nat → Nat) (Xs : XS sx s0) (d : Nat) (k : Int32) (hno : ¬ (¬ k < 0 ∧ k < 4)) : CtX l yK_spongeAt [.code yK_spongeAt cK_spongeAt 2 (some (.object "SpongeDesk$Sponge"))] rm_x_K_spongeAt 1 6 D ca s0 [.ref (d), .int (k)] [] (xE 0) := by
  refine ctX_of (cc := cK_spongeAt) (maxL := 2) (own := RK) (ret := (some (.object "SpongeDesk$Sponge"))) Z rfl (by decide) rfl (Nat.le_of_ble_eq_true rfl) ?_
  intro p e s m args below meth c A ls Q S htb hlk hA hQ thr C hl
  have hx := S.1
  have hb := S.2.1
  have hown := S.2.2.2.1
  have hts := S.2.2.2.2
  generalize s.heap = H at C ⊢
  generalize ([] : List Loc) = locs at C ⊢
  replace hl : lv_has ls 2 [(0, .ref (d)), (1, .int (k))] := hl
  refine lv_iload_n hx hb dK_spongeAt_0 rfl (lv_at hl 1 rfl) ?_
  refine lv_if_lt (tgt := 9) hx hb dK_spongeAt_1 (by decide) (fun hc1 => ?_) (fun hc1 => ?_)
  · skip
    subst hA
    subst hQ
    exact n_throwS (i := 0) S C Z hl0 Xs.1 Xs.2.1 xm_0 xo_0 xt_0 (by decide +kernel) hl.1 dK_spongeAt_9 dK_spongeAt_12 dK_spongeAt_13 dK_spongeAt_15 dK_spongeAt_18 htb (Nat.le_of_ble_eq_true rfl) (Nat.le_of_ble_eq_true rfl) (Nat.le_of_ble_eq_true rfl) (Nat.le_of_ble_eq_true rfl) hlk (Nat.le_of_ble_eq_true rfl) (Nat.le_of_ble_eq_true rfl)
  · skip
    refine lv_iload_n hx hb dK_spongeAt_4 rfl (lv_at hl 1 rfl) ?_
    refine lv_iconst (v := nI 4) hx hb dK_spongeAt_5 (by decide) ?_
    refine lv_icmp_lt (tgt := 19) hx hb dK_spongeAt_6 (by decide) (fun hc => absurd ⟨hc1, hc⟩ hno) (fun hc => ?_)
    subst hA
    subst hQ
    exact n_throwS (i := 0) S C Z hl0 Xs.1 Xs.2.1 xm_0 xo_0 xt_0 (by decide +kernel) hl.1 dK_spongeAt_9 dK_spongeAt_12 dK_spongeAt_13 dK_spongeAt_15 dK_spongeAt_18 htb (Nat.le_of_ble_eq_true rfl) (Nat.le_of_ble_eq_true rfl) (Nat.le_of_ble_eq_true rfl) (Nat.le_of_ble_eq_true rfl) hlk (Nat.le_of_ble_eq_true rfl) (Nat.le_of_ble_eq_true rfl)
abbrev rm_K_isByteCount : Room := { frames := 0, cells := 0, slots := 0, locals := 0 }
set_option maxHeartbeats 4000000 in
set_option maxRecDepth 100000 in
theorem c_K_isByteCount (l : Launch) (D : va_G) (ca : Nat → ClassId) (s0 : State) (a0 : Array Value) (Z : Wd a0 s0) (n : Nat) (hn1 : 1 ≤ n) (hn : n ≤ 8) : CtI l yK_isByteCount [.code yK_isByteCount cK_isByteCount 1 (some .boolean)] rm_K_isByteCount 0 0 D ca s0 [.int (nI n)] [] (S := Unit) (fun r _ => r = nI 1) (fun _ => []) := by
  refine ctZ_of (cc := cK_isByteCount) (maxL := 1) (own := RK) Z rfl (by decide) rfl (Nat.le_of_ble_eq_true rfl) ?_
  intro p e s m args below meth c A ls Q S hnm ret C hl
  have hx := S.1
  have hb := S.2.1
  have hown := S.2.2.2.1
  have hts := S.2.2.2.2
  generalize s.heap = H at C ⊢
  generalize ([] : List Loc) = locs at C ⊢
  replace hl : lv_has ls 1 [(0, .int (nI n))] := hl
  refine lv_iload_n hx hb dK_isByteCount_0 rfl (lv_at hl 0 rfl) ?_
  refine lv_iconst (v := nI 1) hx hb dK_isByteCount_1 (by decide) ?_
  refine n_icmp_lt (tgt := 15) S (by omega) (by omega) dK_isByteCount_2 (by decide) (fun hc => False.elim (by omega)) (fun hc => ?_)
  refine lv_iload_n hx hb dK_isByteCount_5 rfl (lv_at hl 0 rfl) ?_
  refine lv_bipush (v := nI 8) hx hb dK_isByteCount_6 (by decide) ?_
  refine n_icmp_gt (tgt := 15) S (by omega) (by omega) dK_isByteCount_8 (by decide) (fun hc => False.elim (by omega)) (fun hc => ?_)
  refine lv_iconst (v := nI 1) hx hb dK_isByteCount_11 (by decide) ?_
  refine lv_goto (tgt := 16) hx hb dK_isByteCount_12 (by decide) ?_
  exact ret (nI 1) (()) _ _ _ _ _ _ (by decide) (Nat.le_refl _) (Nat.le_refl _) rfl C dK_isByteCount_16
abbrev rm_K_isByteCount_no : Room := { frames := 0, cells := 0, slots := 0, locals := 0 }
set_option maxHeartbeats 4000000 in
set_option maxRecDepth 100000 in
theorem c_K_isByteCount_no (l : Launch) (D : va_G) (ca : Nat → ClassId) (s0 : State) (a0 : Array Value) (Z : Wd a0 s0) (n : Int32) (hr : n < nI 1 ∨ nI 8 < n) : CtI l yK_isByteCount [.code yK_isByteCount cK_isByteCount 1 (some .boolean)] rm_K_isByteCount_no 0 0 D ca s0 [.int (n)] [] (S := Unit) (fun r _ => r = nI 0) (fun _ => []) := by
  refine ctZ_of (cc := cK_isByteCount) (maxL := 1) (own := RK) Z rfl (by decide) rfl (Nat.le_of_ble_eq_true rfl) ?_
  intro p e s m args below meth c A ls Q S hnm ret C hl
  have hx := S.1
  have hb := S.2.1
  have hown := S.2.2.2.1
  have hts := S.2.2.2.2
  generalize s.heap = H at C ⊢
  generalize ([] : List Loc) = locs at C ⊢
  replace hl : lv_has ls 1 [(0, .int (n))] := hl
  refine lv_iload_n hx hb dK_isByteCount_0 rfl (lv_at hl 0 rfl) ?_
  refine lv_iconst (v := nI 1) hx hb dK_isByteCount_1 (by decide) ?_
  refine lv_icmp_lt (tgt := 15) hx hb dK_isByteCount_2 (by decide) (fun hc2 => ?_) (fun hc2 => ?_)
  · skip
    refine lv_iconst (v := nI 0) hx hb dK_isByteCount_15 (by decide) ?_
    exact ret (nI 0) (()) _ _ _ _ _ _ (by decide) (Nat.le_refl _) (Nat.le_refl _) rfl C dK_isByteCount_16
  · skip
    refine lv_iload_n hx hb dK_isByteCount_5 rfl (lv_at hl 0 rfl) ?_
    refine lv_bipush (v := nI 8) hx hb dK_isByteCount_6 (by decide) ?_
    refine lv_icmp_gt (tgt := 15) hx hb dK_isByteCount_8 (by decide) (fun hc => ?_) (fun hc => absurd (hr.resolve_left hc2) hc)
    refine lv_iconst (v := nI 0) hx hb dK_isByteCount_15 (by decide) ?_
    exact ret (nI 0) (()) _ _ _ _ _ _ (by decide) (Nat.le_refl _) (Nat.le_refl _) rfl C dK_isByteCount_16
abbrev rm_K_isLengthOf : Room := { frames := 0, cells := 0, slots := 0, locals := 0 }
set_option maxHeartbeats 4000000 in
set_option maxRecDepth 100000 in
theorem c_K_isLengthOf (l : Launch) (D : va_G) (ca : Nat → ClassId) (s0 : State) (a0 : Array Value) (Z : Wd a0 s0) (tz : Nat → Nat) (Zs : ZS tz s0) (k len : Nat) (hk : k < 16) (hlen : len ≤ 1000) (hq : (hasL k = true ∧ 1 ≤ len) ∨ (hasL k = false ∧ len = lenM k)) : CtI l yK_isLengthOf [.code yK_isLengthOf cK_isLengthOf 3 (some .boolean)] rm_K_isLengthOf 0 0 D ca s0 [.int (nI k), .int (nI len)] [] (S := Unit) (fun r _ => r = nI 1) (fun _ => []) := by
  refine ctZ_of (cc := cK_isLengthOf) (maxL := 3) (own := RK) Z rfl (by decide) rfl (Nat.le_of_ble_eq_true rfl) ?_
  intro p e s m args below meth c A ls Q S hnm ret C hl
  have hx := S.1
  have hb := S.2.1
  have hown := S.2.2.2.1
  have hts := S.2.2.2.2
  generalize s.heap = H at C ⊢
  generalize ([] : List Loc) = locs at C ⊢
  replace hl : lv_has ls 3 [(0, .int (nI k)), (1, .int (nI len))] := hl
  have hml := lenM_lt k
  refine n_gets S C Zs.2.2.2.2.1 g_272 dK_isLengthOf_0 ?_
  refine lv_iload_n hx hb dK_isLengthOf_3 rfl (lv_at hl 0 rfl) ?_
  refine n_tiald S C Zs.2.2.2.2.1 (i := k) (by omega) (by decide) rfl dK_isLengthOf_4 ?_
  rcases hq with ⟨hH, hq⟩ | ⟨hH, hq⟩
  · skip
    refine lv_topi (nm_r (e' := (-1)) (pLen_c k hk hH) ?_)
    refine lv_istore_n hx hb dK_isLengthOf_5 rfl hl (Nat.le_of_ble_eq_true rfl) rfl (fun ls hl => ?_)
    replace hl : lv_has ls 3 [(2, .int ((-1))), (0, .int (nI k)), (1, .int (nI len))] := hl
    refine lv_iload_n hx hb dK_isLengthOf_6 rfl (lv_at hl 0 rfl) ?_
    refine lv_iconst (v := (-1)) hx hb dK_isLengthOf_7 (by decide) ?_
    refine lv_icmp_ne (tgt := 31) hx hb dK_isLengthOf_8 (by decide) (fun hc => absurd rfl hc) (fun hc => ?_)
    refine lv_iload_n hx hb dK_isLengthOf_11 rfl (lv_at hl 2 rfl) ?_
    refine lv_iconst (v := nI 1) hx hb dK_isLengthOf_12 (by decide) ?_
    refine n_icmp_lt (tgt := 27) S (by omega) (by omega) dK_isLengthOf_13 (by decide) (fun hc => False.elim (by omega)) (fun hc => ?_)
    refine lv_iload_n hx hb dK_isLengthOf_16 rfl (lv_at hl 2 rfl) ?_
    refine lv_sipush (v := nI 1000) hx hb dK_isLengthOf_17 (by decide) ?_
    refine n_icmp_gt (tgt := 27) S (by omega) (by omega) dK_isLengthOf_20 (by decide) (fun hc => False.elim (by omega)) (fun hc => ?_)
    refine lv_iconst (v := nI 1) hx hb dK_isLengthOf_23 (by decide) ?_
    refine lv_goto (tgt := 41) hx hb dK_isLengthOf_24 (by decide) ?_
    exact ret (nI 1) (()) _ _ _ _ _ _ (by decide) (Nat.le_refl _) (Nat.le_refl _) rfl C dK_isLengthOf_41
  · skip
    refine lv_topi (nm_r (e' := nI (lenM k)) (pLen_f k hk hH) ?_)
    refine lv_istore_n hx hb dK_isLengthOf_5 rfl hl (Nat.le_of_ble_eq_true rfl) rfl (fun ls hl => ?_)
    replace hl : lv_has ls 3 [(2, .int (nI (lenM k))), (0, .int (nI k)), (1, .int (nI len))] := hl
    refine lv_iload_n hx hb dK_isLengthOf_6 rfl (lv_at hl 0 rfl) ?_
    refine lv_iconst (v := (-1)) hx hb dK_isLengthOf_7 (by decide) ?_
    refine lv_icmp_ne (tgt := 31) hx hb dK_isLengthOf_8 (by decide) (fun hc => ?_) (fun hc => absurd hc (nI_ne_m1 (by have := lenM_lt k; omega)))
    refine lv_iload_n hx hb dK_isLengthOf_31 rfl (lv_at hl 2 rfl) ?_
    refine lv_iload_n hx hb dK_isLengthOf_32 rfl (lv_at hl 0 rfl) ?_
    refine n_icmp_ne (tgt := 40) S (by omega) (by omega) dK_isLengthOf_33 (by decide) (fun hc => False.elim (by omega)) (fun hc => ?_)
    refine lv_iconst (v := nI 1) hx hb dK_isLengthOf_36 (by decide) ?_
    refine lv_goto (tgt := 41) hx hb dK_isLengthOf_37 (by decide) ?_
    exact ret (nI 1) (()) _ _ _ _ _ _ (by decide) (Nat.le_refl _) (Nat.le_refl _) rfl C dK_isLengthOf_41
abbrev rm_K_isLengthOf_no : Room := { frames := 0, cells := 0, slots := 0, locals := 0 }
set_option maxHeartbeats 4000000 in
set_option maxRecDepth 100000 in
theorem c_K_isLengthOf_no (l : Launch) (D : va_G) (ca : Nat → ClassId) (s0 : State) (a0 : Array Value) (Z : Wd a0 s0) (tz : Nat → Nat) (Zs : ZS tz s0) (k : Nat) (y : Int32) (hk : k < 16) (hq : (hasL k = true ∧ (y < nI 1 ∨ nI 1000 < y)) ∨ (hasL k = false ∧ y ≠ nI (lenM k))) : CtI l yK_isLengthOf [.code yK_isLengthOf cK_isLengthOf 3 (some .boolean)] rm_K_isLengthOf_no 0 0 D ca s0 [.int (nI k), .int (y)] [] (S := Unit) (fun r _ => r = nI 0) (fun _ => []) := by
  refine ctZ_of (cc := cK_isLengthOf) (maxL := 3) (own := RK) Z rfl (by decide) rfl (Nat.le_of_ble_eq_true rfl) ?_
  intro p e s m args below meth c A ls Q S hnm ret C hl
  have hx := S.1
  have hb := S.2.1
  have hown := S.2.2.2.1
  have hts := S.2.2.2.2
  generalize s.heap = H at C ⊢
  generalize ([] : List Loc) = locs at C ⊢
  replace hl : lv_has ls 3 [(0, .int (nI k)), (1, .int (y))] := hl
  have hml := lenM_lt k
  refine n_gets S C Zs.2.2.2.2.1 g_272 dK_isLengthOf_0 ?_
  refine lv_iload_n hx hb dK_isLengthOf_3 rfl (lv_at hl 0 rfl) ?_
  refine n_tiald S C Zs.2.2.2.2.1 (i := k) (by omega) (by decide) rfl dK_isLengthOf_4 ?_
  rcases hq with ⟨hH, hq⟩ | ⟨hH, hq⟩
  · skip
    refine lv_topi (nm_r (e' := (-1)) (pLen_c k hk hH) ?_)
    refine lv_istore_n hx hb dK_isLengthOf_5 rfl hl (Nat.le_of_ble_eq_true rfl) rfl (fun ls hl => ?_)
    replace hl : lv_has ls 3 [(2, .int ((-1))), (0, .int (nI k)), (1, .int (y))] := hl
    refine lv_iload_n hx hb dK_isLengthOf_6 rfl (lv_at hl 0 rfl) ?_
    refine lv_iconst (v := (-1)) hx hb dK_isLengthOf_7 (by decide) ?_
    refine lv_icmp_ne (tgt := 31) hx hb dK_isLengthOf_8 (by decide) (fun hc => absurd rfl hc) (fun hc => ?_)
    refine lv_iload_n hx hb dK_isLengthOf_11 rfl (lv_at hl 2 rfl) ?_
    refine lv_iconst (v := nI 1) hx hb dK_isLengthOf_12 (by decide) ?_
    refine lv_icmp_lt (tgt := 27) hx hb dK_isLengthOf_13 (by decide) (fun hc13 => ?_) (fun hc13 => ?_)
    · skip
      refine lv_iconst (v := nI 0) hx hb dK_isLengthOf_27 (by decide) ?_
      refine lv_goto (tgt := 41) hx hb dK_isLengthOf_28 (by decide) ?_
      exact ret (nI 0) (()) _ _ _ _ _ _ (by decide) (Nat.le_refl _) (Nat.le_refl _) rfl C dK_isLengthOf_41
    · skip
      refine lv_iload_n hx hb dK_isLengthOf_16 rfl (lv_at hl 2 rfl) ?_
      refine lv_sipush (v := nI 1000) hx hb dK_isLengthOf_17 (by decide) ?_
      refine lv_icmp_gt (tgt := 27) hx hb dK_isLengthOf_20 (by decide) (fun hc => ?_) (fun hc => absurd (hq.resolve_left hc13) hc)
      refine lv_iconst (v := nI 0) hx hb dK_isLengthOf_27 (by decide) ?_
      refine lv_goto (tgt := 41) hx hb dK_isLengthOf_28 (by decide) ?_
      exact ret (nI 0) (()) _ _ _ _ _ _ (by decide) (Nat.le_refl _) (Nat.le_refl _) rfl C dK_isLengthOf_41
  · skip
    refine lv_topi (nm_r (e' := nI (lenM k)) (pLen_f k hk hH) ?_)
    refine lv_istore_n hx hb dK_isLengthOf_5 rfl hl (Nat.le_of_ble_eq_true rfl) rfl (fun ls hl => ?_)
    replace hl : lv_has ls 3 [(2, .int (nI (lenM k))), (0, .int (nI k)), (1, .int (y))] := hl
    refine lv_iload_n hx hb dK_isLengthOf_6 rfl (lv_at hl 0 rfl) ?_
    refine lv_iconst (v := (-1)) hx hb dK_isLengthOf_7 (by decide) ?_
    refine lv_icmp_ne (tgt := 31) hx hb dK_isLengthOf_8 (by decide) (fun hc => ?_) (fun hc => absurd hc (nI_ne_m1 (by have := lenM_lt k; omega)))
    refine lv_iload_n hx hb dK_isLengthOf_31 rfl (lv_at hl 2 rfl) ?_
    refine lv_iload_n hx hb dK_isLengthOf_32 rfl (lv_at hl 0 rfl) ?_
    refine lv_icmp_ne (tgt := 40) hx hb dK_isLengthOf_33 (by decide) (fun hc => ?_) (fun hc => absurd hc hq)
    refine lv_iconst (v := nI 0) hx hb dK_isLengthOf_40 (by decide) ?_
    exact ret (nI 0) (()) _ _ _ _ _ _ (by decide) (Nat.le_refl _) (Nat.le_refl _) rfl C dK_isLengthOf_41
