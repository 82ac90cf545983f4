abbrev rm_M_thrown : Room := { frames := 0, cells := 0, slots := 0, locals := 0 }
set_option maxHeartbeats 4000000 in
set_option maxRecDepth 100000 in
theorem c_M_thrown (l : Launch) (D : va_G) (ca : Nat → ClassId) (s0 : State) (a0 : Array Value) (Z : Wd a0 s0) (h0 : Nat) (q : Nat → Nat) (th tz : Int32) : CtI l yM_thrown [.code yM_thrown cM_thrown 1 (some .int)] rm_M_thrown 0 0 D ca s0 [.ref (h0)] [(h0, .inr (3, mF q (th) (tz)))] (S := Unit) (fun r _ => r = th) (fun _ => [(h0, .inr (3, mF q (th) (tz)))]) := by
  refine ctI_of (cc := cM_thrown) (maxL := 1) (own := RM) Z rfl (by decide) rfl (Nat.le_of_ble_eq_true rfl) ?_
  intro p e s m args below meth c A ls Q S hnm ret C hl
  have hx := S.1
  have hb := S.2.1
  have hown := S.2.2.2.1
  have hts := S.2.2.2.2
  generalize s.heap = H at C ⊢
  generalize ([] : List Loc) = locs at C ⊢
  replace hl : lv_has ls 1 [(0, .ref (h0))] := hl
  refine lv_aload_n hx hb dM_thrown_0 rfl (lv_at hl 0 rfl) ?_
  refine n_get S C hin_M 0 rfl rfl 0 (by decide) g_402 rfl dM_thrown_1 ?_
  exact ret th (()) _ _ _ _ _ _ (Nat.le_refl _) (Nat.le_refl _) rfl C dM_thrown_4
abbrev rm_M_wipe : Room := { frames := 0, cells := 0, slots := 0, locals := 0 }
set_option maxHeartbeats 4000000 in
set_option maxRecDepth 100000 in
theorem c_M_wipe (l : Launch) (D : va_G) (ca : Nat → ClassId) (s0 : State) (a0 : Array Value) (Z : Wd a0 s0) (h0 : Nat) (q : Nat → Nat) (th tz : Int32) : CtI l yM_wipe [.code yM_wipe cM_wipe 2 (some .int)] rm_M_wipe 0 0 D ca s0 [.ref (h0)] [(h0, .inr (3, mF q (th) (tz)))] (S := Unit) (fun r _ => r = tz) (fun _ => [(h0, .inr (3, mF q (nI 0) (nI 0)))]) := by
  refine ctI_of (cc := cM_wipe) (maxL := 2) (own := RM) Z rfl (by decide) rfl (Nat.le_of_ble_eq_true rfl) ?_
  intro p e s m args below meth c A ls Q S hnm ret C hl
  have hx := S.1
  have hb := S.2.1
  have hown := S.2.2.2.1
  have hts := S.2.2.2.2
  generalize s.heap = H at C ⊢
  generalize ([] : List Loc) = locs at C ⊢
  replace hl : lv_has ls 2 [(0, .ref (h0))] := hl
  refine lv_aload_n hx hb dM_wipe_0 rfl (lv_at hl 0 rfl) ?_
  refine lv_iconst (v := nI 0) hx hb dM_wipe_1 (by decide) ?_
  refine n_put S C hin_M tyM tyM_ok nmM 0 rfl rfl 0 (by decide) g_402 rfl rfl rfl rfl (Nat.le_of_ble_eq_true rfl) dM_wipe_2 (fun H locs C => ?_)
  replace C : Cx D ca s0 A s [(h0, .inr (3, mF q (nI 0) (tz)))] H locs := C
  refine lv_aload_n hx hb dM_wipe_5 rfl (lv_at hl 0 rfl) ?_
  refine n_get S C hin_M 0 rfl rfl 1 (by decide) g_403 rfl dM_wipe_6 ?_
  refine lv_istore_n hx hb dM_wipe_9 rfl hl (Nat.le_of_ble_eq_true rfl) rfl (fun ls hl => ?_)
  replace hl : lv_has ls 2 [(1, .int (tz)), (0, .ref (h0))] := hl
  refine lv_aload_n hx hb dM_wipe_10 rfl (lv_at hl 1 rfl) ?_
  refine lv_iconst (v := nI 0) hx hb dM_wipe_11 (by decide) ?_
  refine n_put S C hin_M tyM tyM_ok nmM 0 rfl rfl 1 (by decide) g_403 rfl rfl rfl rfl (Nat.le_of_ble_eq_true rfl) dM_wipe_12 (fun H locs C => ?_)
  replace C : Cx D ca s0 A s [(h0, .inr (3, mF q (nI 0) (nI 0)))] H locs := C
  refine lv_iload_n hx hb dM_wipe_15 rfl (lv_at hl 0 rfl) ?_
  exact ret tz (()) _ _ _ _ _ _ (Nat.le_refl _) (Nat.le_refl _) rfl C dM_wipe_16
abbrev rm_M_feed_no : Room := { frames := 0, cells := 0, slots := 0, locals := 0 }
set_option maxHeartbeats 4000000 in
set_option maxRecDepth 100000 in
theorem c_M_feed_no (l : Launch) (D : va_G) (ca : Nat → ClassId) (s0 : State) (a0 : Array Value) (Z : Wd a0 s0) (h0 : Nat) (q : Nat → Nat) (th tz : Int32) (k : Int32) (hr : k < nI 1 ∨ nI 8 < k) (x : Int64) : CtI l yM_feed [.code yM_feed cM_feed 5 (some .int)] rm_M_feed_no 0 0 D ca s0 [.ref (h0), .int (k), .long (x)] [(h0, .inr (3, mF q (th) (tz)))] (S := Unit) (fun _ _ => True) (fun _ => [(h0, .inr (3, mF q (nI 1) (tz)))]) := by
  refine ctI_of (cc := cM_feed) (maxL := 5) (own := RM) Z rfl (by decide) rfl (Nat.le_of_ble_eq_true rfl) ?_
  intro p e s m args below meth c A ls Q S hnm ret C hl
  have hx := S.1
  have hb := S.2.1
  have hown := S.2.2.2.1
  have hts := S.2.2.2.2
  generalize s.heap = H at C ⊢
  generalize ([] : List Loc) = locs at C ⊢
  replace hl : lv_has ls 5 [(0, .ref (h0)), (1, .int (k)), (2, .long (x))] := hl
  refine lv_aload_n hx hb dM_feed_0 rfl (lv_at hl 0 rfl) ?_
  refine lv_iload_n hx hb dM_feed_1 rfl (lv_at hl 1 rfl) ?_
  refine lv_iconst (v := nI 1) hx hb dM_feed_2 (by decide) ?_
  refine lv_icmp_lt (tgt := 12) hx hb dM_feed_3 (by decide) (fun hc3 => ?_) (fun hc3 => ?_)
  · skip
    refine lv_iconst (v := nI 1) hx hb dM_feed_12 (by decide) ?_
    refine lv_goto (tgt := 17) hx hb dM_feed_13 (by decide) ?_
    refine n_put S C hin_M tyM tyM_ok nmM 0 rfl rfl 0 (by decide) g_402 rfl rfl rfl rfl (Nat.le_of_ble_eq_true rfl) dM_feed_17 (fun H locs C => ?_)
    replace C : Cx D ca s0 A s [(h0, .inr (3, mF q (nI 1) (tz)))] H locs := C
    refine lv_aload_n hx hb dM_feed_20 rfl (lv_at hl 0 rfl) ?_
    refine n_get S C hin_M 0 rfl rfl 0 (by decide) g_402 rfl dM_feed_21 ?_
    refine n_if_le (tgt := 29) S (by omega) dM_feed_24 (by decide) (fun hc => False.elim (by omega)) (fun hc => ?_)
    refine lv_iconst (v := nI 0) hx hb dM_feed_27 (by decide) ?_
    exact ret (nI 0) (()) _ _ _ _ _ _ (Nat.le_refl _) (Nat.le_refl _) trivial C dM_feed_28
  · skip
    refine lv_iload_n hx hb dM_feed_6 rfl (lv_at hl 1 rfl) ?_
    refine lv_bipush (v := nI 8) hx hb dM_feed_7 (by decide) ?_
    refine lv_icmp_le (tgt := 16) hx hb dM_feed_9 (by decide) (fun hc => absurd hc (Int32.not_le.mpr (hr.resolve_left hc3))) (fun hc => ?_)
    refine lv_iconst (v := nI 1) hx hb dM_feed_12 (by decide) ?_
    refine lv_goto (tgt := 17) hx hb dM_feed_13 (by decide) ?_
    refine n_put S C hin_M tyM tyM_ok nmM 0 rfl rfl 0 (by decide) g_402 rfl rfl rfl rfl (Nat.le_of_ble_eq_true rfl) dM_feed_17 (fun H locs C => ?_)
    replace C : Cx D ca s0 A s [(h0, .inr (3, mF q (nI 1) (tz)))] H locs := C
    refine lv_aload_n hx hb dM_feed_20 rfl (lv_at hl 0 rfl) ?_
    refine n_get S C hin_M 0 rfl rfl 0 (by decide) g_402 rfl dM_feed_21 ?_
    refine n_if_le (tgt := 29) S (by omega) dM_feed_24 (by decide) (fun hc => False.elim (by omega)) (fun hc => ?_)
    refine lv_iconst (v := nI 0) hx hb dM_feed_27 (by decide) ?_
    exact ret (nI 0) (()) _ _ _ _ _ _ (Nat.le_refl _) (Nat.le_refl _) trivial C dM_feed_28
abbrev rm_M_feed_full : Room := { frames := 0, cells := 0, slots := 0, locals := 0 }
set_option maxHeartbeats 4000000 in
set_option maxRecDepth 100000 in
theorem c_M_feed_full (l : Launch) (D : va_G) (ca : Nat → ClassId) (s0 : State) (a0 : Array Value) (Z : Wd a0 s0) (h0 : Nat) (q : Nat → Nat) (th : Int32) (k : Nat) (hk1 : 1 ≤ k) (hk : k ≤ 8) (x : Int64) (f : Nat → Int32) (T : Nat → Nat) (n : Nat) (hn : n ≤ 300) (hT : mTp f T n) (hfull : 300 < n + k) : CtI l yM_feed [.code yM_feed cM_feed 5 (some .int)] rm_M_feed_full 0 0 D ca s0 [.ref (h0), .int (nI k), .long (x)] [(h0, .inr (3, mF q (th) (nI n))), (q 0, .inl (ca 0, 300, .inl (f)))] (S := Unit) (fun r _ => r = -1) (fun _ => [(h0, .inr (3, mF q (nI 0) (nI n))), (q 0, .inl (ca 0, 300, .inl f))]) := by
  refine ctI_of (cc := cM_feed) (maxL := 5) (own := RM) Z rfl (by decide) rfl (Nat.le_of_ble_eq_true rfl) ?_
  intro p e s m args below meth c A ls Q S hnm ret C hl
  have hx := S.1
  have hb := S.2.1
  have hown := S.2.2.2.1
  have hts := S.2.2.2.2
  generalize s.heap = H at C ⊢
  generalize ([] : List Loc) = locs at C ⊢
  replace hl : lv_has ls 5 [(0, .ref (h0)), (1, .int (nI k)), (2, .long (x))] := hl
  refine lv_aload_n hx hb dM_feed_0 rfl (lv_at hl 0 rfl) ?_
  refine lv_iload_n hx hb dM_feed_1 rfl (lv_at hl 1 rfl) ?_
  refine lv_iconst (v := nI 1) hx hb dM_feed_2 (by decide) ?_
  refine n_icmp_lt (tgt := 12) S (by omega) (by omega) dM_feed_3 (by decide) (fun hc => False.elim (by omega)) (fun hc => ?_)
  refine lv_iload_n hx hb dM_feed_6 rfl (lv_at hl 1 rfl) ?_
  refine lv_bipush (v := nI 8) hx hb dM_feed_7 (by decide) ?_
  refine n_icmp_le (tgt := 16) S (by omega) (by omega) dM_feed_9 (by decide) (fun hc => ?_) (fun hc => False.elim (by omega))
  refine lv_iconst (v := nI 0) hx hb dM_feed_16 (by decide) ?_
  refine n_put S C hin_M tyM tyM_ok nmM 0 rfl rfl 0 (by decide) g_402 rfl rfl rfl rfl (Nat.le_of_ble_eq_true rfl) dM_feed_17 (fun H locs C => ?_)
  replace C : Cx D ca s0 A s [(h0, .inr (3, mF q (nI 0) (nI n))), (q 0, .inl (ca 0, 300, .inl (f)))] H locs := C
  refine lv_aload_n hx hb dM_feed_20 rfl (lv_at hl 0 rfl) ?_
  refine n_get S C hin_M 0 rfl rfl 0 (by decide) g_402 rfl dM_feed_21 ?_
  refine n_if_le (tgt := 29) S (by omega) dM_feed_24 (by decide) (fun hc => ?_) (fun hc => False.elim (by omega))
  refine lv_aload_n hx hb dM_feed_29 rfl (lv_at hl 0 rfl) ?_
  refine n_get S C hin_M 0 rfl rfl 1 (by decide) g_403 rfl dM_feed_30 ?_
  refine lv_iload_n hx hb dM_feed_33 rfl (lv_at hl 1 rfl) ?_
  refine n_add S dM_feed_34 ?_
  refine lv_sipush (v := nI 300) hx hb dM_feed_35 (by decide) ?_
  refine n_icmp_le (tgt := 43) S (by omega) (by omega) dM_feed_38 (by decide) (fun hc => False.elim (by omega)) (fun hc => ?_)
  refine lv_iconst (v := (-1)) hx hb dM_feed_41 (by decide) ?_
  exact ret ((-1)) (()) _ _ _ _ _ _ (Nat.le_refl _) (Nat.le_refl _) rfl C dM_feed_42
abbrev rm_M_feed_ok : Room := { frames := 0, cells := 0, slots := 0, locals := 0 }
set_option maxHeartbeats 4000000 in
set_option maxRecDepth 100000 in
theorem c_M_feed_ok (l : Launch) (D : va_G) (ca : Nat → ClassId) (s0 : State) (a0 : Array Value) (Z : Wd a0 s0) (h0 : Nat) (q : Nat → Nat) (th : Int32) (k : Nat) (hk1 : 1 ≤ k) (hk : k ≤ 8) (x : Int64) (f : Nat → Int32) (T : Nat → Nat) (n : Nat) (hn : n ≤ 300) (hT : mTp f T n) (hfit : n + k ≤ 300) : CtI l yM_feed [.code yM_feed cM_feed 5 (some .int)] rm_M_feed_ok 0 0 D ca s0 [.ref (h0), .int (nI k), .long (x)] [(h0, .inr (3, mF q (th) (nI n))), (q 0, .inl (ca 0, 300, .inl (f)))] (S := Nat → Int32) (fun r u => r = nI (n + k) ∧ mTp u (sb_cat T n (byAt x)) (n + k)) (fun u => [(h0, .inr (3, mF q (nI 0) (nI (n + k)))), (q 0, .inl (ca 0, 300, .inl u))]) := by
  refine ctI_of (cc := cM_feed) (maxL := 5) (own := RM) Z rfl (by decide) rfl (Nat.le_of_ble_eq_true rfl) ?_
  intro p e s m args below meth c A ls Q S hnm ret C hl
  have hx := S.1
  have hb := S.2.1
  have hown := S.2.2.2.1
  have hts := S.2.2.2.2
  generalize s.heap = H at C ⊢
  generalize ([] : List Loc) = locs at C ⊢
  replace hl : lv_has ls 5 [(0, .ref (h0)), (1, .int (nI k)), (2, .long (x))] := hl
  refine lv_aload_n hx hb dM_feed_0 rfl (lv_at hl 0 rfl) ?_
  refine lv_iload_n hx hb dM_feed_1 rfl (lv_at hl 1 rfl) ?_
  refine lv_iconst (v := nI 1) hx hb dM_feed_2 (by decide) ?_
  refine n_icmp_lt (tgt := 12) S (by omega) (by omega) dM_feed_3 (by decide) (fun hc => False.elim (by omega)) (fun hc => ?_)
  refine lv_iload_n hx hb dM_feed_6 rfl (lv_at hl 1 rfl) ?_
  refine lv_bipush (v := nI 8) hx hb dM_feed_7 (by decide) ?_
  refine n_icmp_le (tgt := 16) S (by omega) (by omega) dM_feed_9 (by decide) (fun hc => ?_) (fun hc => False.elim (by omega))
  refine lv_iconst (v := nI 0) hx hb dM_feed_16 (by decide) ?_
  refine n_put S C hin_M tyM tyM_ok nmM 0 rfl rfl 0 (by decide) g_402 rfl rfl rfl rfl (Nat.le_of_ble_eq_true rfl) dM_feed_17 (fun H locs C => ?_)
  replace C : Cx D ca s0 A s [(h0, .inr (3, mF q (nI 0) (nI n))), (q 0, .inl (ca 0, 300, .inl (f)))] H locs := C
  refine lv_aload_n hx hb dM_feed_20 rfl (lv_at hl 0 rfl) ?_
  refine n_get S C hin_M 0 rfl rfl 0 (by decide) g_402 rfl dM_feed_21 ?_
  refine n_if_le (tgt := 29) S (by omega) dM_feed_24 (by decide) (fun hc => ?_) (fun hc => False.elim (by omega))
  refine lv_aload_n hx hb dM_feed_29 rfl (lv_at hl 0 rfl) ?_
  refine n_get S C hin_M 0 rfl rfl 1 (by decide) g_403 rfl dM_feed_30 ?_
  refine lv_iload_n hx hb dM_feed_33 rfl (lv_at hl 1 rfl) ?_
  refine n_add S dM_feed_34 ?_
  refine lv_sipush (v := nI 300) hx hb dM_feed_35 (by decide) ?_
  refine n_icmp_le (tgt := 43) S (by omega) (by omega) dM_feed_38 (by decide) (fun hc => ?_) (fun hc => False.elim (by omega))
  refine lv_iconst (v := nI 0) hx hb dM_feed_43 (by decide) ?_
  refine lv_istore hx hb dM_feed_44 hl (Nat.le_of_ble_eq_true rfl) rfl (fun ls hl => ?_)
  replace hl : lv_has ls 5 [(4, .int (nI 0)), (0, .ref (h0)), (1, .int (nI k)), (2, .long (x))] := hl
  have lp46 : ∀ (nf : Nat) (i : Nat) (g : Nat → Int32) (H : Heap) (locs : List Loc) (ls : Array Slot), k - i < nf → i ≤ k → mTp g (sb_cat T n (byAt x)) (n + i) → Cx D ca s0 A s [(h0, .inr (3, mF q (nI 0) (nI (n + i)))), (q 0, .inl (ca 0, 300, .inl (g)))] H locs → lv_has ls 5 [(4, .int (nI i)), (0, .ref (h0)), (1, .int (nI k)), (2, .long (x))] → W p l e rm_M_feed_ok s m args below meth c H locs 0 0 Q (F0 m 46 ls []) := by
    intro nf
    induction nf with
    | zero => intro i g H locs ls hn; exact absurd hn (Nat.not_lt_zero _)
    | succ nf ih_lp46 =>
      intro i g H locs ls hn lp46_le hG C hl
      refine lv_iload hx hb dM_feed_46 (lv_at hl 0 rfl) ?_
      refine lv_iload_n hx hb dM_feed_48 rfl (lv_at hl 2 rfl) ?_
      refine n_icmp_ge (tgt := 89) S (by omega) (by omega) dM_feed_49 (by decide) (fun hc49 => ?_) (fun hc49 => ?_)
      · skip
        rw [show i = k by omega] at hG C
        refine lv_aload_n hx hb dM_feed_89 rfl (lv_at hl 1 rfl) ?_
        refine n_get S C hin_M 0 rfl rfl 1 (by decide) g_403 rfl dM_feed_90 ?_
        exact ret (nI (n + k)) g _ _ _ _ _ _ (Nat.le_refl _) (Nat.le_refl _) (⟨rfl, hG⟩) C dM_feed_93
      · skip
        refine lv_aload_n hx hb dM_feed_52 rfl (lv_at hl 1 rfl) ?_
        refine n_get S C hin_M 0 rfl rfl 2 (by decide) g_404 rfl dM_feed_53 ?_
        refine lv_aload_n hx hb dM_feed_56 rfl (lv_at hl 1 rfl) ?_
        refine n_get S C hin_M 0 rfl rfl 1 (by decide) g_403 rfl dM_feed_57 ?_
        refine lv_lload_n hx hb dM_feed_60 rfl (lv_at hl 3 rfl) ?_
        refine lv_bipush (v := nI 8) hx hb dM_feed_61 (by decide) ?_
        refine lv_iload hx hb dM_feed_63 (lv_at hl 0 rfl) ?_
        refine n_mul S dM_feed_65 ?_
        refine lv_lshr (v := lSar x (8 * i)) hx hb dM_feed_66 rfl ?_
        refine lv_ldc2 (v := 255) hx hb hown (hts _ g_398) dM_feed_67 ?_
        refine lv_land hx hb dM_feed_70 ?_
        refine lv_l2i (v := ((lSar x (8 * i)) &&& 255).toInt32) hx hb dM_feed_71 rfl ?_
        refine lv_topi (nm_r (e' := nI (byAt x i)) (lSar_int x (by omega)) ?_)
        refine n_iast S C 1 rfl (i := n + i) (by omega) (by decide) dM_feed_72 (fun H locs C => ?_)
        replace C : Cx D ca s0 A s [(h0, .inr (3, mF q (nI 0) (nI (n + i)))), (q 0, .inl (ca 0, 300, .inl (upd g (n + i) (nI (byAt x i)))))] H locs := C
        refine lv_aload_n hx hb dM_feed_73 rfl (lv_at hl 1 rfl) ?_
        refine lv_dup hx hb dM_feed_74 rfl ?_
        refine n_get S C hin_M 0 rfl rfl 1 (by decide) g_403 rfl dM_feed_75 ?_
        refine lv_iconst (v := nI 1) hx hb dM_feed_78 (by decide) ?_
        refine n_add S dM_feed_79 ?_
        refine lv_topi (nm_r (e' := nI (n + (i + 1))) rfl ?_)
        refine n_put S C hin_M tyM tyM_ok nmM 0 rfl rfl 1 (by decide) g_403 rfl rfl rfl rfl (Nat.le_of_ble_eq_true rfl) dM_feed_80 (fun H locs C => ?_)
        replace C : Cx D ca s0 A s [(h0, .inr (3, mF q (nI 0) (nI (n + (i + 1))))), (q 0, .inl (ca 0, 300, .inl (upd g (n + i) (nI (byAt x i)))))] H locs := C
        refine lv_iinc (k := 0) (v := nI (i + 1)) hx hb dM_feed_83 hl rfl (n_inc1 _) (Nat.le_of_ble_eq_true rfl) rfl (fun ls hl => ?_)
        replace hl : lv_has ls 5 [(4, .int (nI (i + 1))), (0, .ref (h0)), (1, .int (nI k)), (2, .long (x))] := hl
        refine lv_goto (tgt := 46) hx hb dM_feed_86 (by decide) ?_
        exact ih_lp46 (i + 1) _ _ _ _ (by omega) (by omega) (mTp_s hG (byAt_lt _ _) rfl) C (lv_sub hl [0, 1, 2, 3] rfl)
  exact lp46 (k + 1) 0 _ _ _ _ (by omega) (by omega) (mTp_0 hT) C (lv_sub hl [0, 1, 2, 3] rfl)
abbrev rm_M_let_no : Room := { frames := 0, cells := 0, slots := 0, locals := 0 }
set_option maxHeartbeats 4000000 in
set_option maxRecDepth 100000 in
theorem c_M_let_no (l : Launch) (D : va_G) (ca : Nat → ClassId) (s0 : State) (a0 : Array Value) (Z : Wd a0 s0) (h0 : Nat) (q : Nat → Nat) (th tz : Int32) (k : Int32) (hr : k < 0 ∨ nI 2 < k) : CtI l yM_let [.code yM_let cM_let 3 (some .int)] rm_M_let_no 0 0 D ca s0 [.ref (h0), .int (k)] [(h0, .inr (3, mF q (th) (tz)))] (S := Unit) (fun _ _ => True) (fun _ => [(h0, .inr (3, mF q (nI 1) (tz)))]) := by
  refine ctI_of (cc := cM_let) (maxL := 3) (own := RM) Z rfl (by decide) rfl (Nat.le_of_ble_eq_true rfl) ?_
  intro p e s m args below meth c A ls Q S hnm ret C hl
  have hx := S.1
  have hb := S.2.1
  have hown := S.2.2.2.1
  have hts := S.2.2.2.2
  generalize s.heap = H at C ⊢
  generalize ([] : List Loc) = locs at C ⊢
  replace hl : lv_has ls 3 [(0, .ref (h0)), (1, .int (k))] := hl
  refine lv_aload_n hx hb dM_let_0 rfl (lv_at hl 0 rfl) ?_
  refine lv_iload_n hx hb dM_let_1 rfl (lv_at hl 1 rfl) ?_
  refine lv_if_lt (tgt := 10) hx hb dM_let_2 (by decide) (fun hc2 => ?_) (fun hc2 => ?_)
  · skip
    refine lv_iconst (v := nI 1) hx hb dM_let_10 (by decide) ?_
    refine lv_goto (tgt := 15) hx hb dM_let_11 (by decide) ?_
    refine n_put S C hin_M tyM tyM_ok nmM 0 rfl rfl 0 (by decide) g_402 rfl rfl rfl rfl (Nat.le_of_ble_eq_true rfl) dM_let_15 (fun H locs C => ?_)
    replace C : Cx D ca s0 A s [(h0, .inr (3, mF q (nI 1) (tz)))] H locs := C
    refine lv_aload_n hx hb dM_let_18 rfl (lv_at hl 0 rfl) ?_
    refine n_get S C hin_M 0 rfl rfl 0 (by decide) g_402 rfl dM_let_19 ?_
    refine n_if_le (tgt := 27) S (by omega) dM_let_22 (by decide) (fun hc => False.elim (by omega)) (fun hc => ?_)
    refine lv_iconst (v := nI 0) hx hb dM_let_25 (by decide) ?_
    exact ret (nI 0) (()) _ _ _ _ _ _ (Nat.le_refl _) (Nat.le_refl _) trivial C dM_let_26
  · skip
    refine lv_iload_n hx hb dM_let_5 rfl (lv_at hl 1 rfl) ?_
    refine lv_iconst (v := nI 2) hx hb dM_let_6 (by decide) ?_
    refine lv_icmp_le (tgt := 14) hx hb dM_let_7 (by decide) (fun hc => absurd hc (Int32.not_le.mpr (hr.resolve_left hc2))) (fun hc => ?_)
    refine lv_iconst (v := nI 1) hx hb dM_let_10 (by decide) ?_
    refine lv_goto (tgt := 15) hx hb dM_let_11 (by decide) ?_
    refine n_put S C hin_M tyM tyM_ok nmM 0 rfl rfl 0 (by decide) g_402 rfl rfl rfl rfl (Nat.le_of_ble_eq_true rfl) dM_let_15 (fun H locs C => ?_)
    replace C : Cx D ca s0 A s [(h0, .inr (3, mF q (nI 1) (tz)))] H locs := C
    refine lv_aload_n hx hb dM_let_18 rfl (lv_at hl 0 rfl) ?_
    refine n_get S C hin_M 0 rfl rfl 0 (by decide) g_402 rfl dM_let_19 ?_
    refine n_if_le (tgt := 27) S (by omega) dM_let_22 (by decide) (fun hc => False.elim (by omega)) (fun hc => ?_)
    refine lv_iconst (v := nI 0) hx hb dM_let_25 (by decide) ?_
    exact ret (nI 0) (()) _ _ _ _ _ _ (Nat.le_refl _) (Nat.le_refl _) trivial C dM_let_26
abbrev rm_M_let_ok : Room := { frames := 0, cells := 0, slots := 0, locals := 0 }
set_option maxHeartbeats 4000000 in
set_option maxRecDepth 100000 in
theorem c_M_let_ok (l : Launch) (D : va_G) (ca : Nat → ClassId) (s0 : State) (a0 : Array Value) (Z : Wd a0 s0) (h0 : Nat) (q : Nat → Nat) (th : Int32) (k : Nat) (hk : k < 3) (f f1 f2 : Nat → Int32) (T : Nat → Nat) (n : Nat) (hn : n ≤ 300) (hT : mTp f T n) : CtI l yM_let [.code yM_let cM_let 3 (some .int)] rm_M_let_ok 0 0 D ca s0 [.ref (h0), .int (nI k)] [(h0, .inr (3, mF q (th) (nI n))), (q 0, .inl (ca 0, 300, .inl (f))), (q 1, .inl (ca 0, 3, .inl (f1))), (q 2, .inl (ca 0, 900, .inl (f2)))] (S := (Nat → Int32) × (Nat → Int32)) (fun r u => r = nI n ∧ one u.1 f1 k (nI n) ∧ rN u.2 f2 (300 * k) n T) (fun u => [(h0, .inr (3, mF q (nI 0) (nI 0))), (q 0, .inl (ca 0, 300, .inl f)), (q 1, .inl (ca 0, 3, .inl u.1)), (q 2, .inl (ca 0, 900, .inl u.2))]) := by
  refine ctI_of (cc := cM_let) (maxL := 3) (own := RM) Z rfl (by decide) rfl (Nat.le_of_ble_eq_true rfl) ?_
  intro p e s m args below meth c A ls Q S hnm ret C hl
  have hx := S.1
  have hb := S.2.1
  have hown := S.2.2.2.1
  have hts := S.2.2.2.2
  generalize s.heap = H at C ⊢
  generalize ([] : List Loc) = locs at C ⊢
  replace hl : lv_has ls 3 [(0, .ref (h0)), (1, .int (nI k))] := hl
  refine lv_aload_n hx hb dM_let_0 rfl (lv_at hl 0 rfl) ?_
  refine lv_iload_n hx hb dM_let_1 rfl (lv_at hl 1 rfl) ?_
  refine n_if_lt (tgt := 10) S (by omega) dM_let_2 (by decide) (fun hc => hc.elim) (fun hc => ?_)
  refine lv_iload_n hx hb dM_let_5 rfl (lv_at hl 1 rfl) ?_
  refine lv_iconst (v := nI 2) hx hb dM_let_6 (by decide) ?_
  refine n_icmp_le (tgt := 14) S (by omega) (by omega) dM_let_7 (by decide) (fun hc => ?_) (fun hc => False.elim (by omega))
  refine lv_iconst (v := nI 0) hx hb dM_let_14 (by decide) ?_
  refine n_put S C hin_M tyM tyM_ok nmM 0 rfl rfl 0 (by decide) g_402 rfl rfl rfl rfl (Nat.le_of_ble_eq_true rfl) dM_let_15 (fun H locs C => ?_)
  replace C : Cx D ca s0 A s [(h0, .inr (3, mF q (nI 0) (nI n))), (q 0, .inl (ca 0, 300, .inl (f))), (q 1, .inl (ca 0, 3, .inl (f1))), (q 2, .inl (ca 0, 900, .inl (f2)))] H locs := C
  refine lv_aload_n hx hb dM_let_18 rfl (lv_at hl 0 rfl) ?_
  refine n_get S C hin_M 0 rfl rfl 0 (by decide) g_402 rfl dM_let_19 ?_
  refine n_if_le (tgt := 27) S (by omega) dM_let_22 (by decide) (fun hc => ?_) (fun hc => False.elim (by omega))
  refine lv_iconst (v := nI 0) hx hb dM_let_27 (by decide) ?_
  refine lv_istore_n hx hb dM_let_28 rfl hl (Nat.le_of_ble_eq_true rfl) rfl (fun ls hl => ?_)
  replace hl : lv_has ls 3 [(2, .int (nI 0)), (0, .ref (h0)), (1, .int (nI k))] := hl
  have lp29 : ∀ (nf : Nat) (i : Nat) (g : Nat → Int32) (H : Heap) (locs : List Loc) (ls : Array Slot), n - i < nf → i ≤ n → rN g f2 (300 * k) i T → Cx D ca s0 A s [(h0, .inr (3, mF q (nI 0) (nI n))), (q 0, .inl (ca 0, 300, .inl (f))), (q 1, .inl (ca 0, 3, .inl (f1))), (q 2, .inl (ca 0, 900, .inl (g)))] H locs → lv_has ls 3 [(2, .int (nI i)), (0, .ref (h0)), (1, .int (nI k))] → W p l e rm_M_let_ok s m args below meth c H locs 0 0 Q (F0 m 29 ls []) := by
    intro nf
    induction nf with
    | zero => intro i g H locs ls hn; exact absurd hn (Nat.not_lt_zero _)
    | succ nf ih_lp29 =>
      intro i g H locs ls hn lp29_le hG C hl
      refine lv_iload_n hx hb dM_let_29 rfl (lv_at hl 0 rfl) ?_
      refine lv_aload_n hx hb dM_let_30 rfl (lv_at hl 1 rfl) ?_
      refine n_get S C hin_M 0 rfl rfl 1 (by decide) g_403 rfl dM_let_31 ?_
      refine n_icmp_ge (tgt := 61) S (by omega) (by omega) dM_let_34 (by decide) (fun hc34 => ?_) (fun hc34 => ?_)
      · skip
        rw [show i = n by omega] at hG
        refine lv_aload_n hx hb dM_let_61 rfl (lv_at hl 1 rfl) ?_
        refine n_get S C hin_M 0 rfl rfl 3 (by decide) g_405 rfl dM_let_62 ?_
        refine lv_iload_n hx hb dM_let_65 rfl (lv_at hl 2 rfl) ?_
        refine lv_aload_n hx hb dM_let_66 rfl (lv_at hl 1 rfl) ?_
        refine n_get S C hin_M 0 rfl rfl 1 (by decide) g_403 rfl dM_let_67 ?_
        refine n_iast S C 2 rfl (i := k) (by omega) (by decide) dM_let_70 (fun H locs C => ?_)
        replace C : Cx D ca s0 A s [(h0, .inr (3, mF q (nI 0) (nI n))), (q 0, .inl (ca 0, 300, .inl (f))), (q 1, .inl (ca 0, 3, .inl (upd f1 k (nI n)))), (q 2, .inl (ca 0, 900, .inl (g)))] H locs := C
        refine lv_aload_n hx hb dM_let_71 rfl (lv_at hl 1 rfl) ?_
        refine lv_iconst (v := nI 0) hx hb dM_let_72 (by decide) ?_
        refine n_put S C hin_M tyM tyM_ok nmM 0 rfl rfl 1 (by decide) g_403 rfl rfl rfl rfl (Nat.le_of_ble_eq_true rfl) dM_let_73 (fun H locs C => ?_)
        replace C : Cx D ca s0 A s [(h0, .inr (3, mF q (nI 0) (nI 0))), (q 0, .inl (ca 0, 300, .inl (f))), (q 1, .inl (ca 0, 3, .inl (upd f1 k (nI n)))), (q 2, .inl (ca 0, 900, .inl (g)))] H locs := C
        refine lv_aload_n hx hb dM_let_76 rfl (lv_at hl 1 rfl) ?_
        refine n_get S C hin_M 0 rfl rfl 3 (by decide) g_405 rfl dM_let_77 ?_
        refine lv_iload_n hx hb dM_let_80 rfl (lv_at hl 2 rfl) ?_
        refine n_iald S C 2 rfl (i := k) (by omega) (by decide) dM_let_81 ?_
        refine lv_topi (nm_r (e' := nI n) pk_us ?_)
        exact ret (nI n) ((upd f1 k (nI n), g)) _ _ _ _ _ _ (Nat.le_refl _) (Nat.le_refl _) (⟨rfl, one.up, hG⟩) C dM_let_82
      · skip
        refine lv_aload_n hx hb dM_let_37 rfl (lv_at hl 1 rfl) ?_
        refine n_get S C hin_M 0 rfl rfl 4 (by decide) g_406 rfl dM_let_38 ?_
        refine lv_sipush (v := nI 300) hx hb dM_let_41 (by decide) ?_
        refine lv_iload_n hx hb dM_let_44 rfl (lv_at hl 2 rfl) ?_
        refine n_mul S dM_let_45 ?_
        refine lv_iload_n hx hb dM_let_46 rfl (lv_at hl 0 rfl) ?_
        refine n_add S dM_let_47 ?_
        refine lv_aload_n hx hb dM_let_48 rfl (lv_at hl 1 rfl) ?_
        refine n_get S C hin_M 0 rfl rfl 2 (by decide) g_404 rfl dM_let_49 ?_
        refine lv_iload_n hx hb dM_let_52 rfl (lv_at hl 0 rfl) ?_
        refine n_iald S C 1 rfl (i := i) (by omega) (by decide) dM_let_53 ?_
        refine lv_topi (nm_r (e' := nI (T i)) (hT i (by omega)).2 ?_)
        refine n_iast S C 3 rfl (i := (300 * k) + i) (by omega) (by decide) dM_let_54 (fun H locs C => ?_)
        replace C : Cx D ca s0 A s [(h0, .inr (3, mF q (nI 0) (nI n))), (q 0, .inl (ca 0, 300, .inl (f))), (q 1, .inl (ca 0, 3, .inl (f1))), (q 2, .inl (ca 0, 900, .inl (upd g ((300 * k) + i) (nI (T i)))))] H locs := C
        refine lv_iinc (k := 0) (v := nI (i + 1)) hx hb dM_let_55 hl rfl (n_inc1 _) (Nat.le_of_ble_eq_true rfl) rfl (fun ls hl => ?_)
        replace hl : lv_has ls 3 [(2, .int (nI (i + 1))), (0, .ref (h0)), (1, .int (nI k))] := hl
        refine lv_goto (tgt := 29) hx hb dM_let_58 (by decide) ?_
        exact ih_lp29 (i + 1) _ _ _ _ (by omega) (by omega) (rN_s hG rfl) C (lv_sub hl [0, 1, 2] rfl)
  exact lp29 (n + 1) 0 _ _ _ _ (by omega) (by omega) rN_0 C (lv_sub hl [0, 1, 2] rfl)
abbrev rm_M_begin_no1 : Room := { frames := 1, cells := 0, slots := 0, locals := 20 }
set_option maxHeartbeats 4000000 in
set_option maxRecDepth 100000 in
theorem c_M_begin_no1 (l : Launch) (D : va_G) (ca : Nat → ClassId) (s0 : State) (a0 : Array Value) (Z : Wd a0 s0) (h0 : Nat) (q : Nat → Nat) (th tz : Int32) (k : Int32) (hno : ¬ (¬ k < 0 ∧ k < 4)) (y : Int32) : CtV l yM_begin [.code yM_begin cM_begin 3 none] rm_M_begin_no1 0 0 D ca s0 [.ref (h0), .int (k), .int (y)] [(h0, .inr (3, mF q (th) (tz)))] (S := Unit) (fun _ => True) (fun _ => [(h0, .inr (3, mF q (nI 1) (tz)))]) := by
  refine ctV_of (cc := cM_begin) (maxL := 3) (own := RM) Z rfl (by decide) rfl (Nat.le_of_ble_eq_true rfl) ?_
  intro p e s m args below meth c A ls Q S hnm ret C hl
  have hx := S.1
  have hb := S.2.1
  have hown := S.2.2.2.1
  have hts := S.2.2.2.2
  generalize s.heap = H at C ⊢
  generalize ([] : List Loc) = locs at C ⊢
  replace hl : lv_has ls 3 [(0, .ref (h0)), (1, .int (k)), (2, .int (y))] := hl
  refine lv_aload_n hx hb dM_begin_0 rfl (lv_at hl 0 rfl) ?_
  refine lv_iload_n hx hb dM_begin_1 rfl (lv_at hl 1 rfl) ?_
  refine n_callP C (fun hp => va_runS (rest := [.ref (h0)]) S (c_M_isSponge l D ca s0 a0 Z (k) _) (cwS 1 hts (gS g_438 g_439 g_34 g_440) rfl rfl rfl (by decide +kernel) ⟨Nat.le_of_ble_eq_true rfl, Nat.le_of_ble_eq_true rfl⟩) hp rfl rfl hl.1 rfl (lv_room (Nat.le_of_ble_eq_true rfl)) dM_begin_2 ⟨Nat.le_of_ble_eq_true rfl, Nat.le_of_ble_eq_true rfl⟩) (fun r u H locs hp C => ?_)
  subst hp
  refine lv_topi (nm_r (e' := nI 0) (isSp_no hno) ?_)
  refine n_if_ne (tgt := 12) S (by omega) dM_begin_5 (by decide) (fun hc => False.elim (by omega)) (fun hc => ?_)
  refine lv_iconst (v := nI 1) hx hb dM_begin_8 (by decide) ?_
  refine lv_goto (tgt := 27) hx hb dM_begin_9 (by decide) ?_
  refine n_put S C hin_M tyM tyM_ok nmM 0 rfl rfl 0 (by decide) g_402 rfl rfl rfl rfl (Nat.le_of_ble_eq_true rfl) dM_begin_27 (fun H locs C => ?_)
  replace C : Cx D ca s0 A s [(h0, .inr (3, mF q (nI 1) (tz)))] H locs := C
  refine lv_aload_n hx hb dM_begin_30 rfl (lv_at hl 0 rfl) ?_
  refine n_get S C hin_M 0 rfl rfl 0 (by decide) g_402 rfl dM_begin_31 ?_
  refine n_if_ne (tgt := 43) S (by omega) dM_begin_34 (by decide) (fun hc => ?_) (fun hc => False.elim (by omega))
  exact ret (()) _ _ _ _ _ _ (Nat.le_refl _) (Nat.le_refl _) trivial C dM_begin_43
abbrev rm_M_begin_no2 : Room := { frames := 1, cells := 0, slots := 0, locals := 20 }
set_option maxHeartbeats 4000000 in
set_option maxRecDepth 100000 in
theorem c_M_begin_no2 (l : Launch) (D : va_G) (ca : Nat → ClassId) (s0 : State) (a0 : Array Value) (Z : Wd a0 s0) (h0 : Nat) (q : Nat → Nat) (th tz : Int32) (k0 : Nat) (hk0 : k0 < 4) (y : Int32) (hr : y < 0 ∨ nI 15 < y) : CtV l yM_begin [.code yM_begin cM_begin 3 none] rm_M_begin_no2 0 0 D ca s0 [.ref (h0), .int (nI k0), .int (y)] [(h0, .inr (3, mF q (th) (tz)))] (S := Unit) (fun _ => True) (fun _ => [(h0, .inr (3, mF q (nI 2) (tz)))]) := by
  refine ctV_of (cc := cM_begin) (maxL := 3) (own := RM) Z rfl (by decide) rfl (Nat.le_of_ble_eq_true rfl) ?_
  intro p e s m args below meth c A ls Q S hnm ret C hl
  have hx := S.1
  have hb := S.2.1
  have hown := S.2.2.2.1
  have hts := S.2.2.2.2
  generalize s.heap = H at C ⊢
  generalize ([] : List Loc) = locs at C ⊢
  replace hl : lv_has ls 3 [(0, .ref (h0)), (1, .int (nI k0)), (2, .int (y))] := hl
  refine lv_aload_n hx hb dM_begin_0 rfl (lv_at hl 0 rfl) ?_
  refine lv_iload_n hx hb dM_begin_1 rfl (lv_at hl 1 rfl) ?_
  refine n_callP C (fun hp => va_runS (rest := [.ref (h0)]) S (c_M_isSponge l D ca s0 a0 Z (nI k0) _) (cwS 1 hts (gS g_438 g_439 g_34 g_440) rfl rfl rfl (by decide +kernel) ⟨Nat.le_of_ble_eq_true rfl, Nat.le_of_ble_eq_true rfl⟩) hp rfl rfl hl.1 rfl (lv_room (Nat.le_of_ble_eq_true rfl)) dM_begin_2 ⟨Nat.le_of_ble_eq_true rfl, Nat.le_of_ble_eq_true rfl⟩) (fun r u H locs hp C => ?_)
  subst hp
  refine lv_topi (nm_r (e' := nI 1) (isSp_ok hk0) ?_)
  refine n_if_ne (tgt := 12) S (by omega) dM_begin_5 (by decide) (fun hc => ?_) (fun hc => False.elim (by omega))
  refine lv_iload_n hx hb dM_begin_12 rfl (lv_at hl 2 rfl) ?_
  refine lv_if_lt (tgt := 22) hx hb dM_begin_13 (by decide) (fun hc13 => ?_) (fun hc13 => ?_)
  · skip
    refine lv_iconst (v := nI 2) hx hb dM_begin_22 (by decide) ?_
    refine lv_goto (tgt := 27) hx hb dM_begin_23 (by decide) ?_
    refine n_put S C hin_M tyM tyM_ok nmM 0 rfl rfl 0 (by decide) g_402 rfl rfl rfl rfl (Nat.le_of_ble_eq_true rfl) dM_begin_27 (fun H locs C => ?_)
    replace C : Cx D ca s0 A s [(h0, .inr (3, mF q (nI 2) (tz)))] H locs := C
    refine lv_aload_n hx hb dM_begin_30 rfl (lv_at hl 0 rfl) ?_
    refine n_get S C hin_M 0 rfl rfl 0 (by decide) g_402 rfl dM_begin_31 ?_
    refine n_if_ne (tgt := 43) S (by omega) dM_begin_34 (by decide) (fun hc => ?_) (fun hc => False.elim (by omega))
    exact ret (()) _ _ _ _ _ _ (Nat.le_refl _) (Nat.le_refl _) trivial C dM_begin_43
  · skip
    refine lv_iload_n hx hb dM_begin_16 rfl (lv_at hl 2 rfl) ?_
    refine lv_bipush (v := nI 15) hx hb dM_begin_17 (by decide) ?_
    refine lv_icmp_le (tgt := 26) hx hb dM_begin_19 (by decide) (fun hc => absurd hc (Int32.not_le.mpr (hr.resolve_left hc13))) (fun hc => ?_)
    refine lv_iconst (v := nI 2) hx hb dM_begin_22 (by decide) ?_
    refine lv_goto (tgt := 27) hx hb dM_begin_23 (by decide) ?_
    refine n_put S C hin_M tyM tyM_ok nmM 0 rfl rfl 0 (by decide) g_402 rfl rfl rfl rfl (Nat.le_of_ble_eq_true rfl) dM_begin_27 (fun H locs C => ?_)
    replace C : Cx D ca s0 A s [(h0, .inr (3, mF q (nI 2) (tz)))] H locs := C
    refine lv_aload_n hx hb dM_begin_30 rfl (lv_at hl 0 rfl) ?_
    refine n_get S C hin_M 0 rfl rfl 0 (by decide) g_402 rfl dM_begin_31 ?_
    refine n_if_ne (tgt := 43) S (by omega) dM_begin_34 (by decide) (fun hc => ?_) (fun hc => False.elim (by omega))
    exact ret (()) _ _ _ _ _ _ (Nat.le_refl _) (Nat.le_refl _) trivial C dM_begin_43
abbrev rm_M_begin_ok : Room := { frames := 9, cells := 0, slots := 0, locals := 210 }
set_option maxHeartbeats 4000000 in
set_option maxRecDepth 100000 in
theorem c_M_begin_ok (l : Launch) (D : va_G) (ca : Nat → ClassId) (s0 : State) (a0 : Array Value) (Z : Wd a0 s0) (h0 : Nat) (q : Nat → Nat) (th tz : Int32) (F : MFn) (k0 k : Nat) (hk0 : k0 < 4) (hk : k < 16) (R : Nat → Rw) (hR : ∀ r, r < 3 → mRo (F 1) (F 2) r (R (r + 1))) : CtV l yM_begin [.code yM_begin cM_begin 3 none] rm_M_begin_ok 0 0 D ca s0 [.ref (h0), .int (nI k0), .int (nI k)] [(h0, .inr (3, mF q (th) (tz))), (q 1, .inl (ca 0, 3, .inl (F 1))), (q 2, .inl (ca 0, 900, .inl (F 2))), (q 3, .inl (ca 1, 9600, .inl (F 3))), (q 4, .inl (ca 0, 6, .inl (F 4))), (q 5, .inl (ca 0, 6, .inl (F 5))), (q 6, .inl (ca 0, 6, .inl (F 6))), (q 7, .inl (ca 1, 6, .inl (F 7))), (q 8, .inl (ca 0, 6, .inl (F 8))), (q 9, .inl (ca 0, 6, .inl (F 9))), (q 10, .inl (ca 1, 1600, .inl (F 10))), (q 11, .inl (ca 1, 1600, .inl (F 11)))] (S := MFn) (fun u => mU F u k0 (beginC k R, k, beginE k R, nI 0, false, -1)) (fun u => [(h0, .inr (3, mF q (nI 0) (tz))), (q 1, .inl (ca 0, 3, .inl (F 1))), (q 2, .inl (ca 0, 900, .inl (F 2))), (q 3, .inl (ca 1, 9600, .inl (u 3))), (q 4, .inl (ca 0, 6, .inl (u 4))), (q 5, .inl (ca 0, 6, .inl (u 5))), (q 6, .inl (ca 0, 6, .inl (u 6))), (q 7, .inl (ca 1, 6, .inl (u 7))), (q 8, .inl (ca 0, 6, .inl (u 8))), (q 9, .inl (ca 0, 6, .inl (u 9))), (q 10, .inl (ca 1, 1600, .inl (u 10))), (q 11, .inl (ca 1, 1600, .inl (u 11)))]) := by
  refine ctV_of (cc := cM_begin) (maxL := 3) (own := RM) Z rfl (by decide) rfl (Nat.le_of_ble_eq_true rfl) ?_
  intro p e s m args below meth c A ls Q S hnm ret C hl
  have hx := S.1
  have hb := S.2.1
  have hown := S.2.2.2.1
  have hts := S.2.2.2.2
  generalize s.heap = H at C ⊢
  generalize ([] : List Loc) = locs at C ⊢
  replace hl : lv_has ls 3 [(0, .ref (h0)), (1, .int (nI k0)), (2, .int (nI k))] := hl
  refine lv_aload_n hx hb dM_begin_0 rfl (lv_at hl 0 rfl) ?_
  refine lv_iload_n hx hb dM_begin_1 rfl (lv_at hl 1 rfl) ?_
  refine n_callP C (fun hp => va_runS (rest := [.ref (h0)]) S (c_M_isSponge l D ca s0 a0 Z (nI k0) _) (cwS 1 hts (gS g_438 g_439 g_34 g_440) rfl rfl rfl (by decide +kernel) ⟨Nat.le_of_ble_eq_true rfl, Nat.le_of_ble_eq_true rfl⟩) hp rfl rfl hl.1 rfl (lv_room (Nat.le_of_ble_eq_true rfl)) dM_begin_2 ⟨Nat.le_of_ble_eq_true rfl, Nat.le_of_ble_eq_true rfl⟩) (fun r u H locs hp C => ?_)
  subst hp
  refine lv_topi (nm_r (e' := nI 1) (isSp_ok hk0) ?_)
  refine n_if_ne (tgt := 12) S (by omega) dM_begin_5 (by decide) (fun hc => ?_) (fun hc => False.elim (by omega))
  refine lv_iload_n hx hb dM_begin_12 rfl (lv_at hl 2 rfl) ?_
  refine n_if_lt (tgt := 22) S (by omega) dM_begin_13 (by decide) (fun hc => hc.elim) (fun hc => ?_)
  refine lv_iload_n hx hb dM_begin_16 rfl (lv_at hl 2 rfl) ?_
  refine lv_bipush (v := nI 15) hx hb dM_begin_17 (by decide) ?_
  refine n_icmp_le (tgt := 26) S (by omega) (by omega) dM_begin_19 (by decide) (fun hc => ?_) (fun hc => False.elim (by omega))
  refine lv_iconst (v := nI 0) hx hb dM_begin_26 (by decide) ?_
  refine n_put S C hin_M tyM tyM_ok nmM 0 rfl rfl 0 (by decide) g_402 rfl rfl rfl rfl (Nat.le_of_ble_eq_true rfl) dM_begin_27 (fun H locs C => ?_)
  replace C : Cx D ca s0 A s [(h0, .inr (3, mF q (nI 0) (tz))), (q 1, .inl (ca 0, 3, .inl (F 1))), (q 2, .inl (ca 0, 900, .inl (F 2))), (q 3, .inl (ca 1, 9600, .inl (F 3))), (q 4, .inl (ca 0, 6, .inl (F 4))), (q 5, .inl (ca 0, 6, .inl (F 5))), (q 6, .inl (ca 0, 6, .inl (F 6))), (q 7, .inl (ca 1, 6, .inl (F 7))), (q 8, .inl (ca 0, 6, .inl (F 8))), (q 9, .inl (ca 0, 6, .inl (F 9))), (q 10, .inl (ca 1, 1600, .inl (F 10))), (q 11, .inl (ca 1, 1600, .inl (F 11)))] H locs := C
  refine lv_aload_n hx hb dM_begin_30 rfl (lv_at hl 0 rfl) ?_
  refine n_get S C hin_M 0 rfl rfl 0 (by decide) g_402 rfl dM_begin_31 ?_
  refine n_if_ne (tgt := 43) S (by omega) dM_begin_34 (by decide) (fun hc => False.elim (by omega)) (fun hc => ?_)
  refine lv_aload_n hx hb dM_begin_37 rfl (lv_at hl 0 rfl) ?_
  refine lv_iload_n hx hb dM_begin_38 rfl (lv_at hl 1 rfl) ?_
  refine lv_iload_n hx hb dM_begin_39 rfl (lv_at hl 2 rfl) ?_
  refine n_callV (wc := [(h0, .inr (3, mF q (nI 0) (tz))), (q 1, .inl (ca 0, 3, .inl (F 1))), (q 2, .inl (ca 0, 900, .inl (F 2))), (q 3, .inl (ca 1, 9600, .inl (F 3))), (q 4, .inl (ca 0, 6, .inl (F 4))), (q 5, .inl (ca 0, 6, .inl (F 5))), (q 6, .inl (ca 0, 6, .inl (F 6))), (q 7, .inl (ca 1, 6, .inl (F 7))), (q 8, .inl (ca 0, 6, .inl (F 8))), (q 9, .inl (ca 0, 6, .inl (F 9))), (q 10, .inl (ca 1, 1600, .inl (F 10))), (q 11, .inl (ca 1, 1600, .inl (F 11)))]) (wr := []) C [0, 1, 2, 3, 4, 5, 6, 7, 8, 9, 10, 11] [] rfl rfl rfl rfl (by decide) (fun hp => va_runV (rest := []) S (c_M_start l D ca s0 a0 Z h0 q (nI 0) tz F k0 k (by omega) hk R hR _) (cwV 2 hts (gV g_342 g_343 g_11 g_34 g_344) rfl rfl rfl (by decide +kernel) ⟨Nat.le_of_ble_eq_true rfl, Nat.le_of_ble_eq_true rfl⟩) ⟨hp.1, n_recv C 0 3 rfl rfl, hp.2⟩ rfl rfl hl.1 rfl (lv_room (Nat.le_of_ble_eq_true rfl)) dM_begin_40 ⟨Nat.le_of_ble_eq_true rfl, Nat.le_of_ble_eq_true rfl⟩) (fun u H locs hp C => ?_)
  replace C : Cx D ca s0 A s [(h0, .inr (3, mF q (nI 0) (tz))), (q 1, .inl (ca 0, 3, .inl (F 1))), (q 2, .inl (ca 0, 900, .inl (F 2))), (q 3, .inl (ca 1, 9600, .inl (u 3))), (q 4, .inl (ca 0, 6, .inl (u 4))), (q 5, .inl (ca 0, 6, .inl (u 5))), (q 6, .inl (ca 0, 6, .inl (u 6))), (q 7, .inl (ca 1, 6, .inl (u 7))), (q 8, .inl (ca 0, 6, .inl (u 8))), (q 9, .inl (ca 0, 6, .inl (u 9))), (q 10, .inl (ca 1, 1600, .inl (u 10))), (q 11, .inl (ca 1, 1600, .inl (u 11)))] H locs := C.re [0, 1, 2, 3, 4, 5, 6, 7, 8, 9, 10, 11] rfl rfl
  exact ret u _ _ _ _ _ _ (Nat.le_refl _) (Nat.le_refl _) hp C dM_begin_43
abbrev rm_M_absorb_no1 : Room := { frames := 1, cells := 0, slots := 0, locals := 20 }
set_option maxHeartbeats 4000000 in
set_option maxRecDepth 100000 in
theorem c_M_absorb_no1 (l : Launch) (D : va_G) (ca : Nat → ClassId) (s0 : State) (a0 : Array Value) (Z : Wd a0 s0) (h0 : Nat) (q : Nat → Nat) (th tz : Int32) (k : Int32) (hno : ¬ (¬ k < 0 ∧ k < 4)) : CtI l yM_absorb [.code yM_absorb cM_absorb 3 (some .int)] rm_M_absorb_no1 0 0 D ca s0 [.ref (h0), .int (k)] [(h0, .inr (3, mF q (th) (tz)))] (S := Unit) (fun _ _ => True) (fun _ => [(h0, .inr (3, mF q (nI 1) (tz)))]) := by
  refine ctI_of (cc := cM_absorb) (maxL := 3) (own := RM) Z rfl (by decide) rfl (Nat.le_of_ble_eq_true rfl) ?_
  intro p e s m args below meth c A ls Q S hnm ret C hl
  have hx := S.1
  have hb := S.2.1
  have hown := S.2.2.2.1
  have hts := S.2.2.2.2
  generalize s.heap = H at C ⊢
  generalize ([] : List Loc) = locs at C ⊢
  replace hl : lv_has ls 3 [(0, .ref (h0)), (1, .int (k))] := hl
  refine lv_aload_n hx hb dM_absorb_0 rfl (lv_at hl 0 rfl) ?_
  refine lv_iload_n hx hb dM_absorb_1 rfl (lv_at hl 1 rfl) ?_
  refine n_callP C (fun hp => va_runS (rest := [.ref (h0)]) S (c_M_isSponge l D ca s0 a0 Z (k) _) (cwS 1 hts (gS g_438 g_439 g_34 g_440) rfl rfl rfl (by decide +kernel) ⟨Nat.le_of_ble_eq_true rfl, Nat.le_of_ble_eq_true rfl⟩) hp rfl rfl hl.1 rfl (lv_room (Nat.le_of_ble_eq_true rfl)) dM_absorb_2 ⟨Nat.le_of_ble_eq_true rfl, Nat.le_of_ble_eq_true rfl⟩) (fun r u H locs hp C => ?_)
  subst hp
  refine lv_topi (nm_r (e' := nI 0) (isSp_no hno) ?_)
  refine n_if_ne (tgt := 12) S (by omega) dM_absorb_5 (by decide) (fun hc => False.elim (by omega)) (fun hc => ?_)
  refine lv_iconst (v := nI 1) hx hb dM_absorb_8 (by decide) ?_
  refine lv_goto (tgt := 13) hx hb dM_absorb_9 (by decide) ?_
  refine n_put S C hin_M tyM tyM_ok nmM 0 rfl rfl 0 (by decide) g_402 rfl rfl rfl rfl (Nat.le_of_ble_eq_true rfl) dM_absorb_13 (fun H locs C => ?_)
  replace C : Cx D ca s0 A s [(h0, .inr (3, mF q (nI 1) (tz)))] H locs := C
  refine lv_aload_n hx hb dM_absorb_16 rfl (lv_at hl 0 rfl) ?_
  refine n_get S C hin_M 0 rfl rfl 0 (by decide) g_402 rfl dM_absorb_17 ?_
  refine n_if_le (tgt := 25) S (by omega) dM_absorb_20 (by decide) (fun hc => False.elim (by omega)) (fun hc => ?_)
  refine lv_iconst (v := nI 0) hx hb dM_absorb_23 (by decide) ?_
  exact ret (nI 0) (()) _ _ _ _ _ _ (Nat.le_refl _) (Nat.le_refl _) trivial C dM_absorb_24
abbrev rm_M_absorb_no2 : Room := { frames := 1, cells := 0, slots := 0, locals := 20 }
set_option maxHeartbeats 4000000 in
set_option maxRecDepth 100000 in
theorem c_M_absorb_no2 (l : Launch) (D : va_G) (ca : Nat → ClassId) (s0 : State) (a0 : Array Value) (Z : Wd a0 s0) (h0 : Nat) (q : Nat → Nat) (th tz : Int32) (k0 : Nat) (hk0 : k0 < 4) (F : MFn) (hd : F 7 k0 = b2i true) : CtI l yM_absorb [.code yM_absorb cM_absorb 3 (some .int)] rm_M_absorb_no2 0 0 D ca s0 [.ref (h0), .int (nI k0)] [(h0, .inr (3, mF q (th) (tz))), (q 7, .inl (ca 1, 6, .inl (F 7)))] (S := Unit) (fun _ _ => True) (fun _ => [(h0, .inr (3, mF q (nI 2) (tz))), (q 7, .inl (ca 1, 6, .inl (F 7)))]) := by
  refine ctI_of (cc := cM_absorb) (maxL := 3) (own := RM) Z rfl (by decide) rfl (Nat.le_of_ble_eq_true rfl) ?_
  intro p e s m args below meth c A ls Q S hnm ret C hl
  have hx := S.1
  have hb := S.2.1
  have hown := S.2.2.2.1
  have hts := S.2.2.2.2
  generalize s.heap = H at C ⊢
  generalize ([] : List Loc) = locs at C ⊢
  replace hl : lv_has ls 3 [(0, .ref (h0)), (1, .int (nI k0))] := hl
  refine lv_aload_n hx hb dM_absorb_0 rfl (lv_at hl 0 rfl) ?_
  refine lv_iload_n hx hb dM_absorb_1 rfl (lv_at hl 1 rfl) ?_
  refine n_callP C (fun hp => va_runS (rest := [.ref (h0)]) S (c_M_isSponge l D ca s0 a0 Z (nI k0) _) (cwS 1 hts (gS g_438 g_439 g_34 g_440) rfl rfl rfl (by decide +kernel) ⟨Nat.le_of_ble_eq_true rfl, Nat.le_of_ble_eq_true rfl⟩) hp rfl rfl hl.1 rfl (lv_room (Nat.le_of_ble_eq_true rfl)) dM_absorb_2 ⟨Nat.le_of_ble_eq_true rfl, Nat.le_of_ble_eq_true rfl⟩) (fun r u H locs hp C => ?_)
  subst hp
  refine lv_topi (nm_r (e' := nI 1) (isSp_ok hk0) ?_)
  refine n_if_ne (tgt := 12) S (by omega) dM_absorb_5 (by decide) (fun hc => ?_) (fun hc => False.elim (by omega))
  refine lv_iconst (v := nI 0) hx hb dM_absorb_12 (by decide) ?_
  refine n_put S C hin_M tyM tyM_ok nmM 0 rfl rfl 0 (by decide) g_402 rfl rfl rfl rfl (Nat.le_of_ble_eq_true rfl) dM_absorb_13 (fun H locs C => ?_)
  replace C : Cx D ca s0 A s [(h0, .inr (3, mF q (nI 0) (tz))), (q 7, .inl (ca 1, 6, .inl (F 7)))] H locs := C
  refine lv_aload_n hx hb dM_absorb_16 rfl (lv_at hl 0 rfl) ?_
  refine n_get S C hin_M 0 rfl rfl 0 (by decide) g_402 rfl dM_absorb_17 ?_
  refine n_if_le (tgt := 25) S (by omega) dM_absorb_20 (by decide) (fun hc => ?_) (fun hc => False.elim (by omega))
  refine lv_aload_n hx hb dM_absorb_25 rfl (lv_at hl 0 rfl) ?_
  refine lv_aload_n hx hb dM_absorb_26 rfl (lv_at hl 0 rfl) ?_
  refine n_get S C hin_M 0 rfl rfl 9 (by decide) g_411 rfl dM_absorb_27 ?_
  refine lv_iload_n hx hb dM_absorb_30 rfl (lv_at hl 1 rfl) ?_
  refine n_zald S C 1 rfl (i := k0) (by omega) (by decide) dM_absorb_31 ?_
  refine lv_topi (nm_r (e' := nI 1) hd ?_)
  refine n_if_eq (tgt := 39) S (by omega) dM_absorb_32 (by decide) (fun hc => False.elim (by omega)) (fun hc => ?_)
  refine lv_iconst (v := nI 2) hx hb dM_absorb_35 (by decide) ?_
  refine lv_goto (tgt := 40) hx hb dM_absorb_36 (by decide) ?_
  refine n_put S C hin_M tyM tyM_ok nmM 0 rfl rfl 0 (by decide) g_402 rfl rfl rfl rfl (Nat.le_of_ble_eq_true rfl) dM_absorb_40 (fun H locs C => ?_)
  replace C : Cx D ca s0 A s [(h0, .inr (3, mF q (nI 2) (tz))), (q 7, .inl (ca 1, 6, .inl (F 7)))] H locs := C
  refine lv_aload_n hx hb dM_absorb_43 rfl (lv_at hl 0 rfl) ?_
  refine n_get S C hin_M 0 rfl rfl 0 (by decide) g_402 rfl dM_absorb_44 ?_
  refine n_if_le (tgt := 52) S (by omega) dM_absorb_47 (by decide) (fun hc => False.elim (by omega)) (fun hc => ?_)
  refine lv_iconst (v := nI 0) hx hb dM_absorb_50 (by decide) ?_
  exact ret (nI 0) (()) _ _ _ _ _ _ (Nat.le_refl _) (Nat.le_refl _) trivial C dM_absorb_51
abbrev rm_M_absorb_ok : Room := { frames := 7, cells := 0, slots := 0, locals := 161 }
set_option maxHeartbeats 4000000 in
set_option maxRecDepth 100000 in
theorem c_M_absorb_ok (l : Launch) (D : va_G) (ca : Nat → ClassId) (s0 : State) (a0 : Array Value) (Z : Wd a0 s0) (h0 : Nat) (q : Nat → Nat) (th : Int32) (F : MFn) (k0 : Nat) (hk0 : k0 < 4) (c0 : Co) (k en : Nat) (tk : Int32) (rm : Int32) (hk : k < 16) (hS : mSg F k0 (c0, k, en, tk, false, rm)) (hp0 : c0.2 < wid k) (n : Nat) (T : Nat → Nat) (f : Nat → Int32) (hn : n ≤ 300) (hT : mTp f T n) : CtI l yM_absorb [.code yM_absorb cM_absorb 3 (some .int)] rm_M_absorb_ok 0 0 D ca s0 [.ref (h0), .int (nI k0)] [(h0, .inr (3, mF q (th) (nI n))), (q 3, .inl (ca 1, 9600, .inl (F 3))), (q 4, .inl (ca 0, 6, .inl (F 4))), (q 5, .inl (ca 0, 6, .inl (F 5))), (q 6, .inl (ca 0, 6, .inl (F 6))), (q 7, .inl (ca 1, 6, .inl (F 7))), (q 8, .inl (ca 0, 6, .inl (F 8))), (q 9, .inl (ca 0, 6, .inl (F 9))), (q 10, .inl (ca 1, 1600, .inl (F 10))), (q 11, .inl (ca 1, 1600, .inl (F 11))), (q 0, .inl (ca 0, 300, .inl (f)))] (S := MFn) (fun r u => r = tk + nI n ∧ mU F u k0 (tapC (wid k) k c0 T n, k, en, tk + nI n, false, rm)) (fun u => [(h0, .inr (3, mF q (nI 0) (nI n))), (q 3, .inl (ca 1, 9600, .inl (u 3))), (q 4, .inl (ca 0, 6, .inl (u 4))), (q 5, .inl (ca 0, 6, .inl (u 5))), (q 6, .inl (ca 0, 6, .inl (u 6))), (q 7, .inl (ca 1, 6, .inl (u 7))), (q 8, .inl (ca 0, 6, .inl (u 8))), (q 9, .inl (ca 0, 6, .inl (u 9))), (q 10, .inl (ca 1, 1600, .inl (u 10))), (q 11, .inl (ca 1, 1600, .inl (u 11))), (q 0, .inl (ca 0, 300, .inl f))]) := by
  refine ctI_of (cc := cM_absorb) (maxL := 3) (own := RM) Z rfl (by decide) rfl (Nat.le_of_ble_eq_true rfl) ?_
  intro p e s m args below meth c A ls Q S hnm ret C hl
  have hx := S.1
  have hb := S.2.1
  have hown := S.2.2.2.1
  have hts := S.2.2.2.2
  generalize s.heap = H at C ⊢
  generalize ([] : List Loc) = locs at C ⊢
  replace hl : lv_has ls 3 [(0, .ref (h0)), (1, .int (nI k0))] := hl
  refine lv_aload_n hx hb dM_absorb_0 rfl (lv_at hl 0 rfl) ?_
  refine lv_iload_n hx hb dM_absorb_1 rfl (lv_at hl 1 rfl) ?_
  refine n_callP C (fun hp => va_runS (rest := [.ref (h0)]) S (c_M_isSponge l D ca s0 a0 Z (nI k0) _) (cwS 1 hts (gS g_438 g_439 g_34 g_440) rfl rfl rfl (by decide +kernel) ⟨Nat.le_of_ble_eq_true rfl, Nat.le_of_ble_eq_true rfl⟩) hp rfl rfl hl.1 rfl (lv_room (Nat.le_of_ble_eq_true rfl)) dM_absorb_2 ⟨Nat.le_of_ble_eq_true rfl, Nat.le_of_ble_eq_true rfl⟩) (fun r u H locs hp C => ?_)
  subst hp
  refine lv_topi (nm_r (e' := nI 1) (isSp_ok hk0) ?_)
  refine n_if_ne (tgt := 12) S (by omega) dM_absorb_5 (by decide) (fun hc => ?_) (fun hc => False.elim (by omega))
  refine lv_iconst (v := nI 0) hx hb dM_absorb_12 (by decide) ?_
  refine n_put S C hin_M tyM tyM_ok nmM 0 rfl rfl 0 (by decide) g_402 rfl rfl rfl rfl (Nat.le_of_ble_eq_true rfl) dM_absorb_13 (fun H locs C => ?_)
  replace C : Cx D ca s0 A s [(h0, .inr (3, mF q (nI 0) (nI n))), (q 3, .inl (ca 1, 9600, .inl (F 3))), (q 4, .inl (ca 0, 6, .inl (F 4))), (q 5, .inl (ca 0, 6, .inl (F 5))), (q 6, .inl (ca 0, 6, .inl (F 6))), (q 7, .inl (ca 1, 6, .inl (F 7))), (q 8, .inl (ca 0, 6, .inl (F 8))), (q 9, .inl (ca 0, 6, .inl (F 9))), (q 10, .inl (ca 1, 1600, .inl (F 10))), (q 11, .inl (ca 1, 1600, .inl (F 11))), (q 0, .inl (ca 0, 300, .inl (f)))] H locs := C
  refine lv_aload_n hx hb dM_absorb_16 rfl (lv_at hl 0 rfl) ?_
  refine n_get S C hin_M 0 rfl rfl 0 (by decide) g_402 rfl dM_absorb_17 ?_
  refine n_if_le (tgt := 25) S (by omega) dM_absorb_20 (by decide) (fun hc => ?_) (fun hc => False.elim (by omega))
  refine lv_aload_n hx hb dM_absorb_25 rfl (lv_at hl 0 rfl) ?_
  refine lv_aload_n hx hb dM_absorb_26 rfl (lv_at hl 0 rfl) ?_
  refine n_get S C hin_M 0 rfl rfl 9 (by decide) g_411 rfl dM_absorb_27 ?_
  refine lv_iload_n hx hb dM_absorb_30 rfl (lv_at hl 1 rfl) ?_
  refine n_zald S C 5 rfl (i := k0) (by omega) (by decide) dM_absorb_31 ?_
  refine lv_topi (nm_r (e' := nI 0) hS.2.2.2.2.1 ?_)
  refine n_if_eq (tgt := 39) S (by omega) dM_absorb_32 (by decide) (fun hc => ?_) (fun hc => False.elim (by omega))
  refine lv_iconst (v := nI 0) hx hb dM_absorb_39 (by decide) ?_
  refine n_put S C hin_M tyM tyM_ok nmM 0 rfl rfl 0 (by decide) g_402 rfl rfl rfl rfl (Nat.le_of_ble_eq_true rfl) dM_absorb_40 (fun H locs C => ?_)
  replace C : Cx D ca s0 A s [(h0, .inr (3, mF q (nI 0) (nI n))), (q 3, .inl (ca 1, 9600, .inl (F 3))), (q 4, .inl (ca 0, 6, .inl (F 4))), (q 5, .inl (ca 0, 6, .inl (F 5))), (q 6, .inl (ca 0, 6, .inl (F 6))), (q 7, .inl (ca 1, 6, .inl (F 7))), (q 8, .inl (ca 0, 6, .inl (F 8))), (q 9, .inl (ca 0, 6, .inl (F 9))), (q 10, .inl (ca 1, 1600, .inl (F 10))), (q 11, .inl (ca 1, 1600, .inl (F 11))), (q 0, .inl (ca 0, 300, .inl (f)))] H locs := C
  refine lv_aload_n hx hb dM_absorb_43 rfl (lv_at hl 0 rfl) ?_
  refine n_get S C hin_M 0 rfl rfl 0 (by decide) g_402 rfl dM_absorb_44 ?_
  refine n_if_le (tgt := 52) S (by omega) dM_absorb_47 (by decide) (fun hc => ?_) (fun hc => False.elim (by omega))
  replace hk0 : k0 < 6 := by omega
  have hwi := wid_in k hk
  refine lv_aload_n hx hb dM_absorb_52 rfl (lv_at hl 0 rfl) ?_
  refine n_get S C hin_M 0 rfl rfl 6 (by decide) g_408 rfl dM_absorb_53 ?_
  refine lv_iload_n hx hb dM_absorb_56 rfl (lv_at hl 1 rfl) ?_
  refine n_iald S C 2 rfl (i := k0) (by omega) (by decide) dM_absorb_57 ?_
  refine lv_topi (nm_r (e' := nI k) hS.2.1 ?_)
  refine lv_bipush (v := nI 11) hx hb dM_absorb_58 (by decide) ?_
  refine n_icmp_le (tgt := 75) S (by omega) (by omega) dM_absorb_60 (by decide) (fun hc60 => ?_) (fun hc60 => ?_)
  · skip
    have hlt : (c0).2 < wid k := hp0
    refine lv_iconst (v := nI 0) hx hb dM_absorb_75 (by decide) ?_
    refine lv_istore_n hx hb dM_absorb_76 rfl hl (Nat.le_of_ble_eq_true rfl) rfl (fun ls hl => ?_)
    replace hl : lv_has ls 3 [(2, .int (nI 0)), (0, .ref (h0)), (1, .int (nI k0))] := hl
    have lp77 : ∀ (nf : Nat) (i : Nat) (b1 : Nat → Int32) (p1 : Nat → Int32) (n1 : Nat → Int32) (x1 : Nat → Int32) (H : Heap) (locs : List Loc) (ls : Array Slot), n - i < nf → i ≤ n → mR (F 3) (F 5) k0 (takeR (wid k) (c0) T i) b1 p1 → Cx D ca s0 A s [(h0, .inr (3, mF q (nI 0) (nI n))), (q 3, .inl (ca 1, 9600, .inl (b1))), (q 4, .inl (ca 0, 6, .inl (F 4))), (q 5, .inl (ca 0, 6, .inl (p1))), (q 6, .inl (ca 0, 6, .inl (F 6))), (q 7, .inl (ca 1, 6, .inl (F 7))), (q 8, .inl (ca 0, 6, .inl (F 8))), (q 9, .inl (ca 0, 6, .inl (F 9))), (q 10, .inl (ca 1, 1600, .inl (n1))), (q 11, .inl (ca 1, 1600, .inl (x1))), (q 0, .inl (ca 0, 300, .inl (f)))] H locs → lv_has ls 3 [(2, .int (nI i)), (0, .ref (h0)), (1, .int (nI k0))] → W p l e rm_M_absorb_ok s m args below meth c H locs 0 0 Q (F0 m 77 ls []) := by
      intro nf
      induction nf with
      | zero => intro i b1 p1 n1 x1 H locs ls hn; exact absurd hn (Nat.not_lt_zero _)
      | succ nf ih_lp77 =>
        intro i b1 p1 n1 x1 H locs ls hn lp77_le hI C hl
        refine lv_iload_n hx hb dM_absorb_77 rfl (lv_at hl 0 rfl) ?_
        refine lv_aload_n hx hb dM_absorb_78 rfl (lv_at hl 1 rfl) ?_
        refine n_get S C hin_M 0 rfl rfl 1 (by decide) g_403 rfl dM_absorb_79 ?_
        refine n_icmp_ge (tgt := 102) S (by omega) (by omega) dM_absorb_82 (by decide) (fun hc82 => ?_) (fun hc82 => ?_)
        · skip
          rw [show i = n by omega] at hI
          rw [← show tapC (wid k) k c0 T n = takeR (wid k) (c0) T n from if_neg (by omega)] at hI
          refine lv_aload_n hx hb dM_absorb_102 rfl (lv_at hl 1 rfl) ?_
          refine n_get S C hin_M 0 rfl rfl 10 (by decide) g_412 rfl dM_absorb_103 ?_
          refine lv_iload_n hx hb dM_absorb_106 rfl (lv_at hl 2 rfl) ?_
          refine lv_aload_n hx hb dM_absorb_107 rfl (lv_at hl 1 rfl) ?_
          refine n_get S C hin_M 0 rfl rfl 10 (by decide) g_412 rfl dM_absorb_108 ?_
          refine lv_iload_n hx hb dM_absorb_111 rfl (lv_at hl 2 rfl) ?_
          refine n_iald S C 6 rfl (i := k0) (by omega) (by decide) dM_absorb_112 ?_
          refine lv_topi (nm_r (e' := tk) hS.2.2.2.1 ?_)
          refine lv_aload_n hx hb dM_absorb_113 rfl (lv_at hl 1 rfl) ?_
          refine n_get S C hin_M 0 rfl rfl 1 (by decide) g_403 rfl dM_absorb_114 ?_
          refine lv_iadd hx hb dM_absorb_117 ?_
          refine n_iast S C 6 rfl (i := k0) (by omega) (by decide) dM_absorb_118 (fun H locs C => ?_)
          replace C : Cx D ca s0 A s [(h0, .inr (3, mF q (nI 0) (nI n))), (q 3, .inl (ca 1, 9600, .inl (b1))), (q 4, .inl (ca 0, 6, .inl (F 4))), (q 5, .inl (ca 0, 6, .inl (p1))), (q 6, .inl (ca 0, 6, .inl (F 6))), (q 7, .inl (ca 1, 6, .inl (F 7))), (q 8, .inl (ca 0, 6, .inl (upd (F 8) k0 (tk + (nI n))))), (q 9, .inl (ca 0, 6, .inl (F 9))), (q 10, .inl (ca 1, 1600, .inl (n1))), (q 11, .inl (ca 1, 1600, .inl (x1))), (q 0, .inl (ca 0, 300, .inl (f)))] H locs := C
          refine lv_aload_n hx hb dM_absorb_119 rfl (lv_at hl 1 rfl) ?_
          refine n_get S C hin_M 0 rfl rfl 10 (by decide) g_412 rfl dM_absorb_120 ?_
          refine lv_iload_n hx hb dM_absorb_123 rfl (lv_at hl 2 rfl) ?_
          refine n_iald S C 6 rfl (i := k0) (by omega) (by decide) dM_absorb_124 ?_
          refine lv_topi (nm_r (e' := tk + nI n) pk_us ?_)
          exact ret (tk + nI n) ((mkF b1 (F 4) p1 (F 6) (F 7) (upd (F 8) k0 (tk + nI n)) (F 9) n1 x1)) _ _ _ _ _ _ (Nat.le_refl _) (Nat.le_refl _) (⟨rfl, hI, one.rf hS.2.1, one.rf hS.2.2.1, one.up, one.rf hS.2.2.2.2.1, one.rf hS.2.2.2.2.2⟩) C dM_absorb_125
        · skip
          refine lv_aload_n hx hb dM_absorb_85 rfl (lv_at hl 1 rfl) ?_
          refine lv_iload_n hx hb dM_absorb_86 rfl (lv_at hl 2 rfl) ?_
          refine lv_aload_n hx hb dM_absorb_87 rfl (lv_at hl 1 rfl) ?_
          refine n_get S C hin_M 0 rfl rfl 2 (by decide) g_404 rfl dM_absorb_88 ?_
          refine lv_iload_n hx hb dM_absorb_91 rfl (lv_at hl 0 rfl) ?_
          refine n_iald S C 10 rfl (i := i) (by omega) (by decide) dM_absorb_92 ?_
          refine lv_topi (nm_r (e' := nI (T i)) (hT i (by omega)).2 ?_)
          refine n_callV (wc := [(h0, .inr (3, mF q (nI 0) (nI n))), (q 3, .inl (ca 1, 9600, .inl (b1))), (q 4, .inl (ca 0, 6, .inl (F 4))), (q 5, .inl (ca 0, 6, .inl (p1))), (q 10, .inl (ca 1, 1600, .inl (n1))), (q 11, .inl (ca 1, 1600, .inl (x1)))]) (wr := [(q 6, .inl (ca 0, 6, .inl (F 6))), (q 7, .inl (ca 1, 6, .inl (F 7))), (q 8, .inl (ca 0, 6, .inl (F 8))), (q 9, .inl (ca 0, 6, .inl (F 9))), (q 0, .inl (ca 0, 300, .inl (f)))]) C [0, 1, 2, 3, 8, 9] [4, 5, 6, 7, 10] rfl rfl rfl rfl (by decide) (fun hp => va_runV (rest := []) S (c_M_comeIn l D ca s0 a0 Z h0 q (nI 0) (nI n) k0 k hk0 hk b1 (F 4) p1 n1 x1 hS.2.1 (takeR (wid k) (c0) T i) hI.1 (takeR_lt _ hlt i) (T i) (hT i (by omega)).1 _) (cwV 2 hts (gV g_354 g_355 g_13 g_34 g_356) rfl rfl rfl (by decide +kernel) ⟨Nat.le_of_ble_eq_true rfl, Nat.le_of_ble_eq_true rfl⟩) ⟨hp.1, n_recv C 0 3 rfl rfl, hp.2⟩ rfl rfl hl.1 rfl (lv_room (Nat.le_of_ble_eq_true rfl)) dM_absorb_93 ⟨Nat.le_of_ble_eq_true rfl, Nat.le_of_ble_eq_true rfl⟩) (fun u H locs hp C => ?_)
          replace C : Cx D ca s0 A s [(h0, .inr (3, mF q (nI 0) (nI n))), (q 3, .inl (ca 1, 9600, .inl (u.1))), (q 4, .inl (ca 0, 6, .inl ((F 4)))), (q 5, .inl (ca 0, 6, .inl (u.2.1))), (q 6, .inl (ca 0, 6, .inl (F 6))), (q 7, .inl (ca 1, 6, .inl (F 7))), (q 8, .inl (ca 0, 6, .inl (F 8))), (q 9, .inl (ca 0, 6, .inl (F 9))), (q 10, .inl (ca 1, 1600, .inl (u.2.2.1))), (q 11, .inl (ca 1, 1600, .inl (u.2.2.2))), (q 0, .inl (ca 0, 300, .inl (f)))] H locs := C.re [5, 6, 7, 8, 0, 1, 2, 3, 9, 10, 4] rfl rfl
          obtain ⟨b33, p33, n33, x33⟩ := u
          have h33 := hI.tr hp
          replace C : Cx D ca s0 A s [(h0, .inr (3, mF q (nI 0) (nI n))), (q 3, .inl (ca 1, 9600, .inl (b33))), (q 4, .inl (ca 0, 6, .inl ((F 4)))), (q 5, .inl (ca 0, 6, .inl (p33))), (q 6, .inl (ca 0, 6, .inl (F 6))), (q 7, .inl (ca 1, 6, .inl (F 7))), (q 8, .inl (ca 0, 6, .inl (F 8))), (q 9, .inl (ca 0, 6, .inl (F 9))), (q 10, .inl (ca 1, 1600, .inl (n33))), (q 11, .inl (ca 1, 1600, .inl (x33))), (q 0, .inl (ca 0, 300, .inl (f)))] H locs := C
          refine lv_iinc (k := 0) (v := nI (i + 1)) hx hb dM_absorb_96 hl rfl (n_inc1 _) (Nat.le_of_ble_eq_true rfl) rfl (fun ls hl => ?_)
          replace hl : lv_has ls 3 [(2, .int (nI (i + 1))), (0, .ref (h0)), (1, .int (nI k0))] := hl
          refine lv_goto (tgt := 77) hx hb dM_absorb_99 (by decide) ?_
          exact ih_lp77 (i + 1) _ _ _ _ _ _ _ (by omega) (by omega) h33 C (lv_sub hl [0, 1, 2] rfl)
    exact lp77 (n + 1) 0 _ _ _ _ _ _ _ (by omega) (by omega) (mR.rf hS.1) C (lv_sub hl [0, 1, 2] rfl)
  · skip
    refine lv_aload_n hx hb dM_absorb_63 rfl (lv_at hl 0 rfl) ?_
    refine lv_iload_n hx hb dM_absorb_64 rfl (lv_at hl 1 rfl) ?_
    refine lv_bipush (v := nI 8) hx hb dM_absorb_65 (by decide) ?_
    refine lv_aload_n hx hb dM_absorb_67 rfl (lv_at hl 0 rfl) ?_
    refine n_get S C hin_M 0 rfl rfl 1 (by decide) g_403 rfl dM_absorb_68 ?_
    refine n_mul S dM_absorb_71 ?_
    refine n_callV (wc := [(h0, .inr (3, mF q (nI 0) (nI n))), (q 3, .inl (ca 1, 9600, .inl (F 3))), (q 4, .inl (ca 0, 6, .inl (F 4))), (q 5, .inl (ca 0, 6, .inl (F 5))), (q 10, .inl (ca 1, 1600, .inl (F 10))), (q 11, .inl (ca 1, 1600, .inl (F 11)))]) (wr := [(q 6, .inl (ca 0, 6, .inl (F 6))), (q 7, .inl (ca 1, 6, .inl (F 7))), (q 8, .inl (ca 0, 6, .inl (F 8))), (q 9, .inl (ca 0, 6, .inl (F 9))), (q 0, .inl (ca 0, 300, .inl (f)))]) C [0, 1, 2, 3, 8, 9] [4, 5, 6, 7, 10] rfl rfl rfl rfl (by decide) (fun hp => va_runV (rest := []) S (c_M_leftOf l D ca s0 a0 Z h0 q (nI 0) (nI n) k0 k hk0 hk (F 3) (F 4) (F 5) (F 10) (F 11) hS.2.1 (c0) (mR.rf hS.1).1 hp0 (8 * n) (by omega) _) (cwV 2 hts (gV g_348 g_349 g_12 g_34 g_350) rfl rfl rfl (by decide +kernel) ⟨Nat.le_of_ble_eq_true rfl, Nat.le_of_ble_eq_true rfl⟩) ⟨hp.1, n_recv C 0 3 rfl rfl, hp.2⟩ rfl rfl hl.1 rfl (lv_room (Nat.le_of_ble_eq_true rfl)) dM_absorb_72 ⟨Nat.le_of_ble_eq_true rfl, Nat.le_of_ble_eq_true rfl⟩) (fun u H locs hp C => ?_)
    replace C : Cx D ca s0 A s [(h0, .inr (3, mF q (nI 0) (nI n))), (q 3, .inl (ca 1, 9600, .inl (u.1))), (q 4, .inl (ca 0, 6, .inl ((F 4)))), (q 5, .inl (ca 0, 6, .inl (u.2.1))), (q 6, .inl (ca 0, 6, .inl (F 6))), (q 7, .inl (ca 1, 6, .inl (F 7))), (q 8, .inl (ca 0, 6, .inl (F 8))), (q 9, .inl (ca 0, 6, .inl (F 9))), (q 10, .inl (ca 1, 1600, .inl (u.2.2.1))), (q 11, .inl (ca 1, 1600, .inl (u.2.2.2))), (q 0, .inl (ca 0, 300, .inl (f)))] H locs := C.re [5, 6, 7, 8, 0, 1, 2, 3, 9, 10, 4] rfl rfl
    obtain ⟨b34, p34, n34, x34⟩ := u
    have h34 := (mR.rf hS.1).tr hp
    replace C : Cx D ca s0 A s [(h0, .inr (3, mF q (nI 0) (nI n))), (q 3, .inl (ca 1, 9600, .inl (b34))), (q 4, .inl (ca 0, 6, .inl ((F 4)))), (q 5, .inl (ca 0, 6, .inl (p34))), (q 6, .inl (ca 0, 6, .inl (F 6))), (q 7, .inl (ca 1, 6, .inl (F 7))), (q 8, .inl (ca 0, 6, .inl (F 8))), (q 9, .inl (ca 0, 6, .inl (F 9))), (q 10, .inl (ca 1, 1600, .inl (n34))), (q 11, .inl (ca 1, 1600, .inl (x34))), (q 0, .inl (ca 0, 300, .inl (f)))] H locs := C
    have hlt : (takeL (wid k) c0 (8 * n)).2 < wid k := (takeL_lt _ hp0)
    refine lv_iconst (v := nI 0) hx hb dM_absorb_75 (by decide) ?_
    refine lv_istore_n hx hb dM_absorb_76 rfl hl (Nat.le_of_ble_eq_true rfl) rfl (fun ls hl => ?_)
    replace hl : lv_has ls 3 [(2, .int (nI 0)), (0, .ref (h0)), (1, .int (nI k0))] := hl
    have lp77 : ∀ (nf : Nat) (i : Nat) (b1 : Nat → Int32) (p1 : Nat → Int32) (n1 : Nat → Int32) (x1 : Nat → Int32) (H : Heap) (locs : List Loc) (ls : Array Slot), n - i < nf → i ≤ n → mR (F 3) (F 5) k0 (takeR (wid k) (takeL (wid k) c0 (8 * n)) T i) b1 p1 → Cx D ca s0 A s [(h0, .inr (3, mF q (nI 0) (nI n))), (q 3, .inl (ca 1, 9600, .inl (b1))), (q 4, .inl (ca 0, 6, .inl ((F 4)))), (q 5, .inl (ca 0, 6, .inl (p1))), (q 6, .inl (ca 0, 6, .inl (F 6))), (q 7, .inl (ca 1, 6, .inl (F 7))), (q 8, .inl (ca 0, 6, .inl (F 8))), (q 9, .inl (ca 0, 6, .inl (F 9))), (q 10, .inl (ca 1, 1600, .inl (n1))), (q 11, .inl (ca 1, 1600, .inl (x1))), (q 0, .inl (ca 0, 300, .inl (f)))] H locs → lv_has ls 3 [(2, .int (nI i)), (0, .ref (h0)), (1, .int (nI k0))] → W p l e rm_M_absorb_ok s m args below meth c H locs 0 0 Q (F0 m 77 ls []) := by
      intro nf
      induction nf with
      | zero => intro i b1 p1 n1 x1 H locs ls hn; exact absurd hn (Nat.not_lt_zero _)
      | succ nf ih_lp77 =>
        intro i b1 p1 n1 x1 H locs ls hn lp77_le hI C hl
        refine lv_iload_n hx hb dM_absorb_77 rfl (lv_at hl 0 rfl) ?_
        refine lv_aload_n hx hb dM_absorb_78 rfl (lv_at hl 1 rfl) ?_
        refine n_get S C hin_M 0 rfl rfl 1 (by decide) g_403 rfl dM_absorb_79 ?_
        refine n_icmp_ge (tgt := 102) S (by omega) (by omega) dM_absorb_82 (by decide) (fun hc82 => ?_) (fun hc82 => ?_)
        · skip
          rw [show i = n by omega] at hI
          rw [← show tapC (wid k) k c0 T n = takeR (wid k) (takeL (wid k) c0 (8 * n)) T n from if_pos (by omega)] at hI
          refine lv_aload_n hx hb dM_absorb_102 rfl (lv_at hl 1 rfl) ?_
          refine n_get S C hin_M 0 rfl rfl 10 (by decide) g_412 rfl dM_absorb_103 ?_
          refine lv_iload_n hx hb dM_absorb_106 rfl (lv_at hl 2 rfl) ?_
          refine lv_aload_n hx hb dM_absorb_107 rfl (lv_at hl 1 rfl) ?_
          refine n_get S C hin_M 0 rfl rfl 10 (by decide) g_412 rfl dM_absorb_108 ?_
          refine lv_iload_n hx hb dM_absorb_111 rfl (lv_at hl 2 rfl) ?_
          refine n_iald S C 6 rfl (i := k0) (by omega) (by decide) dM_absorb_112 ?_
          refine lv_topi (nm_r (e' := tk) hS.2.2.2.1 ?_)
          refine lv_aload_n hx hb dM_absorb_113 rfl (lv_at hl 1 rfl) ?_
          refine n_get S C hin_M 0 rfl rfl 1 (by decide) g_403 rfl dM_absorb_114 ?_
          refine lv_iadd hx hb dM_absorb_117 ?_
          refine n_iast S C 6 rfl (i := k0) (by omega) (by decide) dM_absorb_118 (fun H locs C => ?_)
          replace C : Cx D ca s0 A s [(h0, .inr (3, mF q (nI 0) (nI n))), (q 3, .inl (ca 1, 9600, .inl (b1))), (q 4, .inl (ca 0, 6, .inl ((F 4)))), (q 5, .inl (ca 0, 6, .inl (p1))), (q 6, .inl (ca 0, 6, .inl (F 6))), (q 7, .inl (ca 1, 6, .inl (F 7))), (q 8, .inl (ca 0, 6, .inl (upd (F 8) k0 (tk + (nI n))))), (q 9, .inl (ca 0, 6, .inl (F 9))), (q 10, .inl (ca 1, 1600, .inl (n1))), (q 11, .inl (ca 1, 1600, .inl (x1))), (q 0, .inl (ca 0, 300, .inl (f)))] H locs := C
          refine lv_aload_n hx hb dM_absorb_119 rfl (lv_at hl 1 rfl) ?_
          refine n_get S C hin_M 0 rfl rfl 10 (by decide) g_412 rfl dM_absorb_120 ?_
          refine lv_iload_n hx hb dM_absorb_123 rfl (lv_at hl 2 rfl) ?_
          refine n_iald S C 6 rfl (i := k0) (by omega) (by decide) dM_absorb_124 ?_
          refine lv_topi (nm_r (e' := tk + nI n) pk_us ?_)
          exact ret (tk + nI n) ((mkF b1 (F 4) p1 (F 6) (F 7) (upd (F 8) k0 (tk + nI n)) (F 9) n1 x1)) _ _ _ _ _ _ (Nat.le_refl _) (Nat.le_refl _) (⟨rfl, hI, one.rf hS.2.1, one.rf hS.2.2.1, one.up, one.rf hS.2.2.2.2.1, one.rf hS.2.2.2.2.2⟩) C dM_absorb_125
        · skip
          refine lv_aload_n hx hb dM_absorb_85 rfl (lv_at hl 1 rfl) ?_
          refine lv_iload_n hx hb dM_absorb_86 rfl (lv_at hl 2 rfl) ?_
          refine lv_aload_n hx hb dM_absorb_87 rfl (lv_at hl 1 rfl) ?_
          refine n_get S C hin_M 0 rfl rfl 2 (by decide) g_404 rfl dM_absorb_88 ?_
          refine lv_iload_n hx hb dM_absorb_91 rfl (lv_at hl 0 rfl) ?_
          refine n_iald S C 10 rfl (i := i) (by omega) (by decide) dM_absorb_92 ?_
          refine lv_topi (nm_r (e' := nI (T i)) (hT i (by omega)).2 ?_)
          refine n_callV (wc := [(h0, .inr (3, mF q (nI 0) (nI n))), (q 3, .inl (ca 1, 9600, .inl (b1))), (q 4, .inl (ca 0, 6, .inl ((F 4)))), (q 5, .inl (ca 0, 6, .inl (p1))), (q 10, .inl (ca 1, 1600, .inl (n1))), (q 11, .inl (ca 1, 1600, .inl (x1)))]) (wr := [(q 6, .inl (ca 0, 6, .inl (F 6))), (q 7, .inl (ca 1, 6, .inl (F 7))), (q 8, .inl (ca 0, 6, .inl (F 8))), (q 9, .inl (ca 0, 6, .inl (F 9))), (q 0, .inl (ca 0, 300, .inl (f)))]) C [0, 1, 2, 3, 8, 9] [4, 5, 6, 7, 10] rfl rfl rfl rfl (by decide) (fun hp => va_runV (rest := []) S (c_M_comeIn l D ca s0 a0 Z h0 q (nI 0) (nI n) k0 k hk0 hk b1 (F 4) p1 n1 x1 hS.2.1 (takeR (wid k) (takeL (wid k) c0 (8 * n)) T i) hI.1 (takeR_lt _ hlt i) (T i) (hT i (by omega)).1 _) (cwV 2 hts (gV g_354 g_355 g_13 g_34 g_356) rfl rfl rfl (by decide +kernel) ⟨Nat.le_of_ble_eq_true rfl, Nat.le_of_ble_eq_true rfl⟩) ⟨hp.1, n_recv C 0 3 rfl rfl, hp.2⟩ rfl rfl hl.1 rfl (lv_room (Nat.le_of_ble_eq_true rfl)) dM_absorb_93 ⟨Nat.le_of_ble_eq_true rfl, Nat.le_of_ble_eq_true rfl⟩) (fun u H locs hp C => ?_)
          replace C : Cx D ca s0 A s [(h0, .inr (3, mF q (nI 0) (nI n))), (q 3, .inl (ca 1, 9600, .inl (u.1))), (q 4, .inl (ca 0, 6, .inl ((F 4)))), (q 5, .inl (ca 0, 6, .inl (u.2.1))), (q 6, .inl (ca 0, 6, .inl (F 6))), (q 7, .inl (ca 1, 6, .inl (F 7))), (q 8, .inl (ca 0, 6, .inl (F 8))), (q 9, .inl (ca 0, 6, .inl (F 9))), (q 10, .inl (ca 1, 1600, .inl (u.2.2.1))), (q 11, .inl (ca 1, 1600, .inl (u.2.2.2))), (q 0, .inl (ca 0, 300, .inl (f)))] H locs := C.re [5, 6, 7, 8, 0, 1, 2, 3, 9, 10, 4] rfl rfl
          obtain ⟨b35, p35, n35, x35⟩ := u
          have h35 := hI.tr hp
          replace C : Cx D ca s0 A s [(h0, .inr (3, mF q (nI 0) (nI n))), (q 3, .inl (ca 1, 9600, .inl (b35))), (q 4, .inl (ca 0, 6, .inl ((F 4)))), (q 5, .inl (ca 0, 6, .inl (p35))), (q 6, .inl (ca 0, 6, .inl (F 6))), (q 7, .inl (ca 1, 6, .inl (F 7))), (q 8, .inl (ca 0, 6, .inl (F 8))), (q 9, .inl (ca 0, 6, .inl (F 9))), (q 10, .inl (ca 1, 1600, .inl (n35))), (q 11, .inl (ca 1, 1600, .inl (x35))), (q 0, .inl (ca 0, 300, .inl (f)))] H locs := C
          refine lv_iinc (k := 0) (v := nI (i + 1)) hx hb dM_absorb_96 hl rfl (n_inc1 _) (Nat.le_of_ble_eq_true rfl) rfl (fun ls hl => ?_)
          replace hl : lv_has ls 3 [(2, .int (nI (i + 1))), (0, .ref (h0)), (1, .int (nI k0))] := hl
          refine lv_goto (tgt := 77) hx hb dM_absorb_99 (by decide) ?_
          exact ih_lp77 (i + 1) _ _ _ _ _ _ _ (by omega) (by omega) h35 C (lv_sub hl [0, 1, 2] rfl)
    exact lp77 (n + 1) 0 _ _ _ _ _ _ _ (by omega) (by omega) h34 C (lv_sub hl [0, 1, 2] rfl)
abbrev rm_M_bytes_no1 : Room := { frames := 1, cells := 0, slots := 0, locals := 20 }
set_option maxHeartbeats 4000000 in
set_option maxRecDepth 100000 in
theorem c_M_bytes_no1 (l : Launch) (D : va_G) (ca : Nat → ClassId) (s0 : State) (a0 : Array Value) (Z : Wd a0 s0) (h0 : Nat) (q : Nat → Nat) (th tz : Int32) (k : Int32) (hno : ¬ (¬ k < 0 ∧ k < 4)) (y : Int32) (x : Int64) : CtI l yM_bytes [.code yM_bytes cM_bytes 6 (some .int)] rm_M_bytes_no1 0 0 D ca s0 [.ref (h0), .int (k), .int (y), .long (x)] [(h0, .inr (3, mF q (th) (tz)))] (S := Unit) (fun _ _ => True) (fun _ => [(h0, .inr (3, mF q (nI 1) (tz)))]) := by
  refine ctI_of (cc := cM_bytes) (maxL := 6) (own := RM) Z rfl (by decide) rfl (Nat.le_of_ble_eq_true rfl) ?_
  intro p e s m args below meth c A ls Q S hnm ret C hl
  have hx := S.1
  have hb := S.2.1
  have hown := S.2.2.2.1
  have hts := S.2.2.2.2
  generalize s.heap = H at C ⊢
  generalize ([] : List Loc) = locs at C ⊢
  replace hl : lv_has ls 6 [(0, .ref (h0)), (1, .int (k)), (2, .int (y)), (3, .long (x))] := hl
  refine lv_aload_n hx hb dM_bytes_0 rfl (lv_at hl 0 rfl) ?_
  refine lv_iload_n hx hb dM_bytes_1 rfl (lv_at hl 1 rfl) ?_
  refine n_callP C (fun hp => va_runS (rest := [.ref (h0)]) S (c_M_isSponge l D ca s0 a0 Z (k) _) (cwS 1 hts (gS g_438 g_439 g_34 g_440) rfl rfl rfl (by decide +kernel) ⟨Nat.le_of_ble_eq_true rfl, Nat.le_of_ble_eq_true rfl⟩) hp rfl rfl hl.1 rfl (lv_room (Nat.le_of_ble_eq_true rfl)) dM_bytes_2 ⟨Nat.le_of_ble_eq_true rfl, Nat.le_of_ble_eq_true rfl⟩) (fun r u H locs hp C => ?_)
  subst hp
  refine lv_topi (nm_r (e' := nI 0) (isSp_no hno) ?_)
  refine n_if_ne (tgt := 12) S (by omega) dM_bytes_5 (by decide) (fun hc => False.elim (by omega)) (fun hc => ?_)
  refine lv_iconst (v := nI 1) hx hb dM_bytes_8 (by decide) ?_
  refine lv_goto (tgt := 28) hx hb dM_bytes_9 (by decide) ?_
  refine n_put S C hin_M tyM tyM_ok nmM 0 rfl rfl 0 (by decide) g_402 rfl rfl rfl rfl (Nat.le_of_ble_eq_true rfl) dM_bytes_28 (fun H locs C => ?_)
  replace C : Cx D ca s0 A s [(h0, .inr (3, mF q (nI 1) (tz)))] H locs := C
  refine lv_aload_n hx hb dM_bytes_31 rfl (lv_at hl 0 rfl) ?_
  refine n_get S C hin_M 0 rfl rfl 0 (by decide) g_402 rfl dM_bytes_32 ?_
  refine n_if_le (tgt := 40) S (by omega) dM_bytes_35 (by decide) (fun hc => False.elim (by omega)) (fun hc => ?_)
  refine lv_iconst (v := nI 0) hx hb dM_bytes_38 (by decide) ?_
  exact ret (nI 0) (()) _ _ _ _ _ _ (Nat.le_refl _) (Nat.le_refl _) trivial C dM_bytes_39
abbrev rm_M_bytes_no2 : Room := { frames := 1, cells := 0, slots := 0, locals := 20 }
set_option maxHeartbeats 4000000 in
set_option maxRecDepth 100000 in
theorem c_M_bytes_no2 (l : Launch) (D : va_G) (ca : Nat → ClassId) (s0 : State) (a0 : Array Value) (Z : Wd a0 s0) (h0 : Nat) (q : Nat → Nat) (th tz : Int32) (k0 : Nat) (hk0 : k0 < 4) (y : Int32) (hr : y < nI 1 ∨ nI 8 < y) (x : Int64) : CtI l yM_bytes [.code yM_bytes cM_bytes 6 (some .int)] rm_M_bytes_no2 0 0 D ca s0 [.ref (h0), .int (nI k0), .int (y), .long (x)] [(h0, .inr (3, mF q (th) (tz)))] (S := Unit) (fun _ _ => True) (fun _ => [(h0, .inr (3, mF q (nI 2) (tz)))]) := by
  refine ctI_of (cc := cM_bytes) (maxL := 6) (own := RM) Z rfl (by decide) rfl (Nat.le_of_ble_eq_true rfl) ?_
  intro p e s m args below meth c A ls Q S hnm ret C hl
  have hx := S.1
  have hb := S.2.1
  have hown := S.2.2.2.1
  have hts := S.2.2.2.2
  generalize s.heap = H at C ⊢
  generalize ([] : List Loc) = locs at C ⊢
  replace hl : lv_has ls 6 [(0, .ref (h0)), (1, .int (nI k0)), (2, .int (y)), (3, .long (x))] := hl
  refine lv_aload_n hx hb dM_bytes_0 rfl (lv_at hl 0 rfl) ?_
  refine lv_iload_n hx hb dM_bytes_1 rfl (lv_at hl 1 rfl) ?_
  refine n_callP C (fun hp => va_runS (rest := [.ref (h0)]) S (c_M_isSponge l D ca s0 a0 Z (nI k0) _) (cwS 1 hts (gS g_438 g_439 g_34 g_440) rfl rfl rfl (by decide +kernel) ⟨Nat.le_of_ble_eq_true rfl, Nat.le_of_ble_eq_true rfl⟩) hp rfl rfl hl.1 rfl (lv_room (Nat.le_of_ble_eq_true rfl)) dM_bytes_2 ⟨Nat.le_of_ble_eq_true rfl, Nat.le_of_ble_eq_true rfl⟩) (fun r u H locs hp C => ?_)
  subst hp
  refine lv_topi (nm_r (e' := nI 1) (isSp_ok hk0) ?_)
  refine n_if_ne (tgt := 12) S (by omega) dM_bytes_5 (by decide) (fun hc => ?_) (fun hc => False.elim (by omega))
  refine lv_iload_n hx hb dM_bytes_12 rfl (lv_at hl 2 rfl) ?_
  refine lv_iconst (v := nI 1) hx hb dM_bytes_13 (by decide) ?_
  refine lv_icmp_lt (tgt := 23) hx hb dM_bytes_14 (by decide) (fun hc14 => ?_) (fun hc14 => ?_)
  · skip
    refine lv_iconst (v := nI 2) hx hb dM_bytes_23 (by decide) ?_
    refine lv_goto (tgt := 28) hx hb dM_bytes_24 (by decide) ?_
    refine n_put S C hin_M tyM tyM_ok nmM 0 rfl rfl 0 (by decide) g_402 rfl rfl rfl rfl (Nat.le_of_ble_eq_true rfl) dM_bytes_28 (fun H locs C => ?_)
    replace C : Cx D ca s0 A s [(h0, .inr (3, mF q (nI 2) (tz)))] H locs := C
    refine lv_aload_n hx hb dM_bytes_31 rfl (lv_at hl 0 rfl) ?_
    refine n_get S C hin_M 0 rfl rfl 0 (by decide) g_402 rfl dM_bytes_32 ?_
    refine n_if_le (tgt := 40) S (by omega) dM_bytes_35 (by decide) (fun hc => False.elim (by omega)) (fun hc => ?_)
    refine lv_iconst (v := nI 0) hx hb dM_bytes_38 (by decide) ?_
    exact ret (nI 0) (()) _ _ _ _ _ _ (Nat.le_refl _) (Nat.le_refl _) trivial C dM_bytes_39
  · skip
    refine lv_iload_n hx hb dM_bytes_17 rfl (lv_at hl 2 rfl) ?_
    refine lv_bipush (v := nI 8) hx hb dM_bytes_18 (by decide) ?_
    refine lv_icmp_le (tgt := 27) hx hb dM_bytes_20 (by decide) (fun hc => absurd hc (Int32.not_le.mpr (hr.resolve_left hc14))) (fun hc => ?_)
    refine lv_iconst (v := nI 2) hx hb dM_bytes_23 (by decide) ?_
    refine lv_goto (tgt := 28) hx hb dM_bytes_24 (by decide) ?_
    refine n_put S C hin_M tyM tyM_ok nmM 0 rfl rfl 0 (by decide) g_402 rfl rfl rfl rfl (Nat.le_of_ble_eq_true rfl) dM_bytes_28 (fun H locs C => ?_)
    replace C : Cx D ca s0 A s [(h0, .inr (3, mF q (nI 2) (tz)))] H locs := C
    refine lv_aload_n hx hb dM_bytes_31 rfl (lv_at hl 0 rfl) ?_
    refine n_get S C hin_M 0 rfl rfl 0 (by decide) g_402 rfl dM_bytes_32 ?_
    refine n_if_le (tgt := 40) S (by omega) dM_bytes_35 (by decide) (fun hc => False.elim (by omega)) (fun hc => ?_)
    refine lv_iconst (v := nI 0) hx hb dM_bytes_38 (by decide) ?_
    exact ret (nI 0) (()) _ _ _ _ _ _ (Nat.le_refl _) (Nat.le_refl _) trivial C dM_bytes_39
abbrev rm_M_bytes_no3 : Room := { frames := 1, cells := 0, slots := 0, locals := 20 }
set_option maxHeartbeats 4000000 in
set_option maxRecDepth 100000 in
theorem c_M_bytes_no3 (l : Launch) (D : va_G) (ca : Nat → ClassId) (s0 : State) (a0 : Array Value) (Z : Wd a0 s0) (h0 : Nat) (q : Nat → Nat) (th tz : Int32) (k0 : Nat) (hk0 : k0 < 4) (n : Nat) (hn1 : 1 ≤ n) (hn : n ≤ 8) (x : Int64) (F : MFn) (dn : Bool) (k : Nat) (hd : F 7 k0 = b2i dn) (hkd : F 4 k0 = nI k) (hk : k < 16) (hr : dn = true ∨ 11 < k) : CtI l yM_bytes [.code yM_bytes cM_bytes 6 (some .int)] rm_M_bytes_no3 0 0 D ca s0 [.ref (h0), .int (nI k0), .int (nI n), .long (x)] [(h0, .inr (3, mF q (th) (tz))), (q 7, .inl (ca 1, 6, .inl (F 7))), (q 4, .inl (ca 0, 6, .inl (F 4)))] (S := Unit) (fun _ _ => True) (fun _ => [(h0, .inr (3, mF q (nI 3) (tz))), (q 7, .inl (ca 1, 6, .inl (F 7))), (q 4, .inl (ca 0, 6, .inl (F 4)))]) := by
  refine ctI_of (cc := cM_bytes) (maxL := 6) (own := RM) Z rfl (by decide) rfl (Nat.le_of_ble_eq_true rfl) ?_
  intro p e s m args below meth c A ls Q S hnm ret C hl
  have hx := S.1
  have hb := S.2.1
  have hown := S.2.2.2.1
  have hts := S.2.2.2.2
  generalize s.heap = H at C ⊢
  generalize ([] : List Loc) = locs at C ⊢
  replace hl : lv_has ls 6 [(0, .ref (h0)), (1, .int (nI k0)), (2, .int (nI n)), (3, .long (x))] := hl
  refine lv_aload_n hx hb dM_bytes_0 rfl (lv_at hl 0 rfl) ?_
  refine lv_iload_n hx hb dM_bytes_1 rfl (lv_at hl 1 rfl) ?_
  refine n_callP C (fun hp => va_runS (rest := [.ref (h0)]) S (c_M_isSponge l D ca s0 a0 Z (nI k0) _) (cwS 1 hts (gS g_438 g_439 g_34 g_440) rfl rfl rfl (by decide +kernel) ⟨Nat.le_of_ble_eq_true rfl, Nat.le_of_ble_eq_true rfl⟩) hp rfl rfl hl.1 rfl (lv_room (Nat.le_of_ble_eq_true rfl)) dM_bytes_2 ⟨Nat.le_of_ble_eq_true rfl, Nat.le_of_ble_eq_true rfl⟩) (fun r u H locs hp C => ?_)
  subst hp
  refine lv_topi (nm_r (e' := nI 1) (isSp_ok hk0) ?_)
  refine n_if_ne (tgt := 12) S (by omega) dM_bytes_5 (by decide) (fun hc => ?_) (fun hc => False.elim (by omega))
  refine lv_iload_n hx hb dM_bytes_12 rfl (lv_at hl 2 rfl) ?_
  refine lv_iconst (v := nI 1) hx hb dM_bytes_13 (by decide) ?_
  refine n_icmp_lt (tgt := 23) S (by omega) (by omega) dM_bytes_14 (by decide) (fun hc => False.elim (by omega)) (fun hc => ?_)
  refine lv_iload_n hx hb dM_bytes_17 rfl (lv_at hl 2 rfl) ?_
  refine lv_bipush (v := nI 8) hx hb dM_bytes_18 (by decide) ?_
  refine n_icmp_le (tgt := 27) S (by omega) (by omega) dM_bytes_20 (by decide) (fun hc => ?_) (fun hc => False.elim (by omega))
  refine lv_iconst (v := nI 0) hx hb dM_bytes_27 (by decide) ?_
  refine n_put S C hin_M tyM tyM_ok nmM 0 rfl rfl 0 (by decide) g_402 rfl rfl rfl rfl (Nat.le_of_ble_eq_true rfl) dM_bytes_28 (fun H locs C => ?_)
  replace C : Cx D ca s0 A s [(h0, .inr (3, mF q (nI 0) (tz))), (q 7, .inl (ca 1, 6, .inl (F 7))), (q 4, .inl (ca 0, 6, .inl (F 4)))] H locs := C
  refine lv_aload_n hx hb dM_bytes_31 rfl (lv_at hl 0 rfl) ?_
  refine n_get S C hin_M 0 rfl rfl 0 (by decide) g_402 rfl dM_bytes_32 ?_
  refine n_if_le (tgt := 40) S (by omega) dM_bytes_35 (by decide) (fun hc => ?_) (fun hc => False.elim (by omega))
  refine lv_aload_n hx hb dM_bytes_40 rfl (lv_at hl 0 rfl) ?_
  refine lv_aload_n hx hb dM_bytes_41 rfl (lv_at hl 0 rfl) ?_
  refine n_get S C hin_M 0 rfl rfl 9 (by decide) g_411 rfl dM_bytes_42 ?_
  refine lv_iload_n hx hb dM_bytes_45 rfl (lv_at hl 1 rfl) ?_
  refine n_zald S C 1 rfl (i := k0) (by omega) (by decide) dM_bytes_46 ?_
  refine lv_topi (nm_r (e' := b2i dn) hd ?_)
  refine lv_if_ne (tgt := 61) hx hb dM_bytes_47 (by decide) (fun hc47 => ?_) (fun hc47 => ?_)
  · skip
    refine lv_iconst (v := nI 3) hx hb dM_bytes_61 (by decide) ?_
    refine lv_goto (tgt := 66) hx hb dM_bytes_62 (by decide) ?_
    refine n_put S C hin_M tyM tyM_ok nmM 0 rfl rfl 0 (by decide) g_402 rfl rfl rfl rfl (Nat.le_of_ble_eq_true rfl) dM_bytes_66 (fun H locs C => ?_)
    replace C : Cx D ca s0 A s [(h0, .inr (3, mF q (nI 3) (tz))), (q 7, .inl (ca 1, 6, .inl (F 7))), (q 4, .inl (ca 0, 6, .inl (F 4)))] H locs := C
    refine lv_aload_n hx hb dM_bytes_69 rfl (lv_at hl 0 rfl) ?_
    refine n_get S C hin_M 0 rfl rfl 0 (by decide) g_402 rfl dM_bytes_70 ?_
    refine n_if_le (tgt := 78) S (by omega) dM_bytes_73 (by decide) (fun hc => False.elim (by omega)) (fun hc => ?_)
    refine lv_iconst (v := nI 0) hx hb dM_bytes_76 (by decide) ?_
    exact ret (nI 0) (()) _ _ _ _ _ _ (Nat.le_refl _) (Nat.le_refl _) trivial C dM_bytes_77
  · skip
    refine lv_aload_n hx hb dM_bytes_50 rfl (lv_at hl 0 rfl) ?_
    refine n_get S C hin_M 0 rfl rfl 6 (by decide) g_408 rfl dM_bytes_51 ?_
    refine lv_iload_n hx hb dM_bytes_54 rfl (lv_at hl 1 rfl) ?_
    refine n_iald S C 2 rfl (i := k0) (by omega) (by decide) dM_bytes_55 ?_
    refine lv_topi (nm_r (e' := nI k) hkd ?_)
    refine lv_bipush (v := nI 11) hx hb dM_bytes_56 (by decide) ?_
    refine n_icmp_le (tgt := 65) S (by omega) (by omega) dM_bytes_58 (by decide) (fun hc => absurd hc47 (b2i_n0.mpr (hr.resolve_right (by omega)))) (fun hc => ?_)
    refine lv_iconst (v := nI 3) hx hb dM_bytes_61 (by decide) ?_
    refine lv_goto (tgt := 66) hx hb dM_bytes_62 (by decide) ?_
    refine n_put S C hin_M tyM tyM_ok nmM 0 rfl rfl 0 (by decide) g_402 rfl rfl rfl rfl (Nat.le_of_ble_eq_true rfl) dM_bytes_66 (fun H locs C => ?_)
    replace C : Cx D ca s0 A s [(h0, .inr (3, mF q (nI 3) (tz))), (q 7, .inl (ca 1, 6, .inl (F 7))), (q 4, .inl (ca 0, 6, .inl (F 4)))] H locs := C
    refine lv_aload_n hx hb dM_bytes_69 rfl (lv_at hl 0 rfl) ?_
    refine n_get S C hin_M 0 rfl rfl 0 (by decide) g_402 rfl dM_bytes_70 ?_
    refine n_if_le (tgt := 78) S (by omega) dM_bytes_73 (by decide) (fun hc => False.elim (by omega)) (fun hc => ?_)
    refine lv_iconst (v := nI 0) hx hb dM_bytes_76 (by decide) ?_
    exact ret (nI 0) (()) _ _ _ _ _ _ (Nat.le_refl _) (Nat.le_refl _) trivial C dM_bytes_77
abbrev rm_M_bytes_ok : Room := { frames := 5, cells := 0, slots := 0, locals := 116 }
set_option maxHeartbeats 4000000 in
set_option maxRecDepth 100000 in
theorem c_M_bytes_ok (l : Launch) (D : va_G) (ca : Nat → ClassId) (s0 : State) (a0 : Array Value) (Z : Wd a0 s0) (h0 : Nat) (q : Nat → Nat) (th tz : Int32) (F : MFn) (k0 : Nat) (hk0 : k0 < 4) (c0 : Co) (k en : Nat) (tk : Int32) (rm : Int32) (hk : k < 16) (hS : mSg F k0 (c0, k, en, tk, false, rm)) (hp0 : c0.2 < wid k) (hk12 : k < 12) (n : Nat) (hn1 : 1 ≤ n) (hn : n ≤ 8) (x : Int64) : CtI l yM_bytes [.code yM_bytes cM_bytes 6 (some .int)] rm_M_bytes_ok 0 0 D ca s0 [.ref (h0), .int (nI k0), .int (nI n), .long (x)] [(h0, .inr (3, mF q (th) (tz))), (q 3, .inl (ca 1, 9600, .inl (F 3))), (q 4, .inl (ca 0, 6, .inl (F 4))), (q 5, .inl (ca 0, 6, .inl (F 5))), (q 6, .inl (ca 0, 6, .inl (F 6))), (q 7, .inl (ca 1, 6, .inl (F 7))), (q 8, .inl (ca 0, 6, .inl (F 8))), (q 9, .inl (ca 0, 6, .inl (F 9))), (q 10, .inl (ca 1, 1600, .inl (F 10))), (q 11, .inl (ca 1, 1600, .inl (F 11)))] (S := MFn) (fun r u => r = tk + nI n ∧ mU F u k0 (takeR (wid k) c0 (byAt x) n, k, en, tk + nI n, false, rm)) (fun u => [(h0, .inr (3, mF q (nI 0) (tz))), (q 3, .inl (ca 1, 9600, .inl (u 3))), (q 4, .inl (ca 0, 6, .inl (u 4))), (q 5, .inl (ca 0, 6, .inl (u 5))), (q 6, .inl (ca 0, 6, .inl (u 6))), (q 7, .inl (ca 1, 6, .inl (u 7))), (q 8, .inl (ca 0, 6, .inl (u 8))), (q 9, .inl (ca 0, 6, .inl (u 9))), (q 10, .inl (ca 1, 1600, .inl (u 10))), (q 11, .inl (ca 1, 1600, .inl (u 11)))]) := by
  refine ctI_of (cc := cM_bytes) (maxL := 6) (own := RM) Z rfl (by decide) rfl (Nat.le_of_ble_eq_true rfl) ?_
  intro p e s m args below meth c A ls Q S hnm ret C hl
  have hx := S.1
  have hb := S.2.1
  have hown := S.2.2.2.1
  have hts := S.2.2.2.2
  generalize s.heap = H at C ⊢
  generalize ([] : List Loc) = locs at C ⊢
  replace hl : lv_has ls 6 [(0, .ref (h0)), (1, .int (nI k0)), (2, .int (nI n)), (3, .long (x))] := hl
  refine lv_aload_n hx hb dM_bytes_0 rfl (lv_at hl 0 rfl) ?_
  refine lv_iload_n hx hb dM_bytes_1 rfl (lv_at hl 1 rfl) ?_
  refine n_callP C (fun hp => va_runS (rest := [.ref (h0)]) S (c_M_isSponge l D ca s0 a0 Z (nI k0) _) (cwS 1 hts (gS g_438 g_439 g_34 g_440) rfl rfl rfl (by decide +kernel) ⟨Nat.le_of_ble_eq_true rfl, Nat.le_of_ble_eq_true rfl⟩) hp rfl rfl hl.1 rfl (lv_room (Nat.le_of_ble_eq_true rfl)) dM_bytes_2 ⟨Nat.le_of_ble_eq_true rfl, Nat.le_of_ble_eq_true rfl⟩) (fun r u H locs hp C => ?_)
  subst hp
  refine lv_topi (nm_r (e' := nI 1) (isSp_ok hk0) ?_)
  refine n_if_ne (tgt := 12) S (by omega) dM_bytes_5 (by decide) (fun hc => ?_) (fun hc => False.elim (by omega))
  refine lv_iload_n hx hb dM_bytes_12 rfl (lv_at hl 2 rfl) ?_
  refine lv_iconst (v := nI 1) hx hb dM_bytes_13 (by decide) ?_
  refine n_icmp_lt (tgt := 23) S (by omega) (by omega) dM_bytes_14 (by decide) (fun hc => False.elim (by omega)) (fun hc => ?_)
  refine lv_iload_n hx hb dM_bytes_17 rfl (lv_at hl 2 rfl) ?_
  refine lv_bipush (v := nI 8) hx hb dM_bytes_18 (by decide) ?_
  refine n_icmp_le (tgt := 27) S (by omega) (by omega) dM_bytes_20 (by decide) (fun hc => ?_) (fun hc => False.elim (by omega))
  refine lv_iconst (v := nI 0) hx hb dM_bytes_27 (by decide) ?_
  refine n_put S C hin_M tyM tyM_ok nmM 0 rfl rfl 0 (by decide) g_402 rfl rfl rfl rfl (Nat.le_of_ble_eq_true rfl) dM_bytes_28 (fun H locs C => ?_)
  replace C : Cx D ca s0 A s [(h0, .inr (3, mF q (nI 0) (tz))), (q 3, .inl (ca 1, 9600, .inl (F 3))), (q 4, .inl (ca 0, 6, .inl (F 4))), (q 5, .inl (ca 0, 6, .inl (F 5))), (q 6, .inl (ca 0, 6, .inl (F 6))), (q 7, .inl (ca 1, 6, .inl (F 7))), (q 8, .inl (ca 0, 6, .inl (F 8))), (q 9, .inl (ca 0, 6, .inl (F 9))), (q 10, .inl (ca 1, 1600, .inl (F 10))), (q 11, .inl (ca 1, 1600, .inl (F 11)))] H locs := C
  refine lv_aload_n hx hb dM_bytes_31 rfl (lv_at hl 0 rfl) ?_
  refine n_get S C hin_M 0 rfl rfl 0 (by decide) g_402 rfl dM_bytes_32 ?_
  refine n_if_le (tgt := 40) S (by omega) dM_bytes_35 (by decide) (fun hc => ?_) (fun hc => False.elim (by omega))
  refine lv_aload_n hx hb dM_bytes_40 rfl (lv_at hl 0 rfl) ?_
  refine lv_aload_n hx hb dM_bytes_41 rfl (lv_at hl 0 rfl) ?_
  refine n_get S C hin_M 0 rfl rfl 9 (by decide) g_411 rfl dM_bytes_42 ?_
  refine lv_iload_n hx hb dM_bytes_45 rfl (lv_at hl 1 rfl) ?_
  refine n_zald S C 5 rfl (i := k0) (by omega) (by decide) dM_bytes_46 ?_
  refine lv_topi (nm_r (e' := nI 0) hS.2.2.2.2.1 ?_)
  refine n_if_ne (tgt := 61) S (by omega) dM_bytes_47 (by decide) (fun hc => False.elim (by omega)) (fun hc => ?_)
  refine lv_aload_n hx hb dM_bytes_50 rfl (lv_at hl 0 rfl) ?_
  refine n_get S C hin_M 0 rfl rfl 6 (by decide) g_408 rfl dM_bytes_51 ?_
  refine lv_iload_n hx hb dM_bytes_54 rfl (lv_at hl 1 rfl) ?_
  refine n_iald S C 2 rfl (i := k0) (by omega) (by decide) dM_bytes_55 ?_
  refine lv_topi (nm_r (e' := nI k) hS.2.1 ?_)
  refine lv_bipush (v := nI 11) hx hb dM_bytes_56 (by decide) ?_
  refine n_icmp_le (tgt := 65) S (by omega) (by omega) dM_bytes_58 (by decide) (fun hc => ?_) (fun hc => False.elim (by omega))
  refine lv_iconst (v := nI 0) hx hb dM_bytes_65 (by decide) ?_
  refine n_put S C hin_M tyM tyM_ok nmM 0 rfl rfl 0 (by decide) g_402 rfl rfl rfl rfl (Nat.le_of_ble_eq_true rfl) dM_bytes_66 (fun H locs C => ?_)
  replace C : Cx D ca s0 A s [(h0, .inr (3, mF q (nI 0) (tz))), (q 3, .inl (ca 1, 9600, .inl (F 3))), (q 4, .inl (ca 0, 6, .inl (F 4))), (q 5, .inl (ca 0, 6, .inl (F 5))), (q 6, .inl (ca 0, 6, .inl (F 6))), (q 7, .inl (ca 1, 6, .inl (F 7))), (q 8, .inl (ca 0, 6, .inl (F 8))), (q 9, .inl (ca 0, 6, .inl (F 9))), (q 10, .inl (ca 1, 1600, .inl (F 10))), (q 11, .inl (ca 1, 1600, .inl (F 11)))] H locs := C
  refine lv_aload_n hx hb dM_bytes_69 rfl (lv_at hl 0 rfl) ?_
  refine n_get S C hin_M 0 rfl rfl 0 (by decide) g_402 rfl dM_bytes_70 ?_
  refine n_if_le (tgt := 78) S (by omega) dM_bytes_73 (by decide) (fun hc => ?_) (fun hc => False.elim (by omega))
  replace hk0 : k0 < 6 := by omega
  have hwi := wid_in k hk
  refine lv_iconst (v := nI 0) hx hb dM_bytes_78 (by decide) ?_
  refine lv_istore hx hb dM_bytes_79 hl (Nat.le_of_ble_eq_true rfl) rfl (fun ls hl => ?_)
  replace hl : lv_has ls 6 [(5, .int (nI 0)), (0, .ref (h0)), (1, .int (nI k0)), (2, .int (nI n)), (3, .long (x))] := hl
  have lp81 : ∀ (nf : Nat) (i : Nat) (b1 : Nat → Int32) (p1 : Nat → Int32) (n1 : Nat → Int32) (x1 : Nat → Int32) (H : Heap) (locs : List Loc) (ls : Array Slot), n - i < nf → i ≤ n → mR (F 3) (F 5) k0 (takeR (wid k) c0 (byAt x) i) b1 p1 → Cx D ca s0 A s [(h0, .inr (3, mF q (nI 0) (tz))), (q 3, .inl (ca 1, 9600, .inl (b1))), (q 4, .inl (ca 0, 6, .inl (F 4))), (q 5, .inl (ca 0, 6, .inl (p1))), (q 6, .inl (ca 0, 6, .inl (F 6))), (q 7, .inl (ca 1, 6, .inl (F 7))), (q 8, .inl (ca 0, 6, .inl (F 8))), (q 9, .inl (ca 0, 6, .inl (F 9))), (q 10, .inl (ca 1, 1600, .inl (n1))), (q 11, .inl (ca 1, 1600, .inl (x1)))] H locs → lv_has ls 6 [(5, .int (nI i)), (0, .ref (h0)), (1, .int (nI k0)), (2, .int (nI n)), (3, .long (x))] → W p l e rm_M_bytes_ok s m args below meth c H locs 0 0 Q (F0 m 81 ls []) := by
    intro nf
    induction nf with
    | zero => intro i b1 p1 n1 x1 H locs ls hn; exact absurd hn (Nat.not_lt_zero _)
    | succ nf ih_lp81 =>
      intro i b1 p1 n1 x1 H locs ls hn lp81_le hI C hl
      refine lv_iload hx hb dM_bytes_81 (lv_at hl 0 rfl) ?_
      refine lv_iload_n hx hb dM_bytes_83 rfl (lv_at hl 3 rfl) ?_
      refine n_icmp_ge (tgt := 110) S (by omega) (by omega) dM_bytes_84 (by decide) (fun hc84 => ?_) (fun hc84 => ?_)
      · skip
        rw [show i = n by omega] at hI
        refine lv_aload_n hx hb dM_bytes_110 rfl (lv_at hl 1 rfl) ?_
        refine n_get S C hin_M 0 rfl rfl 10 (by decide) g_412 rfl dM_bytes_111 ?_
        refine lv_iload_n hx hb dM_bytes_114 rfl (lv_at hl 2 rfl) ?_
        refine lv_aload_n hx hb dM_bytes_115 rfl (lv_at hl 1 rfl) ?_
        refine n_get S C hin_M 0 rfl rfl 10 (by decide) g_412 rfl dM_bytes_116 ?_
        refine lv_iload_n hx hb dM_bytes_119 rfl (lv_at hl 2 rfl) ?_
        refine n_iald S C 6 rfl (i := k0) (by omega) (by decide) dM_bytes_120 ?_
        refine lv_topi (nm_r (e' := tk) hS.2.2.2.1 ?_)
        refine lv_iload_n hx hb dM_bytes_121 rfl (lv_at hl 3 rfl) ?_
        refine lv_iadd hx hb dM_bytes_122 ?_
        refine n_iast S C 6 rfl (i := k0) (by omega) (by decide) dM_bytes_123 (fun H locs C => ?_)
        replace C : Cx D ca s0 A s [(h0, .inr (3, mF q (nI 0) (tz))), (q 3, .inl (ca 1, 9600, .inl (b1))), (q 4, .inl (ca 0, 6, .inl (F 4))), (q 5, .inl (ca 0, 6, .inl (p1))), (q 6, .inl (ca 0, 6, .inl (F 6))), (q 7, .inl (ca 1, 6, .inl (F 7))), (q 8, .inl (ca 0, 6, .inl (upd (F 8) k0 (tk + (nI n))))), (q 9, .inl (ca 0, 6, .inl (F 9))), (q 10, .inl (ca 1, 1600, .inl (n1))), (q 11, .inl (ca 1, 1600, .inl (x1)))] H locs := C
        refine lv_aload_n hx hb dM_bytes_124 rfl (lv_at hl 1 rfl) ?_
        refine n_get S C hin_M 0 rfl rfl 10 (by decide) g_412 rfl dM_bytes_125 ?_
        refine lv_iload_n hx hb dM_bytes_128 rfl (lv_at hl 2 rfl) ?_
        refine n_iald S C 6 rfl (i := k0) (by omega) (by decide) dM_bytes_129 ?_
        refine lv_topi (nm_r (e' := tk + nI n) pk_us ?_)
        exact ret (tk + nI n) ((mkF b1 (F 4) p1 (F 6) (F 7) (upd (F 8) k0 (tk + nI n)) (F 9) n1 x1)) _ _ _ _ _ _ (Nat.le_refl _) (Nat.le_refl _) (⟨rfl, hI, one.rf hS.2.1, one.rf hS.2.2.1, one.up, one.rf hS.2.2.2.2.1, one.rf hS.2.2.2.2.2⟩) C dM_bytes_130
      · skip
        refine lv_aload_n hx hb dM_bytes_87 rfl (lv_at hl 1 rfl) ?_
        refine lv_iload_n hx hb dM_bytes_88 rfl (lv_at hl 2 rfl) ?_
        refine lv_lload_n hx hb dM_bytes_89 rfl (lv_at hl 4 rfl) ?_
        refine lv_bipush (v := nI 8) hx hb dM_bytes_90 (by decide) ?_
        refine lv_iload hx hb dM_bytes_92 (lv_at hl 0 rfl) ?_
        refine n_mul S dM_bytes_94 ?_
        refine lv_lshr (v := lSar x (8 * i)) hx hb dM_bytes_95 rfl ?_
        refine lv_ldc2 (v := 255) hx hb hown (hts _ g_398) dM_bytes_96 ?_
        refine lv_land hx hb dM_bytes_99 ?_
        refine lv_l2i (v := ((lSar x (8 * i)) &&& 255).toInt32) hx hb dM_bytes_100 rfl ?_
        refine lv_topi (nm_r (e' := nI (byAt x i)) (lSar_int x (by omega)) ?_)
        refine n_callV (wc := [(h0, .inr (3, mF q (nI 0) (tz))), (q 3, .inl (ca 1, 9600, .inl (b1))), (q 4, .inl (ca 0, 6, .inl (F 4))), (q 5, .inl (ca 0, 6, .inl (p1))), (q 10, .inl (ca 1, 1600, .inl (n1))), (q 11, .inl (ca 1, 1600, .inl (x1)))]) (wr := [(q 6, .inl (ca 0, 6, .inl (F 6))), (q 7, .inl (ca 1, 6, .inl (F 7))), (q 8, .inl (ca 0, 6, .inl (F 8))), (q 9, .inl (ca 0, 6, .inl (F 9)))]) C [0, 1, 2, 3, 8, 9] [4, 5, 6, 7] rfl rfl rfl rfl (by decide) (fun hp => va_runV (rest := []) S (c_M_comeIn l D ca s0 a0 Z h0 q (nI 0) tz k0 k hk0 hk b1 (F 4) p1 n1 x1 hS.2.1 (takeR (wid k) c0 (byAt x) i) hI.1 (takeR_lt _ hp0 i) (byAt x i) (byAt_lt _ _) _) (cwV 2 hts (gV g_354 g_355 g_13 g_34 g_356) rfl rfl rfl (by decide +kernel) ⟨Nat.le_of_ble_eq_true rfl, Nat.le_of_ble_eq_true rfl⟩) ⟨hp.1, n_recv C 0 3 rfl rfl, hp.2⟩ rfl rfl hl.1 rfl (lv_room (Nat.le_of_ble_eq_true rfl)) dM_bytes_101 ⟨Nat.le_of_ble_eq_true rfl, Nat.le_of_ble_eq_true rfl⟩) (fun u H locs hp C => ?_)
        replace C : Cx D ca s0 A s [(h0, .inr (3, mF q (nI 0) (tz))), (q 3, .inl (ca 1, 9600, .inl (u.1))), (q 4, .inl (ca 0, 6, .inl ((F 4)))), (q 5, .inl (ca 0, 6, .inl (u.2.1))), (q 6, .inl (ca 0, 6, .inl (F 6))), (q 7, .inl (ca 1, 6, .inl (F 7))), (q 8, .inl (ca 0, 6, .inl (F 8))), (q 9, .inl (ca 0, 6, .inl (F 9))), (q 10, .inl (ca 1, 1600, .inl (u.2.2.1))), (q 11, .inl (ca 1, 1600, .inl (u.2.2.2)))] H locs := C.re [4, 5, 6, 7, 0, 1, 2, 3, 8, 9] rfl rfl
        obtain ⟨b36, p36, n36, x36⟩ := u
        have h36 := hI.tr hp
        replace C : Cx D ca s0 A s [(h0, .inr (3, mF q (nI 0) (tz))), (q 3, .inl (ca 1, 9600, .inl (b36))), (q 4, .inl (ca 0, 6, .inl ((F 4)))), (q 5, .inl (ca 0, 6, .inl (p36))), (q 6, .inl (ca 0, 6, .inl (F 6))), (q 7, .inl (ca 1, 6, .inl (F 7))), (q 8, .inl (ca 0, 6, .inl (F 8))), (q 9, .inl (ca 0, 6, .inl (F 9))), (q 10, .inl (ca 1, 1600, .inl (n36))), (q 11, .inl (ca 1, 1600, .inl (x36)))] H locs := C
        refine lv_iinc (k := 0) (v := nI (i + 1)) hx hb dM_bytes_104 hl rfl (n_inc1 _) (Nat.le_of_ble_eq_true rfl) rfl (fun ls hl => ?_)
        replace hl : lv_has ls 6 [(5, .int (nI (i + 1))), (0, .ref (h0)), (1, .int (nI k0)), (2, .int (nI n)), (3, .long (x))] := hl
        refine lv_goto (tgt := 81) hx hb dM_bytes_107 (by decide) ?_
        exact ih_lp81 (i + 1) _ _ _ _ _ _ _ (by omega) (by omega) h36 C (lv_sub hl [0, 1, 2, 3, 4] rfl)
  exact lp81 (n + 1) 0 _ _ _ _ _ _ _ (by omega) (by omega) (mR.rf hS.1) C (lv_sub hl [0, 1, 2, 3, 4] rfl)
abbrev rm_M_left_no : Room := { frames := 1, cells := 0, slots := 0, locals := 20 }
set_option maxHeartbeats 4000000 in
set_option maxRecDepth 100000 in
theorem c_M_left_no (l : Launch) (D : va_G) (ca : Nat → ClassId) (s0 : State) (a0 : Array Value) (Z : Wd a0 s0) (h0 : Nat) (q : Nat → Nat) (th tz : Int32) (k : Int32) (hno : ¬ (¬ k < 0 ∧ k < 4)) : CtI l yM_left [.code yM_left cM_left 2 (some .int)] rm_M_left_no 0 0 D ca s0 [.ref (h0), .int (k)] [(h0, .inr (3, mF q (th) (tz)))] (S := Unit) (fun _ _ => True) (fun _ => [(h0, .inr (3, mF q (nI 1) (tz)))]) := by
  refine ctI_of (cc := cM_left) (maxL := 2) (own := RM) Z rfl (by decide) rfl (Nat.le_of_ble_eq_true rfl) ?_
  intro p e s m args below meth c A ls Q S hnm ret C hl
  have hx := S.1
  have hb := S.2.1
  have hown := S.2.2.2.1
  have hts := S.2.2.2.2
  generalize s.heap = H at C ⊢
  generalize ([] : List Loc) = locs at C ⊢
  replace hl : lv_has ls 2 [(0, .ref (h0)), (1, .int (k))] := hl
  refine lv_aload_n hx hb dM_left_0 rfl (lv_at hl 0 rfl) ?_
  refine lv_iload_n hx hb dM_left_1 rfl (lv_at hl 1 rfl) ?_
  refine n_callP C (fun hp => va_runS (rest := [.ref (h0)]) S (c_M_isSponge l D ca s0 a0 Z (k) _) (cwS 1 hts (gS g_438 g_439 g_34 g_440) rfl rfl rfl (by decide +kernel) ⟨Nat.le_of_ble_eq_true rfl, Nat.le_of_ble_eq_true rfl⟩) hp rfl rfl hl.1 rfl (lv_room (Nat.le_of_ble_eq_true rfl)) dM_left_2 ⟨Nat.le_of_ble_eq_true rfl, Nat.le_of_ble_eq_true rfl⟩) (fun r u H locs hp C => ?_)
  subst hp
  refine lv_topi (nm_r (e' := nI 0) (isSp_no hno) ?_)
  refine n_if_eq (tgt := 12) S (by omega) dM_left_5 (by decide) (fun hc => ?_) (fun hc => False.elim (by omega))
  refine lv_iconst (v := nI 1) hx hb dM_left_12 (by decide) ?_
  refine n_put S C hin_M tyM tyM_ok nmM 0 rfl rfl 0 (by decide) g_402 rfl rfl rfl rfl (Nat.le_of_ble_eq_true rfl) dM_left_13 (fun H locs C => ?_)
  replace C : Cx D ca s0 A s [(h0, .inr (3, mF q (nI 1) (tz)))] H locs := C
  refine lv_aload_n hx hb dM_left_16 rfl (lv_at hl 0 rfl) ?_
  refine n_get S C hin_M 0 rfl rfl 0 (by decide) g_402 rfl dM_left_17 ?_
  refine n_if_le (tgt := 27) S (by omega) dM_left_20 (by decide) (fun hc => False.elim (by omega)) (fun hc => ?_)
  refine lv_iconst (v := nI 0) hx hb dM_left_23 (by decide) ?_
  refine lv_goto (tgt := 33) hx hb dM_left_24 (by decide) ?_
  exact ret (nI 0) (()) _ _ _ _ _ _ (Nat.le_refl _) (Nat.le_refl _) trivial C dM_left_33
abbrev rm_M_kind_no : Room := { frames := 1, cells := 0, slots := 0, locals := 20 }
set_option maxHeartbeats 4000000 in
set_option maxRecDepth 100000 in
theorem c_M_kind_no (l : Launch) (D : va_G) (ca : Nat → ClassId) (s0 : State) (a0 : Array Value) (Z : Wd a0 s0) (h0 : Nat) (q : Nat → Nat) (th tz : Int32) (k : Int32) (hno : ¬ (¬ k < 0 ∧ k < 4)) : CtI l yM_kind [.code yM_kind cM_kind 2 (some .int)] rm_M_kind_no 0 0 D ca s0 [.ref (h0), .int (k)] [(h0, .inr (3, mF q (th) (tz)))] (S := Unit) (fun _ _ => True) (fun _ => [(h0, .inr (3, mF q (nI 1) (tz)))]) := by
  refine ctI_of (cc := cM_kind) (maxL := 2) (own := RM) Z rfl (by decide) rfl (Nat.le_of_ble_eq_true rfl) ?_
  intro p e s m args below meth c A ls Q S hnm ret C hl
  have hx := S.1
  have hb := S.2.1
  have hown := S.2.2.2.1
  have hts := S.2.2.2.2
  generalize s.heap = H at C ⊢
  generalize ([] : List Loc) = locs at C ⊢
  replace hl : lv_has ls 2 [(0, .ref (h0)), (1, .int (k))] := hl
  refine lv_aload_n hx hb dM_kind_0 rfl (lv_at hl 0 rfl) ?_
  refine lv_iload_n hx hb dM_kind_1 rfl (lv_at hl 1 rfl) ?_
  refine n_callP C (fun hp => va_runS (rest := [.ref (h0)]) S (c_M_isSponge l D ca s0 a0 Z (k) _) (cwS 1 hts (gS g_438 g_439 g_34 g_440) rfl rfl rfl (by decide +kernel) ⟨Nat.le_of_ble_eq_true rfl, Nat.le_of_ble_eq_true rfl⟩) hp rfl rfl hl.1 rfl (lv_room (Nat.le_of_ble_eq_true rfl)) dM_kind_2 ⟨Nat.le_of_ble_eq_true rfl, Nat.le_of_ble_eq_true rfl⟩) (fun r u H locs hp C => ?_)
  subst hp
  refine lv_topi (nm_r (e' := nI 0) (isSp_no hno) ?_)
  refine n_if_eq (tgt := 12) S (by omega) dM_kind_5 (by decide) (fun hc => ?_) (fun hc => False.elim (by omega))
  refine lv_iconst (v := nI 1) hx hb dM_kind_12 (by decide) ?_
  refine n_put S C hin_M tyM tyM_ok nmM 0 rfl rfl 0 (by decide) g_402 rfl rfl rfl rfl (Nat.le_of_ble_eq_true rfl) dM_kind_13 (fun H locs C => ?_)
  replace C : Cx D ca s0 A s [(h0, .inr (3, mF q (nI 1) (tz)))] H locs := C
  refine lv_aload_n hx hb dM_kind_16 rfl (lv_at hl 0 rfl) ?_
  refine n_get S C hin_M 0 rfl rfl 0 (by decide) g_402 rfl dM_kind_17 ?_
  refine n_if_le (tgt := 27) S (by omega) dM_kind_20 (by decide) (fun hc => False.elim (by omega)) (fun hc => ?_)
  refine lv_iconst (v := nI 0) hx hb dM_kind_23 (by decide) ?_
  refine lv_goto (tgt := 54) hx hb dM_kind_24 (by decide) ?_
  exact ret (nI 0) (()) _ _ _ _ _ _ (Nat.le_refl _) (Nat.le_refl _) trivial C dM_kind_54
abbrev rm_M_left_ok : Room := { frames := 1, cells := 0, slots := 0, locals := 20 }
set_option maxHeartbeats 4000000 in
set_option maxRecDepth 100000 in
theorem c_M_left_ok (l : Launch) (D : va_G) (ca : Nat → ClassId) (s0 : State) (a0 : Array Value) (Z : Wd a0 s0) (h0 : Nat) (q : Nat → Nat) (th tz : Int32) (F : MFn) (k0 : Nat) (hk0 : k0 < 4) (rm : Int32) (hS : F 9 k0 = rm) : CtI l yM_left [.code yM_left cM_left 2 (some .int)] rm_M_left_ok 0 0 D ca s0 [.ref (h0), .int (nI k0)] [(h0, .inr (3, mF q (th) (tz))), (q 9, .inl (ca 0, 6, .inl (F 9)))] (S := Unit) (fun r _ => r = rm) (fun _ => [(h0, .inr (3, mF q (nI 0) (tz))), (q 9, .inl (ca 0, 6, .inl (F 9)))]) := by
  refine ctI_of (cc := cM_left) (maxL := 2) (own := RM) Z rfl (by decide) rfl (Nat.le_of_ble_eq_true rfl) ?_
  intro p e s m args below meth c A ls Q S hnm ret C hl
  have hx := S.1
  have hb := S.2.1
  have hown := S.2.2.2.1
  have hts := S.2.2.2.2
  generalize s.heap = H at C ⊢
  generalize ([] : List Loc) = locs at C ⊢
  replace hl : lv_has ls 2 [(0, .ref (h0)), (1, .int (nI k0))] := hl
  refine lv_aload_n hx hb dM_left_0 rfl (lv_at hl 0 rfl) ?_
  refine lv_iload_n hx hb dM_left_1 rfl (lv_at hl 1 rfl) ?_
  refine n_callP C (fun hp => va_runS (rest := [.ref (h0)]) S (c_M_isSponge l D ca s0 a0 Z (nI k0) _) (cwS 1 hts (gS g_438 g_439 g_34 g_440) rfl rfl rfl (by decide +kernel) ⟨Nat.le_of_ble_eq_true rfl, Nat.le_of_ble_eq_true rfl⟩) hp rfl rfl hl.1 rfl (lv_room (Nat.le_of_ble_eq_true rfl)) dM_left_2 ⟨Nat.le_of_ble_eq_true rfl, Nat.le_of_ble_eq_true rfl⟩) (fun r u H locs hp C => ?_)
  subst hp
  refine lv_topi (nm_r (e' := nI 1) (isSp_ok hk0) ?_)
  refine n_if_eq (tgt := 12) S (by omega) dM_left_5 (by decide) (fun hc => False.elim (by omega)) (fun hc => ?_)
  refine lv_iconst (v := nI 0) hx hb dM_left_8 (by decide) ?_
  refine lv_goto (tgt := 13) hx hb dM_left_9 (by decide) ?_
  refine n_put S C hin_M tyM tyM_ok nmM 0 rfl rfl 0 (by decide) g_402 rfl rfl rfl rfl (Nat.le_of_ble_eq_true rfl) dM_left_13 (fun H locs C => ?_)
  replace C : Cx D ca s0 A s [(h0, .inr (3, mF q (nI 0) (tz))), (q 9, .inl (ca 0, 6, .inl (F 9)))] H locs := C
  refine lv_aload_n hx hb dM_left_16 rfl (lv_at hl 0 rfl) ?_
  refine n_get S C hin_M 0 rfl rfl 0 (by decide) g_402 rfl dM_left_17 ?_
  refine n_if_le (tgt := 27) S (by omega) dM_left_20 (by decide) (fun hc => ?_) (fun hc => False.elim (by omega))
  refine lv_aload_n hx hb dM_left_27 rfl (lv_at hl 0 rfl) ?_
  refine n_get S C hin_M 0 rfl rfl 11 (by decide) g_413 rfl dM_left_28 ?_
  refine lv_iload_n hx hb dM_left_31 rfl (lv_at hl 1 rfl) ?_
  refine n_iald S C 1 rfl (i := k0) (by omega) (by decide) dM_left_32 ?_
  exact ret ((F 9) k0) (()) _ _ _ _ _ _ (Nat.le_refl _) (Nat.le_refl _) hS C dM_left_33
abbrev rm_M_kind_ok : Room := { frames := 1, cells := 0, slots := 0, locals := 20 }
set_option maxHeartbeats 4000000 in
set_option maxRecDepth 100000 in
theorem c_M_kind_ok (l : Launch) (D : va_G) (ca : Nat → ClassId) (s0 : State) (a0 : Array Value) (Z : Wd a0 s0) (h0 : Nat) (q : Nat → Nat) (th tz : Int32) (F : MFn) (k0 : Nat) (hk0 : k0 < 4) (k : Nat) (dn : Bool) (h7 : F 7 k0 = b2i dn) (h4 : F 4 k0 = nI k) : CtI l yM_kind [.code yM_kind cM_kind 2 (some .int)] rm_M_kind_ok 0 0 D ca s0 [.ref (h0), .int (nI k0)] [(h0, .inr (3, mF q (th) (tz))), (q 4, .inl (ca 0, 6, .inl (F 4))), (q 7, .inl (ca 1, 6, .inl (F 7)))] (S := Unit) (fun r _ => r = nI (if dn = true then k + 16 else k)) (fun _ => [(h0, .inr (3, mF q (nI 0) (tz))), (q 4, .inl (ca 0, 6, .inl (F 4))), (q 7, .inl (ca 1, 6, .inl (F 7)))]) := by
  refine ctI_of (cc := cM_kind) (maxL := 2) (own := RM) Z rfl (by decide) rfl (Nat.le_of_ble_eq_true rfl) ?_
  intro p e s m args below meth c A ls Q S hnm ret C hl
  have hx := S.1
  have hb := S.2.1
  have hown := S.2.2.2.1
  have hts := S.2.2.2.2
  generalize s.heap = H at C ⊢
  generalize ([] : List Loc) = locs at C ⊢
  replace hl : lv_has ls 2 [(0, .ref (h0)), (1, .int (nI k0))] := hl
  refine lv_aload_n hx hb dM_kind_0 rfl (lv_at hl 0 rfl) ?_
  refine lv_iload_n hx hb dM_kind_1 rfl (lv_at hl 1 rfl) ?_
  refine n_callP C (fun hp => va_runS (rest := [.ref (h0)]) S (c_M_isSponge l D ca s0 a0 Z (nI k0) _) (cwS 1 hts (gS g_438 g_439 g_34 g_440) rfl rfl rfl (by decide +kernel) ⟨Nat.le_of_ble_eq_true rfl, Nat.le_of_ble_eq_true rfl⟩) hp rfl rfl hl.1 rfl (lv_room (Nat.le_of_ble_eq_true rfl)) dM_kind_2 ⟨Nat.le_of_ble_eq_true rfl, Nat.le_of_ble_eq_true rfl⟩) (fun r u H locs hp C => ?_)
  subst hp
  refine lv_topi (nm_r (e' := nI 1) (isSp_ok hk0) ?_)
  refine n_if_eq (tgt := 12) S (by omega) dM_kind_5 (by decide) (fun hc => False.elim (by omega)) (fun hc => ?_)
  refine lv_iconst (v := nI 0) hx hb dM_kind_8 (by decide) ?_
  refine lv_goto (tgt := 13) hx hb dM_kind_9 (by decide) ?_
  refine n_put S C hin_M tyM tyM_ok nmM 0 rfl rfl 0 (by decide) g_402 rfl rfl rfl rfl (Nat.le_of_ble_eq_true rfl) dM_kind_13 (fun H locs C => ?_)
  replace C : Cx D ca s0 A s [(h0, .inr (3, mF q (nI 0) (tz))), (q 4, .inl (ca 0, 6, .inl (F 4))), (q 7, .inl (ca 1, 6, .inl (F 7)))] H locs := C
  refine lv_aload_n hx hb dM_kind_16 rfl (lv_at hl 0 rfl) ?_
  refine n_get S C hin_M 0 rfl rfl 0 (by decide) g_402 rfl dM_kind_17 ?_
  refine n_if_le (tgt := 27) S (by omega) dM_kind_20 (by decide) (fun hc => ?_) (fun hc => False.elim (by omega))
  refine lv_aload_n hx hb dM_kind_27 rfl (lv_at hl 0 rfl) ?_
  refine n_get S C hin_M 0 rfl rfl 9 (by decide) g_411 rfl dM_kind_28 ?_
  refine lv_iload_n hx hb dM_kind_31 rfl (lv_at hl 1 rfl) ?_
  refine n_zald S C 2 rfl (i := k0) (by omega) (by decide) dM_kind_32 ?_
  refine lv_topi (nm_r (e' := b2i dn) h7 ?_)
  refine lv_if_eq (tgt := 48) hx hb dM_kind_33 (by decide) (fun hc33 => ?_) (fun hc33 => ?_)
  · skip
    refine lv_aload_n hx hb dM_kind_48 rfl (lv_at hl 0 rfl) ?_
    refine n_get S C hin_M 0 rfl rfl 6 (by decide) g_408 rfl dM_kind_49 ?_
    refine lv_iload_n hx hb dM_kind_52 rfl (lv_at hl 1 rfl) ?_
    refine n_iald S C 1 rfl (i := k0) (by omega) (by decide) dM_kind_53 ?_
    refine lv_topi (nm_r (e' := nI k) h4 ?_)
    exact ret (nI k) (()) _ _ _ _ _ _ (Nat.le_refl _) (Nat.le_refl _) (by rw [if_neg (fun q => absurd (b2i_0.mp hc33) (by rw [q]; decide))]) C dM_kind_54
  · skip
    refine lv_aload_n hx hb dM_kind_36 rfl (lv_at hl 0 rfl) ?_
    refine n_get S C hin_M 0 rfl rfl 6 (by decide) g_408 rfl dM_kind_37 ?_
    refine lv_iload_n hx hb dM_kind_40 rfl (lv_at hl 1 rfl) ?_
    refine n_iald S C 1 rfl (i := k0) (by omega) (by decide) dM_kind_41 ?_
    refine lv_topi (nm_r (e' := nI k) h4 ?_)
    refine lv_bipush (v := nI 16) hx hb dM_kind_42 (by decide) ?_
    refine n_add S dM_kind_44 ?_
    refine lv_goto (tgt := 54) hx hb dM_kind_45 (by decide) ?_
    exact ret (nI (k + 16)) (()) _ _ _ _ _ _ (Nat.le_refl _) (Nat.le_refl _) (by rw [if_pos (b2i_n0.mp hc33)]) C dM_kind_54
