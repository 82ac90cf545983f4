abbrev rm_M_ownNameK : Room := { frames := 7, cells := 0, slots := 0, locals := 161 }
set_option maxHeartbeats 4000000 in
set_option maxRecDepth 100000 in
theorem c_M_ownNameK (l : Launch) (D : va_G) (ca : Nat → ClassId) (s0 : State) (a0 : Array Value) (Z : Wd a0 s0) (h0 : Nat) (q : Nat → Nat) (th tz : Int32) (k0 k : Nat) (hk0 : k0 < 6) (hk : k < 16) (bt kd pl nw nx : Nat → Int32) (hkd : kd k0 = nI k) (c0 : Co) (hS : mS bt pl k0 c0) (hp0 : c0.2 < wid k)  : CtV l yM_ownName [.code yM_ownName cM_ownName 7 none] rm_M_ownNameK 0 0 D ca s0 [.ref (h0), .int (nI k0), .int (nI 1)] [(h0, .inr (3, mF q (th) (tz))), (q 3, .inl (ca 1, 9600, .inl (bt))), (q 4, .inl (ca 0, 6, .inl (kd))), (q 5, .inl (ca 0, 6, .inl (pl))), (q 10, .inl (ca 1, 1600, .inl (nw))), (q 11, .inl (ca 1, 1600, .inl (nx)))] (S := (Nat → Int32) × (Nat → Int32) × (Nat → Int32) × (Nat → Int32)) (fun u => mR bt pl k0 (takeS (wid k) c0 pKey 4) u.1 u.2.1) (fun u => [(h0, .inr (3, mF q th tz)), (q 3, .inl (ca 1, 9600, .inl u.1)), (q 4, .inl (ca 0, 6, .inl kd)), (q 5, .inl (ca 0, 6, .inl u.2.1)), (q 10, .inl (ca 1, 1600, .inl u.2.2.1)), (q 11, .inl (ca 1, 1600, .inl u.2.2.2))]) := by
  refine ctV_of (cc := cM_ownName) (maxL := 7) (own := RM) Z rfl (by decide) rfl (Nat.le_of_ble_eq_true rfl) ?_
  intro p e s m args below meth c A ls Q S hnm ret C hl
  have hx := S.1
  have hb := S.2.1
  have hown := S.2.2.2.1
  have hts := S.2.2.2.2
  generalize s.heap = H at C ⊢
  generalize ([] : List Loc) = locs at C ⊢
  replace hl : lv_has ls 7 [(0, .ref (h0)), (1, .int (nI k0)), (2, .int (nI 1))] := hl
  refine lv_iload_n hx hb dM_ownName_0 rfl (lv_at hl 2 rfl) ?_
  refine n_if_eq (tgt := 10) S (by omega) dM_ownName_1 (by decide) (fun hc => False.elim (by omega)) (fun hc => ?_)
  refine lv_ldc2 (v := 1128353099) hx hb hown (hts _ g_396) dM_ownName_4 ?_
  refine lv_goto (tgt := 13) hx hb dM_ownName_7 (by decide) ?_
  refine lv_lstore_n hx hb dM_ownName_13 rfl hl (Nat.le_of_ble_eq_true rfl) rfl (fun ls hl => ?_)
  replace hl : lv_has ls 7 [(3, .long (1128353099)), (0, .ref (h0)), (1, .int (nI k0)), (2, .int (nI 1))] := hl
  refine lv_iload_n hx hb dM_ownName_14 rfl (lv_at hl 3 rfl) ?_
  refine n_if_eq (tgt := 22) S (by omega) dM_ownName_15 (by decide) (fun hc => False.elim (by omega)) (fun hc => ?_)
  refine lv_iconst (v := nI 4) hx hb dM_ownName_18 (by decide) ?_
  refine lv_goto (tgt := 24) hx hb dM_ownName_19 (by decide) ?_
  refine lv_istore hx hb dM_ownName_24 hl (Nat.le_of_ble_eq_true rfl) rfl (fun ls hl => ?_)
  replace hl : lv_has ls 7 [(5, .int (nI 4)), (3, .long (1128353099)), (0, .ref (h0)), (1, .int (nI k0)), (2, .int (nI 1))] := hl
  refine lv_aload_n hx hb dM_ownName_26 rfl (lv_at hl 2 rfl) ?_
  refine lv_iload_n hx hb dM_ownName_27 rfl (lv_at hl 3 rfl) ?_
  refine lv_bipush (v := nI 8) hx hb dM_ownName_28 (by decide) ?_
  refine lv_iload hx hb dM_ownName_30 (lv_at hl 0 rfl) ?_
  refine n_mul S dM_ownName_32 ?_
  refine n_callV (wc := [(h0, .inr (3, mF q (th) (tz))), (q 3, .inl (ca 1, 9600, .inl (bt))), (q 4, .inl (ca 0, 6, .inl (kd))), (q 5, .inl (ca 0, 6, .inl (pl))), (q 10, .inl (ca 1, 1600, .inl (nw))), (q 11, .inl (ca 1, 1600, .inl (nx)))]) (wr := []) C [0, 1, 2, 3, 4, 5] [] rfl rfl rfl rfl (by decide) (fun hp => va_runV (rest := []) S (c_M_leftOf l D ca s0 a0 Z h0 q th tz k0 k hk0 hk bt kd pl nw nx hkd (c0) (mR.rf hS).1 hp0 32 (by decide) _) (cwV 2 hts (gV g_348 g_349 g_12 g_34 g_350) rfl rfl rfl (by decide +kernel) ⟨Nat.le_of_ble_eq_true rfl, Nat.le_of_ble_eq_true rfl⟩) ⟨hp.1, n_recv C 0 3 rfl rfl, hp.2⟩ rfl rfl hl.1 rfl (lv_room (Nat.le_of_ble_eq_true rfl)) dM_ownName_33 ⟨Nat.le_of_ble_eq_true rfl, Nat.le_of_ble_eq_true rfl⟩) (fun u H locs hp C => ?_)
  replace C : Cx D ca s0 A s [(h0, .inr (3, mF q (th) (tz))), (q 3, .inl (ca 1, 9600, .inl (u.1))), (q 4, .inl (ca 0, 6, .inl (kd))), (q 5, .inl (ca 0, 6, .inl (u.2.1))), (q 10, .inl (ca 1, 1600, .inl (u.2.2.1))), (q 11, .inl (ca 1, 1600, .inl (u.2.2.2)))] H locs := C.re [0, 1, 2, 3, 4, 5] rfl rfl
  obtain ⟨b9, p9, n9, x9⟩ := u
  have h9 := (mR.rf hS).tr hp
  replace C : Cx D ca s0 A s [(h0, .inr (3, mF q (th) (tz))), (q 3, .inl (ca 1, 9600, .inl (b9))), (q 4, .inl (ca 0, 6, .inl (kd))), (q 5, .inl (ca 0, 6, .inl (p9))), (q 10, .inl (ca 1, 1600, .inl (n9))), (q 11, .inl (ca 1, 1600, .inl (x9)))] H locs := C
  refine lv_iconst (v := nI 0) hx hb dM_ownName_36 (by decide) ?_
  refine lv_istore hx hb dM_ownName_37 hl (Nat.le_of_ble_eq_true rfl) rfl (fun ls hl => ?_)
  replace hl : lv_has ls 7 [(6, .int (nI 0)), (5, .int (nI 4)), (3, .long (1128353099)), (0, .ref (h0)), (1, .int (nI k0)), (2, .int (nI 1))] := hl
  have lp39 : ∀ (nf : Nat) (i : Nat) (b1 : Nat → Int32) (p1 : Nat → Int32) (n1 : Nat → Int32) (x1 : Nat → Int32) (H : Heap) (locs : List Loc) (ls : Array Slot), 4 - i < nf → i ≤ 4 → mR bt pl k0 (takeR (wid k) (takeL (wid k) c0 32) pKey i) b1 p1 → Cx D ca s0 A s [(h0, .inr (3, mF q (th) (tz))), (q 3, .inl (ca 1, 9600, .inl (b1))), (q 4, .inl (ca 0, 6, .inl (kd))), (q 5, .inl (ca 0, 6, .inl (p1))), (q 10, .inl (ca 1, 1600, .inl (n1))), (q 11, .inl (ca 1, 1600, .inl (x1)))] H locs → lv_has ls 7 [(6, .int (nI i)), (5, .int (nI 4)), (3, .long (1128353099)), (0, .ref (h0)), (1, .int (nI k0)), (2, .int (nI 1))] → W p l e rm_M_ownNameK s m args below meth c H locs 0 0 Q (F0 m 39 ls []) := by
    intro nf
    induction nf with
    | zero => intro i b1 p1 n1 x1 H locs ls hn; exact absurd hn (Nat.not_lt_zero _)
    | succ nf ih_lp39 =>
      intro i b1 p1 n1 x1 H locs ls hn lp39_le hI C hl
      refine lv_iload hx hb dM_ownName_39 (lv_at hl 0 rfl) ?_
      refine lv_iload hx hb dM_ownName_41 (lv_at hl 1 rfl) ?_
      refine n_icmp_ge (tgt := 81) S (by omega) (by omega) dM_ownName_43 (by decide) (fun hc43 => ?_) (fun hc43 => ?_)
      · skip
        exact ret ((b1, p1, n1, x1)) _ _ _ _ _ _ (Nat.le_refl _) (Nat.le_refl _) (show mR bt pl k0 (takeR (wid k) (takeL (wid k) c0 32) pKey 4) b1 p1 from (show i = 4 by omega) ▸ hI) C dM_ownName_81
      · skip
        refine lv_aload_n hx hb dM_ownName_46 rfl (lv_at hl 3 rfl) ?_
        refine lv_iload_n hx hb dM_ownName_47 rfl (lv_at hl 4 rfl) ?_
        refine lv_iload hx hb dM_ownName_48 (lv_at hl 0 rfl) ?_
        refine lv_bipush (v := nI 8) hx hb dM_ownName_50 (by decide) ?_
        refine n_icmp_ne (tgt := 60) S (by omega) (by omega) dM_ownName_52 (by decide) (fun hc => ?_) (fun hc => False.elim (by omega))
        refine lv_lload_n hx hb dM_ownName_60 rfl (lv_at hl 2 rfl) ?_
        refine lv_bipush (v := nI 8) hx hb dM_ownName_61 (by decide) ?_
        refine lv_iload hx hb dM_ownName_63 (lv_at hl 0 rfl) ?_
        refine n_mul S dM_ownName_65 ?_
        refine lv_lshr (v := lSar 1128353099 (8 * i)) hx hb dM_ownName_66 rfl ?_
        refine lv_ldc2 (v := 255) hx hb hown (hts _ g_398) dM_ownName_67 ?_
        refine lv_land hx hb dM_ownName_70 ?_
        refine lv_l2i (v := ((lSar 1128353099 (8 * i)) &&& 255).toInt32) hx hb dM_ownName_71 rfl ?_
        refine lv_topi (nm_r (e' := nI (pKey i)) (by rw [lSar_int _ (by omega), pKey_by i (by omega)]) ?_)
        refine n_callV (wc := [(h0, .inr (3, mF q (th) (tz))), (q 3, .inl (ca 1, 9600, .inl (b1))), (q 4, .inl (ca 0, 6, .inl (kd))), (q 5, .inl (ca 0, 6, .inl (p1))), (q 10, .inl (ca 1, 1600, .inl (n1))), (q 11, .inl (ca 1, 1600, .inl (x1)))]) (wr := []) C [0, 1, 2, 3, 4, 5] [] rfl rfl rfl rfl (by decide) (fun hp => va_runV (rest := []) S (c_M_comeIn l D ca s0 a0 Z h0 q th tz k0 k hk0 hk b1 kd p1 n1 x1 hkd (takeR (wid k) (takeL (wid k) c0 32) pKey i) hI.1 (takeR_lt _ (takeL_lt _ hp0) i) (pKey i) (pKey_lt _) _) (cwV 2 hts (gV g_354 g_355 g_13 g_34 g_356) rfl rfl rfl (by decide +kernel) ⟨Nat.le_of_ble_eq_true rfl, Nat.le_of_ble_eq_true rfl⟩) ⟨hp.1, n_recv C 0 3 rfl rfl, hp.2⟩ rfl rfl hl.1 rfl (lv_room (Nat.le_of_ble_eq_true rfl)) dM_ownName_72 ⟨Nat.le_of_ble_eq_true rfl, Nat.le_of_ble_eq_true rfl⟩) (fun u H locs hp C => ?_)
        replace C : Cx D ca s0 A s [(h0, .inr (3, mF q (th) (tz))), (q 3, .inl (ca 1, 9600, .inl (u.1))), (q 4, .inl (ca 0, 6, .inl (kd))), (q 5, .inl (ca 0, 6, .inl (u.2.1))), (q 10, .inl (ca 1, 1600, .inl (u.2.2.1))), (q 11, .inl (ca 1, 1600, .inl (u.2.2.2)))] H locs := C.re [0, 1, 2, 3, 4, 5] rfl rfl
        obtain ⟨b10, p10, n10, x10⟩ := u
        have h10 := hI.tr hp
        replace C : Cx D ca s0 A s [(h0, .inr (3, mF q (th) (tz))), (q 3, .inl (ca 1, 9600, .inl (b10))), (q 4, .inl (ca 0, 6, .inl (kd))), (q 5, .inl (ca 0, 6, .inl (p10))), (q 10, .inl (ca 1, 1600, .inl (n10))), (q 11, .inl (ca 1, 1600, .inl (x10)))] H locs := C
        refine lv_iinc (k := 0) (v := nI (i + 1)) hx hb dM_ownName_75 hl rfl (n_inc1 _) (Nat.le_of_ble_eq_true rfl) rfl (fun ls hl => ?_)
        replace hl : lv_has ls 7 [(6, .int (nI (i + 1))), (5, .int (nI 4)), (3, .long (1128353099)), (0, .ref (h0)), (1, .int (nI k0)), (2, .int (nI 1))] := hl
        refine lv_goto (tgt := 39) hx hb dM_ownName_78 (by decide) ?_
        exact ih_lp39 (i + 1) _ _ _ _ _ _ _ (by omega) (by omega) h10 C (lv_sub hl [0, 1, 2, 3, 4, 5] rfl)
  exact lp39 (4 + 1) 0 _ _ _ _ _ _ _ (by omega) (by omega) h9 C (lv_sub hl [0, 1, 2, 3, 4, 5] rfl)
abbrev rm_M_ownNameT : Room := { frames := 7, cells := 0, slots := 0, locals := 161 }
set_option maxHeartbeats 4000000 in
set_option maxRecDepth 100000 in
theorem c_M_ownNameT (l : Launch) (D : va_G) (ca : Nat → ClassId) (s0 : State) (a0 : Array Value) (Z : Wd a0 s0) (h0 : Nat) (q : Nat → Nat) (th tz : Int32) (k0 k : Nat) (hk0 : k0 < 6) (hk : k < 16) (bt kd pl nw nx : Nat → Int32) (hkd : kd k0 = nI k) (c0 : Co) (hS : mS bt pl k0 c0) (hp0 : c0.2 < wid k)  : CtV l yM_ownName [.code yM_ownName cM_ownName 7 none] rm_M_ownNameT 0 0 D ca s0 [.ref (h0), .int (nI k0), .int (nI 0)] [(h0, .inr (3, mF q (th) (tz))), (q 3, .inl (ca 1, 9600, .inl (bt))), (q 4, .inl (ca 0, 6, .inl (kd))), (q 5, .inl (ca 0, 6, .inl (pl))), (q 10, .inl (ca 1, 1600, .inl (nw))), (q 11, .inl (ca 1, 1600, .inl (nx)))] (S := (Nat → Int32) × (Nat → Int32) × (Nat → Int32) × (Nat → Int32)) (fun u => mR bt pl k0 (takeS (wid k) c0 pTup 9) u.1 u.2.1) (fun u => [(h0, .inr (3, mF q th tz)), (q 3, .inl (ca 1, 9600, .inl u.1)), (q 4, .inl (ca 0, 6, .inl kd)), (q 5, .inl (ca 0, 6, .inl u.2.1)), (q 10, .inl (ca 1, 1600, .inl u.2.2.1)), (q 11, .inl (ca 1, 1600, .inl u.2.2.2))]) := by
  refine ctV_of (cc := cM_ownName) (maxL := 7) (own := RM) Z rfl (by decide) rfl (Nat.le_of_ble_eq_true rfl) ?_
  intro p e s m args below meth c A ls Q S hnm ret C hl
  have hx := S.1
  have hb := S.2.1
  have hown := S.2.2.2.1
  have hts := S.2.2.2.2
  generalize s.heap = H at C ⊢
  generalize ([] : List Loc) = locs at C ⊢
  replace hl : lv_has ls 7 [(0, .ref (h0)), (1, .int (nI k0)), (2, .int (nI 0))] := hl
  refine lv_iload_n hx hb dM_ownName_0 rfl (lv_at hl 2 rfl) ?_
  refine n_if_eq (tgt := 10) S (by omega) dM_ownName_1 (by decide) (fun hc => ?_) (fun hc => False.elim (by omega))
  refine lv_ldc2 (v := 8314005987550852436) hx hb hown (hts _ g_397) dM_ownName_10 ?_
  refine lv_lstore_n hx hb dM_ownName_13 rfl hl (Nat.le_of_ble_eq_true rfl) rfl (fun ls hl => ?_)
  replace hl : lv_has ls 7 [(3, .long (8314005987550852436)), (0, .ref (h0)), (1, .int (nI k0)), (2, .int (nI 0))] := hl
  refine lv_iload_n hx hb dM_ownName_14 rfl (lv_at hl 3 rfl) ?_
  refine n_if_eq (tgt := 22) S (by omega) dM_ownName_15 (by decide) (fun hc => ?_) (fun hc => False.elim (by omega))
  refine lv_bipush (v := nI 9) hx hb dM_ownName_22 (by decide) ?_
  refine lv_istore hx hb dM_ownName_24 hl (Nat.le_of_ble_eq_true rfl) rfl (fun ls hl => ?_)
  replace hl : lv_has ls 7 [(5, .int (nI 9)), (3, .long (8314005987550852436)), (0, .ref (h0)), (1, .int (nI k0)), (2, .int (nI 0))] := hl
  refine lv_aload_n hx hb dM_ownName_26 rfl (lv_at hl 2 rfl) ?_
  refine lv_iload_n hx hb dM_ownName_27 rfl (lv_at hl 3 rfl) ?_
  refine lv_bipush (v := nI 8) hx hb dM_ownName_28 (by decide) ?_
  refine lv_iload hx hb dM_ownName_30 (lv_at hl 0 rfl) ?_
  refine n_mul S dM_ownName_32 ?_
  refine n_callV (wc := [(h0, .inr (3, mF q (th) (tz))), (q 3, .inl (ca 1, 9600, .inl (bt))), (q 4, .inl (ca 0, 6, .inl (kd))), (q 5, .inl (ca 0, 6, .inl (pl))), (q 10, .inl (ca 1, 1600, .inl (nw))), (q 11, .inl (ca 1, 1600, .inl (nx)))]) (wr := []) C [0, 1, 2, 3, 4, 5] [] rfl rfl rfl rfl (by decide) (fun hp => va_runV (rest := []) S (c_M_leftOf l D ca s0 a0 Z h0 q th tz k0 k hk0 hk bt kd pl nw nx hkd (c0) (mR.rf hS).1 hp0 72 (by decide) _) (cwV 2 hts (gV g_348 g_349 g_12 g_34 g_350) rfl rfl rfl (by decide +kernel) ⟨Nat.le_of_ble_eq_true rfl, Nat.le_of_ble_eq_true rfl⟩) ⟨hp.1, n_recv C 0 3 rfl rfl, hp.2⟩ rfl rfl hl.1 rfl (lv_room (Nat.le_of_ble_eq_true rfl)) dM_ownName_33 ⟨Nat.le_of_ble_eq_true rfl, Nat.le_of_ble_eq_true rfl⟩) (fun u H locs hp C => ?_)
  replace C : Cx D ca s0 A s [(h0, .inr (3, mF q (th) (tz))), (q 3, .inl (ca 1, 9600, .inl (u.1))), (q 4, .inl (ca 0, 6, .inl (kd))), (q 5, .inl (ca 0, 6, .inl (u.2.1))), (q 10, .inl (ca 1, 1600, .inl (u.2.2.1))), (q 11, .inl (ca 1, 1600, .inl (u.2.2.2)))] H locs := C.re [0, 1, 2, 3, 4, 5] rfl rfl
  obtain ⟨b11, p11, n11, x11⟩ := u
  have h11 := (mR.rf hS).tr hp
  replace C : Cx D ca s0 A s [(h0, .inr (3, mF q (th) (tz))), (q 3, .inl (ca 1, 9600, .inl (b11))), (q 4, .inl (ca 0, 6, .inl (kd))), (q 5, .inl (ca 0, 6, .inl (p11))), (q 10, .inl (ca 1, 1600, .inl (n11))), (q 11, .inl (ca 1, 1600, .inl (x11)))] H locs := C
  refine lv_iconst (v := nI 0) hx hb dM_ownName_36 (by decide) ?_
  refine lv_istore hx hb dM_ownName_37 hl (Nat.le_of_ble_eq_true rfl) rfl (fun ls hl => ?_)
  replace hl : lv_has ls 7 [(6, .int (nI 0)), (5, .int (nI 9)), (3, .long (8314005987550852436)), (0, .ref (h0)), (1, .int (nI k0)), (2, .int (nI 0))] := hl
  have lp39 : ∀ (nf : Nat) (i : Nat) (b1 : Nat → Int32) (p1 : Nat → Int32) (n1 : Nat → Int32) (x1 : Nat → Int32) (H : Heap) (locs : List Loc) (ls : Array Slot), 9 - i < nf → i ≤ 9 → mR bt pl k0 (takeR (wid k) (takeL (wid k) c0 72) pTup i) b1 p1 → Cx D ca s0 A s [(h0, .inr (3, mF q (th) (tz))), (q 3, .inl (ca 1, 9600, .inl (b1))), (q 4, .inl (ca 0, 6, .inl (kd))), (q 5, .inl (ca 0, 6, .inl (p1))), (q 10, .inl (ca 1, 1600, .inl (n1))), (q 11, .inl (ca 1, 1600, .inl (x1)))] H locs → lv_has ls 7 [(6, .int (nI i)), (5, .int (nI 9)), (3, .long (8314005987550852436)), (0, .ref (h0)), (1, .int (nI k0)), (2, .int (nI 0))] → W p l e rm_M_ownNameT s m args below meth c H locs 0 0 Q (F0 m 39 ls []) := by
    intro nf
    induction nf with
    | zero => intro i b1 p1 n1 x1 H locs ls hn; exact absurd hn (Nat.not_lt_zero _)
    | succ nf ih_lp39 =>
      intro i b1 p1 n1 x1 H locs ls hn lp39_le hI C hl
      refine lv_iload hx hb dM_ownName_39 (lv_at hl 0 rfl) ?_
      refine lv_iload hx hb dM_ownName_41 (lv_at hl 1 rfl) ?_
      refine n_icmp_ge (tgt := 81) S (by omega) (by omega) dM_ownName_43 (by decide) (fun hc43 => ?_) (fun hc43 => ?_)
      · skip
        exact ret ((b1, p1, n1, x1)) _ _ _ _ _ _ (Nat.le_refl _) (Nat.le_refl _) (show mR bt pl k0 (takeR (wid k) (takeL (wid k) c0 72) pTup 9) b1 p1 from (show i = 9 by omega) ▸ hI) C dM_ownName_81
      · skip
        refine lv_aload_n hx hb dM_ownName_46 rfl (lv_at hl 3 rfl) ?_
        refine lv_iload_n hx hb dM_ownName_47 rfl (lv_at hl 4 rfl) ?_
        refine lv_iload hx hb dM_ownName_48 (lv_at hl 0 rfl) ?_
        refine lv_bipush (v := nI 8) hx hb dM_ownName_50 (by decide) ?_
        refine n_icmp_ne (tgt := 60) S (by omega) (by omega) dM_ownName_52 (by decide) (fun hc52 => ?_) (fun hc52 => ?_)
        · skip
          refine lv_lload_n hx hb dM_ownName_60 rfl (lv_at hl 2 rfl) ?_
          refine lv_bipush (v := nI 8) hx hb dM_ownName_61 (by decide) ?_
          refine lv_iload hx hb dM_ownName_63 (lv_at hl 0 rfl) ?_
          refine n_mul S dM_ownName_65 ?_
          refine lv_lshr (v := lSar 8314005987550852436 (8 * i)) hx hb dM_ownName_66 rfl ?_
          refine lv_ldc2 (v := 255) hx hb hown (hts _ g_398) dM_ownName_67 ?_
          refine lv_land hx hb dM_ownName_70 ?_
          refine lv_l2i (v := ((lSar 8314005987550852436 (8 * i)) &&& 255).toInt32) hx hb dM_ownName_71 rfl ?_
          refine lv_topi (nm_r (e' := nI (pTup i)) (by rw [lSar_int _ (by omega), pTup_by i (by omega)]) ?_)
          refine n_callV (wc := [(h0, .inr (3, mF q (th) (tz))), (q 3, .inl (ca 1, 9600, .inl (b1))), (q 4, .inl (ca 0, 6, .inl (kd))), (q 5, .inl (ca 0, 6, .inl (p1))), (q 10, .inl (ca 1, 1600, .inl (n1))), (q 11, .inl (ca 1, 1600, .inl (x1)))]) (wr := []) C [0, 1, 2, 3, 4, 5] [] rfl rfl rfl rfl (by decide) (fun hp => va_runV (rest := []) S (c_M_comeIn l D ca s0 a0 Z h0 q th tz k0 k hk0 hk b1 kd p1 n1 x1 hkd (takeR (wid k) (takeL (wid k) c0 72) pTup i) hI.1 (takeR_lt _ (takeL_lt _ hp0) i) (pTup i) (pTup_lt _) _) (cwV 2 hts (gV g_354 g_355 g_13 g_34 g_356) rfl rfl rfl (by decide +kernel) ⟨Nat.le_of_ble_eq_true rfl, Nat.le_of_ble_eq_true rfl⟩) ⟨hp.1, n_recv C 0 3 rfl rfl, hp.2⟩ rfl rfl hl.1 rfl (lv_room (Nat.le_of_ble_eq_true rfl)) dM_ownName_72 ⟨Nat.le_of_ble_eq_true rfl, Nat.le_of_ble_eq_true rfl⟩) (fun u H locs hp C => ?_)
          replace C : Cx D ca s0 A s [(h0, .inr (3, mF q (th) (tz))), (q 3, .inl (ca 1, 9600, .inl (u.1))), (q 4, .inl (ca 0, 6, .inl (kd))), (q 5, .inl (ca 0, 6, .inl (u.2.1))), (q 10, .inl (ca 1, 1600, .inl (u.2.2.1))), (q 11, .inl (ca 1, 1600, .inl (u.2.2.2)))] H locs := C.re [0, 1, 2, 3, 4, 5] rfl rfl
          obtain ⟨b12, p12, n12, x12⟩ := u
          have h12 := hI.tr hp
          replace C : Cx D ca s0 A s [(h0, .inr (3, mF q (th) (tz))), (q 3, .inl (ca 1, 9600, .inl (b12))), (q 4, .inl (ca 0, 6, .inl (kd))), (q 5, .inl (ca 0, 6, .inl (p12))), (q 10, .inl (ca 1, 1600, .inl (n12))), (q 11, .inl (ca 1, 1600, .inl (x12)))] H locs := C
          refine lv_iinc (k := 0) (v := nI (i + 1)) hx hb dM_ownName_75 hl rfl (n_inc1 _) (Nat.le_of_ble_eq_true rfl) rfl (fun ls hl => ?_)
          replace hl : lv_has ls 7 [(6, .int (nI (i + 1))), (5, .int (nI 9)), (3, .long (8314005987550852436)), (0, .ref (h0)), (1, .int (nI k0)), (2, .int (nI 0))] := hl
          refine lv_goto (tgt := 39) hx hb dM_ownName_78 (by decide) ?_
          exact ih_lp39 (i + 1) _ _ _ _ _ _ _ (by omega) (by omega) h12 C (lv_sub hl [0, 1, 2, 3, 4, 5] rfl)
        · skip
          refine lv_bipush (v := nI 104) hx hb dM_ownName_55 (by decide) ?_
          refine lv_topi (nm_r (e' := nI (pTup i)) (by rw [show i = 8 by omega]; rfl) ?_)
          refine lv_goto (tgt := 72) hx hb dM_ownName_57 (by decide) ?_
          refine n_callV (wc := [(h0, .inr (3, mF q (th) (tz))), (q 3, .inl (ca 1, 9600, .inl (b1))), (q 4, .inl (ca 0, 6, .inl (kd))), (q 5, .inl (ca 0, 6, .inl (p1))), (q 10, .inl (ca 1, 1600, .inl (n1))), (q 11, .inl (ca 1, 1600, .inl (x1)))]) (wr := []) C [0, 1, 2, 3, 4, 5] [] rfl rfl rfl rfl (by decide) (fun hp => va_runV (rest := []) S (c_M_comeIn l D ca s0 a0 Z h0 q th tz k0 k hk0 hk b1 kd p1 n1 x1 hkd (takeR (wid k) (takeL (wid k) c0 72) pTup i) hI.1 (takeR_lt _ (takeL_lt _ hp0) i) (pTup i) (pTup_lt _) _) (cwV 2 hts (gV g_354 g_355 g_13 g_34 g_356) rfl rfl rfl (by decide +kernel) ⟨Nat.le_of_ble_eq_true rfl, Nat.le_of_ble_eq_true rfl⟩) ⟨hp.1, n_recv C 0 3 rfl rfl, hp.2⟩ rfl rfl hl.1 rfl (lv_room (Nat.le_of_ble_eq_true rfl)) dM_ownName_72 ⟨Nat.le_of_ble_eq_true rfl, Nat.le_of_ble_eq_true rfl⟩) (fun u H locs hp C => ?_)
          replace C : Cx D ca s0 A s [(h0, .inr (3, mF q (th) (tz))), (q 3, .inl (ca 1, 9600, .inl (u.1))), (q 4, .inl (ca 0, 6, .inl (kd))), (q 5, .inl (ca 0, 6, .inl (u.2.1))), (q 10, .inl (ca 1, 1600, .inl (u.2.2.1))), (q 11, .inl (ca 1, 1600, .inl (u.2.2.2)))] H locs := C.re [0, 1, 2, 3, 4, 5] rfl rfl
          obtain ⟨b13, p13, n13, x13⟩ := u
          have h13 := hI.tr hp
          replace C : Cx D ca s0 A s [(h0, .inr (3, mF q (th) (tz))), (q 3, .inl (ca 1, 9600, .inl (b13))), (q 4, .inl (ca 0, 6, .inl (kd))), (q 5, .inl (ca 0, 6, .inl (p13))), (q 10, .inl (ca 1, 1600, .inl (n13))), (q 11, .inl (ca 1, 1600, .inl (x13)))] H locs := C
          refine lv_iinc (k := 0) (v := nI (i + 1)) hx hb dM_ownName_75 hl rfl (n_inc1 _) (Nat.le_of_ble_eq_true rfl) rfl (fun ls hl => ?_)
          replace hl : lv_has ls 7 [(6, .int (nI (i + 1))), (5, .int (nI 9)), (3, .long (8314005987550852436)), (0, .ref (h0)), (1, .int (nI k0)), (2, .int (nI 0))] := hl
          refine lv_goto (tgt := 39) hx hb dM_ownName_78 (by decide) ?_
          exact ih_lp39 (i + 1) _ _ _ _ _ _ _ (by omega) (by omega) h13 C (lv_sub hl [0, 1, 2, 3, 4, 5] rfl)
  exact lp39 (9 + 1) 0 _ _ _ _ _ _ _ (by omega) (by omega) h11 C (lv_sub hl [0, 1, 2, 3, 4, 5] rfl)
abbrev rm_M_start : Room := { frames := 8, cells := 0, slots := 0, locals := 187 }
set_option maxHeartbeats 4000000 in
set_option maxRecDepth 100000 in
theorem c_M_start (l : Launch) (D : va_G) (ca : Nat → ClassId) (s0 : State) (a0 : Array Value) (Z : Wd a0 s0) (h0 : Nat) (q : Nat → Nat) (th tz : Int32) (F : MFn) (k0 k : Nat) (hk0 : k0 < 6) (hk : k < 16) (R : Nat → Rw) (hR : ∀ r, r < 3 → mRo (F 1) (F 2) r (R (r + 1))) : CtV l yM_start [.code yM_start cM_start 4 none] rm_M_start 0 0 D ca s0 [.ref (h0), .int (nI k0), .int (nI k)] [(h0, .inr (3, mF q (th) (tz))), (q 1, .inl (ca 0, 3, .inl (F 1))), (q 2, .inl (ca 0, 900, .inl (F 2))), (q 3, .inl (ca 1, 9600, .inl (F 3))), (q 4, .inl (ca 0, 6, .inl (F 4))), (q 5, .inl (ca 0, 6, .inl (F 5))), (q 6, .inl (ca 0, 6, .inl (F 6))), (q 7, .inl (ca 1, 6, .inl (F 7))), (q 8, .inl (ca 0, 6, .inl (F 8))), (q 9, .inl (ca 0, 6, .inl (F 9))), (q 10, .inl (ca 1, 1600, .inl (F 10))), (q 11, .inl (ca 1, 1600, .inl (F 11)))] (S := MFn) (fun u => mU F u k0 (beginC k R, k, beginE k R, nI 0, false, -1)) (fun u => [(h0, .inr (3, mF q (th) (tz))), (q 1, .inl (ca 0, 3, .inl (F 1))), (q 2, .inl (ca 0, 900, .inl (F 2))), (q 3, .inl (ca 1, 9600, .inl (u 3))), (q 4, .inl (ca 0, 6, .inl (u 4))), (q 5, .inl (ca 0, 6, .inl (u 5))), (q 6, .inl (ca 0, 6, .inl (u 6))), (q 7, .inl (ca 1, 6, .inl (u 7))), (q 8, .inl (ca 0, 6, .inl (u 8))), (q 9, .inl (ca 0, 6, .inl (u 9))), (q 10, .inl (ca 1, 1600, .inl (u 10))), (q 11, .inl (ca 1, 1600, .inl (u 11)))]) := by
  refine ctV_of (cc := cM_start) (maxL := 4) (own := RM) Z rfl (by decide) rfl (Nat.le_of_ble_eq_true rfl) ?_
  intro p e s m args below meth c A ls Q S hnm ret C hl
  have hx := S.1
  have hb := S.2.1
  have hown := S.2.2.2.1
  have hts := S.2.2.2.2
  generalize s.heap = H at C ⊢
  generalize ([] : List Loc) = locs at C ⊢
  replace hl : lv_has ls 4 [(0, .ref (h0)), (1, .int (nI k0)), (2, .int (nI k))] := hl
  refine lv_iconst (v := nI 0) hx hb dM_start_0 (by decide) ?_
  refine lv_istore_n hx hb dM_start_1 rfl hl (Nat.le_of_ble_eq_true rfl) rfl (fun ls hl => ?_)
  replace hl : lv_has ls 4 [(3, .int (nI 0)), (0, .ref (h0)), (1, .int (nI k0)), (2, .int (nI k))] := hl
  have lp2 : ∀ (nf : Nat) (i : Nat) (bz : Nat → Int32) (H : Heap) (locs : List Loc) (ls : Array Slot), 1600 - i < nf → i ≤ 1600 → rS bz (F 3) (1600 * k0) i (fun _ => false) → Cx D ca s0 A s [(h0, .inr (3, mF q (th) (tz))), (q 1, .inl (ca 0, 3, .inl (F 1))), (q 2, .inl (ca 0, 900, .inl (F 2))), (q 3, .inl (ca 1, 9600, .inl (bz))), (q 4, .inl (ca 0, 6, .inl (F 4))), (q 5, .inl (ca 0, 6, .inl (F 5))), (q 6, .inl (ca 0, 6, .inl (F 6))), (q 7, .inl (ca 1, 6, .inl (F 7))), (q 8, .inl (ca 0, 6, .inl (F 8))), (q 9, .inl (ca 0, 6, .inl (F 9))), (q 10, .inl (ca 1, 1600, .inl (F 10))), (q 11, .inl (ca 1, 1600, .inl (F 11)))] H locs → lv_has ls 4 [(3, .int (nI i)), (0, .ref (h0)), (1, .int (nI k0)), (2, .int (nI k))] → W p l e rm_M_start s m args below meth c H locs 0 0 Q (F0 m 2 ls []) := by
    intro nf
    induction nf with
    | zero => intro i bz H locs ls hn; exact absurd hn (Nat.not_lt_zero _)
    | succ nf ih_lp2 =>
      intro i bz H locs ls hn lp2_le hI C hl
      refine lv_iload_n hx hb dM_start_2 rfl (lv_at hl 0 rfl) ?_
      refine lv_sipush (v := nI 1600) hx hb dM_start_3 (by decide) ?_
      refine n_icmp_ge (tgt := 28) S (by omega) (by omega) dM_start_6 (by decide) (fun hc6 => ?_) (fun hc6 => ?_)
      · skip
        refine lv_aload_n hx hb dM_start_28 rfl (lv_at hl 1 rfl) ?_
        refine n_get S C hin_M 0 rfl rfl 6 (by decide) g_408 rfl dM_start_29 ?_
        refine lv_iload_n hx hb dM_start_32 rfl (lv_at hl 2 rfl) ?_
        refine lv_iload_n hx hb dM_start_33 rfl (lv_at hl 3 rfl) ?_
        refine n_iast S C 4 rfl (i := k0) (by omega) (by decide) dM_start_34 (fun H locs C => ?_)
        replace C : Cx D ca s0 A s [(h0, .inr (3, mF q (th) (tz))), (q 1, .inl (ca 0, 3, .inl (F 1))), (q 2, .inl (ca 0, 900, .inl (F 2))), (q 3, .inl (ca 1, 9600, .inl (bz))), (q 4, .inl (ca 0, 6, .inl (upd (F 4) k0 (nI k)))), (q 5, .inl (ca 0, 6, .inl (F 5))), (q 6, .inl (ca 0, 6, .inl (F 6))), (q 7, .inl (ca 1, 6, .inl (F 7))), (q 8, .inl (ca 0, 6, .inl (F 8))), (q 9, .inl (ca 0, 6, .inl (F 9))), (q 10, .inl (ca 1, 1600, .inl (F 10))), (q 11, .inl (ca 1, 1600, .inl (F 11)))] H locs := C
        refine lv_aload_n hx hb dM_start_35 rfl (lv_at hl 1 rfl) ?_
        refine n_get S C hin_M 0 rfl rfl 7 (by decide) g_409 rfl dM_start_36 ?_
        refine lv_iload_n hx hb dM_start_39 rfl (lv_at hl 2 rfl) ?_
        refine lv_iconst (v := nI 0) hx hb dM_start_40 (by decide) ?_
        refine n_iast S C 5 rfl (i := k0) (by omega) (by decide) dM_start_41 (fun H locs C => ?_)
        replace C : Cx D ca s0 A s [(h0, .inr (3, mF q (th) (tz))), (q 1, .inl (ca 0, 3, .inl (F 1))), (q 2, .inl (ca 0, 900, .inl (F 2))), (q 3, .inl (ca 1, 9600, .inl (bz))), (q 4, .inl (ca 0, 6, .inl (upd (F 4) k0 (nI k)))), (q 5, .inl (ca 0, 6, .inl (upd (F 5) k0 (nI 0)))), (q 6, .inl (ca 0, 6, .inl (F 6))), (q 7, .inl (ca 1, 6, .inl (F 7))), (q 8, .inl (ca 0, 6, .inl (F 8))), (q 9, .inl (ca 0, 6, .inl (F 9))), (q 10, .inl (ca 1, 1600, .inl (F 10))), (q 11, .inl (ca 1, 1600, .inl (F 11)))] H locs := C
        refine lv_aload_n hx hb dM_start_42 rfl (lv_at hl 1 rfl) ?_
        refine n_get S C hin_M 0 rfl rfl 9 (by decide) g_411 rfl dM_start_43 ?_
        refine lv_iload_n hx hb dM_start_46 rfl (lv_at hl 2 rfl) ?_
        refine lv_iconst (v := nI 0) hx hb dM_start_47 (by decide) ?_
        refine n_zast S C 7 rfl (i := k0) (by omega) (by decide) dM_start_48 (fun H locs C => ?_)
        replace C : Cx D ca s0 A s [(h0, .inr (3, mF q (th) (tz))), (q 1, .inl (ca 0, 3, .inl (F 1))), (q 2, .inl (ca 0, 900, .inl (F 2))), (q 3, .inl (ca 1, 9600, .inl (bz))), (q 4, .inl (ca 0, 6, .inl (upd (F 4) k0 (nI k)))), (q 5, .inl (ca 0, 6, .inl (upd (F 5) k0 (nI 0)))), (q 6, .inl (ca 0, 6, .inl (F 6))), (q 7, .inl (ca 1, 6, .inl (upd (F 7) k0 (vp_nar .boolean (nI 0))))), (q 8, .inl (ca 0, 6, .inl (F 8))), (q 9, .inl (ca 0, 6, .inl (F 9))), (q 10, .inl (ca 1, 1600, .inl (F 10))), (q 11, .inl (ca 1, 1600, .inl (F 11)))] H locs := C
        refine lv_aload_n hx hb dM_start_49 rfl (lv_at hl 1 rfl) ?_
        refine n_get S C hin_M 0 rfl rfl 10 (by decide) g_412 rfl dM_start_50 ?_
        refine lv_iload_n hx hb dM_start_53 rfl (lv_at hl 2 rfl) ?_
        refine lv_iconst (v := nI 0) hx hb dM_start_54 (by decide) ?_
        refine n_iast S C 8 rfl (i := k0) (by omega) (by decide) dM_start_55 (fun H locs C => ?_)
        replace C : Cx D ca s0 A s [(h0, .inr (3, mF q (th) (tz))), (q 1, .inl (ca 0, 3, .inl (F 1))), (q 2, .inl (ca 0, 900, .inl (F 2))), (q 3, .inl (ca 1, 9600, .inl (bz))), (q 4, .inl (ca 0, 6, .inl (upd (F 4) k0 (nI k)))), (q 5, .inl (ca 0, 6, .inl (upd (F 5) k0 (nI 0)))), (q 6, .inl (ca 0, 6, .inl (F 6))), (q 7, .inl (ca 1, 6, .inl (upd (F 7) k0 (vp_nar .boolean (nI 0))))), (q 8, .inl (ca 0, 6, .inl (upd (F 8) k0 (nI 0)))), (q 9, .inl (ca 0, 6, .inl (F 9))), (q 10, .inl (ca 1, 1600, .inl (F 10))), (q 11, .inl (ca 1, 1600, .inl (F 11)))] H locs := C
        refine lv_aload_n hx hb dM_start_56 rfl (lv_at hl 1 rfl) ?_
        refine n_get S C hin_M 0 rfl rfl 11 (by decide) g_413 rfl dM_start_57 ?_
        refine lv_iload_n hx hb dM_start_60 rfl (lv_at hl 2 rfl) ?_
        refine lv_iconst (v := (-1)) hx hb dM_start_61 (by decide) ?_
        refine n_iast S C 9 rfl (i := k0) (by omega) (by decide) dM_start_62 (fun H locs C => ?_)
        replace C : Cx D ca s0 A s [(h0, .inr (3, mF q (th) (tz))), (q 1, .inl (ca 0, 3, .inl (F 1))), (q 2, .inl (ca 0, 900, .inl (F 2))), (q 3, .inl (ca 1, 9600, .inl (bz))), (q 4, .inl (ca 0, 6, .inl (upd (F 4) k0 (nI k)))), (q 5, .inl (ca 0, 6, .inl (upd (F 5) k0 (nI 0)))), (q 6, .inl (ca 0, 6, .inl (F 6))), (q 7, .inl (ca 1, 6, .inl (upd (F 7) k0 (vp_nar .boolean (nI 0))))), (q 8, .inl (ca 0, 6, .inl (upd (F 8) k0 (nI 0)))), (q 9, .inl (ca 0, 6, .inl (upd (F 9) k0 ((-1))))), (q 10, .inl (ca 1, 1600, .inl (F 10))), (q 11, .inl (ca 1, 1600, .inl (F 11)))] H locs := C
        replace hI : rS bz (F 3) (1600 * k0) 1600 (fun _ => false) := eq_of_le hc6 lp2_le ▸ hI
        obtain ⟨hr0, hn0, ht0⟩ := hR 0 (by decide)
        obtain ⟨hr1, hn1, ht1⟩ := hR 1 (by decide)
        obtain ⟨hr2, hn2, ht2⟩ := hR 2 (by decide)
        replace hn0 : (R 1).2 ≤ 300 := hn0
        replace hn1 : (R 2).2 ≤ 300 := hn1
        replace hn2 : (R 3).2 ≤ 300 := hn2
        have hz0 : mR (F 3) (F 5) k0 zeroC bz (upd (F 5) k0 (nI 0)) := mR_s hI
        have hwi := wid_in k hk
        have hzl : zeroC.2 < wid k := show 0 < wid k by omega
        have hcs : (k < 4) ∨ (4 ≤ k ∧ k < 6) ∨ (6 ≤ k ∧ k < 8 ∧ (R 1).2 + (R 2).2 = 0) ∨ (6 ≤ k ∧ k < 8 ∧ (R 1).2 + (R 2).2 ≠ 0) ∨ (8 ≤ k ∧ k < 12) ∨ (12 ≤ k) := by omega
        rcases hcs with hA | hA | hA | hA | hA | hA
        · skip
          refine lv_iload_n hx hb dM_start_63 rfl (lv_at hl 3 rfl) ?_
          refine lv_bipush (v := nI 6) hx hb dM_start_64 (by decide) ?_
          refine n_icmp_eq (tgt := 75) S (by omega) (by omega) dM_start_66 (by decide) (fun hc => False.elim (by omega)) (fun hc => ?_)
          refine lv_iload_n hx hb dM_start_69 rfl (lv_at hl 3 rfl) ?_
          refine lv_bipush (v := nI 7) hx hb dM_start_70 (by decide) ?_
          refine n_icmp_ne (tgt := 95) S (by omega) (by omega) dM_start_72 (by decide) (fun hc => ?_) (fun hc => False.elim (by omega))
          refine lv_iconst (v := nI 0) hx hb dM_start_95 (by decide) ?_
          refine lv_istore_n hx hb dM_start_96 rfl hl (Nat.le_of_ble_eq_true rfl) rfl (fun ls hl => ?_)
          replace hl : lv_has ls 4 [(3, .int (nI 0)), (0, .ref (h0)), (1, .int (nI k0)), (2, .int (nI k))] := hl
          refine lv_aload_n hx hb dM_start_97 rfl (lv_at hl 1 rfl) ?_
          refine n_get S C hin_M 0 rfl rfl 8 (by decide) g_410 rfl dM_start_98 ?_
          refine lv_iload_n hx hb dM_start_101 rfl (lv_at hl 2 rfl) ?_
          refine lv_iload_n hx hb dM_start_102 rfl (lv_at hl 3 rfl) ?_
          refine lv_iconst (v := nI 4) hx hb dM_start_103 (by decide) ?_
          refine n_icmp_ge (tgt := 112) S (by omega) (by omega) dM_start_104 (by decide) (fun hc => False.elim (by omega)) (fun hc => ?_)
          refine lv_bipush (v := nI 6) hx hb dM_start_107 (by decide) ?_
          refine lv_goto (tgt := 128) hx hb dM_start_109 (by decide) ?_
          refine n_iast S C 6 rfl (i := k0) (by omega) (by decide) dM_start_128 (fun H locs C => ?_)
          replace C : Cx D ca s0 A s [(h0, .inr (3, mF q (th) (tz))), (q 1, .inl (ca 0, 3, .inl (F 1))), (q 2, .inl (ca 0, 900, .inl (F 2))), (q 3, .inl (ca 1, 9600, .inl (bz))), (q 4, .inl (ca 0, 6, .inl (upd (F 4) k0 (nI k)))), (q 5, .inl (ca 0, 6, .inl (upd (F 5) k0 (nI 0)))), (q 6, .inl (ca 0, 6, .inl (upd (F 6) k0 (nI 6)))), (q 7, .inl (ca 1, 6, .inl (upd (F 7) k0 (vp_nar .boolean (nI 0))))), (q 8, .inl (ca 0, 6, .inl (upd (F 8) k0 (nI 0)))), (q 9, .inl (ca 0, 6, .inl (upd (F 9) k0 ((-1))))), (q 10, .inl (ca 1, 1600, .inl (F 10))), (q 11, .inl (ca 1, 1600, .inl (F 11)))] H locs := C
          refine lv_iload_n hx hb dM_start_129 rfl (lv_at hl 3 rfl) ?_
          refine lv_bipush (v := nI 6) hx hb dM_start_130 (by decide) ?_
          refine n_icmp_lt (tgt := 139) S (by omega) (by omega) dM_start_132 (by decide) (fun hc => ?_) (fun hc => False.elim (by omega))
          have eC : beginC k R = zeroC := if_pos (by omega)
          have eE : beginE k R = 6 := if_pos (by omega)
          rw [eC, eE] at ret
          exact ret ((mkF bz (upd (F 4) k0 (nI k)) (upd (F 5) k0 (nI 0)) (upd (F 6) k0 (nI 6)) (upd (F 7) k0 (vp_nar .boolean (nI 0))) (upd (F 8) k0 (nI 0)) (upd (F 9) k0 (-1)) (F 10) (F 11))) _ _ _ _ _ _ (Nat.le_refl _) (Nat.le_refl _) (⟨hz0, one.up, one.up, one.up, one.up' rfl, one.up⟩) C dM_start_139
        · skip
          refine lv_iload_n hx hb dM_start_63 rfl (lv_at hl 3 rfl) ?_
          refine lv_bipush (v := nI 6) hx hb dM_start_64 (by decide) ?_
          refine n_icmp_eq (tgt := 75) S (by omega) (by omega) dM_start_66 (by decide) (fun hc => False.elim (by omega)) (fun hc => ?_)
          refine lv_iload_n hx hb dM_start_69 rfl (lv_at hl 3 rfl) ?_
          refine lv_bipush (v := nI 7) hx hb dM_start_70 (by decide) ?_
          refine n_icmp_ne (tgt := 95) S (by omega) (by omega) dM_start_72 (by decide) (fun hc => ?_) (fun hc => False.elim (by omega))
          refine lv_iconst (v := nI 0) hx hb dM_start_95 (by decide) ?_
          refine lv_istore_n hx hb dM_start_96 rfl hl (Nat.le_of_ble_eq_true rfl) rfl (fun ls hl => ?_)
          replace hl : lv_has ls 4 [(3, .int (nI 0)), (0, .ref (h0)), (1, .int (nI k0)), (2, .int (nI k))] := hl
          refine lv_aload_n hx hb dM_start_97 rfl (lv_at hl 1 rfl) ?_
          refine n_get S C hin_M 0 rfl rfl 8 (by decide) g_410 rfl dM_start_98 ?_
          refine lv_iload_n hx hb dM_start_101 rfl (lv_at hl 2 rfl) ?_
          refine lv_iload_n hx hb dM_start_102 rfl (lv_at hl 3 rfl) ?_
          refine lv_iconst (v := nI 4) hx hb dM_start_103 (by decide) ?_
          refine n_icmp_ge (tgt := 112) S (by omega) (by omega) dM_start_104 (by decide) (fun hc => ?_) (fun hc => False.elim (by omega))
          refine lv_iload_n hx hb dM_start_112 rfl (lv_at hl 3 rfl) ?_
          refine lv_bipush (v := nI 6) hx hb dM_start_113 (by decide) ?_
          refine n_icmp_lt (tgt := 122) S (by omega) (by omega) dM_start_115 (by decide) (fun hc => ?_) (fun hc => False.elim (by omega))
          refine lv_bipush (v := nI 31) hx hb dM_start_122 (by decide) ?_
          refine lv_goto (tgt := 128) hx hb dM_start_124 (by decide) ?_
          refine n_iast S C 6 rfl (i := k0) (by omega) (by decide) dM_start_128 (fun H locs C => ?_)
          replace C : Cx D ca s0 A s [(h0, .inr (3, mF q (th) (tz))), (q 1, .inl (ca 0, 3, .inl (F 1))), (q 2, .inl (ca 0, 900, .inl (F 2))), (q 3, .inl (ca 1, 9600, .inl (bz))), (q 4, .inl (ca 0, 6, .inl (upd (F 4) k0 (nI k)))), (q 5, .inl (ca 0, 6, .inl (upd (F 5) k0 (nI 0)))), (q 6, .inl (ca 0, 6, .inl (upd (F 6) k0 (nI 31)))), (q 7, .inl (ca 1, 6, .inl (upd (F 7) k0 (vp_nar .boolean (nI 0))))), (q 8, .inl (ca 0, 6, .inl (upd (F 8) k0 (nI 0)))), (q 9, .inl (ca 0, 6, .inl (upd (F 9) k0 ((-1))))), (q 10, .inl (ca 1, 1600, .inl (F 10))), (q 11, .inl (ca 1, 1600, .inl (F 11)))] H locs := C
          refine lv_iload_n hx hb dM_start_129 rfl (lv_at hl 3 rfl) ?_
          refine lv_bipush (v := nI 6) hx hb dM_start_130 (by decide) ?_
          refine n_icmp_lt (tgt := 139) S (by omega) (by omega) dM_start_132 (by decide) (fun hc => ?_) (fun hc => False.elim (by omega))
          have eC : beginC k R = zeroC := if_pos (by omega)
          have eE : beginE k R = 31 := (if_neg (by omega)).trans (if_pos (by omega))
          rw [eC, eE] at ret
          exact ret ((mkF bz (upd (F 4) k0 (nI k)) (upd (F 5) k0 (nI 0)) (upd (F 6) k0 (nI 31)) (upd (F 7) k0 (vp_nar .boolean (nI 0))) (upd (F 8) k0 (nI 0)) (upd (F 9) k0 (-1)) (F 10) (F 11))) _ _ _ _ _ _ (Nat.le_refl _) (Nat.le_refl _) (⟨hz0, one.up, one.up, one.up, one.up' rfl, one.up⟩) C dM_start_139
        · skip
          refine lv_iload_n hx hb dM_start_63 rfl (lv_at hl 3 rfl) ?_
          refine lv_bipush (v := nI 6) hx hb dM_start_64 (by decide) ?_
          refine n_icmp_eq (tgt := 75) S (by omega) (by omega) dM_start_66 (by decide) (fun hc66 => ?_) (fun hc66 => ?_)
          · skip
            refine lv_aload_n hx hb dM_start_75 rfl (lv_at hl 1 rfl) ?_
            refine n_get S C hin_M 0 rfl rfl 3 (by decide) g_405 rfl dM_start_76 ?_
            refine lv_iconst (v := nI 0) hx hb dM_start_79 (by decide) ?_
            refine n_iald S C 1 rfl (i := 0) (by omega) (by decide) dM_start_80 ?_
            refine lv_topi (nm_r (e' := nI ((R 1).2)) hr0 ?_)
            refine lv_aload_n hx hb dM_start_81 rfl (lv_at hl 1 rfl) ?_
            refine n_get S C hin_M 0 rfl rfl 3 (by decide) g_405 rfl dM_start_82 ?_
            refine lv_iconst (v := nI 1) hx hb dM_start_85 (by decide) ?_
            refine n_iald S C 1 rfl (i := 1) (by omega) (by decide) dM_start_86 ?_
            refine lv_topi (nm_r (e' := nI ((R 2).2)) hr1 ?_)
            refine n_add S dM_start_87 ?_
            refine n_if_ne (tgt := 95) S (by omega) dM_start_88 (by decide) (fun hc => False.elim (by omega)) (fun hc => ?_)
            refine lv_iconst (v := nI 1) hx hb dM_start_91 (by decide) ?_
            refine lv_goto (tgt := 96) hx hb dM_start_92 (by decide) ?_
            refine lv_istore_n hx hb dM_start_96 rfl hl (Nat.le_of_ble_eq_true rfl) rfl (fun ls hl => ?_)
            replace hl : lv_has ls 4 [(3, .int (nI 1)), (0, .ref (h0)), (1, .int (nI k0)), (2, .int (nI k))] := hl
            refine lv_aload_n hx hb dM_start_97 rfl (lv_at hl 1 rfl) ?_
            refine n_get S C hin_M 0 rfl rfl 8 (by decide) g_410 rfl dM_start_98 ?_
            refine lv_iload_n hx hb dM_start_101 rfl (lv_at hl 2 rfl) ?_
            refine lv_iload_n hx hb dM_start_102 rfl (lv_at hl 3 rfl) ?_
            refine lv_iconst (v := nI 4) hx hb dM_start_103 (by decide) ?_
            refine n_icmp_ge (tgt := 112) S (by omega) (by omega) dM_start_104 (by decide) (fun hc => ?_) (fun hc => False.elim (by omega))
            refine lv_iload_n hx hb dM_start_112 rfl (lv_at hl 3 rfl) ?_
            refine lv_bipush (v := nI 6) hx hb dM_start_113 (by decide) ?_
            refine n_icmp_lt (tgt := 122) S (by omega) (by omega) dM_start_115 (by decide) (fun hc => False.elim (by omega)) (fun hc => ?_)
            refine lv_iload_n hx hb dM_start_118 rfl (lv_at hl 0 rfl) ?_
            refine n_if_eq (tgt := 127) S (by omega) dM_start_119 (by decide) (fun hc => False.elim (by omega)) (fun hc => ?_)
            refine lv_bipush (v := nI 31) hx hb dM_start_122 (by decide) ?_
            refine lv_goto (tgt := 128) hx hb dM_start_124 (by decide) ?_
            refine n_iast S C 6 rfl (i := k0) (by omega) (by decide) dM_start_128 (fun H locs C => ?_)
            replace C : Cx D ca s0 A s [(h0, .inr (3, mF q (th) (tz))), (q 1, .inl (ca 0, 3, .inl (F 1))), (q 2, .inl (ca 0, 900, .inl (F 2))), (q 3, .inl (ca 1, 9600, .inl (bz))), (q 4, .inl (ca 0, 6, .inl (upd (F 4) k0 (nI k)))), (q 5, .inl (ca 0, 6, .inl (upd (F 5) k0 (nI 0)))), (q 6, .inl (ca 0, 6, .inl (upd (F 6) k0 (nI 31)))), (q 7, .inl (ca 1, 6, .inl (upd (F 7) k0 (vp_nar .boolean (nI 0))))), (q 8, .inl (ca 0, 6, .inl (upd (F 8) k0 (nI 0)))), (q 9, .inl (ca 0, 6, .inl (upd (F 9) k0 ((-1))))), (q 10, .inl (ca 1, 1600, .inl (F 10))), (q 11, .inl (ca 1, 1600, .inl (F 11)))] H locs := C
            refine lv_iload_n hx hb dM_start_129 rfl (lv_at hl 3 rfl) ?_
            refine lv_bipush (v := nI 6) hx hb dM_start_130 (by decide) ?_
            refine n_icmp_lt (tgt := 139) S (by omega) (by omega) dM_start_132 (by decide) (fun hc => False.elim (by omega)) (fun hc => ?_)
            refine lv_iload_n hx hb dM_start_135 rfl (lv_at hl 0 rfl) ?_
            refine n_if_eq (tgt := 140) S (by omega) dM_start_136 (by decide) (fun hc => False.elim (by omega)) (fun hc => ?_)
            have eC : beginC k R = zeroC := (if_neg (by omega)).trans ((if_pos (by omega)).trans (if_pos (by omega)))
            have eE : beginE k R = 31 := (if_neg (by omega)).trans ((if_neg (by omega)).trans ((if_pos (by omega)).trans (if_pos (by omega))))
            rw [eC, eE] at ret
            exact ret ((mkF bz (upd (F 4) k0 (nI k)) (upd (F 5) k0 (nI 0)) (upd (F 6) k0 (nI 31)) (upd (F 7) k0 (vp_nar .boolean (nI 0))) (upd (F 8) k0 (nI 0)) (upd (F 9) k0 (-1)) (F 10) (F 11))) _ _ _ _ _ _ (Nat.le_refl _) (Nat.le_refl _) (⟨hz0, one.up, one.up, one.up, one.up' rfl, one.up⟩) C dM_start_139
          · skip
            refine lv_iload_n hx hb dM_start_69 rfl (lv_at hl 3 rfl) ?_
            refine lv_bipush (v := nI 7) hx hb dM_start_70 (by decide) ?_
            refine n_icmp_ne (tgt := 95) S (by omega) (by omega) dM_start_72 (by decide) (fun hc => False.elim (by omega)) (fun hc => ?_)
            refine lv_aload_n hx hb dM_start_75 rfl (lv_at hl 1 rfl) ?_
            refine n_get S C hin_M 0 rfl rfl 3 (by decide) g_405 rfl dM_start_76 ?_
            refine lv_iconst (v := nI 0) hx hb dM_start_79 (by decide) ?_
            refine n_iald S C 1 rfl (i := 0) (by omega) (by decide) dM_start_80 ?_
            refine lv_topi (nm_r (e' := nI ((R 1).2)) hr0 ?_)
            refine lv_aload_n hx hb dM_start_81 rfl (lv_at hl 1 rfl) ?_
            refine n_get S C hin_M 0 rfl rfl 3 (by decide) g_405 rfl dM_start_82 ?_
            refine lv_iconst (v := nI 1) hx hb dM_start_85 (by decide) ?_
            refine n_iald S C 1 rfl (i := 1) (by omega) (by decide) dM_start_86 ?_
            refine lv_topi (nm_r (e' := nI ((R 2).2)) hr1 ?_)
            refine n_add S dM_start_87 ?_
            refine n_if_ne (tgt := 95) S (by omega) dM_start_88 (by decide) (fun hc => False.elim (by omega)) (fun hc => ?_)
            refine lv_iconst (v := nI 1) hx hb dM_start_91 (by decide) ?_
            refine lv_goto (tgt := 96) hx hb dM_start_92 (by decide) ?_
            refine lv_istore_n hx hb dM_start_96 rfl hl (Nat.le_of_ble_eq_true rfl) rfl (fun ls hl => ?_)
            replace hl : lv_has ls 4 [(3, .int (nI 1)), (0, .ref (h0)), (1, .int (nI k0)), (2, .int (nI k))] := hl
            refine lv_aload_n hx hb dM_start_97 rfl (lv_at hl 1 rfl) ?_
            refine n_get S C hin_M 0 rfl rfl 8 (by decide) g_410 rfl dM_start_98 ?_
            refine lv_iload_n hx hb dM_start_101 rfl (lv_at hl 2 rfl) ?_
            refine lv_iload_n hx hb dM_start_102 rfl (lv_at hl 3 rfl) ?_
            refine lv_iconst (v := nI 4) hx hb dM_start_103 (by decide) ?_
            refine n_icmp_ge (tgt := 112) S (by omega) (by omega) dM_start_104 (by decide) (fun hc => ?_) (fun hc => False.elim (by omega))
            refine lv_iload_n hx hb dM_start_112 rfl (lv_at hl 3 rfl) ?_
            refine lv_bipush (v := nI 6) hx hb dM_start_113 (by decide) ?_
            refine n_icmp_lt (tgt := 122) S (by omega) (by omega) dM_start_115 (by decide) (fun hc => False.elim (by omega)) (fun hc => ?_)
            refine lv_iload_n hx hb dM_start_118 rfl (lv_at hl 0 rfl) ?_
            refine n_if_eq (tgt := 127) S (by omega) dM_start_119 (by decide) (fun hc => False.elim (by omega)) (fun hc => ?_)
            refine lv_bipush (v := nI 31) hx hb dM_start_122 (by decide) ?_
            refine lv_goto (tgt := 128) hx hb dM_start_124 (by decide) ?_
            refine n_iast S C 6 rfl (i := k0) (by omega) (by decide) dM_start_128 (fun H locs C => ?_)
            replace C : Cx D ca s0 A s [(h0, .inr (3, mF q (th) (tz))), (q 1, .inl (ca 0, 3, .inl (F 1))), (q 2, .inl (ca 0, 900, .inl (F 2))), (q 3, .inl (ca 1, 9600, .inl (bz))), (q 4, .inl (ca 0, 6, .inl (upd (F 4) k0 (nI k)))), (q 5, .inl (ca 0, 6, .inl (upd (F 5) k0 (nI 0)))), (q 6, .inl (ca 0, 6, .inl (upd (F 6) k0 (nI 31)))), (q 7, .inl (ca 1, 6, .inl (upd (F 7) k0 (vp_nar .boolean (nI 0))))), (q 8, .inl (ca 0, 6, .inl (upd (F 8) k0 (nI 0)))), (q 9, .inl (ca 0, 6, .inl (upd (F 9) k0 ((-1))))), (q 10, .inl (ca 1, 1600, .inl (F 10))), (q 11, .inl (ca 1, 1600, .inl (F 11)))] H locs := C
            refine lv_iload_n hx hb dM_start_129 rfl (lv_at hl 3 rfl) ?_
            refine lv_bipush (v := nI 6) hx hb dM_start_130 (by decide) ?_
            refine n_icmp_lt (tgt := 139) S (by omega) (by omega) dM_start_132 (by decide) (fun hc => False.elim (by omega)) (fun hc => ?_)
            refine lv_iload_n hx hb dM_start_135 rfl (lv_at hl 0 rfl) ?_
            refine n_if_eq (tgt := 140) S (by omega) dM_start_136 (by decide) (fun hc => False.elim (by omega)) (fun hc => ?_)
            have eC : beginC k R = zeroC := (if_neg (by omega)).trans ((if_pos (by omega)).trans (if_pos (by omega)))
            have eE : beginE k R = 31 := (if_neg (by omega)).trans ((if_neg (by omega)).trans ((if_pos (by omega)).trans (if_pos (by omega))))
            rw [eC, eE] at ret
            exact ret ((mkF bz (upd (F 4) k0 (nI k)) (upd (F 5) k0 (nI 0)) (upd (F 6) k0 (nI 31)) (upd (F 7) k0 (vp_nar .boolean (nI 0))) (upd (F 8) k0 (nI 0)) (upd (F 9) k0 (-1)) (F 10) (F 11))) _ _ _ _ _ _ (Nat.le_refl _) (Nat.le_refl _) (⟨hz0, one.up, one.up, one.up, one.up' rfl, one.up⟩) C dM_start_139
        · skip
          refine lv_iload_n hx hb dM_start_63 rfl (lv_at hl 3 rfl) ?_
          refine lv_bipush (v := nI 6) hx hb dM_start_64 (by decide) ?_
          refine n_icmp_eq (tgt := 75) S (by omega) (by omega) dM_start_66 (by decide) (fun hc66 => ?_) (fun hc66 => ?_)
          · skip
            refine lv_aload_n hx hb dM_start_75 rfl (lv_at hl 1 rfl) ?_
            refine n_get S C hin_M 0 rfl rfl 3 (by decide) g_405 rfl dM_start_76 ?_
            refine lv_iconst (v := nI 0) hx hb dM_start_79 (by decide) ?_
            refine n_iald S C 1 rfl (i := 0) (by omega) (by decide) dM_start_80 ?_
            refine lv_topi (nm_r (e' := nI ((R 1).2)) hr0 ?_)
            refine lv_aload_n hx hb dM_start_81 rfl (lv_at hl 1 rfl) ?_
            refine n_get S C hin_M 0 rfl rfl 3 (by decide) g_405 rfl dM_start_82 ?_
            refine lv_iconst (v := nI 1) hx hb dM_start_85 (by decide) ?_
            refine n_iald S C 1 rfl (i := 1) (by omega) (by decide) dM_start_86 ?_
            refine lv_topi (nm_r (e' := nI ((R 2).2)) hr1 ?_)
            refine n_add S dM_start_87 ?_
            refine n_if_ne (tgt := 95) S (by omega) dM_start_88 (by decide) (fun hc => ?_) (fun hc => False.elim (by omega))
            refine lv_iconst (v := nI 0) hx hb dM_start_95 (by decide) ?_
            refine lv_istore_n hx hb dM_start_96 rfl hl (Nat.le_of_ble_eq_true rfl) rfl (fun ls hl => ?_)
            replace hl : lv_has ls 4 [(3, .int (nI 0)), (0, .ref (h0)), (1, .int (nI k0)), (2, .int (nI k))] := hl
            refine lv_aload_n hx hb dM_start_97 rfl (lv_at hl 1 rfl) ?_
            refine n_get S C hin_M 0 rfl rfl 8 (by decide) g_410 rfl dM_start_98 ?_
            refine lv_iload_n hx hb dM_start_101 rfl (lv_at hl 2 rfl) ?_
            refine lv_iload_n hx hb dM_start_102 rfl (lv_at hl 3 rfl) ?_
            refine lv_iconst (v := nI 4) hx hb dM_start_103 (by decide) ?_
            refine n_icmp_ge (tgt := 112) S (by omega) (by omega) dM_start_104 (by decide) (fun hc => ?_) (fun hc => False.elim (by omega))
            refine lv_iload_n hx hb dM_start_112 rfl (lv_at hl 3 rfl) ?_
            refine lv_bipush (v := nI 6) hx hb dM_start_113 (by decide) ?_
            refine n_icmp_lt (tgt := 122) S (by omega) (by omega) dM_start_115 (by decide) (fun hc => False.elim (by omega)) (fun hc => ?_)
            refine lv_iload_n hx hb dM_start_118 rfl (lv_at hl 0 rfl) ?_
            refine n_if_eq (tgt := 127) S (by omega) dM_start_119 (by decide) (fun hc => ?_) (fun hc => False.elim (by omega))
            refine lv_iconst (v := nI 4) hx hb dM_start_127 (by decide) ?_
            refine n_iast S C 6 rfl (i := k0) (by omega) (by decide) dM_start_128 (fun H locs C => ?_)
            replace C : Cx D ca s0 A s [(h0, .inr (3, mF q (th) (tz))), (q 1, .inl (ca 0, 3, .inl (F 1))), (q 2, .inl (ca 0, 900, .inl (F 2))), (q 3, .inl (ca 1, 9600, .inl (bz))), (q 4, .inl (ca 0, 6, .inl (upd (F 4) k0 (nI k)))), (q 5, .inl (ca 0, 6, .inl (upd (F 5) k0 (nI 0)))), (q 6, .inl (ca 0, 6, .inl (upd (F 6) k0 (nI 4)))), (q 7, .inl (ca 1, 6, .inl (upd (F 7) k0 (vp_nar .boolean (nI 0))))), (q 8, .inl (ca 0, 6, .inl (upd (F 8) k0 (nI 0)))), (q 9, .inl (ca 0, 6, .inl (upd (F 9) k0 ((-1))))), (q 10, .inl (ca 1, 1600, .inl (F 10))), (q 11, .inl (ca 1, 1600, .inl (F 11)))] H locs := C
            refine lv_iload_n hx hb dM_start_129 rfl (lv_at hl 3 rfl) ?_
            refine lv_bipush (v := nI 6) hx hb dM_start_130 (by decide) ?_
            refine n_icmp_lt (tgt := 139) S (by omega) (by omega) dM_start_132 (by decide) (fun hc => False.elim (by omega)) (fun hc => ?_)
            refine lv_iload_n hx hb dM_start_135 rfl (lv_at hl 0 rfl) ?_
            refine n_if_eq (tgt := 140) S (by omega) dM_start_136 (by decide) (fun hc => ?_) (fun hc => False.elim (by omega))
            refine lv_aload_n hx hb dM_start_140 rfl (lv_at hl 1 rfl) ?_
            refine lv_iload_n hx hb dM_start_141 rfl (lv_at hl 2 rfl) ?_
            refine lv_iload_n hx hb dM_start_142 rfl (lv_at hl 3 rfl) ?_
            refine n_callP C (fun hp => va_runS (rest := [.int (nI k0), .ref (h0)]) S (c_M_widthOf l D ca s0 a0 Z k hk _) (cwS 1 hts (gS g_345 g_346 g_34 g_347) rfl rfl rfl (by decide +kernel) ⟨Nat.le_of_ble_eq_true rfl, Nat.le_of_ble_eq_true rfl⟩) hp rfl rfl hl.1 rfl (lv_room (Nat.le_of_ble_eq_true rfl)) dM_start_143 ⟨Nat.le_of_ble_eq_true rfl, Nat.le_of_ble_eq_true rfl⟩) (fun r u H locs hp C => ?_)
            subst hp
            refine n_callV (wc := [(h0, .inr (3, mF q (th) (tz))), (q 3, .inl (ca 1, 9600, .inl (bz))), (q 4, .inl (ca 0, 6, .inl (upd (F 4) k0 (nI k)))), (q 5, .inl (ca 0, 6, .inl (upd (F 5) k0 (nI 0)))), (q 10, .inl (ca 1, 1600, .inl (F 10))), (q 11, .inl (ca 1, 1600, .inl (F 11)))]) (wr := [(q 1, .inl (ca 0, 3, .inl (F 1))), (q 2, .inl (ca 0, 900, .inl (F 2))), (q 6, .inl (ca 0, 6, .inl (upd (F 6) k0 (nI 4)))), (q 7, .inl (ca 1, 6, .inl (upd (F 7) k0 (vp_nar .boolean (nI 0))))), (q 8, .inl (ca 0, 6, .inl (upd (F 8) k0 (nI 0)))), (q 9, .inl (ca 0, 6, .inl (upd (F 9) k0 ((-1)))))]) C [0, 3, 4, 5, 10, 11] [1, 2, 6, 7, 8, 9] rfl rfl rfl rfl (by decide) (fun hp => va_runV (rest := []) S (c_M_leftOf l D ca s0 a0 Z h0 q th tz k0 k hk0 hk bz (upd (F 4) k0 (nI k)) (upd (F 5) k0 (nI 0)) (F 10) (F 11) pk_us (zeroC) hz0.1 hzl (wid k) (by omega) _) (cwV 2 hts (gV g_348 g_349 g_12 g_34 g_350) rfl rfl rfl (by decide +kernel) ⟨Nat.le_of_ble_eq_true rfl, Nat.le_of_ble_eq_true rfl⟩) ⟨hp.1, n_recv C 0 3 rfl rfl, hp.2⟩ rfl rfl hl.1 rfl (lv_room (Nat.le_of_ble_eq_true rfl)) dM_start_146 ⟨Nat.le_of_ble_eq_true rfl, Nat.le_of_ble_eq_true rfl⟩) (fun u H locs hp C => ?_)
            replace C : Cx D ca s0 A s [(h0, .inr (3, mF q (th) (tz))), (q 1, .inl (ca 0, 3, .inl (F 1))), (q 2, .inl (ca 0, 900, .inl (F 2))), (q 3, .inl (ca 1, 9600, .inl (u.1))), (q 4, .inl (ca 0, 6, .inl ((upd (F 4) k0 (nI k))))), (q 5, .inl (ca 0, 6, .inl (u.2.1))), (q 6, .inl (ca 0, 6, .inl (upd (F 6) k0 (nI 4)))), (q 7, .inl (ca 1, 6, .inl (upd (F 7) k0 (vp_nar .boolean (nI 0))))), (q 8, .inl (ca 0, 6, .inl (upd (F 8) k0 (nI 0)))), (q 9, .inl (ca 0, 6, .inl (upd (F 9) k0 ((-1))))), (q 10, .inl (ca 1, 1600, .inl (u.2.2.1))), (q 11, .inl (ca 1, 1600, .inl (u.2.2.2)))] H locs := C.re [6, 0, 1, 7, 8, 9, 2, 3, 4, 5, 10, 11] rfl rfl
            obtain ⟨b14, p14, n14, x14⟩ := u
            have h14 := hz0.tr hp
            replace C : Cx D ca s0 A s [(h0, .inr (3, mF q (th) (tz))), (q 1, .inl (ca 0, 3, .inl (F 1))), (q 2, .inl (ca 0, 900, .inl (F 2))), (q 3, .inl (ca 1, 9600, .inl (b14))), (q 4, .inl (ca 0, 6, .inl ((upd (F 4) k0 (nI k))))), (q 5, .inl (ca 0, 6, .inl (p14))), (q 6, .inl (ca 0, 6, .inl (upd (F 6) k0 (nI 4)))), (q 7, .inl (ca 1, 6, .inl (upd (F 7) k0 (vp_nar .boolean (nI 0))))), (q 8, .inl (ca 0, 6, .inl (upd (F 8) k0 (nI 0)))), (q 9, .inl (ca 0, 6, .inl (upd (F 9) k0 ((-1))))), (q 10, .inl (ca 1, 1600, .inl (n14))), (q 11, .inl (ca 1, 1600, .inl (x14)))] H locs := C
            refine lv_iload_n hx hb dM_start_149 rfl (lv_at hl 3 rfl) ?_
            refine lv_bipush (v := nI 8) hx hb dM_start_150 (by decide) ?_
            refine n_icmp_ge (tgt := 174) S (by omega) (by omega) dM_start_152 (by decide) (fun hc => False.elim (by omega)) (fun hc => ?_)
            refine lv_aload_n hx hb dM_start_155 rfl (lv_at hl 1 rfl) ?_
            refine lv_iload_n hx hb dM_start_156 rfl (lv_at hl 2 rfl) ?_
            refine lv_aload_n hx hb dM_start_157 rfl (lv_at hl 1 rfl) ?_
            refine n_get S C hin_M 0 rfl rfl 4 (by decide) g_406 rfl dM_start_158 ?_
            refine lv_iconst (v := nI 0) hx hb dM_start_161 (by decide) ?_
            refine lv_aload_n hx hb dM_start_162 rfl (lv_at hl 1 rfl) ?_
            refine n_get S C hin_M 0 rfl rfl 3 (by decide) g_405 rfl dM_start_163 ?_
            refine lv_iconst (v := nI 0) hx hb dM_start_166 (by decide) ?_
            refine n_iald S C 1 rfl (i := 0) (by omega) (by decide) dM_start_167 ?_
            refine lv_topi (nm_r (e' := nI ((R 1).2)) hr0 ?_)
            refine n_callV (wc := [(h0, .inr (3, mF q (th) (tz))), (q 3, .inl (ca 1, 9600, .inl (b14))), (q 4, .inl (ca 0, 6, .inl ((upd (F 4) k0 (nI k))))), (q 5, .inl (ca 0, 6, .inl (p14))), (q 10, .inl (ca 1, 1600, .inl (n14))), (q 11, .inl (ca 1, 1600, .inl (x14))), (q 2, .inl (ca 0, 900, .inl (F 2)))]) (wr := [(q 1, .inl (ca 0, 3, .inl (F 1))), (q 6, .inl (ca 0, 6, .inl (upd (F 6) k0 (nI 4)))), (q 7, .inl (ca 1, 6, .inl (upd (F 7) k0 (vp_nar .boolean (nI 0))))), (q 8, .inl (ca 0, 6, .inl (upd (F 8) k0 (nI 0)))), (q 9, .inl (ca 0, 6, .inl (upd (F 9) k0 ((-1)))))]) C [0, 3, 4, 5, 10, 11, 2] [1, 6, 7, 8, 9] rfl rfl rfl rfl (by decide) (fun hp => va_runV (rest := []) S (c_M_string l D ca s0 a0 Z h0 q th tz k0 k hk0 hk b14 (upd (F 4) k0 (nI k)) p14 n14 x14 pk_us (takeL (wid k) (zeroC) (wid k)) h14.1 (takeL_lt _ hzl) (F 2) 0 (R 1).2 (R 1).1 hn0 (by decide) (fun j hj => ⟨(ht0 j hj).1, by have := (ht0 j hj).2; simpa using this⟩) _) (cwV 4 hts (gV g_390 g_391 g_23 g_34 g_392) rfl rfl rfl (by decide +kernel) ⟨Nat.le_of_ble_eq_true rfl, Nat.le_of_ble_eq_true rfl⟩) ⟨hp.1, n_recv C 0 3 rfl rfl, hp.2⟩ rfl rfl hl.1 rfl (lv_room (Nat.le_of_ble_eq_true rfl)) dM_start_168 ⟨Nat.le_of_ble_eq_true rfl, Nat.le_of_ble_eq_true rfl⟩) (fun u H locs hp C => ?_)
            replace C : Cx D ca s0 A s [(h0, .inr (3, mF q (th) (tz))), (q 1, .inl (ca 0, 3, .inl (F 1))), (q 2, .inl (ca 0, 900, .inl (F 2))), (q 3, .inl (ca 1, 9600, .inl (u.1))), (q 4, .inl (ca 0, 6, .inl ((upd (F 4) k0 (nI k))))), (q 5, .inl (ca 0, 6, .inl (u.2.1))), (q 6, .inl (ca 0, 6, .inl (upd (F 6) k0 (nI 4)))), (q 7, .inl (ca 1, 6, .inl (upd (F 7) k0 (vp_nar .boolean (nI 0))))), (q 8, .inl (ca 0, 6, .inl (upd (F 8) k0 (nI 0)))), (q 9, .inl (ca 0, 6, .inl (upd (F 9) k0 ((-1))))), (q 10, .inl (ca 1, 1600, .inl (u.2.2.1))), (q 11, .inl (ca 1, 1600, .inl (u.2.2.2)))] H locs := C.re [5, 0, 11, 6, 7, 8, 1, 2, 3, 4, 9, 10] rfl rfl
            obtain ⟨b15, p15, n15, x15⟩ := u
            have h15 := h14.tr hp
            replace C : Cx D ca s0 A s [(h0, .inr (3, mF q (th) (tz))), (q 1, .inl (ca 0, 3, .inl (F 1))), (q 2, .inl (ca 0, 900, .inl (F 2))), (q 3, .inl (ca 1, 9600, .inl (b15))), (q 4, .inl (ca 0, 6, .inl ((upd (F 4) k0 (nI k))))), (q 5, .inl (ca 0, 6, .inl (p15))), (q 6, .inl (ca 0, 6, .inl (upd (F 6) k0 (nI 4)))), (q 7, .inl (ca 1, 6, .inl (upd (F 7) k0 (vp_nar .boolean (nI 0))))), (q 8, .inl (ca 0, 6, .inl (upd (F 8) k0 (nI 0)))), (q 9, .inl (ca 0, 6, .inl (upd (F 9) k0 ((-1))))), (q 10, .inl (ca 1, 1600, .inl (n15))), (q 11, .inl (ca 1, 1600, .inl (x15)))] H locs := C
            refine lv_goto (tgt := 190) hx hb dM_start_171 (by decide) ?_
            refine lv_aload_n hx hb dM_start_190 rfl (lv_at hl 1 rfl) ?_
            refine lv_iload_n hx hb dM_start_191 rfl (lv_at hl 2 rfl) ?_
            refine lv_aload_n hx hb dM_start_192 rfl (lv_at hl 1 rfl) ?_
            refine n_get S C hin_M 0 rfl rfl 4 (by decide) g_406 rfl dM_start_193 ?_
            refine lv_sipush (v := nI 300) hx hb dM_start_196 (by decide) ?_
            refine lv_aload_n hx hb dM_start_199 rfl (lv_at hl 1 rfl) ?_
            refine n_get S C hin_M 0 rfl rfl 3 (by decide) g_405 rfl dM_start_200 ?_
            refine lv_iconst (v := nI 1) hx hb dM_start_203 (by decide) ?_
            refine n_iald S C 1 rfl (i := 1) (by omega) (by decide) dM_start_204 ?_
            refine lv_topi (nm_r (e' := nI ((R 2).2)) hr1 ?_)
            refine n_callV (wc := [(h0, .inr (3, mF q (th) (tz))), (q 3, .inl (ca 1, 9600, .inl (b15))), (q 4, .inl (ca 0, 6, .inl ((upd (F 4) k0 (nI k))))), (q 5, .inl (ca 0, 6, .inl (p15))), (q 10, .inl (ca 1, 1600, .inl (n15))), (q 11, .inl (ca 1, 1600, .inl (x15))), (q 2, .inl (ca 0, 900, .inl (F 2)))]) (wr := [(q 1, .inl (ca 0, 3, .inl (F 1))), (q 6, .inl (ca 0, 6, .inl (upd (F 6) k0 (nI 4)))), (q 7, .inl (ca 1, 6, .inl (upd (F 7) k0 (vp_nar .boolean (nI 0))))), (q 8, .inl (ca 0, 6, .inl (upd (F 8) k0 (nI 0)))), (q 9, .inl (ca 0, 6, .inl (upd (F 9) k0 ((-1)))))]) C [0, 3, 4, 5, 10, 11, 2] [1, 6, 7, 8, 9] rfl rfl rfl rfl (by decide) (fun hp => va_runV (rest := []) S (c_M_string l D ca s0 a0 Z h0 q th tz k0 k hk0 hk b15 (upd (F 4) k0 (nI k)) p15 n15 x15 pk_us (takeS (wid k) (takeL (wid k) (zeroC) (wid k)) (R 1).1 (R 1).2) h15.1 (takeS_lt _ _ (takeL_lt _ hzl)) (F 2) 300 (R 2).2 (R 2).1 hn1 (by decide) (fun j hj => ht1 j hj) _) (cwV 4 hts (gV g_390 g_391 g_23 g_34 g_392) rfl rfl rfl (by decide +kernel) ⟨Nat.le_of_ble_eq_true rfl, Nat.le_of_ble_eq_true rfl⟩) ⟨hp.1, n_recv C 0 3 rfl rfl, hp.2⟩ rfl rfl hl.1 rfl (lv_room (Nat.le_of_ble_eq_true rfl)) dM_start_205 ⟨Nat.le_of_ble_eq_true rfl, Nat.le_of_ble_eq_true rfl⟩) (fun u H locs hp C => ?_)
            replace C : Cx D ca s0 A s [(h0, .inr (3, mF q (th) (tz))), (q 1, .inl (ca 0, 3, .inl (F 1))), (q 2, .inl (ca 0, 900, .inl (F 2))), (q 3, .inl (ca 1, 9600, .inl (u.1))), (q 4, .inl (ca 0, 6, .inl ((upd (F 4) k0 (nI k))))), (q 5, .inl (ca 0, 6, .inl (u.2.1))), (q 6, .inl (ca 0, 6, .inl (upd (F 6) k0 (nI 4)))), (q 7, .inl (ca 1, 6, .inl (upd (F 7) k0 (vp_nar .boolean (nI 0))))), (q 8, .inl (ca 0, 6, .inl (upd (F 8) k0 (nI 0)))), (q 9, .inl (ca 0, 6, .inl (upd (F 9) k0 ((-1))))), (q 10, .inl (ca 1, 1600, .inl (u.2.2.1))), (q 11, .inl (ca 1, 1600, .inl (u.2.2.2)))] H locs := C.re [5, 0, 11, 6, 7, 8, 1, 2, 3, 4, 9, 10] rfl rfl
            obtain ⟨b16, p16, n16, x16⟩ := u
            have h16 := h15.tr hp
            replace C : Cx D ca s0 A s [(h0, .inr (3, mF q (th) (tz))), (q 1, .inl (ca 0, 3, .inl (F 1))), (q 2, .inl (ca 0, 900, .inl (F 2))), (q 3, .inl (ca 1, 9600, .inl (b16))), (q 4, .inl (ca 0, 6, .inl ((upd (F 4) k0 (nI k))))), (q 5, .inl (ca 0, 6, .inl (p16))), (q 6, .inl (ca 0, 6, .inl (upd (F 6) k0 (nI 4)))), (q 7, .inl (ca 1, 6, .inl (upd (F 7) k0 (vp_nar .boolean (nI 0))))), (q 8, .inl (ca 0, 6, .inl (upd (F 8) k0 (nI 0)))), (q 9, .inl (ca 0, 6, .inl (upd (F 9) k0 ((-1))))), (q 10, .inl (ca 1, 1600, .inl (n16))), (q 11, .inl (ca 1, 1600, .inl (x16)))] H locs := C
            refine lv_aload_n hx hb dM_start_208 rfl (lv_at hl 1 rfl) ?_
            refine lv_iload_n hx hb dM_start_209 rfl (lv_at hl 2 rfl) ?_
            refine n_callV (wc := [(h0, .inr (3, mF q (th) (tz))), (q 3, .inl (ca 1, 9600, .inl (b16))), (q 4, .inl (ca 0, 6, .inl ((upd (F 4) k0 (nI k))))), (q 5, .inl (ca 0, 6, .inl (p16))), (q 10, .inl (ca 1, 1600, .inl (n16))), (q 11, .inl (ca 1, 1600, .inl (x16)))]) (wr := [(q 1, .inl (ca 0, 3, .inl (F 1))), (q 2, .inl (ca 0, 900, .inl (F 2))), (q 6, .inl (ca 0, 6, .inl (upd (F 6) k0 (nI 4)))), (q 7, .inl (ca 1, 6, .inl (upd (F 7) k0 (vp_nar .boolean (nI 0))))), (q 8, .inl (ca 0, 6, .inl (upd (F 8) k0 (nI 0)))), (q 9, .inl (ca 0, 6, .inl (upd (F 9) k0 ((-1)))))]) C [0, 3, 4, 5, 10, 11] [1, 2, 6, 7, 8, 9] rfl rfl rfl rfl (by decide) (fun hp => va_runV (rest := []) S (c_M_fill l D ca s0 a0 Z h0 q th tz k0 k hk0 hk b16 (upd (F 4) k0 (nI k)) p16 n16 x16 pk_us (takeS (wid k) (takeS (wid k) (takeL (wid k) (zeroC) (wid k)) (R 1).1 (R 1).2) (R 2).1 (R 2).2) h16.1 (takeS_lt _ _ (takeS_lt _ _ (takeL_lt _ hzl))) _) (cwV 1 hts (gV g_399 g_400 g_25 g_34 g_401) rfl rfl rfl (by decide +kernel) ⟨Nat.le_of_ble_eq_true rfl, Nat.le_of_ble_eq_true rfl⟩) ⟨hp.1, n_recv C 0 3 rfl rfl, hp.2⟩ rfl rfl hl.1 rfl (lv_room (Nat.le_of_ble_eq_true rfl)) dM_start_210 ⟨Nat.le_of_ble_eq_true rfl, Nat.le_of_ble_eq_true rfl⟩) (fun u H locs hp C => ?_)
            replace C : Cx D ca s0 A s [(h0, .inr (3, mF q (th) (tz))), (q 1, .inl (ca 0, 3, .inl (F 1))), (q 2, .inl (ca 0, 900, .inl (F 2))), (q 3, .inl (ca 1, 9600, .inl (u.1))), (q 4, .inl (ca 0, 6, .inl ((upd (F 4) k0 (nI k))))), (q 5, .inl (ca 0, 6, .inl (u.2.1))), (q 6, .inl (ca 0, 6, .inl (upd (F 6) k0 (nI 4)))), (q 7, .inl (ca 1, 6, .inl (upd (F 7) k0 (vp_nar .boolean (nI 0))))), (q 8, .inl (ca 0, 6, .inl (upd (F 8) k0 (nI 0)))), (q 9, .inl (ca 0, 6, .inl (upd (F 9) k0 ((-1))))), (q 10, .inl (ca 1, 1600, .inl (u.2.2.1))), (q 11, .inl (ca 1, 1600, .inl (u.2.2.2)))] H locs := C.re [6, 0, 1, 7, 8, 9, 2, 3, 4, 5, 10, 11] rfl rfl
            obtain ⟨b17, p17, n17, x17⟩ := u
            have h17 := h16.tr hp
            replace C : Cx D ca s0 A s [(h0, .inr (3, mF q (th) (tz))), (q 1, .inl (ca 0, 3, .inl (F 1))), (q 2, .inl (ca 0, 900, .inl (F 2))), (q 3, .inl (ca 1, 9600, .inl (b17))), (q 4, .inl (ca 0, 6, .inl ((upd (F 4) k0 (nI k))))), (q 5, .inl (ca 0, 6, .inl (p17))), (q 6, .inl (ca 0, 6, .inl (upd (F 6) k0 (nI 4)))), (q 7, .inl (ca 1, 6, .inl (upd (F 7) k0 (vp_nar .boolean (nI 0))))), (q 8, .inl (ca 0, 6, .inl (upd (F 8) k0 (nI 0)))), (q 9, .inl (ca 0, 6, .inl (upd (F 9) k0 ((-1))))), (q 10, .inl (ca 1, 1600, .inl (n17))), (q 11, .inl (ca 1, 1600, .inl (x17)))] H locs := C
            refine lv_iload_n hx hb dM_start_213 rfl (lv_at hl 3 rfl) ?_
            refine lv_bipush (v := nI 7) hx hb dM_start_214 (by decide) ?_
            refine n_icmp_le (tgt := 257) S (by omega) (by omega) dM_start_216 (by decide) (fun hc => ?_) (fun hc => False.elim (by omega))
            have eC : beginC k R = fillU (takeS (wid k) (takeS (wid k) (takeL (wid k) (zeroC) (wid k)) (R 1).1 (R 1).2) (R 2).1 (R 2).2) := (if_neg (by omega)).trans ((if_pos (by omega)).trans (if_neg (by omega)))
            have eE : beginE k R = 4 := (if_neg (by omega)).trans ((if_neg (by omega)).trans ((if_pos (by omega)).trans (if_neg (by omega))))
            rw [eC, eE] at ret
            exact ret ((mkF b17 (upd (F 4) k0 (nI k)) p17 (upd (F 6) k0 (nI 4)) (upd (F 7) k0 (vp_nar .boolean (nI 0))) (upd (F 8) k0 (nI 0)) (upd (F 9) k0 (-1)) n17 x17)) _ _ _ _ _ _ (Nat.le_refl _) (Nat.le_refl _) (⟨h17, one.up, one.up, one.up, one.up' rfl, one.up⟩) C dM_start_257
          · skip
            refine lv_iload_n hx hb dM_start_69 rfl (lv_at hl 3 rfl) ?_
            refine lv_bipush (v := nI 7) hx hb dM_start_70 (by decide) ?_
            refine n_icmp_ne (tgt := 95) S (by omega) (by omega) dM_start_72 (by decide) (fun hc => False.elim (by omega)) (fun hc => ?_)
            refine lv_aload_n hx hb dM_start_75 rfl (lv_at hl 1 rfl) ?_
            refine n_get S C hin_M 0 rfl rfl 3 (by decide) g_405 rfl dM_start_76 ?_
            refine lv_iconst (v := nI 0) hx hb dM_start_79 (by decide) ?_
            refine n_iald S C 1 rfl (i := 0) (by omega) (by decide) dM_start_80 ?_
            refine lv_topi (nm_r (e' := nI ((R 1).2)) hr0 ?_)
            refine lv_aload_n hx hb dM_start_81 rfl (lv_at hl 1 rfl) ?_
            refine n_get S C hin_M 0 rfl rfl 3 (by decide) g_405 rfl dM_start_82 ?_
            refine lv_iconst (v := nI 1) hx hb dM_start_85 (by decide) ?_
            refine n_iald S C 1 rfl (i := 1) (by omega) (by decide) dM_start_86 ?_
            refine lv_topi (nm_r (e' := nI ((R 2).2)) hr1 ?_)
            refine n_add S dM_start_87 ?_
            refine n_if_ne (tgt := 95) S (by omega) dM_start_88 (by decide) (fun hc => ?_) (fun hc => False.elim (by omega))
            refine lv_iconst (v := nI 0) hx hb dM_start_95 (by decide) ?_
            refine lv_istore_n hx hb dM_start_96 rfl hl (Nat.le_of_ble_eq_true rfl) rfl (fun ls hl => ?_)
            replace hl : lv_has ls 4 [(3, .int (nI 0)), (0, .ref (h0)), (1, .int (nI k0)), (2, .int (nI k))] := hl
            refine lv_aload_n hx hb dM_start_97 rfl (lv_at hl 1 rfl) ?_
            refine n_get S C hin_M 0 rfl rfl 8 (by decide) g_410 rfl dM_start_98 ?_
            refine lv_iload_n hx hb dM_start_101 rfl (lv_at hl 2 rfl) ?_
            refine lv_iload_n hx hb dM_start_102 rfl (lv_at hl 3 rfl) ?_
            refine lv_iconst (v := nI 4) hx hb dM_start_103 (by decide) ?_
            refine n_icmp_ge (tgt := 112) S (by omega) (by omega) dM_start_104 (by decide) (fun hc => ?_) (fun hc => False.elim (by omega))
            refine lv_iload_n hx hb dM_start_112 rfl (lv_at hl 3 rfl) ?_
            refine lv_bipush (v := nI 6) hx hb dM_start_113 (by decide) ?_
            refine n_icmp_lt (tgt := 122) S (by omega) (by omega) dM_start_115 (by decide) (fun hc => False.elim (by omega)) (fun hc => ?_)
            refine lv_iload_n hx hb dM_start_118 rfl (lv_at hl 0 rfl) ?_
            refine n_if_eq (tgt := 127) S (by omega) dM_start_119 (by decide) (fun hc => ?_) (fun hc => False.elim (by omega))
            refine lv_iconst (v := nI 4) hx hb dM_start_127 (by decide) ?_
            refine n_iast S C 6 rfl (i := k0) (by omega) (by decide) dM_start_128 (fun H locs C => ?_)
            replace C : Cx D ca s0 A s [(h0, .inr (3, mF q (th) (tz))), (q 1, .inl (ca 0, 3, .inl (F 1))), (q 2, .inl (ca 0, 900, .inl (F 2))), (q 3, .inl (ca 1, 9600, .inl (bz))), (q 4, .inl (ca 0, 6, .inl (upd (F 4) k0 (nI k)))), (q 5, .inl (ca 0, 6, .inl (upd (F 5) k0 (nI 0)))), (q 6, .inl (ca 0, 6, .inl (upd (F 6) k0 (nI 4)))), (q 7, .inl (ca 1, 6, .inl (upd (F 7) k0 (vp_nar .boolean (nI 0))))), (q 8, .inl (ca 0, 6, .inl (upd (F 8) k0 (nI 0)))), (q 9, .inl (ca 0, 6, .inl (upd (F 9) k0 ((-1))))), (q 10, .inl (ca 1, 1600, .inl (F 10))), (q 11, .inl (ca 1, 1600, .inl (F 11)))] H locs := C
            refine lv_iload_n hx hb dM_start_129 rfl (lv_at hl 3 rfl) ?_
            refine lv_bipush (v := nI 6) hx hb dM_start_130 (by decide) ?_
            refine n_icmp_lt (tgt := 139) S (by omega) (by omega) dM_start_132 (by decide) (fun hc => False.elim (by omega)) (fun hc => ?_)
            refine lv_iload_n hx hb dM_start_135 rfl (lv_at hl 0 rfl) ?_
            refine n_if_eq (tgt := 140) S (by omega) dM_start_136 (by decide) (fun hc => ?_) (fun hc => False.elim (by omega))
            refine lv_aload_n hx hb dM_start_140 rfl (lv_at hl 1 rfl) ?_
            refine lv_iload_n hx hb dM_start_141 rfl (lv_at hl 2 rfl) ?_
            refine lv_iload_n hx hb dM_start_142 rfl (lv_at hl 3 rfl) ?_
            refine n_callP C (fun hp => va_runS (rest := [.int (nI k0), .ref (h0)]) S (c_M_widthOf l D ca s0 a0 Z k hk _) (cwS 1 hts (gS g_345 g_346 g_34 g_347) rfl rfl rfl (by decide +kernel) ⟨Nat.le_of_ble_eq_true rfl, Nat.le_of_ble_eq_true rfl⟩) hp rfl rfl hl.1 rfl (lv_room (Nat.le_of_ble_eq_true rfl)) dM_start_143 ⟨Nat.le_of_ble_eq_true rfl, Nat.le_of_ble_eq_true rfl⟩) (fun r u H locs hp C => ?_)
            subst hp
            refine n_callV (wc := [(h0, .inr (3, mF q (th) (tz))), (q 3, .inl (ca 1, 9600, .inl (bz))), (q 4, .inl (ca 0, 6, .inl (upd (F 4) k0 (nI k)))), (q 5, .inl (ca 0, 6, .inl (upd (F 5) k0 (nI 0)))), (q 10, .inl (ca 1, 1600, .inl (F 10))), (q 11, .inl (ca 1, 1600, .inl (F 11)))]) (wr := [(q 1, .inl (ca 0, 3, .inl (F 1))), (q 2, .inl (ca 0, 900, .inl (F 2))), (q 6, .inl (ca 0, 6, .inl (upd (F 6) k0 (nI 4)))), (q 7, .inl (ca 1, 6, .inl (upd (F 7) k0 (vp_nar .boolean (nI 0))))), (q 8, .inl (ca 0, 6, .inl (upd (F 8) k0 (nI 0)))), (q 9, .inl (ca 0, 6, .inl (upd (F 9) k0 ((-1)))))]) C [0, 3, 4, 5, 10, 11] [1, 2, 6, 7, 8, 9] rfl rfl rfl rfl (by decide) (fun hp => va_runV (rest := []) S (c_M_leftOf l D ca s0 a0 Z h0 q th tz k0 k hk0 hk bz (upd (F 4) k0 (nI k)) (upd (F 5) k0 (nI 0)) (F 10) (F 11) pk_us (zeroC) hz0.1 hzl (wid k) (by omega) _) (cwV 2 hts (gV g_348 g_349 g_12 g_34 g_350) rfl rfl rfl (by decide +kernel) ⟨Nat.le_of_ble_eq_true rfl, Nat.le_of_ble_eq_true rfl⟩) ⟨hp.1, n_recv C 0 3 rfl rfl, hp.2⟩ rfl rfl hl.1 rfl (lv_room (Nat.le_of_ble_eq_true rfl)) dM_start_146 ⟨Nat.le_of_ble_eq_true rfl, Nat.le_of_ble_eq_true rfl⟩) (fun u H locs hp C => ?_)
            replace C : Cx D ca s0 A s [(h0, .inr (3, mF q (th) (tz))), (q 1, .inl (ca 0, 3, .inl (F 1))), (q 2, .inl (ca 0, 900, .inl (F 2))), (q 3, .inl (ca 1, 9600, .inl (u.1))), (q 4, .inl (ca 0, 6, .inl ((upd (F 4) k0 (nI k))))), (q 5, .inl (ca 0, 6, .inl (u.2.1))), (q 6, .inl (ca 0, 6, .inl (upd (F 6) k0 (nI 4)))), (q 7, .inl (ca 1, 6, .inl (upd (F 7) k0 (vp_nar .boolean (nI 0))))), (q 8, .inl (ca 0, 6, .inl (upd (F 8) k0 (nI 0)))), (q 9, .inl (ca 0, 6, .inl (upd (F 9) k0 ((-1))))), (q 10, .inl (ca 1, 1600, .inl (u.2.2.1))), (q 11, .inl (ca 1, 1600, .inl (u.2.2.2)))] H locs := C.re [6, 0, 1, 7, 8, 9, 2, 3, 4, 5, 10, 11] rfl rfl
            obtain ⟨b18, p18, n18, x18⟩ := u
            have h18 := hz0.tr hp
            replace C : Cx D ca s0 A s [(h0, .inr (3, mF q (th) (tz))), (q 1, .inl (ca 0, 3, .inl (F 1))), (q 2, .inl (ca 0, 900, .inl (F 2))), (q 3, .inl (ca 1, 9600, .inl (b18))), (q 4, .inl (ca 0, 6, .inl ((upd (F 4) k0 (nI k))))), (q 5, .inl (ca 0, 6, .inl (p18))), (q 6, .inl (ca 0, 6, .inl (upd (F 6) k0 (nI 4)))), (q 7, .inl (ca 1, 6, .inl (upd (F 7) k0 (vp_nar .boolean (nI 0))))), (q 8, .inl (ca 0, 6, .inl (upd (F 8) k0 (nI 0)))), (q 9, .inl (ca 0, 6, .inl (upd (F 9) k0 ((-1))))), (q 10, .inl (ca 1, 1600, .inl (n18))), (q 11, .inl (ca 1, 1600, .inl (x18)))] H locs := C
            refine lv_iload_n hx hb dM_start_149 rfl (lv_at hl 3 rfl) ?_
            refine lv_bipush (v := nI 8) hx hb dM_start_150 (by decide) ?_
            refine n_icmp_ge (tgt := 174) S (by omega) (by omega) dM_start_152 (by decide) (fun hc => False.elim (by omega)) (fun hc => ?_)
            refine lv_aload_n hx hb dM_start_155 rfl (lv_at hl 1 rfl) ?_
            refine lv_iload_n hx hb dM_start_156 rfl (lv_at hl 2 rfl) ?_
            refine lv_aload_n hx hb dM_start_157 rfl (lv_at hl 1 rfl) ?_
            refine n_get S C hin_M 0 rfl rfl 4 (by decide) g_406 rfl dM_start_158 ?_
            refine lv_iconst (v := nI 0) hx hb dM_start_161 (by decide) ?_
            refine lv_aload_n hx hb dM_start_162 rfl (lv_at hl 1 rfl) ?_
            refine n_get S C hin_M 0 rfl rfl 3 (by decide) g_405 rfl dM_start_163 ?_
            refine lv_iconst (v := nI 0) hx hb dM_start_166 (by decide) ?_
            refine n_iald S C 1 rfl (i := 0) (by omega) (by decide) dM_start_167 ?_
            refine lv_topi (nm_r (e' := nI ((R 1).2)) hr0 ?_)
            refine n_callV (wc := [(h0, .inr (3, mF q (th) (tz))), (q 3, .inl (ca 1, 9600, .inl (b18))), (q 4, .inl (ca 0, 6, .inl ((upd (F 4) k0 (nI k))))), (q 5, .inl (ca 0, 6, .inl (p18))), (q 10, .inl (ca 1, 1600, .inl (n18))), (q 11, .inl (ca 1, 1600, .inl (x18))), (q 2, .inl (ca 0, 900, .inl (F 2)))]) (wr := [(q 1, .inl (ca 0, 3, .inl (F 1))), (q 6, .inl (ca 0, 6, .inl (upd (F 6) k0 (nI 4)))), (q 7, .inl (ca 1, 6, .inl (upd (F 7) k0 (vp_nar .boolean (nI 0))))), (q 8, .inl (ca 0, 6, .inl (upd (F 8) k0 (nI 0)))), (q 9, .inl (ca 0, 6, .inl (upd (F 9) k0 ((-1)))))]) C [0, 3, 4, 5, 10, 11, 2] [1, 6, 7, 8, 9] rfl rfl rfl rfl (by decide) (fun hp => va_runV (rest := []) S (c_M_string l D ca s0 a0 Z h0 q th tz k0 k hk0 hk b18 (upd (F 4) k0 (nI k)) p18 n18 x18 pk_us (takeL (wid k) (zeroC) (wid k)) h18.1 (takeL_lt _ hzl) (F 2) 0 (R 1).2 (R 1).1 hn0 (by decide) (fun j hj => ⟨(ht0 j hj).1, by have := (ht0 j hj).2; simpa using this⟩) _) (cwV 4 hts (gV g_390 g_391 g_23 g_34 g_392) rfl rfl rfl (by decide +kernel) ⟨Nat.le_of_ble_eq_true rfl, Nat.le_of_ble_eq_true rfl⟩) ⟨hp.1, n_recv C 0 3 rfl rfl, hp.2⟩ rfl rfl hl.1 rfl (lv_room (Nat.le_of_ble_eq_true rfl)) dM_start_168 ⟨Nat.le_of_ble_eq_true rfl, Nat.le_of_ble_eq_true rfl⟩) (fun u H locs hp C => ?_)
            replace C : Cx D ca s0 A s [(h0, .inr (3, mF q (th) (tz))), (q 1, .inl (ca 0, 3, .inl (F 1))), (q 2, .inl (ca 0, 900, .inl (F 2))), (q 3, .inl (ca 1, 9600, .inl (u.1))), (q 4, .inl (ca 0, 6, .inl ((upd (F 4) k0 (nI k))))), (q 5, .inl (ca 0, 6, .inl (u.2.1))), (q 6, .inl (ca 0, 6, .inl (upd (F 6) k0 (nI 4)))), (q 7, .inl (ca 1, 6, .inl (upd (F 7) k0 (vp_nar .boolean (nI 0))))), (q 8, .inl (ca 0, 6, .inl (upd (F 8) k0 (nI 0)))), (q 9, .inl (ca 0, 6, .inl (upd (F 9) k0 ((-1))))), (q 10, .inl (ca 1, 1600, .inl (u.2.2.1))), (q 11, .inl (ca 1, 1600, .inl (u.2.2.2)))] H locs := C.re [5, 0, 11, 6, 7, 8, 1, 2, 3, 4, 9, 10] rfl rfl
            obtain ⟨b19, p19, n19, x19⟩ := u
            have h19 := h18.tr hp
            replace C : Cx D ca s0 A s [(h0, .inr (3, mF q (th) (tz))), (q 1, .inl (ca 0, 3, .inl (F 1))), (q 2, .inl (ca 0, 900, .inl (F 2))), (q 3, .inl (ca 1, 9600, .inl (b19))), (q 4, .inl (ca 0, 6, .inl ((upd (F 4) k0 (nI k))))), (q 5, .inl (ca 0, 6, .inl (p19))), (q 6, .inl (ca 0, 6, .inl (upd (F 6) k0 (nI 4)))), (q 7, .inl (ca 1, 6, .inl (upd (F 7) k0 (vp_nar .boolean (nI 0))))), (q 8, .inl (ca 0, 6, .inl (upd (F 8) k0 (nI 0)))), (q 9, .inl (ca 0, 6, .inl (upd (F 9) k0 ((-1))))), (q 10, .inl (ca 1, 1600, .inl (n19))), (q 11, .inl (ca 1, 1600, .inl (x19)))] H locs := C
            refine lv_goto (tgt := 190) hx hb dM_start_171 (by decide) ?_
            refine lv_aload_n hx hb dM_start_190 rfl (lv_at hl 1 rfl) ?_
            refine lv_iload_n hx hb dM_start_191 rfl (lv_at hl 2 rfl) ?_
            refine lv_aload_n hx hb dM_start_192 rfl (lv_at hl 1 rfl) ?_
            refine n_get S C hin_M 0 rfl rfl 4 (by decide) g_406 rfl dM_start_193 ?_
            refine lv_sipush (v := nI 300) hx hb dM_start_196 (by decide) ?_
            refine lv_aload_n hx hb dM_start_199 rfl (lv_at hl 1 rfl) ?_
            refine n_get S C hin_M 0 rfl rfl 3 (by decide) g_405 rfl dM_start_200 ?_
            refine lv_iconst (v := nI 1) hx hb dM_start_203 (by decide) ?_
            refine n_iald S C 1 rfl (i := 1) (by omega) (by decide) dM_start_204 ?_
            refine lv_topi (nm_r (e' := nI ((R 2).2)) hr1 ?_)
            refine n_callV (wc := [(h0, .inr (3, mF q (th) (tz))), (q 3, .inl (ca 1, 9600, .inl (b19))), (q 4, .inl (ca 0, 6, .inl ((upd (F 4) k0 (nI k))))), (q 5, .inl (ca 0, 6, .inl (p19))), (q 10, .inl (ca 1, 1600, .inl (n19))), (q 11, .inl (ca 1, 1600, .inl (x19))), (q 2, .inl (ca 0, 900, .inl (F 2)))]) (wr := [(q 1, .inl (ca 0, 3, .inl (F 1))), (q 6, .inl (ca 0, 6, .inl (upd (F 6) k0 (nI 4)))), (q 7, .inl (ca 1, 6, .inl (upd (F 7) k0 (vp_nar .boolean (nI 0))))), (q 8, .inl (ca 0, 6, .inl (upd (F 8) k0 (nI 0)))), (q 9, .inl (ca 0, 6, .inl (upd (F 9) k0 ((-1)))))]) C [0, 3, 4, 5, 10, 11, 2] [1, 6, 7, 8, 9] rfl rfl rfl rfl (by decide) (fun hp => va_runV (rest := []) S (c_M_string l D ca s0 a0 Z h0 q th tz k0 k hk0 hk b19 (upd (F 4) k0 (nI k)) p19 n19 x19 pk_us (takeS (wid k) (takeL (wid k) (zeroC) (wid k)) (R 1).1 (R 1).2) h19.1 (takeS_lt _ _ (takeL_lt _ hzl)) (F 2) 300 (R 2).2 (R 2).1 hn1 (by decide) (fun j hj => ht1 j hj) _) (cwV 4 hts (gV g_390 g_391 g_23 g_34 g_392) rfl rfl rfl (by decide +kernel) ⟨Nat.le_of_ble_eq_true rfl, Nat.le_of_ble_eq_true rfl⟩) ⟨hp.1, n_recv C 0 3 rfl rfl, hp.2⟩ rfl rfl hl.1 rfl (lv_room (Nat.le_of_ble_eq_true rfl)) dM_start_205 ⟨Nat.le_of_ble_eq_true rfl, Nat.le_of_ble_eq_true rfl⟩) (fun u H locs hp C => ?_)
            replace C : Cx D ca s0 A s [(h0, .inr (3, mF q (th) (tz))), (q 1, .inl (ca 0, 3, .inl (F 1))), (q 2, .inl (ca 0, 900, .inl (F 2))), (q 3, .inl (ca 1, 9600, .inl (u.1))), (q 4, .inl (ca 0, 6, .inl ((upd (F 4) k0 (nI k))))), (q 5, .inl (ca 0, 6, .inl (u.2.1))), (q 6, .inl (ca 0, 6, .inl (upd (F 6) k0 (nI 4)))), (q 7, .inl (ca 1, 6, .inl (upd (F 7) k0 (vp_nar .boolean (nI 0))))), (q 8, .inl (ca 0, 6, .inl (upd (F 8) k0 (nI 0)))), (q 9, .inl (ca 0, 6, .inl (upd (F 9) k0 ((-1))))), (q 10, .inl (ca 1, 1600, .inl (u.2.2.1))), (q 11, .inl (ca 1, 1600, .inl (u.2.2.2)))] H locs := C.re [5, 0, 11, 6, 7, 8, 1, 2, 3, 4, 9, 10] rfl rfl
            obtain ⟨b20, p20, n20, x20⟩ := u
            have h20 := h19.tr hp
            replace C : Cx D ca s0 A s [(h0, .inr (3, mF q (th) (tz))), (q 1, .inl (ca 0, 3, .inl (F 1))), (q 2, .inl (ca 0, 900, .inl (F 2))), (q 3, .inl (ca 1, 9600, .inl (b20))), (q 4, .inl (ca 0, 6, .inl ((upd (F 4) k0 (nI k))))), (q 5, .inl (ca 0, 6, .inl (p20))), (q 6, .inl (ca 0, 6, .inl (upd (F 6) k0 (nI 4)))), (q 7, .inl (ca 1, 6, .inl (upd (F 7) k0 (vp_nar .boolean (nI 0))))), (q 8, .inl (ca 0, 6, .inl (upd (F 8) k0 (nI 0)))), (q 9, .inl (ca 0, 6, .inl (upd (F 9) k0 ((-1))))), (q 10, .inl (ca 1, 1600, .inl (n20))), (q 11, .inl (ca 1, 1600, .inl (x20)))] H locs := C
            refine lv_aload_n hx hb dM_start_208 rfl (lv_at hl 1 rfl) ?_
            refine lv_iload_n hx hb dM_start_209 rfl (lv_at hl 2 rfl) ?_
            refine n_callV (wc := [(h0, .inr (3, mF q (th) (tz))), (q 3, .inl (ca 1, 9600, .inl (b20))), (q 4, .inl (ca 0, 6, .inl ((upd (F 4) k0 (nI k))))), (q 5, .inl (ca 0, 6, .inl (p20))), (q 10, .inl (ca 1, 1600, .inl (n20))), (q 11, .inl (ca 1, 1600, .inl (x20)))]) (wr := [(q 1, .inl (ca 0, 3, .inl (F 1))), (q 2, .inl (ca 0, 900, .inl (F 2))), (q 6, .inl (ca 0, 6, .inl (upd (F 6) k0 (nI 4)))), (q 7, .inl (ca 1, 6, .inl (upd (F 7) k0 (vp_nar .boolean (nI 0))))), (q 8, .inl (ca 0, 6, .inl (upd (F 8) k0 (nI 0)))), (q 9, .inl (ca 0, 6, .inl (upd (F 9) k0 ((-1)))))]) C [0, 3, 4, 5, 10, 11] [1, 2, 6, 7, 8, 9] rfl rfl rfl rfl (by decide) (fun hp => va_runV (rest := []) S (c_M_fill l D ca s0 a0 Z h0 q th tz k0 k hk0 hk b20 (upd (F 4) k0 (nI k)) p20 n20 x20 pk_us (takeS (wid k) (takeS (wid k) (takeL (wid k) (zeroC) (wid k)) (R 1).1 (R 1).2) (R 2).1 (R 2).2) h20.1 (takeS_lt _ _ (takeS_lt _ _ (takeL_lt _ hzl))) _) (cwV 1 hts (gV g_399 g_400 g_25 g_34 g_401) rfl rfl rfl (by decide +kernel) ⟨Nat.le_of_ble_eq_true rfl, Nat.le_of_ble_eq_true rfl⟩) ⟨hp.1, n_recv C 0 3 rfl rfl, hp.2⟩ rfl rfl hl.1 rfl (lv_room (Nat.le_of_ble_eq_true rfl)) dM_start_210 ⟨Nat.le_of_ble_eq_true rfl, Nat.le_of_ble_eq_true rfl⟩) (fun u H locs hp C => ?_)
            replace C : Cx D ca s0 A s [(h0, .inr (3, mF q (th) (tz))), (q 1, .inl (ca 0, 3, .inl (F 1))), (q 2, .inl (ca 0, 900, .inl (F 2))), (q 3, .inl (ca 1, 9600, .inl (u.1))), (q 4, .inl (ca 0, 6, .inl ((upd (F 4) k0 (nI k))))), (q 5, .inl (ca 0, 6, .inl (u.2.1))), (q 6, .inl (ca 0, 6, .inl (upd (F 6) k0 (nI 4)))), (q 7, .inl (ca 1, 6, .inl (upd (F 7) k0 (vp_nar .boolean (nI 0))))), (q 8, .inl (ca 0, 6, .inl (upd (F 8) k0 (nI 0)))), (q 9, .inl (ca 0, 6, .inl (upd (F 9) k0 ((-1))))), (q 10, .inl (ca 1, 1600, .inl (u.2.2.1))), (q 11, .inl (ca 1, 1600, .inl (u.2.2.2)))] H locs := C.re [6, 0, 1, 7, 8, 9, 2, 3, 4, 5, 10, 11] rfl rfl
            obtain ⟨b21, p21, n21, x21⟩ := u
            have h21 := h20.tr hp
            replace C : Cx D ca s0 A s [(h0, .inr (3, mF q (th) (tz))), (q 1, .inl (ca 0, 3, .inl (F 1))), (q 2, .inl (ca 0, 900, .inl (F 2))), (q 3, .inl (ca 1, 9600, .inl (b21))), (q 4, .inl (ca 0, 6, .inl ((upd (F 4) k0 (nI k))))), (q 5, .inl (ca 0, 6, .inl (p21))), (q 6, .inl (ca 0, 6, .inl (upd (F 6) k0 (nI 4)))), (q 7, .inl (ca 1, 6, .inl (upd (F 7) k0 (vp_nar .boolean (nI 0))))), (q 8, .inl (ca 0, 6, .inl (upd (F 8) k0 (nI 0)))), (q 9, .inl (ca 0, 6, .inl (upd (F 9) k0 ((-1))))), (q 10, .inl (ca 1, 1600, .inl (n21))), (q 11, .inl (ca 1, 1600, .inl (x21)))] H locs := C
            refine lv_iload_n hx hb dM_start_213 rfl (lv_at hl 3 rfl) ?_
            refine lv_bipush (v := nI 7) hx hb dM_start_214 (by decide) ?_
            refine n_icmp_le (tgt := 257) S (by omega) (by omega) dM_start_216 (by decide) (fun hc => ?_) (fun hc => False.elim (by omega))
            have eC : beginC k R = fillU (takeS (wid k) (takeS (wid k) (takeL (wid k) (zeroC) (wid k)) (R 1).1 (R 1).2) (R 2).1 (R 2).2) := (if_neg (by omega)).trans ((if_pos (by omega)).trans (if_neg (by omega)))
            have eE : beginE k R = 4 := (if_neg (by omega)).trans ((if_neg (by omega)).trans ((if_pos (by omega)).trans (if_neg (by omega))))
            rw [eC, eE] at ret
            exact ret ((mkF b21 (upd (F 4) k0 (nI k)) p21 (upd (F 6) k0 (nI 4)) (upd (F 7) k0 (vp_nar .boolean (nI 0))) (upd (F 8) k0 (nI 0)) (upd (F 9) k0 (-1)) n21 x21)) _ _ _ _ _ _ (Nat.le_refl _) (Nat.le_refl _) (⟨h21, one.up, one.up, one.up, one.up' rfl, one.up⟩) C dM_start_257
        · skip
          refine lv_iload_n hx hb dM_start_63 rfl (lv_at hl 3 rfl) ?_
          refine lv_bipush (v := nI 6) hx hb dM_start_64 (by decide) ?_
          refine n_icmp_eq (tgt := 75) S (by omega) (by omega) dM_start_66 (by decide) (fun hc => False.elim (by omega)) (fun hc => ?_)
          refine lv_iload_n hx hb dM_start_69 rfl (lv_at hl 3 rfl) ?_
          refine lv_bipush (v := nI 7) hx hb dM_start_70 (by decide) ?_
          refine n_icmp_ne (tgt := 95) S (by omega) (by omega) dM_start_72 (by decide) (fun hc => ?_) (fun hc => False.elim (by omega))
          refine lv_iconst (v := nI 0) hx hb dM_start_95 (by decide) ?_
          refine lv_istore_n hx hb dM_start_96 rfl hl (Nat.le_of_ble_eq_true rfl) rfl (fun ls hl => ?_)
          replace hl : lv_has ls 4 [(3, .int (nI 0)), (0, .ref (h0)), (1, .int (nI k0)), (2, .int (nI k))] := hl
          refine lv_aload_n hx hb dM_start_97 rfl (lv_at hl 1 rfl) ?_
          refine n_get S C hin_M 0 rfl rfl 8 (by decide) g_410 rfl dM_start_98 ?_
          refine lv_iload_n hx hb dM_start_101 rfl (lv_at hl 2 rfl) ?_
          refine lv_iload_n hx hb dM_start_102 rfl (lv_at hl 3 rfl) ?_
          refine lv_iconst (v := nI 4) hx hb dM_start_103 (by decide) ?_
          refine n_icmp_ge (tgt := 112) S (by omega) (by omega) dM_start_104 (by decide) (fun hc => ?_) (fun hc => False.elim (by omega))
          refine lv_iload_n hx hb dM_start_112 rfl (lv_at hl 3 rfl) ?_
          refine lv_bipush (v := nI 6) hx hb dM_start_113 (by decide) ?_
          refine n_icmp_lt (tgt := 122) S (by omega) (by omega) dM_start_115 (by decide) (fun hc => False.elim (by omega)) (fun hc => ?_)
          refine lv_iload_n hx hb dM_start_118 rfl (lv_at hl 0 rfl) ?_
          refine n_if_eq (tgt := 127) S (by omega) dM_start_119 (by decide) (fun hc => ?_) (fun hc => False.elim (by omega))
          refine lv_iconst (v := nI 4) hx hb dM_start_127 (by decide) ?_
          refine n_iast S C 6 rfl (i := k0) (by omega) (by decide) dM_start_128 (fun H locs C => ?_)
          replace C : Cx D ca s0 A s [(h0, .inr (3, mF q (th) (tz))), (q 1, .inl (ca 0, 3, .inl (F 1))), (q 2, .inl (ca 0, 900, .inl (F 2))), (q 3, .inl (ca 1, 9600, .inl (bz))), (q 4, .inl (ca 0, 6, .inl (upd (F 4) k0 (nI k)))), (q 5, .inl (ca 0, 6, .inl (upd (F 5) k0 (nI 0)))), (q 6, .inl (ca 0, 6, .inl (upd (F 6) k0 (nI 4)))), (q 7, .inl (ca 1, 6, .inl (upd (F 7) k0 (vp_nar .boolean (nI 0))))), (q 8, .inl (ca 0, 6, .inl (upd (F 8) k0 (nI 0)))), (q 9, .inl (ca 0, 6, .inl (upd (F 9) k0 ((-1))))), (q 10, .inl (ca 1, 1600, .inl (F 10))), (q 11, .inl (ca 1, 1600, .inl (F 11)))] H locs := C
          refine lv_iload_n hx hb dM_start_129 rfl (lv_at hl 3 rfl) ?_
          refine lv_bipush (v := nI 6) hx hb dM_start_130 (by decide) ?_
          refine n_icmp_lt (tgt := 139) S (by omega) (by omega) dM_start_132 (by decide) (fun hc => False.elim (by omega)) (fun hc => ?_)
          refine lv_iload_n hx hb dM_start_135 rfl (lv_at hl 0 rfl) ?_
          refine n_if_eq (tgt := 140) S (by omega) dM_start_136 (by decide) (fun hc => ?_) (fun hc => False.elim (by omega))
          refine lv_aload_n hx hb dM_start_140 rfl (lv_at hl 1 rfl) ?_
          refine lv_iload_n hx hb dM_start_141 rfl (lv_at hl 2 rfl) ?_
          refine lv_iload_n hx hb dM_start_142 rfl (lv_at hl 3 rfl) ?_
          refine n_callP C (fun hp => va_runS (rest := [.int (nI k0), .ref (h0)]) S (c_M_widthOf l D ca s0 a0 Z k hk _) (cwS 1 hts (gS g_345 g_346 g_34 g_347) rfl rfl rfl (by decide +kernel) ⟨Nat.le_of_ble_eq_true rfl, Nat.le_of_ble_eq_true rfl⟩) hp rfl rfl hl.1 rfl (lv_room (Nat.le_of_ble_eq_true rfl)) dM_start_143 ⟨Nat.le_of_ble_eq_true rfl, Nat.le_of_ble_eq_true rfl⟩) (fun r u H locs hp C => ?_)
          subst hp
          refine n_callV (wc := [(h0, .inr (3, mF q (th) (tz))), (q 3, .inl (ca 1, 9600, .inl (bz))), (q 4, .inl (ca 0, 6, .inl (upd (F 4) k0 (nI k)))), (q 5, .inl (ca 0, 6, .inl (upd (F 5) k0 (nI 0)))), (q 10, .inl (ca 1, 1600, .inl (F 10))), (q 11, .inl (ca 1, 1600, .inl (F 11)))]) (wr := [(q 1, .inl (ca 0, 3, .inl (F 1))), (q 2, .inl (ca 0, 900, .inl (F 2))), (q 6, .inl (ca 0, 6, .inl (upd (F 6) k0 (nI 4)))), (q 7, .inl (ca 1, 6, .inl (upd (F 7) k0 (vp_nar .boolean (nI 0))))), (q 8, .inl (ca 0, 6, .inl (upd (F 8) k0 (nI 0)))), (q 9, .inl (ca 0, 6, .inl (upd (F 9) k0 ((-1)))))]) C [0, 3, 4, 5, 10, 11] [1, 2, 6, 7, 8, 9] rfl rfl rfl rfl (by decide) (fun hp => va_runV (rest := []) S (c_M_leftOf l D ca s0 a0 Z h0 q th tz k0 k hk0 hk bz (upd (F 4) k0 (nI k)) (upd (F 5) k0 (nI 0)) (F 10) (F 11) pk_us (zeroC) hz0.1 hzl (wid k) (by omega) _) (cwV 2 hts (gV g_348 g_349 g_12 g_34 g_350) rfl rfl rfl (by decide +kernel) ⟨Nat.le_of_ble_eq_true rfl, Nat.le_of_ble_eq_true rfl⟩) ⟨hp.1, n_recv C 0 3 rfl rfl, hp.2⟩ rfl rfl hl.1 rfl (lv_room (Nat.le_of_ble_eq_true rfl)) dM_start_146 ⟨Nat.le_of_ble_eq_true rfl, Nat.le_of_ble_eq_true rfl⟩) (fun u H locs hp C => ?_)
          replace C : Cx D ca s0 A s [(h0, .inr (3, mF q (th) (tz))), (q 1, .inl (ca 0, 3, .inl (F 1))), (q 2, .inl (ca 0, 900, .inl (F 2))), (q 3, .inl (ca 1, 9600, .inl (u.1))), (q 4, .inl (ca 0, 6, .inl ((upd (F 4) k0 (nI k))))), (q 5, .inl (ca 0, 6, .inl (u.2.1))), (q 6, .inl (ca 0, 6, .inl (upd (F 6) k0 (nI 4)))), (q 7, .inl (ca 1, 6, .inl (upd (F 7) k0 (vp_nar .boolean (nI 0))))), (q 8, .inl (ca 0, 6, .inl (upd (F 8) k0 (nI 0)))), (q 9, .inl (ca 0, 6, .inl (upd (F 9) k0 ((-1))))), (q 10, .inl (ca 1, 1600, .inl (u.2.2.1))), (q 11, .inl (ca 1, 1600, .inl (u.2.2.2)))] H locs := C.re [6, 0, 1, 7, 8, 9, 2, 3, 4, 5, 10, 11] rfl rfl
          obtain ⟨b22, p22, n22, x22⟩ := u
          have h22 := hz0.tr hp
          replace C : Cx D ca s0 A s [(h0, .inr (3, mF q (th) (tz))), (q 1, .inl (ca 0, 3, .inl (F 1))), (q 2, .inl (ca 0, 900, .inl (F 2))), (q 3, .inl (ca 1, 9600, .inl (b22))), (q 4, .inl (ca 0, 6, .inl ((upd (F 4) k0 (nI k))))), (q 5, .inl (ca 0, 6, .inl (p22))), (q 6, .inl (ca 0, 6, .inl (upd (F 6) k0 (nI 4)))), (q 7, .inl (ca 1, 6, .inl (upd (F 7) k0 (vp_nar .boolean (nI 0))))), (q 8, .inl (ca 0, 6, .inl (upd (F 8) k0 (nI 0)))), (q 9, .inl (ca 0, 6, .inl (upd (F 9) k0 ((-1))))), (q 10, .inl (ca 1, 1600, .inl (n22))), (q 11, .inl (ca 1, 1600, .inl (x22)))] H locs := C
          refine lv_iload_n hx hb dM_start_149 rfl (lv_at hl 3 rfl) ?_
          refine lv_bipush (v := nI 8) hx hb dM_start_150 (by decide) ?_
          refine n_icmp_ge (tgt := 174) S (by omega) (by omega) dM_start_152 (by decide) (fun hc => ?_) (fun hc => False.elim (by omega))
          refine lv_aload_n hx hb dM_start_174 rfl (lv_at hl 1 rfl) ?_
          refine lv_iload_n hx hb dM_start_175 rfl (lv_at hl 2 rfl) ?_
          refine lv_iload_n hx hb dM_start_176 rfl (lv_at hl 3 rfl) ?_
          refine lv_bipush (v := nI 12) hx hb dM_start_177 (by decide) ?_
          refine n_icmp_ge (tgt := 186) S (by omega) (by omega) dM_start_179 (by decide) (fun hc => False.elim (by omega)) (fun hc => ?_)
          refine lv_iconst (v := nI 1) hx hb dM_start_182 (by decide) ?_
          refine lv_goto (tgt := 187) hx hb dM_start_183 (by decide) ?_
          refine n_callV (wc := [(h0, .inr (3, mF q (th) (tz))), (q 3, .inl (ca 1, 9600, .inl (b22))), (q 4, .inl (ca 0, 6, .inl ((upd (F 4) k0 (nI k))))), (q 5, .inl (ca 0, 6, .inl (p22))), (q 10, .inl (ca 1, 1600, .inl (n22))), (q 11, .inl (ca 1, 1600, .inl (x22)))]) (wr := [(q 1, .inl (ca 0, 3, .inl (F 1))), (q 2, .inl (ca 0, 900, .inl (F 2))), (q 6, .inl (ca 0, 6, .inl (upd (F 6) k0 (nI 4)))), (q 7, .inl (ca 1, 6, .inl (upd (F 7) k0 (vp_nar .boolean (nI 0))))), (q 8, .inl (ca 0, 6, .inl (upd (F 8) k0 (nI 0)))), (q 9, .inl (ca 0, 6, .inl (upd (F 9) k0 ((-1)))))]) C [0, 3, 4, 5, 10, 11] [1, 2, 6, 7, 8, 9] rfl rfl rfl rfl (by decide) (fun hp => va_runV (rest := []) S (c_M_ownNameK l D ca s0 a0 Z h0 q th tz k0 k hk0 hk b22 (upd (F 4) k0 (nI k)) p22 n22 x22 pk_us (takeL (wid k) (zeroC) (wid k)) h22.1 (takeL_lt _ hzl) _) (cwV 2 hts (gV g_393 g_394 g_24 g_34 g_395) rfl rfl rfl (by decide +kernel) ⟨Nat.le_of_ble_eq_true rfl, Nat.le_of_ble_eq_true rfl⟩) ⟨hp.1, n_recv C 0 3 rfl rfl, hp.2⟩ rfl rfl hl.1 rfl (lv_room (Nat.le_of_ble_eq_true rfl)) dM_start_187 ⟨Nat.le_of_ble_eq_true rfl, Nat.le_of_ble_eq_true rfl⟩) (fun u H locs hp C => ?_)
          replace C : Cx D ca s0 A s [(h0, .inr (3, mF q (th) (tz))), (q 1, .inl (ca 0, 3, .inl (F 1))), (q 2, .inl (ca 0, 900, .inl (F 2))), (q 3, .inl (ca 1, 9600, .inl (u.1))), (q 4, .inl (ca 0, 6, .inl ((upd (F 4) k0 (nI k))))), (q 5, .inl (ca 0, 6, .inl (u.2.1))), (q 6, .inl (ca 0, 6, .inl (upd (F 6) k0 (nI 4)))), (q 7, .inl (ca 1, 6, .inl (upd (F 7) k0 (vp_nar .boolean (nI 0))))), (q 8, .inl (ca 0, 6, .inl (upd (F 8) k0 (nI 0)))), (q 9, .inl (ca 0, 6, .inl (upd (F 9) k0 ((-1))))), (q 10, .inl (ca 1, 1600, .inl (u.2.2.1))), (q 11, .inl (ca 1, 1600, .inl (u.2.2.2)))] H locs := C.re [6, 0, 1, 7, 8, 9, 2, 3, 4, 5, 10, 11] rfl rfl
          obtain ⟨b23, p23, n23, x23⟩ := u
          have h23 := h22.tr hp
          replace C : Cx D ca s0 A s [(h0, .inr (3, mF q (th) (tz))), (q 1, .inl (ca 0, 3, .inl (F 1))), (q 2, .inl (ca 0, 900, .inl (F 2))), (q 3, .inl (ca 1, 9600, .inl (b23))), (q 4, .inl (ca 0, 6, .inl ((upd (F 4) k0 (nI k))))), (q 5, .inl (ca 0, 6, .inl (p23))), (q 6, .inl (ca 0, 6, .inl (upd (F 6) k0 (nI 4)))), (q 7, .inl (ca 1, 6, .inl (upd (F 7) k0 (vp_nar .boolean (nI 0))))), (q 8, .inl (ca 0, 6, .inl (upd (F 8) k0 (nI 0)))), (q 9, .inl (ca 0, 6, .inl (upd (F 9) k0 ((-1))))), (q 10, .inl (ca 1, 1600, .inl (n23))), (q 11, .inl (ca 1, 1600, .inl (x23)))] H locs := C
          refine lv_aload_n hx hb dM_start_190 rfl (lv_at hl 1 rfl) ?_
          refine lv_iload_n hx hb dM_start_191 rfl (lv_at hl 2 rfl) ?_
          refine lv_aload_n hx hb dM_start_192 rfl (lv_at hl 1 rfl) ?_
          refine n_get S C hin_M 0 rfl rfl 4 (by decide) g_406 rfl dM_start_193 ?_
          refine lv_sipush (v := nI 300) hx hb dM_start_196 (by decide) ?_
          refine lv_aload_n hx hb dM_start_199 rfl (lv_at hl 1 rfl) ?_
          refine n_get S C hin_M 0 rfl rfl 3 (by decide) g_405 rfl dM_start_200 ?_
          refine lv_iconst (v := nI 1) hx hb dM_start_203 (by decide) ?_
          refine n_iald S C 1 rfl (i := 1) (by omega) (by decide) dM_start_204 ?_
          refine lv_topi (nm_r (e' := nI ((R 2).2)) hr1 ?_)
          refine n_callV (wc := [(h0, .inr (3, mF q (th) (tz))), (q 3, .inl (ca 1, 9600, .inl (b23))), (q 4, .inl (ca 0, 6, .inl ((upd (F 4) k0 (nI k))))), (q 5, .inl (ca 0, 6, .inl (p23))), (q 10, .inl (ca 1, 1600, .inl (n23))), (q 11, .inl (ca 1, 1600, .inl (x23))), (q 2, .inl (ca 0, 900, .inl (F 2)))]) (wr := [(q 1, .inl (ca 0, 3, .inl (F 1))), (q 6, .inl (ca 0, 6, .inl (upd (F 6) k0 (nI 4)))), (q 7, .inl (ca 1, 6, .inl (upd (F 7) k0 (vp_nar .boolean (nI 0))))), (q 8, .inl (ca 0, 6, .inl (upd (F 8) k0 (nI 0)))), (q 9, .inl (ca 0, 6, .inl (upd (F 9) k0 ((-1)))))]) C [0, 3, 4, 5, 10, 11, 2] [1, 6, 7, 8, 9] rfl rfl rfl rfl (by decide) (fun hp => va_runV (rest := []) S (c_M_string l D ca s0 a0 Z h0 q th tz k0 k hk0 hk b23 (upd (F 4) k0 (nI k)) p23 n23 x23 pk_us (takeS (wid k) (takeL (wid k) (zeroC) (wid k)) pKey 4) h23.1 (takeS_lt _ _ (takeL_lt _ hzl)) (F 2) 300 (R 2).2 (R 2).1 hn1 (by decide) (fun j hj => ht1 j hj) _) (cwV 4 hts (gV g_390 g_391 g_23 g_34 g_392) rfl rfl rfl (by decide +kernel) ⟨Nat.le_of_ble_eq_true rfl, Nat.le_of_ble_eq_true rfl⟩) ⟨hp.1, n_recv C 0 3 rfl rfl, hp.2⟩ rfl rfl hl.1 rfl (lv_room (Nat.le_of_ble_eq_true rfl)) dM_start_205 ⟨Nat.le_of_ble_eq_true rfl, Nat.le_of_ble_eq_true rfl⟩) (fun u H locs hp C => ?_)
          replace C : Cx D ca s0 A s [(h0, .inr (3, mF q (th) (tz))), (q 1, .inl (ca 0, 3, .inl (F 1))), (q 2, .inl (ca 0, 900, .inl (F 2))), (q 3, .inl (ca 1, 9600, .inl (u.1))), (q 4, .inl (ca 0, 6, .inl ((upd (F 4) k0 (nI k))))), (q 5, .inl (ca 0, 6, .inl (u.2.1))), (q 6, .inl (ca 0, 6, .inl (upd (F 6) k0 (nI 4)))), (q 7, .inl (ca 1, 6, .inl (upd (F 7) k0 (vp_nar .boolean (nI 0))))), (q 8, .inl (ca 0, 6, .inl (upd (F 8) k0 (nI 0)))), (q 9, .inl (ca 0, 6, .inl (upd (F 9) k0 ((-1))))), (q 10, .inl (ca 1, 1600, .inl (u.2.2.1))), (q 11, .inl (ca 1, 1600, .inl (u.2.2.2)))] H locs := C.re [5, 0, 11, 6, 7, 8, 1, 2, 3, 4, 9, 10] rfl rfl
          obtain ⟨b24, p24, n24, x24⟩ := u
          have h24 := h23.tr hp
          replace C : Cx D ca s0 A s [(h0, .inr (3, mF q (th) (tz))), (q 1, .inl (ca 0, 3, .inl (F 1))), (q 2, .inl (ca 0, 900, .inl (F 2))), (q 3, .inl (ca 1, 9600, .inl (b24))), (q 4, .inl (ca 0, 6, .inl ((upd (F 4) k0 (nI k))))), (q 5, .inl (ca 0, 6, .inl (p24))), (q 6, .inl (ca 0, 6, .inl (upd (F 6) k0 (nI 4)))), (q 7, .inl (ca 1, 6, .inl (upd (F 7) k0 (vp_nar .boolean (nI 0))))), (q 8, .inl (ca 0, 6, .inl (upd (F 8) k0 (nI 0)))), (q 9, .inl (ca 0, 6, .inl (upd (F 9) k0 ((-1))))), (q 10, .inl (ca 1, 1600, .inl (n24))), (q 11, .inl (ca 1, 1600, .inl (x24)))] H locs := C
          refine lv_aload_n hx hb dM_start_208 rfl (lv_at hl 1 rfl) ?_
          refine lv_iload_n hx hb dM_start_209 rfl (lv_at hl 2 rfl) ?_
          refine n_callV (wc := [(h0, .inr (3, mF q (th) (tz))), (q 3, .inl (ca 1, 9600, .inl (b24))), (q 4, .inl (ca 0, 6, .inl ((upd (F 4) k0 (nI k))))), (q 5, .inl (ca 0, 6, .inl (p24))), (q 10, .inl (ca 1, 1600, .inl (n24))), (q 11, .inl (ca 1, 1600, .inl (x24)))]) (wr := [(q 1, .inl (ca 0, 3, .inl (F 1))), (q 2, .inl (ca 0, 900, .inl (F 2))), (q 6, .inl (ca 0, 6, .inl (upd (F 6) k0 (nI 4)))), (q 7, .inl (ca 1, 6, .inl (upd (F 7) k0 (vp_nar .boolean (nI 0))))), (q 8, .inl (ca 0, 6, .inl (upd (F 8) k0 (nI 0)))), (q 9, .inl (ca 0, 6, .inl (upd (F 9) k0 ((-1)))))]) C [0, 3, 4, 5, 10, 11] [1, 2, 6, 7, 8, 9] rfl rfl rfl rfl (by decide) (fun hp => va_runV (rest := []) S (c_M_fill l D ca s0 a0 Z h0 q th tz k0 k hk0 hk b24 (upd (F 4) k0 (nI k)) p24 n24 x24 pk_us (takeS (wid k) (takeS (wid k) (takeL (wid k) (zeroC) (wid k)) pKey 4) (R 2).1 (R 2).2) h24.1 (takeS_lt _ _ (takeS_lt _ _ (takeL_lt _ hzl))) _) (cwV 1 hts (gV g_399 g_400 g_25 g_34 g_401) rfl rfl rfl (by decide +kernel) ⟨Nat.le_of_ble_eq_true rfl, Nat.le_of_ble_eq_true rfl⟩) ⟨hp.1, n_recv C 0 3 rfl rfl, hp.2⟩ rfl rfl hl.1 rfl (lv_room (Nat.le_of_ble_eq_true rfl)) dM_start_210 ⟨Nat.le_of_ble_eq_true rfl, Nat.le_of_ble_eq_true rfl⟩) (fun u H locs hp C => ?_)
          replace C : Cx D ca s0 A s [(h0, .inr (3, mF q (th) (tz))), (q 1, .inl (ca 0, 3, .inl (F 1))), (q 2, .inl (ca 0, 900, .inl (F 2))), (q 3, .inl (ca 1, 9600, .inl (u.1))), (q 4, .inl (ca 0, 6, .inl ((upd (F 4) k0 (nI k))))), (q 5, .inl (ca 0, 6, .inl (u.2.1))), (q 6, .inl (ca 0, 6, .inl (upd (F 6) k0 (nI 4)))), (q 7, .inl (ca 1, 6, .inl (upd (F 7) k0 (vp_nar .boolean (nI 0))))), (q 8, .inl (ca 0, 6, .inl (upd (F 8) k0 (nI 0)))), (q 9, .inl (ca 0, 6, .inl (upd (F 9) k0 ((-1))))), (q 10, .inl (ca 1, 1600, .inl (u.2.2.1))), (q 11, .inl (ca 1, 1600, .inl (u.2.2.2)))] H locs := C.re [6, 0, 1, 7, 8, 9, 2, 3, 4, 5, 10, 11] rfl rfl
          obtain ⟨b25, p25, n25, x25⟩ := u
          have h25 := h24.tr hp
          replace C : Cx D ca s0 A s [(h0, .inr (3, mF q (th) (tz))), (q 1, .inl (ca 0, 3, .inl (F 1))), (q 2, .inl (ca 0, 900, .inl (F 2))), (q 3, .inl (ca 1, 9600, .inl (b25))), (q 4, .inl (ca 0, 6, .inl ((upd (F 4) k0 (nI k))))), (q 5, .inl (ca 0, 6, .inl (p25))), (q 6, .inl (ca 0, 6, .inl (upd (F 6) k0 (nI 4)))), (q 7, .inl (ca 1, 6, .inl (upd (F 7) k0 (vp_nar .boolean (nI 0))))), (q 8, .inl (ca 0, 6, .inl (upd (F 8) k0 (nI 0)))), (q 9, .inl (ca 0, 6, .inl (upd (F 9) k0 ((-1))))), (q 10, .inl (ca 1, 1600, .inl (n25))), (q 11, .inl (ca 1, 1600, .inl (x25)))] H locs := C
          refine lv_iload_n hx hb dM_start_213 rfl (lv_at hl 3 rfl) ?_
          refine lv_bipush (v := nI 7) hx hb dM_start_214 (by decide) ?_
          refine n_icmp_le (tgt := 257) S (by omega) (by omega) dM_start_216 (by decide) (fun hc => False.elim (by omega)) (fun hc => ?_)
          refine lv_iload_n hx hb dM_start_219 rfl (lv_at hl 3 rfl) ?_
          refine lv_bipush (v := nI 12) hx hb dM_start_220 (by decide) ?_
          refine n_icmp_ge (tgt := 257) S (by omega) (by omega) dM_start_222 (by decide) (fun hc => False.elim (by omega)) (fun hc => ?_)
          refine lv_aload_n hx hb dM_start_225 rfl (lv_at hl 1 rfl) ?_
          refine lv_iload_n hx hb dM_start_226 rfl (lv_at hl 2 rfl) ?_
          refine lv_iload_n hx hb dM_start_227 rfl (lv_at hl 3 rfl) ?_
          refine n_callP C (fun hp => va_runS (rest := [.int (nI k0), .ref (h0)]) S (c_M_widthOf l D ca s0 a0 Z k hk _) (cwS 1 hts (gS g_345 g_346 g_34 g_347) rfl rfl rfl (by decide +kernel) ⟨Nat.le_of_ble_eq_true rfl, Nat.le_of_ble_eq_true rfl⟩) hp rfl rfl hl.1 rfl (lv_room (Nat.le_of_ble_eq_true rfl)) dM_start_228 ⟨Nat.le_of_ble_eq_true rfl, Nat.le_of_ble_eq_true rfl⟩) (fun r u H locs hp C => ?_)
          subst hp
          refine n_callV (wc := [(h0, .inr (3, mF q (th) (tz))), (q 3, .inl (ca 1, 9600, .inl (b25))), (q 4, .inl (ca 0, 6, .inl ((upd (F 4) k0 (nI k))))), (q 5, .inl (ca 0, 6, .inl (p25))), (q 10, .inl (ca 1, 1600, .inl (n25))), (q 11, .inl (ca 1, 1600, .inl (x25)))]) (wr := [(q 1, .inl (ca 0, 3, .inl (F 1))), (q 2, .inl (ca 0, 900, .inl (F 2))), (q 6, .inl (ca 0, 6, .inl (upd (F 6) k0 (nI 4)))), (q 7, .inl (ca 1, 6, .inl (upd (F 7) k0 (vp_nar .boolean (nI 0))))), (q 8, .inl (ca 0, 6, .inl (upd (F 8) k0 (nI 0)))), (q 9, .inl (ca 0, 6, .inl (upd (F 9) k0 ((-1)))))]) C [0, 3, 4, 5, 10, 11] [1, 2, 6, 7, 8, 9] rfl rfl rfl rfl (by decide) (fun hp => va_runV (rest := []) S (c_M_leftOf l D ca s0 a0 Z h0 q th tz k0 k hk0 hk b25 (upd (F 4) k0 (nI k)) p25 n25 x25 pk_us (fillU (takeS (wid k) (takeS (wid k) (takeL (wid k) (zeroC) (wid k)) pKey 4) (R 2).1 (R 2).2)) h25.1 (by rw [fillU_0]; omega) (wid k) (by omega) _) (cwV 2 hts (gV g_348 g_349 g_12 g_34 g_350) rfl rfl rfl (by decide +kernel) ⟨Nat.le_of_ble_eq_true rfl, Nat.le_of_ble_eq_true rfl⟩) ⟨hp.1, n_recv C 0 3 rfl rfl, hp.2⟩ rfl rfl hl.1 rfl (lv_room (Nat.le_of_ble_eq_true rfl)) dM_start_231 ⟨Nat.le_of_ble_eq_true rfl, Nat.le_of_ble_eq_true rfl⟩) (fun u H locs hp C => ?_)
          replace C : Cx D ca s0 A s [(h0, .inr (3, mF q (th) (tz))), (q 1, .inl (ca 0, 3, .inl (F 1))), (q 2, .inl (ca 0, 900, .inl (F 2))), (q 3, .inl (ca 1, 9600, .inl (u.1))), (q 4, .inl (ca 0, 6, .inl ((upd (F 4) k0 (nI k))))), (q 5, .inl (ca 0, 6, .inl (u.2.1))), (q 6, .inl (ca 0, 6, .inl (upd (F 6) k0 (nI 4)))), (q 7, .inl (ca 1, 6, .inl (upd (F 7) k0 (vp_nar .boolean (nI 0))))), (q 8, .inl (ca 0, 6, .inl (upd (F 8) k0 (nI 0)))), (q 9, .inl (ca 0, 6, .inl (upd (F 9) k0 ((-1))))), (q 10, .inl (ca 1, 1600, .inl (u.2.2.1))), (q 11, .inl (ca 1, 1600, .inl (u.2.2.2)))] H locs := C.re [6, 0, 1, 7, 8, 9, 2, 3, 4, 5, 10, 11] rfl rfl
          obtain ⟨b26, p26, n26, x26⟩ := u
          have h26 := h25.tr hp
          replace C : Cx D ca s0 A s [(h0, .inr (3, mF q (th) (tz))), (q 1, .inl (ca 0, 3, .inl (F 1))), (q 2, .inl (ca 0, 900, .inl (F 2))), (q 3, .inl (ca 1, 9600, .inl (b26))), (q 4, .inl (ca 0, 6, .inl ((upd (F 4) k0 (nI k))))), (q 5, .inl (ca 0, 6, .inl (p26))), (q 6, .inl (ca 0, 6, .inl (upd (F 6) k0 (nI 4)))), (q 7, .inl (ca 1, 6, .inl (upd (F 7) k0 (vp_nar .boolean (nI 0))))), (q 8, .inl (ca 0, 6, .inl (upd (F 8) k0 (nI 0)))), (q 9, .inl (ca 0, 6, .inl (upd (F 9) k0 ((-1))))), (q 10, .inl (ca 1, 1600, .inl (n26))), (q 11, .inl (ca 1, 1600, .inl (x26)))] H locs := C
          refine lv_aload_n hx hb dM_start_234 rfl (lv_at hl 1 rfl) ?_
          refine lv_iload_n hx hb dM_start_235 rfl (lv_at hl 2 rfl) ?_
          refine lv_aload_n hx hb dM_start_236 rfl (lv_at hl 1 rfl) ?_
          refine n_get S C hin_M 0 rfl rfl 4 (by decide) g_406 rfl dM_start_237 ?_
          refine lv_sipush (v := nI 600) hx hb dM_start_240 (by decide) ?_
          refine lv_aload_n hx hb dM_start_243 rfl (lv_at hl 1 rfl) ?_
          refine n_get S C hin_M 0 rfl rfl 3 (by decide) g_405 rfl dM_start_244 ?_
          refine lv_iconst (v := nI 2) hx hb dM_start_247 (by decide) ?_
          refine n_iald S C 1 rfl (i := 2) (by omega) (by decide) dM_start_248 ?_
          refine lv_topi (nm_r (e' := nI ((R 3).2)) hr2 ?_)
          refine n_callV (wc := [(h0, .inr (3, mF q (th) (tz))), (q 3, .inl (ca 1, 9600, .inl (b26))), (q 4, .inl (ca 0, 6, .inl ((upd (F 4) k0 (nI k))))), (q 5, .inl (ca 0, 6, .inl (p26))), (q 10, .inl (ca 1, 1600, .inl (n26))), (q 11, .inl (ca 1, 1600, .inl (x26))), (q 2, .inl (ca 0, 900, .inl (F 2)))]) (wr := [(q 1, .inl (ca 0, 3, .inl (F 1))), (q 6, .inl (ca 0, 6, .inl (upd (F 6) k0 (nI 4)))), (q 7, .inl (ca 1, 6, .inl (upd (F 7) k0 (vp_nar .boolean (nI 0))))), (q 8, .inl (ca 0, 6, .inl (upd (F 8) k0 (nI 0)))), (q 9, .inl (ca 0, 6, .inl (upd (F 9) k0 ((-1)))))]) C [0, 3, 4, 5, 10, 11, 2] [1, 6, 7, 8, 9] rfl rfl rfl rfl (by decide) (fun hp => va_runV (rest := []) S (c_M_string l D ca s0 a0 Z h0 q th tz k0 k hk0 hk b26 (upd (F 4) k0 (nI k)) p26 n26 x26 pk_us (takeL (wid k) (fillU (takeS (wid k) (takeS (wid k) (takeL (wid k) (zeroC) (wid k)) pKey 4) (R 2).1 (R 2).2)) (wid k)) h26.1 (takeL_lt _ (by rw [fillU_0]; omega)) (F 2) 600 (R 3).2 (R 3).1 hn2 (by decide) (fun j hj => ht2 j hj) _) (cwV 4 hts (gV g_390 g_391 g_23 g_34 g_392) rfl rfl rfl (by decide +kernel) ⟨Nat.le_of_ble_eq_true rfl, Nat.le_of_ble_eq_true rfl⟩) ⟨hp.1, n_recv C 0 3 rfl rfl, hp.2⟩ rfl rfl hl.1 rfl (lv_room (Nat.le_of_ble_eq_true rfl)) dM_start_249 ⟨Nat.le_of_ble_eq_true rfl, Nat.le_of_ble_eq_true rfl⟩) (fun u H locs hp C => ?_)
          replace C : Cx D ca s0 A s [(h0, .inr (3, mF q (th) (tz))), (q 1, .inl (ca 0, 3, .inl (F 1))), (q 2, .inl (ca 0, 900, .inl (F 2))), (q 3, .inl (ca 1, 9600, .inl (u.1))), (q 4, .inl (ca 0, 6, .inl ((upd (F 4) k0 (nI k))))), (q 5, .inl (ca 0, 6, .inl (u.2.1))), (q 6, .inl (ca 0, 6, .inl (upd (F 6) k0 (nI 4)))), (q 7, .inl (ca 1, 6, .inl (upd (F 7) k0 (vp_nar .boolean (nI 0))))), (q 8, .inl (ca 0, 6, .inl (upd (F 8) k0 (nI 0)))), (q 9, .inl (ca 0, 6, .inl (upd (F 9) k0 ((-1))))), (q 10, .inl (ca 1, 1600, .inl (u.2.2.1))), (q 11, .inl (ca 1, 1600, .inl (u.2.2.2)))] H locs := C.re [5, 0, 11, 6, 7, 8, 1, 2, 3, 4, 9, 10] rfl rfl
          obtain ⟨b27, p27, n27, x27⟩ := u
          have h27 := h26.tr hp
          replace C : Cx D ca s0 A s [(h0, .inr (3, mF q (th) (tz))), (q 1, .inl (ca 0, 3, .inl (F 1))), (q 2, .inl (ca 0, 900, .inl (F 2))), (q 3, .inl (ca 1, 9600, .inl (b27))), (q 4, .inl (ca 0, 6, .inl ((upd (F 4) k0 (nI k))))), (q 5, .inl (ca 0, 6, .inl (p27))), (q 6, .inl (ca 0, 6, .inl (upd (F 6) k0 (nI 4)))), (q 7, .inl (ca 1, 6, .inl (upd (F 7) k0 (vp_nar .boolean (nI 0))))), (q 8, .inl (ca 0, 6, .inl (upd (F 8) k0 (nI 0)))), (q 9, .inl (ca 0, 6, .inl (upd (F 9) k0 ((-1))))), (q 10, .inl (ca 1, 1600, .inl (n27))), (q 11, .inl (ca 1, 1600, .inl (x27)))] H locs := C
          refine lv_aload_n hx hb dM_start_252 rfl (lv_at hl 1 rfl) ?_
          refine lv_iload_n hx hb dM_start_253 rfl (lv_at hl 2 rfl) ?_
          refine n_callV (wc := [(h0, .inr (3, mF q (th) (tz))), (q 3, .inl (ca 1, 9600, .inl (b27))), (q 4, .inl (ca 0, 6, .inl ((upd (F 4) k0 (nI k))))), (q 5, .inl (ca 0, 6, .inl (p27))), (q 10, .inl (ca 1, 1600, .inl (n27))), (q 11, .inl (ca 1, 1600, .inl (x27)))]) (wr := [(q 1, .inl (ca 0, 3, .inl (F 1))), (q 2, .inl (ca 0, 900, .inl (F 2))), (q 6, .inl (ca 0, 6, .inl (upd (F 6) k0 (nI 4)))), (q 7, .inl (ca 1, 6, .inl (upd (F 7) k0 (vp_nar .boolean (nI 0))))), (q 8, .inl (ca 0, 6, .inl (upd (F 8) k0 (nI 0)))), (q 9, .inl (ca 0, 6, .inl (upd (F 9) k0 ((-1)))))]) C [0, 3, 4, 5, 10, 11] [1, 2, 6, 7, 8, 9] rfl rfl rfl rfl (by decide) (fun hp => va_runV (rest := []) S (c_M_fill l D ca s0 a0 Z h0 q th tz k0 k hk0 hk b27 (upd (F 4) k0 (nI k)) p27 n27 x27 pk_us (takeS (wid k) (takeL (wid k) (fillU (takeS (wid k) (takeS (wid k) (takeL (wid k) (zeroC) (wid k)) pKey 4) (R 2).1 (R 2).2)) (wid k)) (R 3).1 (R 3).2) h27.1 (takeS_lt _ _ (takeL_lt _ (by rw [fillU_0]; omega))) _) (cwV 1 hts (gV g_399 g_400 g_25 g_34 g_401) rfl rfl rfl (by decide +kernel) ⟨Nat.le_of_ble_eq_true rfl, Nat.le_of_ble_eq_true rfl⟩) ⟨hp.1, n_recv C 0 3 rfl rfl, hp.2⟩ rfl rfl hl.1 rfl (lv_room (Nat.le_of_ble_eq_true rfl)) dM_start_254 ⟨Nat.le_of_ble_eq_true rfl, Nat.le_of_ble_eq_true rfl⟩) (fun u H locs hp C => ?_)
          replace C : Cx D ca s0 A s [(h0, .inr (3, mF q (th) (tz))), (q 1, .inl (ca 0, 3, .inl (F 1))), (q 2, .inl (ca 0, 900, .inl (F 2))), (q 3, .inl (ca 1, 9600, .inl (u.1))), (q 4, .inl (ca 0, 6, .inl ((upd (F 4) k0 (nI k))))), (q 5, .inl (ca 0, 6, .inl (u.2.1))), (q 6, .inl (ca 0, 6, .inl (upd (F 6) k0 (nI 4)))), (q 7, .inl (ca 1, 6, .inl (upd (F 7) k0 (vp_nar .boolean (nI 0))))), (q 8, .inl (ca 0, 6, .inl (upd (F 8) k0 (nI 0)))), (q 9, .inl (ca 0, 6, .inl (upd (F 9) k0 ((-1))))), (q 10, .inl (ca 1, 1600, .inl (u.2.2.1))), (q 11, .inl (ca 1, 1600, .inl (u.2.2.2)))] H locs := C.re [6, 0, 1, 7, 8, 9, 2, 3, 4, 5, 10, 11] rfl rfl
          obtain ⟨b28, p28, n28, x28⟩ := u
          have h28 := h27.tr hp
          replace C : Cx D ca s0 A s [(h0, .inr (3, mF q (th) (tz))), (q 1, .inl (ca 0, 3, .inl (F 1))), (q 2, .inl (ca 0, 900, .inl (F 2))), (q 3, .inl (ca 1, 9600, .inl (b28))), (q 4, .inl (ca 0, 6, .inl ((upd (F 4) k0 (nI k))))), (q 5, .inl (ca 0, 6, .inl (p28))), (q 6, .inl (ca 0, 6, .inl (upd (F 6) k0 (nI 4)))), (q 7, .inl (ca 1, 6, .inl (upd (F 7) k0 (vp_nar .boolean (nI 0))))), (q 8, .inl (ca 0, 6, .inl (upd (F 8) k0 (nI 0)))), (q 9, .inl (ca 0, 6, .inl (upd (F 9) k0 ((-1))))), (q 10, .inl (ca 1, 1600, .inl (n28))), (q 11, .inl (ca 1, 1600, .inl (x28)))] H locs := C
          have eC : beginC k R = fillU (takeS (wid k) (takeL (wid k) (fillU (takeS (wid k) (takeS (wid k) (takeL (wid k) (zeroC) (wid k)) pKey 4) (R 2).1 (R 2).2)) (wid k)) (R 3).1 (R 3).2) := (if_neg (by omega)).trans ((if_neg (by omega)).trans (if_pos (by omega)))
          have eE : beginE k R = 4 := (if_neg (by omega)).trans ((if_neg (by omega)).trans (if_neg (by omega)))
          rw [eC, eE] at ret
          exact ret ((mkF b28 (upd (F 4) k0 (nI k)) p28 (upd (F 6) k0 (nI 4)) (upd (F 7) k0 (vp_nar .boolean (nI 0))) (upd (F 8) k0 (nI 0)) (upd (F 9) k0 (-1)) n28 x28)) _ _ _ _ _ _ (Nat.le_refl _) (Nat.le_refl _) (⟨h28, one.up, one.up, one.up, one.up' rfl, one.up⟩) C dM_start_257
        · skip
          refine lv_iload_n hx hb dM_start_63 rfl (lv_at hl 3 rfl) ?_
          refine lv_bipush (v := nI 6) hx hb dM_start_64 (by decide) ?_
          refine n_icmp_eq (tgt := 75) S (by omega) (by omega) dM_start_66 (by decide) (fun hc => False.elim (by omega)) (fun hc => ?_)
          refine lv_iload_n hx hb dM_start_69 rfl (lv_at hl 3 rfl) ?_
          refine lv_bipush (v := nI 7) hx hb dM_start_70 (by decide) ?_
          refine n_icmp_ne (tgt := 95) S (by omega) (by omega) dM_start_72 (by decide) (fun hc => ?_) (fun hc => False.elim (by omega))
          refine lv_iconst (v := nI 0) hx hb dM_start_95 (by decide) ?_
          refine lv_istore_n hx hb dM_start_96 rfl hl (Nat.le_of_ble_eq_true rfl) rfl (fun ls hl => ?_)
          replace hl : lv_has ls 4 [(3, .int (nI 0)), (0, .ref (h0)), (1, .int (nI k0)), (2, .int (nI k))] := hl
          refine lv_aload_n hx hb dM_start_97 rfl (lv_at hl 1 rfl) ?_
          refine n_get S C hin_M 0 rfl rfl 8 (by decide) g_410 rfl dM_start_98 ?_
          refine lv_iload_n hx hb dM_start_101 rfl (lv_at hl 2 rfl) ?_
          refine lv_iload_n hx hb dM_start_102 rfl (lv_at hl 3 rfl) ?_
          refine lv_iconst (v := nI 4) hx hb dM_start_103 (by decide) ?_
          refine n_icmp_ge (tgt := 112) S (by omega) (by omega) dM_start_104 (by decide) (fun hc => ?_) (fun hc => False.elim (by omega))
          refine lv_iload_n hx hb dM_start_112 rfl (lv_at hl 3 rfl) ?_
          refine lv_bipush (v := nI 6) hx hb dM_start_113 (by decide) ?_
          refine n_icmp_lt (tgt := 122) S (by omega) (by omega) dM_start_115 (by decide) (fun hc => False.elim (by omega)) (fun hc => ?_)
          refine lv_iload_n hx hb dM_start_118 rfl (lv_at hl 0 rfl) ?_
          refine n_if_eq (tgt := 127) S (by omega) dM_start_119 (by decide) (fun hc => ?_) (fun hc => False.elim (by omega))
          refine lv_iconst (v := nI 4) hx hb dM_start_127 (by decide) ?_
          refine n_iast S C 6 rfl (i := k0) (by omega) (by decide) dM_start_128 (fun H locs C => ?_)
          replace C : Cx D ca s0 A s [(h0, .inr (3, mF q (th) (tz))), (q 1, .inl (ca 0, 3, .inl (F 1))), (q 2, .inl (ca 0, 900, .inl (F 2))), (q 3, .inl (ca 1, 9600, .inl (bz))), (q 4, .inl (ca 0, 6, .inl (upd (F 4) k0 (nI k)))), (q 5, .inl (ca 0, 6, .inl (upd (F 5) k0 (nI 0)))), (q 6, .inl (ca 0, 6, .inl (upd (F 6) k0 (nI 4)))), (q 7, .inl (ca 1, 6, .inl (upd (F 7) k0 (vp_nar .boolean (nI 0))))), (q 8, .inl (ca 0, 6, .inl (upd (F 8) k0 (nI 0)))), (q 9, .inl (ca 0, 6, .inl (upd (F 9) k0 ((-1))))), (q 10, .inl (ca 1, 1600, .inl (F 10))), (q 11, .inl (ca 1, 1600, .inl (F 11)))] H locs := C
          refine lv_iload_n hx hb dM_start_129 rfl (lv_at hl 3 rfl) ?_
          refine lv_bipush (v := nI 6) hx hb dM_start_130 (by decide) ?_
          refine n_icmp_lt (tgt := 139) S (by omega) (by omega) dM_start_132 (by decide) (fun hc => False.elim (by omega)) (fun hc => ?_)
          refine lv_iload_n hx hb dM_start_135 rfl (lv_at hl 0 rfl) ?_
          refine n_if_eq (tgt := 140) S (by omega) dM_start_136 (by decide) (fun hc => ?_) (fun hc => False.elim (by omega))
          refine lv_aload_n hx hb dM_start_140 rfl (lv_at hl 1 rfl) ?_
          refine lv_iload_n hx hb dM_start_141 rfl (lv_at hl 2 rfl) ?_
          refine lv_iload_n hx hb dM_start_142 rfl (lv_at hl 3 rfl) ?_
          refine n_callP C (fun hp => va_runS (rest := [.int (nI k0), .ref (h0)]) S (c_M_widthOf l D ca s0 a0 Z k hk _) (cwS 1 hts (gS g_345 g_346 g_34 g_347) rfl rfl rfl (by decide +kernel) ⟨Nat.le_of_ble_eq_true rfl, Nat.le_of_ble_eq_true rfl⟩) hp rfl rfl hl.1 rfl (lv_room (Nat.le_of_ble_eq_true rfl)) dM_start_143 ⟨Nat.le_of_ble_eq_true rfl, Nat.le_of_ble_eq_true rfl⟩) (fun r u H locs hp C => ?_)
          subst hp
          refine n_callV (wc := [(h0, .inr (3, mF q (th) (tz))), (q 3, .inl (ca 1, 9600, .inl (bz))), (q 4, .inl (ca 0, 6, .inl (upd (F 4) k0 (nI k)))), (q 5, .inl (ca 0, 6, .inl (upd (F 5) k0 (nI 0)))), (q 10, .inl (ca 1, 1600, .inl (F 10))), (q 11, .inl (ca 1, 1600, .inl (F 11)))]) (wr := [(q 1, .inl (ca 0, 3, .inl (F 1))), (q 2, .inl (ca 0, 900, .inl (F 2))), (q 6, .inl (ca 0, 6, .inl (upd (F 6) k0 (nI 4)))), (q 7, .inl (ca 1, 6, .inl (upd (F 7) k0 (vp_nar .boolean (nI 0))))), (q 8, .inl (ca 0, 6, .inl (upd (F 8) k0 (nI 0)))), (q 9, .inl (ca 0, 6, .inl (upd (F 9) k0 ((-1)))))]) C [0, 3, 4, 5, 10, 11] [1, 2, 6, 7, 8, 9] rfl rfl rfl rfl (by decide) (fun hp => va_runV (rest := []) S (c_M_leftOf l D ca s0 a0 Z h0 q th tz k0 k hk0 hk bz (upd (F 4) k0 (nI k)) (upd (F 5) k0 (nI 0)) (F 10) (F 11) pk_us (zeroC) hz0.1 hzl (wid k) (by omega) _) (cwV 2 hts (gV g_348 g_349 g_12 g_34 g_350) rfl rfl rfl (by decide +kernel) ⟨Nat.le_of_ble_eq_true rfl, Nat.le_of_ble_eq_true rfl⟩) ⟨hp.1, n_recv C 0 3 rfl rfl, hp.2⟩ rfl rfl hl.1 rfl (lv_room (Nat.le_of_ble_eq_true rfl)) dM_start_146 ⟨Nat.le_of_ble_eq_true rfl, Nat.le_of_ble_eq_true rfl⟩) (fun u H locs hp C => ?_)
          replace C : Cx D ca s0 A s [(h0, .inr (3, mF q (th) (tz))), (q 1, .inl (ca 0, 3, .inl (F 1))), (q 2, .inl (ca 0, 900, .inl (F 2))), (q 3, .inl (ca 1, 9600, .inl (u.1))), (q 4, .inl (ca 0, 6, .inl ((upd (F 4) k0 (nI k))))), (q 5, .inl (ca 0, 6, .inl (u.2.1))), (q 6, .inl (ca 0, 6, .inl (upd (F 6) k0 (nI 4)))), (q 7, .inl (ca 1, 6, .inl (upd (F 7) k0 (vp_nar .boolean (nI 0))))), (q 8, .inl (ca 0, 6, .inl (upd (F 8) k0 (nI 0)))), (q 9, .inl (ca 0, 6, .inl (upd (F 9) k0 ((-1))))), (q 10, .inl (ca 1, 1600, .inl (u.2.2.1))), (q 11, .inl (ca 1, 1600, .inl (u.2.2.2)))] H locs := C.re [6, 0, 1, 7, 8, 9, 2, 3, 4, 5, 10, 11] rfl rfl
          obtain ⟨b29, p29, n29, x29⟩ := u
          have h29 := hz0.tr hp
          replace C : Cx D ca s0 A s [(h0, .inr (3, mF q (th) (tz))), (q 1, .inl (ca 0, 3, .inl (F 1))), (q 2, .inl (ca 0, 900, .inl (F 2))), (q 3, .inl (ca 1, 9600, .inl (b29))), (q 4, .inl (ca 0, 6, .inl ((upd (F 4) k0 (nI k))))), (q 5, .inl (ca 0, 6, .inl (p29))), (q 6, .inl (ca 0, 6, .inl (upd (F 6) k0 (nI 4)))), (q 7, .inl (ca 1, 6, .inl (upd (F 7) k0 (vp_nar .boolean (nI 0))))), (q 8, .inl (ca 0, 6, .inl (upd (F 8) k0 (nI 0)))), (q 9, .inl (ca 0, 6, .inl (upd (F 9) k0 ((-1))))), (q 10, .inl (ca 1, 1600, .inl (n29))), (q 11, .inl (ca 1, 1600, .inl (x29)))] H locs := C
          refine lv_iload_n hx hb dM_start_149 rfl (lv_at hl 3 rfl) ?_
          refine lv_bipush (v := nI 8) hx hb dM_start_150 (by decide) ?_
          refine n_icmp_ge (tgt := 174) S (by omega) (by omega) dM_start_152 (by decide) (fun hc => ?_) (fun hc => False.elim (by omega))
          refine lv_aload_n hx hb dM_start_174 rfl (lv_at hl 1 rfl) ?_
          refine lv_iload_n hx hb dM_start_175 rfl (lv_at hl 2 rfl) ?_
          refine lv_iload_n hx hb dM_start_176 rfl (lv_at hl 3 rfl) ?_
          refine lv_bipush (v := nI 12) hx hb dM_start_177 (by decide) ?_
          refine n_icmp_ge (tgt := 186) S (by omega) (by omega) dM_start_179 (by decide) (fun hc => ?_) (fun hc => False.elim (by omega))
          refine lv_iconst (v := nI 0) hx hb dM_start_186 (by decide) ?_
          refine n_callV (wc := [(h0, .inr (3, mF q (th) (tz))), (q 3, .inl (ca 1, 9600, .inl (b29))), (q 4, .inl (ca 0, 6, .inl ((upd (F 4) k0 (nI k))))), (q 5, .inl (ca 0, 6, .inl (p29))), (q 10, .inl (ca 1, 1600, .inl (n29))), (q 11, .inl (ca 1, 1600, .inl (x29)))]) (wr := [(q 1, .inl (ca 0, 3, .inl (F 1))), (q 2, .inl (ca 0, 900, .inl (F 2))), (q 6, .inl (ca 0, 6, .inl (upd (F 6) k0 (nI 4)))), (q 7, .inl (ca 1, 6, .inl (upd (F 7) k0 (vp_nar .boolean (nI 0))))), (q 8, .inl (ca 0, 6, .inl (upd (F 8) k0 (nI 0)))), (q 9, .inl (ca 0, 6, .inl (upd (F 9) k0 ((-1)))))]) C [0, 3, 4, 5, 10, 11] [1, 2, 6, 7, 8, 9] rfl rfl rfl rfl (by decide) (fun hp => va_runV (rest := []) S (c_M_ownNameT l D ca s0 a0 Z h0 q th tz k0 k hk0 hk b29 (upd (F 4) k0 (nI k)) p29 n29 x29 pk_us (takeL (wid k) (zeroC) (wid k)) h29.1 (takeL_lt _ hzl) _) (cwV 2 hts (gV g_393 g_394 g_24 g_34 g_395) rfl rfl rfl (by decide +kernel) ⟨Nat.le_of_ble_eq_true rfl, Nat.le_of_ble_eq_true rfl⟩) ⟨hp.1, n_recv C 0 3 rfl rfl, hp.2⟩ rfl rfl hl.1 rfl (lv_room (Nat.le_of_ble_eq_true rfl)) dM_start_187 ⟨Nat.le_of_ble_eq_true rfl, Nat.le_of_ble_eq_true rfl⟩) (fun u H locs hp C => ?_)
          replace C : Cx D ca s0 A s [(h0, .inr (3, mF q (th) (tz))), (q 1, .inl (ca 0, 3, .inl (F 1))), (q 2, .inl (ca 0, 900, .inl (F 2))), (q 3, .inl (ca 1, 9600, .inl (u.1))), (q 4, .inl (ca 0, 6, .inl ((upd (F 4) k0 (nI k))))), (q 5, .inl (ca 0, 6, .inl (u.2.1))), (q 6, .inl (ca 0, 6, .inl (upd (F 6) k0 (nI 4)))), (q 7, .inl (ca 1, 6, .inl (upd (F 7) k0 (vp_nar .boolean (nI 0))))), (q 8, .inl (ca 0, 6, .inl (upd (F 8) k0 (nI 0)))), (q 9, .inl (ca 0, 6, .inl (upd (F 9) k0 ((-1))))), (q 10, .inl (ca 1, 1600, .inl (u.2.2.1))), (q 11, .inl (ca 1, 1600, .inl (u.2.2.2)))] H locs := C.re [6, 0, 1, 7, 8, 9, 2, 3, 4, 5, 10, 11] rfl rfl
          obtain ⟨b30, p30, n30, x30⟩ := u
          have h30 := h29.tr hp
          replace C : Cx D ca s0 A s [(h0, .inr (3, mF q (th) (tz))), (q 1, .inl (ca 0, 3, .inl (F 1))), (q 2, .inl (ca 0, 900, .inl (F 2))), (q 3, .inl (ca 1, 9600, .inl (b30))), (q 4, .inl (ca 0, 6, .inl ((upd (F 4) k0 (nI k))))), (q 5, .inl (ca 0, 6, .inl (p30))), (q 6, .inl (ca 0, 6, .inl (upd (F 6) k0 (nI 4)))), (q 7, .inl (ca 1, 6, .inl (upd (F 7) k0 (vp_nar .boolean (nI 0))))), (q 8, .inl (ca 0, 6, .inl (upd (F 8) k0 (nI 0)))), (q 9, .inl (ca 0, 6, .inl (upd (F 9) k0 ((-1))))), (q 10, .inl (ca 1, 1600, .inl (n30))), (q 11, .inl (ca 1, 1600, .inl (x30)))] H locs := C
          refine lv_aload_n hx hb dM_start_190 rfl (lv_at hl 1 rfl) ?_
          refine lv_iload_n hx hb dM_start_191 rfl (lv_at hl 2 rfl) ?_
          refine lv_aload_n hx hb dM_start_192 rfl (lv_at hl 1 rfl) ?_
          refine n_get S C hin_M 0 rfl rfl 4 (by decide) g_406 rfl dM_start_193 ?_
          refine lv_sipush (v := nI 300) hx hb dM_start_196 (by decide) ?_
          refine lv_aload_n hx hb dM_start_199 rfl (lv_at hl 1 rfl) ?_
          refine n_get S C hin_M 0 rfl rfl 3 (by decide) g_405 rfl dM_start_200 ?_
          refine lv_iconst (v := nI 1) hx hb dM_start_203 (by decide) ?_
          refine n_iald S C 1 rfl (i := 1) (by omega) (by decide) dM_start_204 ?_
          refine lv_topi (nm_r (e' := nI ((R 2).2)) hr1 ?_)
          refine n_callV (wc := [(h0, .inr (3, mF q (th) (tz))), (q 3, .inl (ca 1, 9600, .inl (b30))), (q 4, .inl (ca 0, 6, .inl ((upd (F 4) k0 (nI k))))), (q 5, .inl (ca 0, 6, .inl (p30))), (q 10, .inl (ca 1, 1600, .inl (n30))), (q 11, .inl (ca 1, 1600, .inl (x30))), (q 2, .inl (ca 0, 900, .inl (F 2)))]) (wr := [(q 1, .inl (ca 0, 3, .inl (F 1))), (q 6, .inl (ca 0, 6, .inl (upd (F 6) k0 (nI 4)))), (q 7, .inl (ca 1, 6, .inl (upd (F 7) k0 (vp_nar .boolean (nI 0))))), (q 8, .inl (ca 0, 6, .inl (upd (F 8) k0 (nI 0)))), (q 9, .inl (ca 0, 6, .inl (upd (F 9) k0 ((-1)))))]) C [0, 3, 4, 5, 10, 11, 2] [1, 6, 7, 8, 9] rfl rfl rfl rfl (by decide) (fun hp => va_runV (rest := []) S (c_M_string l D ca s0 a0 Z h0 q th tz k0 k hk0 hk b30 (upd (F 4) k0 (nI k)) p30 n30 x30 pk_us (takeS (wid k) (takeL (wid k) (zeroC) (wid k)) pTup 9) h30.1 (takeS_lt _ _ (takeL_lt _ hzl)) (F 2) 300 (R 2).2 (R 2).1 hn1 (by decide) (fun j hj => ht1 j hj) _) (cwV 4 hts (gV g_390 g_391 g_23 g_34 g_392) rfl rfl rfl (by decide +kernel) ⟨Nat.le_of_ble_eq_true rfl, Nat.le_of_ble_eq_true rfl⟩) ⟨hp.1, n_recv C 0 3 rfl rfl, hp.2⟩ rfl rfl hl.1 rfl (lv_room (Nat.le_of_ble_eq_true rfl)) dM_start_205 ⟨Nat.le_of_ble_eq_true rfl, Nat.le_of_ble_eq_true rfl⟩) (fun u H locs hp C => ?_)
          replace C : Cx D ca s0 A s [(h0, .inr (3, mF q (th) (tz))), (q 1, .inl (ca 0, 3, .inl (F 1))), (q 2, .inl (ca 0, 900, .inl (F 2))), (q 3, .inl (ca 1, 9600, .inl (u.1))), (q 4, .inl (ca 0, 6, .inl ((upd (F 4) k0 (nI k))))), (q 5, .inl (ca 0, 6, .inl (u.2.1))), (q 6, .inl (ca 0, 6, .inl (upd (F 6) k0 (nI 4)))), (q 7, .inl (ca 1, 6, .inl (upd (F 7) k0 (vp_nar .boolean (nI 0))))), (q 8, .inl (ca 0, 6, .inl (upd (F 8) k0 (nI 0)))), (q 9, .inl (ca 0, 6, .inl (upd (F 9) k0 ((-1))))), (q 10, .inl (ca 1, 1600, .inl (u.2.2.1))), (q 11, .inl (ca 1, 1600, .inl (u.2.2.2)))] H locs := C.re [5, 0, 11, 6, 7, 8, 1, 2, 3, 4, 9, 10] rfl rfl
          obtain ⟨b31, p31, n31, x31⟩ := u
          have h31 := h30.tr hp
          replace C : Cx D ca s0 A s [(h0, .inr (3, mF q (th) (tz))), (q 1, .inl (ca 0, 3, .inl (F 1))), (q 2, .inl (ca 0, 900, .inl (F 2))), (q 3, .inl (ca 1, 9600, .inl (b31))), (q 4, .inl (ca 0, 6, .inl ((upd (F 4) k0 (nI k))))), (q 5, .inl (ca 0, 6, .inl (p31))), (q 6, .inl (ca 0, 6, .inl (upd (F 6) k0 (nI 4)))), (q 7, .inl (ca 1, 6, .inl (upd (F 7) k0 (vp_nar .boolean (nI 0))))), (q 8, .inl (ca 0, 6, .inl (upd (F 8) k0 (nI 0)))), (q 9, .inl (ca 0, 6, .inl (upd (F 9) k0 ((-1))))), (q 10, .inl (ca 1, 1600, .inl (n31))), (q 11, .inl (ca 1, 1600, .inl (x31)))] H locs := C
          refine lv_aload_n hx hb dM_start_208 rfl (lv_at hl 1 rfl) ?_
          refine lv_iload_n hx hb dM_start_209 rfl (lv_at hl 2 rfl) ?_
          refine n_callV (wc := [(h0, .inr (3, mF q (th) (tz))), (q 3, .inl (ca 1, 9600, .inl (b31))), (q 4, .inl (ca 0, 6, .inl ((upd (F 4) k0 (nI k))))), (q 5, .inl (ca 0, 6, .inl (p31))), (q 10, .inl (ca 1, 1600, .inl (n31))), (q 11, .inl (ca 1, 1600, .inl (x31)))]) (wr := [(q 1, .inl (ca 0, 3, .inl (F 1))), (q 2, .inl (ca 0, 900, .inl (F 2))), (q 6, .inl (ca 0, 6, .inl (upd (F 6) k0 (nI 4)))), (q 7, .inl (ca 1, 6, .inl (upd (F 7) k0 (vp_nar .boolean (nI 0))))), (q 8, .inl (ca 0, 6, .inl (upd (F 8) k0 (nI 0)))), (q 9, .inl (ca 0, 6, .inl (upd (F 9) k0 ((-1)))))]) C [0, 3, 4, 5, 10, 11] [1, 2, 6, 7, 8, 9] rfl rfl rfl rfl (by decide) (fun hp => va_runV (rest := []) S (c_M_fill l D ca s0 a0 Z h0 q th tz k0 k hk0 hk b31 (upd (F 4) k0 (nI k)) p31 n31 x31 pk_us (takeS (wid k) (takeS (wid k) (takeL (wid k) (zeroC) (wid k)) pTup 9) (R 2).1 (R 2).2) h31.1 (takeS_lt _ _ (takeS_lt _ _ (takeL_lt _ hzl))) _) (cwV 1 hts (gV g_399 g_400 g_25 g_34 g_401) rfl rfl rfl (by decide +kernel) ⟨Nat.le_of_ble_eq_true rfl, Nat.le_of_ble_eq_true rfl⟩) ⟨hp.1, n_recv C 0 3 rfl rfl, hp.2⟩ rfl rfl hl.1 rfl (lv_room (Nat.le_of_ble_eq_true rfl)) dM_start_210 ⟨Nat.le_of_ble_eq_true rfl, Nat.le_of_ble_eq_true rfl⟩) (fun u H locs hp C => ?_)
          replace C : Cx D ca s0 A s [(h0, .inr (3, mF q (th) (tz))), (q 1, .inl (ca 0, 3, .inl (F 1))), (q 2, .inl (ca 0, 900, .inl (F 2))), (q 3, .inl (ca 1, 9600, .inl (u.1))), (q 4, .inl (ca 0, 6, .inl ((upd (F 4) k0 (nI k))))), (q 5, .inl (ca 0, 6, .inl (u.2.1))), (q 6, .inl (ca 0, 6, .inl (upd (F 6) k0 (nI 4)))), (q 7, .inl (ca 1, 6, .inl (upd (F 7) k0 (vp_nar .boolean (nI 0))))), (q 8, .inl (ca 0, 6, .inl (upd (F 8) k0 (nI 0)))), (q 9, .inl (ca 0, 6, .inl (upd (F 9) k0 ((-1))))), (q 10, .inl (ca 1, 1600, .inl (u.2.2.1))), (q 11, .inl (ca 1, 1600, .inl (u.2.2.2)))] H locs := C.re [6, 0, 1, 7, 8, 9, 2, 3, 4, 5, 10, 11] rfl rfl
          obtain ⟨b32, p32, n32, x32⟩ := u
          have h32 := h31.tr hp
          replace C : Cx D ca s0 A s [(h0, .inr (3, mF q (th) (tz))), (q 1, .inl (ca 0, 3, .inl (F 1))), (q 2, .inl (ca 0, 900, .inl (F 2))), (q 3, .inl (ca 1, 9600, .inl (b32))), (q 4, .inl (ca 0, 6, .inl ((upd (F 4) k0 (nI k))))), (q 5, .inl (ca 0, 6, .inl (p32))), (q 6, .inl (ca 0, 6, .inl (upd (F 6) k0 (nI 4)))), (q 7, .inl (ca 1, 6, .inl (upd (F 7) k0 (vp_nar .boolean (nI 0))))), (q 8, .inl (ca 0, 6, .inl (upd (F 8) k0 (nI 0)))), (q 9, .inl (ca 0, 6, .inl (upd (F 9) k0 ((-1))))), (q 10, .inl (ca 1, 1600, .inl (n32))), (q 11, .inl (ca 1, 1600, .inl (x32)))] H locs := C
          refine lv_iload_n hx hb dM_start_213 rfl (lv_at hl 3 rfl) ?_
          refine lv_bipush (v := nI 7) hx hb dM_start_214 (by decide) ?_
          refine n_icmp_le (tgt := 257) S (by omega) (by omega) dM_start_216 (by decide) (fun hc => False.elim (by omega)) (fun hc => ?_)
          refine lv_iload_n hx hb dM_start_219 rfl (lv_at hl 3 rfl) ?_
          refine lv_bipush (v := nI 12) hx hb dM_start_220 (by decide) ?_
          refine n_icmp_ge (tgt := 257) S (by omega) (by omega) dM_start_222 (by decide) (fun hc => ?_) (fun hc => False.elim (by omega))
          have eC : beginC k R = fillU (takeS (wid k) (takeS (wid k) (takeL (wid k) (zeroC) (wid k)) pTup 9) (R 2).1 (R 2).2) := (if_neg (by omega)).trans ((if_neg (by omega)).trans (if_neg (by omega)))
          have eE : beginE k R = 4 := (if_neg (by omega)).trans ((if_neg (by omega)).trans (if_neg (by omega)))
          rw [eC, eE] at ret
          exact ret ((mkF b32 (upd (F 4) k0 (nI k)) p32 (upd (F 6) k0 (nI 4)) (upd (F 7) k0 (vp_nar .boolean (nI 0))) (upd (F 8) k0 (nI 0)) (upd (F 9) k0 (-1)) n32 x32)) _ _ _ _ _ _ (Nat.le_refl _) (Nat.le_refl _) (⟨h32, one.up, one.up, one.up, one.up' rfl, one.up⟩) C dM_start_257
      · skip
        refine lv_aload_n hx hb dM_start_9 rfl (lv_at hl 1 rfl) ?_
        refine n_get S C hin_M 0 rfl rfl 5 (by decide) g_407 rfl dM_start_10 ?_
        refine lv_sipush (v := nI 1600) hx hb dM_start_13 (by decide) ?_
        refine lv_iload_n hx hb dM_start_16 rfl (lv_at hl 2 rfl) ?_
        refine n_mul S dM_start_17 ?_
        refine lv_iload_n hx hb dM_start_18 rfl (lv_at hl 0 rfl) ?_
        refine n_add S dM_start_19 ?_
        refine lv_iconst (v := nI 0) hx hb dM_start_20 (by decide) ?_
        refine n_zast S C 3 rfl (i := (1600 * k0) + i) (by omega) (by decide) dM_start_21 (fun H locs C => ?_)
        replace C : Cx D ca s0 A s [(h0, .inr (3, mF q (th) (tz))), (q 1, .inl (ca 0, 3, .inl (F 1))), (q 2, .inl (ca 0, 900, .inl (F 2))), (q 3, .inl (ca 1, 9600, .inl (upd bz ((1600 * k0) + i) (vp_nar .boolean (nI 0))))), (q 4, .inl (ca 0, 6, .inl (F 4))), (q 5, .inl (ca 0, 6, .inl (F 5))), (q 6, .inl (ca 0, 6, .inl (F 6))), (q 7, .inl (ca 1, 6, .inl (F 7))), (q 8, .inl (ca 0, 6, .inl (F 8))), (q 9, .inl (ca 0, 6, .inl (F 9))), (q 10, .inl (ca 1, 1600, .inl (F 10))), (q 11, .inl (ca 1, 1600, .inl (F 11)))] H locs := C
        refine lv_iinc (k := 0) (v := nI (i + 1)) hx hb dM_start_22 hl rfl (n_inc1 _) (Nat.le_of_ble_eq_true rfl) rfl (fun ls hl => ?_)
        replace hl : lv_has ls 4 [(3, .int (nI (i + 1))), (0, .ref (h0)), (1, .int (nI k0)), (2, .int (nI k))] := hl
        refine lv_goto (tgt := 2) hx hb dM_start_25 (by decide) ?_
        exact ih_lp2 (i + 1) _ _ _ _ (by omega) (by omega) (rS_s hI rfl) C (lv_sub hl [0, 1, 2, 3] rfl)
  exact lp2 (1600 + 1) 0 _ _ _ _ (by omega) (by omega) rS_0 C (lv_sub hl [0, 1, 2, 3] rfl)
