abbrev rm_S_mix : Room := { frames := 0, cells := 0, slots := 0, locals := 0 }
set_option maxHeartbeats 4000000 in
set_option maxRecDepth 100000 in
theorem c_S_mix (l : Launch) (D : va_G) (ca : Nat → ClassId) (s0 : State) (a0 : Array Value) (Z : Wd a0 s0) (h b : Nat) (L : Nat → Int64) (kd wd pl en tk dn rm : Int32) (p0 : Nat) (hp0 : p0 < 200) (x : Int32) : CtV l yS_mix [.code yS_mix cS_mix 3 none] rm_S_mix 0 0 D ca s0 [.ref (h), .int (nI p0), .int (x)] [(h, .inr (1, [.ref (b), .int (kd), .int (wd), .int (pl), .int (en), .int (tk), .int (dn), .int (rm)])), (b, .inl (ca 2, 25, .inr (.inl (L))))] (S := Nat → Int64) (fun M => kEq (lb M) (mixB (lb L) p0 (bv8 x))) (fun M => [(h, .inr (1, [.ref (b), .int (kd), .int (wd), .int (pl), .int (en), .int (tk), .int (dn), .int (rm)])), (b, .inl (ca 2, 25, .inr (.inl M)))]) := by
  refine ctV_of (cc := cS_mix) (maxL := 3) (own := RS) Z rfl (by decide) rfl (Nat.le_of_ble_eq_true rfl) ?_
  intro p e s m args below meth c A ls Q S hnm ret C hl
  have hx := S.1
  have hb := S.2.1
  have hown := S.2.2.2.1
  have hts := S.2.2.2.2
  generalize s.heap = H at C ⊢
  generalize ([] : List Loc) = locs at C ⊢
  replace hl : lv_has ls 3 [(0, .ref (h)), (1, .int (nI p0)), (2, .int (x))] := hl
  refine lv_aload_n hx hb dS_mix_0 rfl (lv_at hl 0 rfl) ?_
  refine n_get S C hin_S 0 rfl rfl 0 (by decide) g_73 rfl dS_mix_1 ?_
  refine lv_iload_n hx hb dS_mix_4 rfl (lv_at hl 1 rfl) ?_
  refine lv_iconst (v := nI 3) hx hb dS_mix_5 (by decide) ?_
  refine n_ushr S (by omega) (by omega) dS_mix_6 ?_
  refine lv_topi (nm_r (e' := nI (p0 / 8)) rfl ?_)
  refine lv_dup2_11 hx hb dS_mix_7 rfl rfl ?_
  refine n_lald S C 1 rfl (i := p0 / 8) (by omega) (by decide) dS_mix_8 ?_
  refine lv_iload_n hx hb dS_mix_9 rfl (lv_at hl 2 rfl) ?_
  refine lv_i2l (v := x.toInt64) hx hb dS_mix_10 rfl ?_
  refine lv_ldc2 (v := 255) hx hb hown (hts _ g_199) dS_mix_11 ?_
  refine lv_land hx hb dS_mix_14 ?_
  refine lv_bipush (v := nI 8) hx hb dS_mix_15 (by decide) ?_
  refine lv_iload_n hx hb dS_mix_17 rfl (lv_at hl 1 rfl) ?_
  refine lv_bipush (v := nI 7) hx hb dS_mix_18 (by decide) ?_
  refine n_and S 3 (by decide) (by omega) (by decide) dS_mix_20 ?_
  refine lv_topi (nm_r (e' := nI (p0 % 8)) rfl ?_)
  refine n_mul S dS_mix_21 ?_
  refine lv_lshl (v := lShl (x.toInt64 &&& 255) (8 * (p0 % 8))) hx hb dS_mix_22 rfl ?_
  refine lv_lxor hx hb dS_mix_23 ?_
  refine n_last S C 1 rfl (i := p0 / 8) (by omega) (by decide) dS_mix_24 (fun H locs C => ?_)
  replace C : Cx D ca s0 A s [(h, .inr (1, [.ref (b), .int (kd), .int (wd), .int (pl), .int (en), .int (tk), .int (dn), .int (rm)])), (b, .inl (ca 2, 25, .inr (.inl (vp_updL L (p0 / 8) ((L (p0 / 8)) ^^^ (lShl (x.toInt64 &&& 255) (8 * (p0 % 8))))))))] H locs := C
  exact ret _ _ _ _ _ _ _ (Nat.le_refl _) (Nat.le_refl _) (lMix_ok L x hp0) C dS_mix_25
abbrev rm_S_takeByte : Room := { frames := 2, cells := 0, slots := 0, locals := 62 }
set_option maxHeartbeats 4000000 in
set_option maxRecDepth 100000 in
theorem c_S_takeByte (l : Launch) (D : va_G) (ca : Nat → ClassId) (s0 : State) (a0 : Array Value) (Z : Wd a0 s0) (tz : Nat → Nat) (Zs : ZS tz s0) (h b : Nat) (L : Nat → Int64) (kd en tk dn rm : Int32) (w : Nat) (hw : w ≤ 200) (c0 : Co) (hL : kEq (lb L) c0.1) (hp0 : c0.2 < w) (x : Int32) : CtV l yS_takeByte [.code yS_takeByte cS_takeByte 2 none] rm_S_takeByte 0 0 D ca s0 [.ref (h), .int (x)] [(h, .inr (1, [.ref (b), .int (kd), .int (nI w), .int (nI (c0.2)), .int (en), .int (tk), .int (dn), .int (rm)])), (b, .inl (ca 2, 25, .inr (.inl (L))))] (S := Nat → Int64) (fun M => kEq (lb M) (takeB w c0 (bv8 x)).1) (fun M => [(h, .inr (1, [.ref (b), .int (kd), .int (nI w), .int (nI (takeB w c0 (bv8 x)).2), .int (en), .int (tk), .int (dn), .int (rm)])), (b, .inl (ca 2, 25, .inr (.inl M)))]) := by
  refine ctV_of (cc := cS_takeByte) (maxL := 2) (own := RS) Z rfl (by decide) rfl (Nat.le_of_ble_eq_true rfl) ?_
  intro p e s m args below meth c A ls Q S hnm ret C hl
  have hx := S.1
  have hb := S.2.1
  have hown := S.2.2.2.1
  have hts := S.2.2.2.2
  generalize s.heap = H at C ⊢
  generalize ([] : List Loc) = locs at C ⊢
  replace hl : lv_has ls 2 [(0, .ref (h)), (1, .int (x))] := hl
  refine lv_aload_n hx hb dS_takeByte_0 rfl (lv_at hl 0 rfl) ?_
  refine lv_aload_n hx hb dS_takeByte_1 rfl (lv_at hl 0 rfl) ?_
  refine n_get S C hin_S 0 rfl rfl 3 (by decide) g_76 rfl dS_takeByte_2 ?_
  refine lv_iload_n hx hb dS_takeByte_5 rfl (lv_at hl 1 rfl) ?_
  refine n_callV (wc := [(h, .inr (1, [.ref (b), .int (kd), .int (nI w), .int (nI (c0.2)), .int (en), .int (tk), .int (dn), .int (rm)])), (b, .inl (ca 2, 25, .inr (.inl (L))))]) (wr := []) C [0, 1] [] rfl rfl rfl rfl (by decide) (fun hp => va_runV (rest := []) S (c_S_mix l D ca s0 a0 Z h b L kd (nI w) (nI c0.2) en tk dn rm c0.2 (by omega) x _) (cwV 2 hts (gV g_196 g_197 g_4 g_32 g_198) rfl rfl rfl (by decide +kernel) ⟨Nat.le_of_ble_eq_true rfl, Nat.le_of_ble_eq_true rfl⟩) ⟨hp.1, n_recv C 0 1 rfl rfl, hp.2⟩ rfl rfl hl.1 rfl (lv_room (Nat.le_of_ble_eq_true rfl)) dS_takeByte_6 ⟨Nat.le_of_ble_eq_true rfl, Nat.le_of_ble_eq_true rfl⟩) (fun u H locs hp C => ?_)
  replace C : Cx D ca s0 A s [(h, .inr (1, [.ref (b), .int (kd), .int (nI w), .int (nI (c0.2)), .int (en), .int (tk), .int (dn), .int (rm)])), (b, .inl (ca 2, 25, .inr (.inl (u))))] H locs := C.re [0, 1] rfl rfl
  obtain ⟨M1, rfl⟩ : ∃ z, z = u := ⟨_, rfl⟩
  have h1 := hp
  refine lv_aload_n hx hb dS_takeByte_9 rfl (lv_at hl 0 rfl) ?_
  refine lv_dup hx hb dS_takeByte_10 rfl ?_
  refine n_get S C hin_S 0 rfl rfl 3 (by decide) g_76 rfl dS_takeByte_11 ?_
  refine lv_iconst (v := nI 1) hx hb dS_takeByte_14 (by decide) ?_
  refine n_add S dS_takeByte_15 ?_
  refine n_put S C hin_S tyS tyS_ok nmS 0 rfl rfl 3 (by decide) g_76 rfl rfl rfl rfl (Nat.le_of_ble_eq_true rfl) dS_takeByte_16 (fun H locs C => ?_)
  replace C : Cx D ca s0 A s [(h, .inr (1, [.ref (b), .int (kd), .int (nI w), .int (nI (c0.2 + 1)), .int (en), .int (tk), .int (dn), .int (rm)])), (b, .inl (ca 2, 25, .inr (.inl (M1))))] H locs := C
  refine lv_aload_n hx hb dS_takeByte_19 rfl (lv_at hl 0 rfl) ?_
  refine n_get S C hin_S 0 rfl rfl 3 (by decide) g_76 rfl dS_takeByte_20 ?_
  refine lv_aload_n hx hb dS_takeByte_23 rfl (lv_at hl 0 rfl) ?_
  refine n_get S C hin_S 0 rfl rfl 2 (by decide) g_75 rfl dS_takeByte_24 ?_
  refine n_icmp_lt (tgt := 34) S (by omega) (by omega) dS_takeByte_27 (by decide) (fun hc27 => ?_) (fun hc27 => ?_)
  · skip
    rw [takeB_f (by omega)] at ret
    exact ret M1 _ _ _ _ _ _ (Nat.le_refl _) (Nat.le_refl _) (h1.tr (mixB_eq hL _ _)) C dS_takeByte_34
  · skip
    refine lv_aload_n hx hb dS_takeByte_30 rfl (lv_at hl 0 rfl) ?_
    refine n_callV (wc := [(h, .inr (1, [.ref (b), .int (kd), .int (nI w), .int (nI (c0.2 + 1)), .int (en), .int (tk), .int (dn), .int (rm)])), (b, .inl (ca 2, 25, .inr (.inl (M1))))]) (wr := []) C [0, 1] [] rfl rfl rfl rfl (by decide) (fun hp => va_runV (rest := []) S (c_S_permute l D ca s0 a0 Z tz Zs h b M1 kd (nI w) (nI (c0.2 + 1)) en tk dn rm (mixB c0.1 c0.2 (bv8 x)) (h1.tr (mixB_eq hL _ _)) _) (cwV 0 hts (gV g_200 g_201 g_5 g_32 g_202) rfl rfl rfl (by decide +kernel) ⟨Nat.le_of_ble_eq_true rfl, Nat.le_of_ble_eq_true rfl⟩) ⟨hp.1, n_recv C 0 1 rfl rfl, hp.2⟩ rfl rfl hl.1 rfl (lv_room (Nat.le_of_ble_eq_true rfl)) dS_takeByte_31 ⟨Nat.le_of_ble_eq_true rfl, Nat.le_of_ble_eq_true rfl⟩) (fun u H locs hp C => ?_)
    replace C : Cx D ca s0 A s [(h, .inr (1, [.ref (b), .int (kd), .int (nI w), .int (nI 0), .int (en), .int (tk), .int (dn), .int (rm)])), (b, .inl (ca 2, 25, .inr (.inl (u))))] H locs := C.re [0, 1] rfl rfl
    obtain ⟨M2, rfl⟩ : ∃ z, z = u := ⟨_, rfl⟩
    have h2 := hp
    rw [takeB_t (by omega)] at ret
    exact ret M2 _ _ _ _ _ _ (Nat.le_refl _) (Nat.le_refl _) h2 C dS_takeByte_34
abbrev rm_S_fillUp : Room := { frames := 2, cells := 0, slots := 0, locals := 62 }
set_option maxHeartbeats 4000000 in
set_option maxRecDepth 100000 in
theorem c_S_fillUp (l : Launch) (D : va_G) (ca : Nat → ClassId) (s0 : State) (a0 : Array Value) (Z : Wd a0 s0) (tz : Nat → Nat) (Zs : ZS tz s0) (h b : Nat) (L : Nat → Int64) (kd en tk dn rm : Int32) (w : Nat) (hw : w ≤ 200) (c0 : Co) (hL : kEq (lb L) c0.1) (hp0 : c0.2 < w)  : CtV l yS_fillUp [.code yS_fillUp cS_fillUp 1 none] rm_S_fillUp 0 0 D ca s0 [.ref (h)] [(h, .inr (1, [.ref (b), .int (kd), .int (nI w), .int (nI (c0.2)), .int (en), .int (tk), .int (dn), .int (rm)])), (b, .inl (ca 2, 25, .inr (.inl (L))))] (S := Nat → Int64) (fun M => kEq (lb M) (fillU c0).1) (fun M => [(h, .inr (1, [.ref (b), .int (kd), .int (nI w), .int (nI (fillU c0).2), .int (en), .int (tk), .int (dn), .int (rm)])), (b, .inl (ca 2, 25, .inr (.inl M)))]) := by
  refine ctV_of (cc := cS_fillUp) (maxL := 1) (own := RS) Z rfl (by decide) rfl (Nat.le_of_ble_eq_true rfl) ?_
  intro p e s m args below meth c A ls Q S hnm ret C hl
  have hx := S.1
  have hb := S.2.1
  have hown := S.2.2.2.1
  have hts := S.2.2.2.2
  generalize s.heap = H at C ⊢
  generalize ([] : List Loc) = locs at C ⊢
  replace hl : lv_has ls 1 [(0, .ref (h))] := hl
  refine lv_aload_n hx hb dS_fillUp_0 rfl (lv_at hl 0 rfl) ?_
  refine n_get S C hin_S 0 rfl rfl 3 (by decide) g_76 rfl dS_fillUp_1 ?_
  refine n_if_le (tgt := 11) S (by omega) dS_fillUp_4 (by decide) (fun hc4 => ?_) (fun hc4 => ?_)
  · skip
    rw [show fillU c0 = c0 from if_pos hc4] at ret
    exact ret L _ _ _ _ _ _ (Nat.le_refl _) (Nat.le_refl _) hL C dS_fillUp_11
  · skip
    refine lv_aload_n hx hb dS_fillUp_7 rfl (lv_at hl 0 rfl) ?_
    refine n_callV (wc := [(h, .inr (1, [.ref (b), .int (kd), .int (nI w), .int (nI (c0.2)), .int (en), .int (tk), .int (dn), .int (rm)])), (b, .inl (ca 2, 25, .inr (.inl (L))))]) (wr := []) C [0, 1] [] rfl rfl rfl rfl (by decide) (fun hp => va_runV (rest := []) S (c_S_permute l D ca s0 a0 Z tz Zs h b L kd (nI w) (nI c0.2) en tk dn rm c0.1 hL _) (cwV 0 hts (gV g_200 g_201 g_5 g_32 g_202) rfl rfl rfl (by decide +kernel) ⟨Nat.le_of_ble_eq_true rfl, Nat.le_of_ble_eq_true rfl⟩) ⟨hp.1, n_recv C 0 1 rfl rfl, hp.2⟩ rfl rfl hl.1 rfl (lv_room (Nat.le_of_ble_eq_true rfl)) dS_fillUp_8 ⟨Nat.le_of_ble_eq_true rfl, Nat.le_of_ble_eq_true rfl⟩) (fun u H locs hp C => ?_)
    replace C : Cx D ca s0 A s [(h, .inr (1, [.ref (b), .int (kd), .int (nI w), .int (nI 0), .int (en), .int (tk), .int (dn), .int (rm)])), (b, .inl (ca 2, 25, .inr (.inl (u))))] H locs := C.re [0, 1] rfl rfl
    obtain ⟨M2, rfl⟩ : ∃ z, z = u := ⟨_, rfl⟩
    have h2 := hp
    rw [show fillU c0 = (kecc c0.1, 0) from if_neg (by omega)] at ret
    exact ret M2 _ _ _ _ _ _ (Nat.le_refl _) (Nat.le_refl _) h2 C dS_fillUp_11
abbrev rm_S_sizeOf : Room := { frames := 0, cells := 0, slots := 0, locals := 0 }
set_option maxHeartbeats 4000000 in
set_option maxRecDepth 100000 in
theorem c_S_sizeOf (l : Launch) (D : va_G) (ca : Nat → ClassId) (s0 : State) (a0 : Array Value) (Z : Wd a0 s0) (v : Nat) (hv : v < 65536) : CtI l yS_sizeOf [.code yS_sizeOf cS_sizeOf 2 (some .int)] rm_S_sizeOf 0 0 D ca s0 [.int (nI v)] [] (S := Unit) (fun r _ => r = nI (nB v)) (fun _ => []) := by
  refine ctI_of (cc := cS_sizeOf) (maxL := 2) (own := RS) Z rfl (by decide) rfl (Nat.le_of_ble_eq_true rfl) ?_
  intro p e s m args below meth c A ls Q S hnm ret C hl
  have hx := S.1
  have hb := S.2.1
  have hown := S.2.2.2.1
  have hts := S.2.2.2.2
  generalize s.heap = H at C ⊢
  generalize ([] : List Loc) = locs at C ⊢
  replace hl : lv_has ls 2 [(0, .int (nI v))] := hl
  refine lv_iconst (v := nI 1) hx hb dS_sizeOf_0 (by decide) ?_
  refine lv_istore_n hx hb dS_sizeOf_1 rfl hl (Nat.le_of_ble_eq_true rfl) rfl (fun ls hl => ?_)
  replace hl : lv_has ls 2 [(1, .int (nI 1)), (0, .int (nI v))] := hl
  refine lv_iload_n hx hb dS_sizeOf_2 rfl (lv_at hl 0 rfl) ?_
  refine lv_iconst (v := nI 4) hx hb dS_sizeOf_3 (by decide) ?_
  refine n_icmp_ge (tgt := 22) S (by omega) (by omega) dS_sizeOf_4 (by decide) (fun hc => False.elim (by omega)) (fun hc => ?_)
  refine lv_iload_n hx hb dS_sizeOf_7 rfl (lv_at hl 1 rfl) ?_
  refine lv_bipush (v := nI 8) hx hb dS_sizeOf_8 (by decide) ?_
  refine lv_iload_n hx hb dS_sizeOf_10 rfl (lv_at hl 0 rfl) ?_
  refine n_mul S dS_sizeOf_11 ?_
  refine lv_topi (nm_r (e' := nI 8) rfl ?_)
  refine n_ushr S (by omega) (by omega) dS_sizeOf_12 ?_
  refine n_if_eq (tgt := 22) S (by omega) dS_sizeOf_13 (by decide) (fun hc13 => ?_) (fun hc13 => ?_)
  · skip
    refine lv_iload_n hx hb dS_sizeOf_22 rfl (lv_at hl 0 rfl) ?_
    exact ret (nI 1) (()) _ _ _ _ _ _ (Nat.le_refl _) (Nat.le_refl _) (by unfold nB; rw [if_pos (by omega)]) C dS_sizeOf_23
  · skip
    refine lv_iinc (k := 0) (v := nI 2) hx hb dS_sizeOf_16 hl rfl (n_inc1 _) (Nat.le_of_ble_eq_true rfl) rfl (fun ls hl => ?_)
    replace hl : lv_has ls 2 [(1, .int (nI 2)), (0, .int (nI v))] := hl
    refine lv_goto (tgt := 2) hx hb dS_sizeOf_19 (by decide) ?_
    refine lv_iload_n hx hb dS_sizeOf_2 rfl (lv_at hl 0 rfl) ?_
    refine lv_iconst (v := nI 4) hx hb dS_sizeOf_3 (by decide) ?_
    refine n_icmp_ge (tgt := 22) S (by omega) (by omega) dS_sizeOf_4 (by decide) (fun hc => False.elim (by omega)) (fun hc => ?_)
    refine lv_iload_n hx hb dS_sizeOf_7 rfl (lv_at hl 1 rfl) ?_
    refine lv_bipush (v := nI 8) hx hb dS_sizeOf_8 (by decide) ?_
    refine lv_iload_n hx hb dS_sizeOf_10 rfl (lv_at hl 0 rfl) ?_
    refine n_mul S dS_sizeOf_11 ?_
    refine lv_topi (nm_r (e' := nI 16) rfl ?_)
    refine n_ushr S (by omega) (by omega) dS_sizeOf_12 ?_
    refine n_if_eq (tgt := 22) S (by omega) dS_sizeOf_13 (by decide) (fun hc => ?_) (fun hc => False.elim (by omega))
    refine lv_iload_n hx hb dS_sizeOf_22 rfl (lv_at hl 0 rfl) ?_
    exact ret (nI 2) (()) _ _ _ _ _ _ (Nat.le_refl _) (Nat.le_refl _) (by unfold nB; rw [if_neg (by omega)]) C dS_sizeOf_23
abbrev rm_S_takeLeft : Room := { frames := 3, cells := 0, slots := 0, locals := 83 }
set_option maxHeartbeats 4000000 in
set_option maxRecDepth 100000 in
theorem c_S_takeLeft (l : Launch) (D : va_G) (ca : Nat → ClassId) (s0 : State) (a0 : Array Value) (Z : Wd a0 s0) (tz : Nat → Nat) (Zs : ZS tz s0) (h b : Nat) (L : Nat → Int64) (kd en tk dn rm : Int32) (w : Nat) (hw : w ≤ 200) (c0 : Co) (hL : kEq (lb L) c0.1) (hp0 : c0.2 < w) (v : Nat) (hv : v < 65536) : CtV l yS_takeLeft [.code yS_takeLeft cS_takeLeft 4 none] rm_S_takeLeft 0 0 D ca s0 [.ref (h), .int (nI v)] [(h, .inr (1, [.ref (b), .int (kd), .int (nI w), .int (nI (c0.2)), .int (en), .int (tk), .int (dn), .int (rm)])), (b, .inl (ca 2, 25, .inr (.inl (L))))] (S := Nat → Int64) (fun M => kEq (lb M) (takeL w c0 v).1) (fun M => [(h, .inr (1, [.ref (b), .int (kd), .int (nI w), .int (nI (takeL w c0 v).2), .int (en), .int (tk), .int (dn), .int (rm)])), (b, .inl (ca 2, 25, .inr (.inl M)))]) := by
  refine ctV_of (cc := cS_takeLeft) (maxL := 4) (own := RS) Z rfl (by decide) rfl (Nat.le_of_ble_eq_true rfl) ?_
  intro p e s m args below meth c A ls Q S hnm ret C hl
  have hx := S.1
  have hb := S.2.1
  have hown := S.2.2.2.1
  have hts := S.2.2.2.2
  generalize s.heap = H at C ⊢
  generalize ([] : List Loc) = locs at C ⊢
  replace hl : lv_has ls 4 [(0, .ref (h)), (1, .int (nI v))] := hl
  refine lv_iload_n hx hb dS_takeLeft_0 rfl (lv_at hl 1 rfl) ?_
  refine n_callP C (fun hp => va_runS (rest := []) S (c_S_sizeOf l D ca s0 a0 Z v hv _) (cwS 1 hts (gS g_190 g_191 g_32 g_192) rfl rfl rfl (by decide +kernel) ⟨Nat.le_of_ble_eq_true rfl, Nat.le_of_ble_eq_true rfl⟩) hp rfl rfl hl.1 rfl (lv_room (Nat.le_of_ble_eq_true rfl)) dS_takeLeft_1 ⟨Nat.le_of_ble_eq_true rfl, Nat.le_of_ble_eq_true rfl⟩) (fun r u H locs hp C => ?_)
  subst hp
  by_cases hv2 : v < 256
  · skip
    refine lv_topi (nm_r (e' := nI 1) (congrArg nI (show nB v = 1 from if_pos hv2)) ?_)
    refine lv_istore_n hx hb dS_takeLeft_4 rfl hl (Nat.le_of_ble_eq_true rfl) rfl (fun ls hl => ?_)
    replace hl : lv_has ls 4 [(2, .int (nI 1)), (0, .ref (h)), (1, .int (nI v))] := hl
    refine lv_aload_n hx hb dS_takeLeft_5 rfl (lv_at hl 1 rfl) ?_
    refine lv_iload_n hx hb dS_takeLeft_6 rfl (lv_at hl 0 rfl) ?_
    refine n_callV (wc := [(h, .inr (1, [.ref (b), .int (kd), .int (nI w), .int (nI (c0.2)), .int (en), .int (tk), .int (dn), .int (rm)])), (b, .inl (ca 2, 25, .inr (.inl (L))))]) (wr := []) C [0, 1] [] rfl rfl rfl rfl (by decide) (fun hp => va_runV (rest := []) S (c_S_takeByte l D ca s0 a0 Z tz Zs h b L kd en tk dn rm w hw (c0) hL hp0 (nI 1) _) (cwV 1 hts (gV g_193 g_194 g_3 g_32 g_195) rfl rfl rfl (by decide +kernel) ⟨Nat.le_of_ble_eq_true rfl, Nat.le_of_ble_eq_true rfl⟩) ⟨hp.1, n_recv C 0 1 rfl rfl, hp.2⟩ rfl rfl hl.1 rfl (lv_room (Nat.le_of_ble_eq_true rfl)) dS_takeLeft_7 ⟨Nat.le_of_ble_eq_true rfl, Nat.le_of_ble_eq_true rfl⟩) (fun u H locs hp C => ?_)
    replace C : Cx D ca s0 A s [(h, .inr (1, [.ref (b), .int (kd), .int (nI w), .int (nI ((takeB w (c0) (bv8 (nI 1))).2)), .int (en), .int (tk), .int (dn), .int (rm)])), (b, .inl (ca 2, 25, .inr (.inl (u))))] H locs := C.re [0, 1] rfl rfl
    obtain ⟨M1, rfl⟩ : ∃ z, z = u := ⟨_, rfl⟩
    have h1 := hp
    refine lv_iload_n hx hb dS_takeLeft_10 rfl (lv_at hl 0 rfl) ?_
    refine lv_iconst (v := nI 1) hx hb dS_takeLeft_11 (by decide) ?_
    refine n_sub S (by omega) dS_takeLeft_12 ?_
    refine lv_istore_n hx hb dS_takeLeft_13 rfl hl (Nat.le_of_ble_eq_true rfl) rfl (fun ls hl => ?_)
    replace hl : lv_has ls 4 [(3, .int (nI 0)), (2, .int (nI 1)), (0, .ref (h)), (1, .int (nI v))] := hl
    refine lv_iload_n hx hb dS_takeLeft_14 rfl (lv_at hl 0 rfl) ?_
    refine n_if_lt (tgt := 34) S (by omega) dS_takeLeft_15 (by decide) (fun hc => False.elim hc) (fun hc => ?_)
    refine lv_aload_n hx hb dS_takeLeft_18 rfl (lv_at hl 2 rfl) ?_
    refine lv_iload_n hx hb dS_takeLeft_19 rfl (lv_at hl 3 rfl) ?_
    refine lv_bipush (v := nI 8) hx hb dS_takeLeft_20 (by decide) ?_
    refine lv_iload_n hx hb dS_takeLeft_22 rfl (lv_at hl 0 rfl) ?_
    refine n_mul S dS_takeLeft_23 ?_
    refine lv_topi (nm_r (e' := nI 0) rfl ?_)
    refine n_ushr S (by omega) (by omega) dS_takeLeft_24 ?_
    refine n_callV (wc := [(h, .inr (1, [.ref (b), .int (kd), .int (nI w), .int (nI ((takeB w (c0) (bv8 (nI 1))).2)), .int (en), .int (tk), .int (dn), .int (rm)])), (b, .inl (ca 2, 25, .inr (.inl (M1))))]) (wr := []) C [0, 1] [] rfl rfl rfl rfl (by decide) (fun hp => va_runV (rest := []) S (c_S_takeByte l D ca s0 a0 Z tz Zs h b M1 kd en tk dn rm w hw (takeB w (c0) (bv8 (nI 1))) h1 (takeB_lt _ hp0) (nI (v / 2 ^ 0)) _) (cwV 1 hts (gV g_193 g_194 g_3 g_32 g_195) rfl rfl rfl (by decide +kernel) ⟨Nat.le_of_ble_eq_true rfl, Nat.le_of_ble_eq_true rfl⟩) ⟨hp.1, n_recv C 0 1 rfl rfl, hp.2⟩ rfl rfl hl.1 rfl (lv_room (Nat.le_of_ble_eq_true rfl)) dS_takeLeft_25 ⟨Nat.le_of_ble_eq_true rfl, Nat.le_of_ble_eq_true rfl⟩) (fun u H locs hp C => ?_)
    replace C : Cx D ca s0 A s [(h, .inr (1, [.ref (b), .int (kd), .int (nI w), .int (nI ((takeB w (takeB w (c0) (bv8 (nI 1))) (bv8 (nI (v / 2 ^ 0)))).2)), .int (en), .int (tk), .int (dn), .int (rm)])), (b, .inl (ca 2, 25, .inr (.inl (u))))] H locs := C.re [0, 1] rfl rfl
    obtain ⟨M2, rfl⟩ : ∃ z, z = u := ⟨_, rfl⟩
    have h2 := hp
    refine lv_iinc (k := 0) (v := (-1)) hx hb dS_takeLeft_28 hl rfl (by decide) (Nat.le_of_ble_eq_true rfl) rfl (fun ls hl => ?_)
    replace hl : lv_has ls 4 [(3, .int ((-1))), (2, .int (nI 1)), (0, .ref (h)), (1, .int (nI v))] := hl
    refine lv_goto (tgt := 14) hx hb dS_takeLeft_31 (by decide) ?_
    refine lv_iload_n hx hb dS_takeLeft_14 rfl (lv_at hl 0 rfl) ?_
    refine lv_if_lt (tgt := 34) hx hb dS_takeLeft_15 (by decide) (fun hc => ?_) (fun hc => absurd (by decide) hc)
    rw [takeL_lo hv2] at ret
    exact ret M2 _ _ _ _ _ _ (Nat.le_refl _) (Nat.le_refl _) h2 C dS_takeLeft_34
  · skip
    refine lv_topi (nm_r (e' := nI 2) (congrArg nI (show nB v = 2 from if_neg hv2)) ?_)
    refine lv_istore_n hx hb dS_takeLeft_4 rfl hl (Nat.le_of_ble_eq_true rfl) rfl (fun ls hl => ?_)
    replace hl : lv_has ls 4 [(2, .int (nI 2)), (0, .ref (h)), (1, .int (nI v))] := hl
    refine lv_aload_n hx hb dS_takeLeft_5 rfl (lv_at hl 1 rfl) ?_
    refine lv_iload_n hx hb dS_takeLeft_6 rfl (lv_at hl 0 rfl) ?_
    refine n_callV (wc := [(h, .inr (1, [.ref (b), .int (kd), .int (nI w), .int (nI (c0.2)), .int (en), .int (tk), .int (dn), .int (rm)])), (b, .inl (ca 2, 25, .inr (.inl (L))))]) (wr := []) C [0, 1] [] rfl rfl rfl rfl (by decide) (fun hp => va_runV (rest := []) S (c_S_takeByte l D ca s0 a0 Z tz Zs h b L kd en tk dn rm w hw (c0) hL hp0 (nI 2) _) (cwV 1 hts (gV g_193 g_194 g_3 g_32 g_195) rfl rfl rfl (by decide +kernel) ⟨Nat.le_of_ble_eq_true rfl, Nat.le_of_ble_eq_true rfl⟩) ⟨hp.1, n_recv C 0 1 rfl rfl, hp.2⟩ rfl rfl hl.1 rfl (lv_room (Nat.le_of_ble_eq_true rfl)) dS_takeLeft_7 ⟨Nat.le_of_ble_eq_true rfl, Nat.le_of_ble_eq_true rfl⟩) (fun u H locs hp C => ?_)
    replace C : Cx D ca s0 A s [(h, .inr (1, [.ref (b), .int (kd), .int (nI w), .int (nI ((takeB w (c0) (bv8 (nI 2))).2)), .int (en), .int (tk), .int (dn), .int (rm)])), (b, .inl (ca 2, 25, .inr (.inl (u))))] H locs := C.re [0, 1] rfl rfl
    obtain ⟨M3, rfl⟩ : ∃ z, z = u := ⟨_, rfl⟩
    have h3 := hp
    refine lv_iload_n hx hb dS_takeLeft_10 rfl (lv_at hl 0 rfl) ?_
    refine lv_iconst (v := nI 1) hx hb dS_takeLeft_11 (by decide) ?_
    refine n_sub S (by omega) dS_takeLeft_12 ?_
    refine lv_istore_n hx hb dS_takeLeft_13 rfl hl (Nat.le_of_ble_eq_true rfl) rfl (fun ls hl => ?_)
    replace hl : lv_has ls 4 [(3, .int (nI 1)), (2, .int (nI 2)), (0, .ref (h)), (1, .int (nI v))] := hl
    refine lv_iload_n hx hb dS_takeLeft_14 rfl (lv_at hl 0 rfl) ?_
    refine n_if_lt (tgt := 34) S (by omega) dS_takeLeft_15 (by decide) (fun hc => False.elim hc) (fun hc => ?_)
    refine lv_aload_n hx hb dS_takeLeft_18 rfl (lv_at hl 2 rfl) ?_
    refine lv_iload_n hx hb dS_takeLeft_19 rfl (lv_at hl 3 rfl) ?_
    refine lv_bipush (v := nI 8) hx hb dS_takeLeft_20 (by decide) ?_
    refine lv_iload_n hx hb dS_takeLeft_22 rfl (lv_at hl 0 rfl) ?_
    refine n_mul S dS_takeLeft_23 ?_
    refine lv_topi (nm_r (e' := nI 8) rfl ?_)
    refine n_ushr S (by omega) (by omega) dS_takeLeft_24 ?_
    refine n_callV (wc := [(h, .inr (1, [.ref (b), .int (kd), .int (nI w), .int (nI ((takeB w (c0) (bv8 (nI 2))).2)), .int (en), .int (tk), .int (dn), .int (rm)])), (b, .inl (ca 2, 25, .inr (.inl (M3))))]) (wr := []) C [0, 1] [] rfl rfl rfl rfl (by decide) (fun hp => va_runV (rest := []) S (c_S_takeByte l D ca s0 a0 Z tz Zs h b M3 kd en tk dn rm w hw (takeB w (c0) (bv8 (nI 2))) h3 (takeB_lt _ hp0) (nI (v / 2 ^ 8)) _) (cwV 1 hts (gV g_193 g_194 g_3 g_32 g_195) rfl rfl rfl (by decide +kernel) ⟨Nat.le_of_ble_eq_true rfl, Nat.le_of_ble_eq_true rfl⟩) ⟨hp.1, n_recv C 0 1 rfl rfl, hp.2⟩ rfl rfl hl.1 rfl (lv_room (Nat.le_of_ble_eq_true rfl)) dS_takeLeft_25 ⟨Nat.le_of_ble_eq_true rfl, Nat.le_of_ble_eq_true rfl⟩) (fun u H locs hp C => ?_)
    replace C : Cx D ca s0 A s [(h, .inr (1, [.ref (b), .int (kd), .int (nI w), .int (nI ((takeB w (takeB w (c0) (bv8 (nI 2))) (bv8 (nI (v / 2 ^ 8)))).2)), .int (en), .int (tk), .int (dn), .int (rm)])), (b, .inl (ca 2, 25, .inr (.inl (u))))] H locs := C.re [0, 1] rfl rfl
    obtain ⟨M4, rfl⟩ : ∃ z, z = u := ⟨_, rfl⟩
    have h4 := hp
    refine lv_iinc (k := 0) (v := nI 0) hx hb dS_takeLeft_28 hl rfl (n_dec1 (by omega)) (Nat.le_of_ble_eq_true rfl) rfl (fun ls hl => ?_)
    replace hl : lv_has ls 4 [(3, .int (nI 0)), (2, .int (nI 2)), (0, .ref (h)), (1, .int (nI v))] := hl
    refine lv_goto (tgt := 14) hx hb dS_takeLeft_31 (by decide) ?_
    refine lv_iload_n hx hb dS_takeLeft_14 rfl (lv_at hl 0 rfl) ?_
    refine n_if_lt (tgt := 34) S (by omega) dS_takeLeft_15 (by decide) (fun hc => False.elim hc) (fun hc => ?_)
    refine lv_aload_n hx hb dS_takeLeft_18 rfl (lv_at hl 2 rfl) ?_
    refine lv_iload_n hx hb dS_takeLeft_19 rfl (lv_at hl 3 rfl) ?_
    refine lv_bipush (v := nI 8) hx hb dS_takeLeft_20 (by decide) ?_
    refine lv_iload_n hx hb dS_takeLeft_22 rfl (lv_at hl 0 rfl) ?_
    refine n_mul S dS_takeLeft_23 ?_
    refine lv_topi (nm_r (e' := nI 0) rfl ?_)
    refine n_ushr S (by omega) (by omega) dS_takeLeft_24 ?_
    refine n_callV (wc := [(h, .inr (1, [.ref (b), .int (kd), .int (nI w), .int (nI ((takeB w (takeB w (c0) (bv8 (nI 2))) (bv8 (nI (v / 2 ^ 8)))).2)), .int (en), .int (tk), .int (dn), .int (rm)])), (b, .inl (ca 2, 25, .inr (.inl (M4))))]) (wr := []) C [0, 1] [] rfl rfl rfl rfl (by decide) (fun hp => va_runV (rest := []) S (c_S_takeByte l D ca s0 a0 Z tz Zs h b M4 kd en tk dn rm w hw (takeB w (takeB w (c0) (bv8 (nI 2))) (bv8 (nI (v / 2 ^ 8)))) h4 (takeB_lt _ (takeB_lt _ hp0)) (nI (v / 2 ^ 0)) _) (cwV 1 hts (gV g_193 g_194 g_3 g_32 g_195) rfl rfl rfl (by decide +kernel) ⟨Nat.le_of_ble_eq_true rfl, Nat.le_of_ble_eq_true rfl⟩) ⟨hp.1, n_recv C 0 1 rfl rfl, hp.2⟩ rfl rfl hl.1 rfl (lv_room (Nat.le_of_ble_eq_true rfl)) dS_takeLeft_25 ⟨Nat.le_of_ble_eq_true rfl, Nat.le_of_ble_eq_true rfl⟩) (fun u H locs hp C => ?_)
    replace C : Cx D ca s0 A s [(h, .inr (1, [.ref (b), .int (kd), .int (nI w), .int (nI ((takeB w (takeB w (takeB w (c0) (bv8 (nI 2))) (bv8 (nI (v / 2 ^ 8)))) (bv8 (nI (v / 2 ^ 0)))).2)), .int (en), .int (tk), .int (dn), .int (rm)])), (b, .inl (ca 2, 25, .inr (.inl (u))))] H locs := C.re [0, 1] rfl rfl
    obtain ⟨M5, rfl⟩ : ∃ z, z = u := ⟨_, rfl⟩
    have h5 := hp
    refine lv_iinc (k := 0) (v := (-1)) hx hb dS_takeLeft_28 hl rfl (by decide) (Nat.le_of_ble_eq_true rfl) rfl (fun ls hl => ?_)
    replace hl : lv_has ls 4 [(3, .int ((-1))), (2, .int (nI 2)), (0, .ref (h)), (1, .int (nI v))] := hl
    refine lv_goto (tgt := 14) hx hb dS_takeLeft_31 (by decide) ?_
    refine lv_iload_n hx hb dS_takeLeft_14 rfl (lv_at hl 0 rfl) ?_
    refine lv_if_lt (tgt := 34) hx hb dS_takeLeft_15 (by decide) (fun hc => ?_) (fun hc => absurd (by decide) hc)
    rw [takeL_hi hv2 hv] at ret
    exact ret M5 _ _ _ _ _ _ (Nat.le_refl _) (Nat.le_refl _) h5 C dS_takeLeft_34
abbrev rm_S_takeRight : Room := { frames := 3, cells := 0, slots := 0, locals := 83 }
set_option maxHeartbeats 4000000 in
set_option maxRecDepth 100000 in
theorem c_S_takeRight (l : Launch) (D : va_G) (ca : Nat → ClassId) (s0 : State) (a0 : Array Value) (Z : Wd a0 s0) (tz : Nat → Nat) (Zs : ZS tz s0) (h b : Nat) (L : Nat → Int64) (kd en tk dn rm : Int32) (w : Nat) (hw : w ≤ 200) (c0 : Co) (hL : kEq (lb L) c0.1) (hp0 : c0.2 < w) (v : Nat) (hv : v < 65536) : CtV l yS_takeRight [.code yS_takeRight cS_takeRight 4 none] rm_S_takeRight 0 0 D ca s0 [.ref (h), .int (nI v)] [(h, .inr (1, [.ref (b), .int (kd), .int (nI w), .int (nI (c0.2)), .int (en), .int (tk), .int (dn), .int (rm)])), (b, .inl (ca 2, 25, .inr (.inl (L))))] (S := Nat → Int64) (fun M => kEq (lb M) (takeE w c0 v).1) (fun M => [(h, .inr (1, [.ref (b), .int (kd), .int (nI w), .int (nI (takeE w c0 v).2), .int (en), .int (tk), .int (dn), .int (rm)])), (b, .inl (ca 2, 25, .inr (.inl M)))]) := by
  refine ctV_of (cc := cS_takeRight) (maxL := 4) (own := RS) Z rfl (by decide) rfl (Nat.le_of_ble_eq_true rfl) ?_
  intro p e s m args below meth c A ls Q S hnm ret C hl
  have hx := S.1
  have hb := S.2.1
  have hown := S.2.2.2.1
  have hts := S.2.2.2.2
  generalize s.heap = H at C ⊢
  generalize ([] : List Loc) = locs at C ⊢
  replace hl : lv_has ls 4 [(0, .ref (h)), (1, .int (nI v))] := hl
  refine lv_iload_n hx hb dS_takeRight_0 rfl (lv_at hl 1 rfl) ?_
  refine n_callP C (fun hp => va_runS (rest := []) S (c_S_sizeOf l D ca s0 a0 Z v hv _) (cwS 1 hts (gS g_190 g_191 g_32 g_192) rfl rfl rfl (by decide +kernel) ⟨Nat.le_of_ble_eq_true rfl, Nat.le_of_ble_eq_true rfl⟩) hp rfl rfl hl.1 rfl (lv_room (Nat.le_of_ble_eq_true rfl)) dS_takeRight_1 ⟨Nat.le_of_ble_eq_true rfl, Nat.le_of_ble_eq_true rfl⟩) (fun r u H locs hp C => ?_)
  subst hp
  by_cases hv2 : v < 256
  · skip
    refine lv_topi (nm_r (e' := nI 1) (congrArg nI (show nB v = 1 from if_pos hv2)) ?_)
    refine lv_istore_n hx hb dS_takeRight_4 rfl hl (Nat.le_of_ble_eq_true rfl) rfl (fun ls hl => ?_)
    replace hl : lv_has ls 4 [(2, .int (nI 1)), (0, .ref (h)), (1, .int (nI v))] := hl
    refine lv_iload_n hx hb dS_takeRight_5 rfl (lv_at hl 0 rfl) ?_
    refine lv_iconst (v := nI 1) hx hb dS_takeRight_6 (by decide) ?_
    refine n_sub S (by omega) dS_takeRight_7 ?_
    refine lv_istore_n hx hb dS_takeRight_8 rfl hl (Nat.le_of_ble_eq_true rfl) rfl (fun ls hl => ?_)
    replace hl : lv_has ls 4 [(3, .int (nI 0)), (2, .int (nI 1)), (0, .ref (h)), (1, .int (nI v))] := hl
    refine lv_iload_n hx hb dS_takeRight_9 rfl (lv_at hl 0 rfl) ?_
    refine n_if_lt (tgt := 29) S (by omega) dS_takeRight_10 (by decide) (fun hc => False.elim hc) (fun hc => ?_)
    refine lv_aload_n hx hb dS_takeRight_13 rfl (lv_at hl 2 rfl) ?_
    refine lv_iload_n hx hb dS_takeRight_14 rfl (lv_at hl 3 rfl) ?_
    refine lv_bipush (v := nI 8) hx hb dS_takeRight_15 (by decide) ?_
    refine lv_iload_n hx hb dS_takeRight_17 rfl (lv_at hl 0 rfl) ?_
    refine n_mul S dS_takeRight_18 ?_
    refine lv_topi (nm_r (e' := nI 0) rfl ?_)
    refine n_ushr S (by omega) (by omega) dS_takeRight_19 ?_
    refine n_callV (wc := [(h, .inr (1, [.ref (b), .int (kd), .int (nI w), .int (nI (c0.2)), .int (en), .int (tk), .int (dn), .int (rm)])), (b, .inl (ca 2, 25, .inr (.inl (L))))]) (wr := []) C [0, 1] [] rfl rfl rfl rfl (by decide) (fun hp => va_runV (rest := []) S (c_S_takeByte l D ca s0 a0 Z tz Zs h b L kd en tk dn rm w hw (c0) hL hp0 (nI (v / 2 ^ 0)) _) (cwV 1 hts (gV g_193 g_194 g_3 g_32 g_195) rfl rfl rfl (by decide +kernel) ⟨Nat.le_of_ble_eq_true rfl, Nat.le_of_ble_eq_true rfl⟩) ⟨hp.1, n_recv C 0 1 rfl rfl, hp.2⟩ rfl rfl hl.1 rfl (lv_room (Nat.le_of_ble_eq_true rfl)) dS_takeRight_20 ⟨Nat.le_of_ble_eq_true rfl, Nat.le_of_ble_eq_true rfl⟩) (fun u H locs hp C => ?_)
    replace C : Cx D ca s0 A s [(h, .inr (1, [.ref (b), .int (kd), .int (nI w), .int (nI ((takeB w (c0) (bv8 (nI (v / 2 ^ 0)))).2)), .int (en), .int (tk), .int (dn), .int (rm)])), (b, .inl (ca 2, 25, .inr (.inl (u))))] H locs := C.re [0, 1] rfl rfl
    obtain ⟨M6, rfl⟩ : ∃ z, z = u := ⟨_, rfl⟩
    have h6 := hp
    refine lv_iinc (k := 0) (v := (-1)) hx hb dS_takeRight_23 hl rfl (by decide) (Nat.le_of_ble_eq_true rfl) rfl (fun ls hl => ?_)
    replace hl : lv_has ls 4 [(3, .int ((-1))), (2, .int (nI 1)), (0, .ref (h)), (1, .int (nI v))] := hl
    refine lv_goto (tgt := 9) hx hb dS_takeRight_26 (by decide) ?_
    refine lv_iload_n hx hb dS_takeRight_9 rfl (lv_at hl 0 rfl) ?_
    refine lv_if_lt (tgt := 29) hx hb dS_takeRight_10 (by decide) (fun hc => ?_) (fun hc => absurd (by decide) hc)
    refine lv_aload_n hx hb dS_takeRight_29 rfl (lv_at hl 2 rfl) ?_
    refine lv_iload_n hx hb dS_takeRight_30 rfl (lv_at hl 1 rfl) ?_
    refine n_callV (wc := [(h, .inr (1, [.ref (b), .int (kd), .int (nI w), .int (nI ((takeB w (c0) (bv8 (nI (v / 2 ^ 0)))).2)), .int (en), .int (tk), .int (dn), .int (rm)])), (b, .inl (ca 2, 25, .inr (.inl (M6))))]) (wr := []) C [0, 1] [] rfl rfl rfl rfl (by decide) (fun hp => va_runV (rest := []) S (c_S_takeByte l D ca s0 a0 Z tz Zs h b M6 kd en tk dn rm w hw (takeB w (c0) (bv8 (nI (v / 2 ^ 0)))) h6 (takeB_lt _ hp0) (nI 1) _) (cwV 1 hts (gV g_193 g_194 g_3 g_32 g_195) rfl rfl rfl (by decide +kernel) ⟨Nat.le_of_ble_eq_true rfl, Nat.le_of_ble_eq_true rfl⟩) ⟨hp.1, n_recv C 0 1 rfl rfl, hp.2⟩ rfl rfl hl.1 rfl (lv_room (Nat.le_of_ble_eq_true rfl)) dS_takeRight_31 ⟨Nat.le_of_ble_eq_true rfl, Nat.le_of_ble_eq_true rfl⟩) (fun u H locs hp C => ?_)
    replace C : Cx D ca s0 A s [(h, .inr (1, [.ref (b), .int (kd), .int (nI w), .int (nI ((takeB w (takeB w (c0) (bv8 (nI (v / 2 ^ 0)))) (bv8 (nI 1))).2)), .int (en), .int (tk), .int (dn), .int (rm)])), (b, .inl (ca 2, 25, .inr (.inl (u))))] H locs := C.re [0, 1] rfl rfl
    obtain ⟨M7, rfl⟩ : ∃ z, z = u := ⟨_, rfl⟩
    have h7 := hp
    rw [takeE_lo hv2] at ret
    exact ret M7 _ _ _ _ _ _ (Nat.le_refl _) (Nat.le_refl _) h7 C dS_takeRight_34
  · skip
    refine lv_topi (nm_r (e' := nI 2) (congrArg nI (show nB v = 2 from if_neg hv2)) ?_)
    refine lv_istore_n hx hb dS_takeRight_4 rfl hl (Nat.le_of_ble_eq_true rfl) rfl (fun ls hl => ?_)
    replace hl : lv_has ls 4 [(2, .int (nI 2)), (0, .ref (h)), (1, .int (nI v))] := hl
    refine lv_iload_n hx hb dS_takeRight_5 rfl (lv_at hl 0 rfl) ?_
    refine lv_iconst (v := nI 1) hx hb dS_takeRight_6 (by decide) ?_
    refine n_sub S (by omega) dS_takeRight_7 ?_
    refine lv_istore_n hx hb dS_takeRight_8 rfl hl (Nat.le_of_ble_eq_true rfl) rfl (fun ls hl => ?_)
    replace hl : lv_has ls 4 [(3, .int (nI 1)), (2, .int (nI 2)), (0, .ref (h)), (1, .int (nI v))] := hl
    refine lv_iload_n hx hb dS_takeRight_9 rfl (lv_at hl 0 rfl) ?_
    refine n_if_lt (tgt := 29) S (by omega) dS_takeRight_10 (by decide) (fun hc => False.elim hc) (fun hc => ?_)
    refine lv_aload_n hx hb dS_takeRight_13 rfl (lv_at hl 2 rfl) ?_
    refine lv_iload_n hx hb dS_takeRight_14 rfl (lv_at hl 3 rfl) ?_
    refine lv_bipush (v := nI 8) hx hb dS_takeRight_15 (by decide) ?_
    refine lv_iload_n hx hb dS_takeRight_17 rfl (lv_at hl 0 rfl) ?_
    refine n_mul S dS_takeRight_18 ?_
    refine lv_topi (nm_r (e' := nI 8) rfl ?_)
    refine n_ushr S (by omega) (by omega) dS_takeRight_19 ?_
    refine n_callV (wc := [(h, .inr (1, [.ref (b), .int (kd), .int (nI w), .int (nI (c0.2)), .int (en), .int (tk), .int (dn), .int (rm)])), (b, .inl (ca 2, 25, .inr (.inl (L))))]) (wr := []) C [0, 1] [] rfl rfl rfl rfl (by decide) (fun hp => va_runV (rest := []) S (c_S_takeByte l D ca s0 a0 Z tz Zs h b L kd en tk dn rm w hw (c0) hL hp0 (nI (v / 2 ^ 8)) _) (cwV 1 hts (gV g_193 g_194 g_3 g_32 g_195) rfl rfl rfl (by decide +kernel) ⟨Nat.le_of_ble_eq_true rfl, Nat.le_of_ble_eq_true rfl⟩) ⟨hp.1, n_recv C 0 1 rfl rfl, hp.2⟩ rfl rfl hl.1 rfl (lv_room (Nat.le_of_ble_eq_true rfl)) dS_takeRight_20 ⟨Nat.le_of_ble_eq_true rfl, Nat.le_of_ble_eq_true rfl⟩) (fun u H locs hp C => ?_)
    replace C : Cx D ca s0 A s [(h, .inr (1, [.ref (b), .int (kd), .int (nI w), .int (nI ((takeB w (c0) (bv8 (nI (v / 2 ^ 8)))).2)), .int (en), .int (tk), .int (dn), .int (rm)])), (b, .inl (ca 2, 25, .inr (.inl (u))))] H locs := C.re [0, 1] rfl rfl
    obtain ⟨M8, rfl⟩ : ∃ z, z = u := ⟨_, rfl⟩
    have h8 := hp
    refine lv_iinc (k := 0) (v := nI 0) hx hb dS_takeRight_23 hl rfl (n_dec1 (by omega)) (Nat.le_of_ble_eq_true rfl) rfl (fun ls hl => ?_)
    replace hl : lv_has ls 4 [(3, .int (nI 0)), (2, .int (nI 2)), (0, .ref (h)), (1, .int (nI v))] := hl
    refine lv_goto (tgt := 9) hx hb dS_takeRight_26 (by decide) ?_
    refine lv_iload_n hx hb dS_takeRight_9 rfl (lv_at hl 0 rfl) ?_
    refine n_if_lt (tgt := 29) S (by omega) dS_takeRight_10 (by decide) (fun hc => False.elim hc) (fun hc => ?_)
    refine lv_aload_n hx hb dS_takeRight_13 rfl (lv_at hl 2 rfl) ?_
    refine lv_iload_n hx hb dS_takeRight_14 rfl (lv_at hl 3 rfl) ?_
    refine lv_bipush (v := nI 8) hx hb dS_takeRight_15 (by decide) ?_
    refine lv_iload_n hx hb dS_takeRight_17 rfl (lv_at hl 0 rfl) ?_
    refine n_mul S dS_takeRight_18 ?_
    refine lv_topi (nm_r (e' := nI 0) rfl ?_)
    refine n_ushr S (by omega) (by omega) dS_takeRight_19 ?_
    refine n_callV (wc := [(h, .inr (1, [.ref (b), .int (kd), .int (nI w), .int (nI ((takeB w (c0) (bv8 (nI (v / 2 ^ 8)))).2)), .int (en), .int (tk), .int (dn), .int (rm)])), (b, .inl (ca 2, 25, .inr (.inl (M8))))]) (wr := []) C [0, 1] [] rfl rfl rfl rfl (by decide) (fun hp => va_runV (rest := []) S (c_S_takeByte l D ca s0 a0 Z tz Zs h b M8 kd en tk dn rm w hw (takeB w (c0) (bv8 (nI (v / 2 ^ 8)))) h8 (takeB_lt _ hp0) (nI (v / 2 ^ 0)) _) (cwV 1 hts (gV g_193 g_194 g_3 g_32 g_195) rfl rfl rfl (by decide +kernel) ⟨Nat.le_of_ble_eq_true rfl, Nat.le_of_ble_eq_true rfl⟩) ⟨hp.1, n_recv C 0 1 rfl rfl, hp.2⟩ rfl rfl hl.1 rfl (lv_room (Nat.le_of_ble_eq_true rfl)) dS_takeRight_20 ⟨Nat.le_of_ble_eq_true rfl, Nat.le_of_ble_eq_true rfl⟩) (fun u H locs hp C => ?_)
    replace C : Cx D ca s0 A s [(h, .inr (1, [.ref (b), .int (kd), .int (nI w), .int (nI ((takeB w (takeB w (c0) (bv8 (nI (v / 2 ^ 8)))) (bv8 (nI (v / 2 ^ 0)))).2)), .int (en), .int (tk), .int (dn), .int (rm)])), (b, .inl (ca 2, 25, .inr (.inl (u))))] H locs := C.re [0, 1] rfl rfl
    obtain ⟨M9, rfl⟩ : ∃ z, z = u := ⟨_, rfl⟩
    have h9 := hp
    refine lv_iinc (k := 0) (v := (-1)) hx hb dS_takeRight_23 hl rfl (by decide) (Nat.le_of_ble_eq_true rfl) rfl (fun ls hl => ?_)
    replace hl : lv_has ls 4 [(3, .int ((-1))), (2, .int (nI 2)), (0, .ref (h)), (1, .int (nI v))] := hl
    refine lv_goto (tgt := 9) hx hb dS_takeRight_26 (by decide) ?_
    refine lv_iload_n hx hb dS_takeRight_9 rfl (lv_at hl 0 rfl) ?_
    refine lv_if_lt (tgt := 29) hx hb dS_takeRight_10 (by decide) (fun hc => ?_) (fun hc => absurd (by decide) hc)
    refine lv_aload_n hx hb dS_takeRight_29 rfl (lv_at hl 2 rfl) ?_
    refine lv_iload_n hx hb dS_takeRight_30 rfl (lv_at hl 1 rfl) ?_
    refine n_callV (wc := [(h, .inr (1, [.ref (b), .int (kd), .int (nI w), .int (nI ((takeB w (takeB w (c0) (bv8 (nI (v / 2 ^ 8)))) (bv8 (nI (v / 2 ^ 0)))).2)), .int (en), .int (tk), .int (dn), .int (rm)])), (b, .inl (ca 2, 25, .inr (.inl (M9))))]) (wr := []) C [0, 1] [] rfl rfl rfl rfl (by decide) (fun hp => va_runV (rest := []) S (c_S_takeByte l D ca s0 a0 Z tz Zs h b M9 kd en tk dn rm w hw (takeB w (takeB w (c0) (bv8 (nI (v / 2 ^ 8)))) (bv8 (nI (v / 2 ^ 0)))) h9 (takeB_lt _ (takeB_lt _ hp0)) (nI 2) _) (cwV 1 hts (gV g_193 g_194 g_3 g_32 g_195) rfl rfl rfl (by decide +kernel) ⟨Nat.le_of_ble_eq_true rfl, Nat.le_of_ble_eq_true rfl⟩) ⟨hp.1, n_recv C 0 1 rfl rfl, hp.2⟩ rfl rfl hl.1 rfl (lv_room (Nat.le_of_ble_eq_true rfl)) dS_takeRight_31 ⟨Nat.le_of_ble_eq_true rfl, Nat.le_of_ble_eq_true rfl⟩) (fun u H locs hp C => ?_)
    replace C : Cx D ca s0 A s [(h, .inr (1, [.ref (b), .int (kd), .int (nI w), .int (nI ((takeB w (takeB w (takeB w (c0) (bv8 (nI (v / 2 ^ 8)))) (bv8 (nI (v / 2 ^ 0)))) (bv8 (nI 2))).2)), .int (en), .int (tk), .int (dn), .int (rm)])), (b, .inl (ca 2, 25, .inr (.inl (u))))] H locs := C.re [0, 1] rfl rfl
    obtain ⟨M10, rfl⟩ : ∃ z, z = u := ⟨_, rfl⟩
    have h10 := hp
    rw [takeE_hi hv2 hv] at ret
    exact ret M10 _ _ _ _ _ _ (Nat.le_refl _) (Nat.le_refl _) h10 C dS_takeRight_34
abbrev rm_S_takeRow : Room := { frames := 3, cells := 0, slots := 0, locals := 83 }
set_option maxHeartbeats 4000000 in
set_option maxRecDepth 100000 in
theorem c_S_takeRow (l : Launch) (D : va_G) (ca : Nat → ClassId) (s0 : State) (a0 : Array Value) (Z : Wd a0 s0) (tz : Nat → Nat) (Zs : ZS tz s0) (h b : Nat) (L : Nat → Int64) (kd en tk dn rm : Int32) (w : Nat) (hw : w ≤ 200) (c0 : Co) (hL : kEq (lb L) c0.1) (hp0 : c0.2 < w) (rb : Nat) (f : Nat → Int32) (T : Nat → Nat) (n : Nat) (hn : n ≤ 300) (hT : sb_Lat T n f) : CtV l yS_takeRow [.code yS_takeRow cS_takeRow 4 none] rm_S_takeRow 0 0 D ca s0 [.ref (h), .ref (rb), .int (nI n)] [(h, .inr (1, [.ref (b), .int (kd), .int (nI w), .int (nI (c0.2)), .int (en), .int (tk), .int (dn), .int (rm)])), (b, .inl (ca 2, 25, .inr (.inl (L)))), (rb, .inl (ca 3, 300, .inl (f)))] (S := Nat → Int64) (fun M => kEq (lb M) (takeR w c0 T n).1) (fun M => [(h, .inr (1, [.ref (b), .int (kd), .int (nI w), .int (nI (takeR w c0 T n).2), .int (en), .int (tk), .int (dn), .int (rm)])), (b, .inl (ca 2, 25, .inr (.inl M))), (rb, .inl (ca 3, 300, .inl f))]) := by
  refine ctV_of (cc := cS_takeRow) (maxL := 4) (own := RS) Z rfl (by decide) rfl (Nat.le_of_ble_eq_true rfl) ?_
  intro p e s m args below meth c A ls Q S hnm ret C hl
  have hx := S.1
  have hb := S.2.1
  have hown := S.2.2.2.1
  have hts := S.2.2.2.2
  generalize s.heap = H at C ⊢
  generalize ([] : List Loc) = locs at C ⊢
  replace hl : lv_has ls 4 [(0, .ref (h)), (1, .ref (rb)), (2, .int (nI n))] := hl
  refine lv_iconst (v := nI 0) hx hb dS_takeRow_0 (by decide) ?_
  refine lv_istore_n hx hb dS_takeRow_1 rfl hl (Nat.le_of_ble_eq_true rfl) rfl (fun ls hl => ?_)
  replace hl : lv_has ls 4 [(3, .int (nI 0)), (0, .ref (h)), (1, .ref (rb)), (2, .int (nI n))] := hl
  have lp2 : ∀ (nf : Nat) (i : Nat) (M : Nat → Int64) (H : Heap) (locs : List Loc) (ls : Array Slot), n - i < nf → i ≤ n → kEq (lb M) (takeR w c0 T i).1 → Cx D ca s0 A s [(h, .inr (1, [.ref (b), .int (kd), .int (nI w), .int (nI ((takeR w c0 T i).2)), .int (en), .int (tk), .int (dn), .int (rm)])), (b, .inl (ca 2, 25, .inr (.inl (M)))), (rb, .inl (ca 3, 300, .inl (f)))] H locs → lv_has ls 4 [(3, .int (nI i)), (0, .ref (h)), (1, .ref (rb)), (2, .int (nI n))] → W p l e rm_S_takeRow s m args below meth c H locs 0 0 Q (F0 m 2 ls []) := by
    intro nf
    induction nf with
    | zero => intro i M H locs ls hn; exact absurd hn (Nat.not_lt_zero _)
    | succ nf ih_lp2 =>
      intro i M H locs ls hn lp2_le hM C hl
      refine lv_iload_n hx hb dS_takeRow_2 rfl (lv_at hl 0 rfl) ?_
      refine lv_iload_n hx hb dS_takeRow_3 rfl (lv_at hl 3 rfl) ?_
      refine n_icmp_ge (tgt := 20) S (by omega) (by omega) dS_takeRow_4 (by decide) (fun hc4 => ?_) (fun hc4 => ?_)
      · skip
        have ei : i = n := by omega
        subst ei
        exact ret M _ _ _ _ _ _ (Nat.le_refl _) (Nat.le_refl _) hM C dS_takeRow_20
      · skip
        refine lv_aload_n hx hb dS_takeRow_7 rfl (lv_at hl 1 rfl) ?_
        refine lv_aload_n hx hb dS_takeRow_8 rfl (lv_at hl 2 rfl) ?_
        refine lv_iload_n hx hb dS_takeRow_9 rfl (lv_at hl 0 rfl) ?_
        refine n_bald S C 2 rfl (i := i) (by omega) (by decide) dS_takeRow_10 ?_
        refine lv_topi (nm_r (e' := sb_b (T i)) ((hT i (by omega)).2) ?_)
        refine n_callV (wc := [(h, .inr (1, [.ref (b), .int (kd), .int (nI w), .int (nI ((takeR w c0 T i).2)), .int (en), .int (tk), .int (dn), .int (rm)])), (b, .inl (ca 2, 25, .inr (.inl (M))))]) (wr := [(rb, .inl (ca 3, 300, .inl (f)))]) C [0, 1] [2] rfl rfl rfl rfl (by decide) (fun hp => va_runV (rest := []) S (c_S_takeByte l D ca s0 a0 Z tz Zs h b M kd en tk dn rm w hw (takeR w c0 T i) hM (takeR_lt T hp0 i) (sb_b (T i)) _) (cwV 1 hts (gV g_193 g_194 g_3 g_32 g_195) rfl rfl rfl (by decide +kernel) ⟨Nat.le_of_ble_eq_true rfl, Nat.le_of_ble_eq_true rfl⟩) ⟨hp.1, n_recv C 0 1 rfl rfl, hp.2⟩ rfl rfl hl.1 rfl (lv_room (Nat.le_of_ble_eq_true rfl)) dS_takeRow_11 ⟨Nat.le_of_ble_eq_true rfl, Nat.le_of_ble_eq_true rfl⟩) (fun u H locs hp C => ?_)
        replace C : Cx D ca s0 A s [(h, .inr (1, [.ref (b), .int (kd), .int (nI w), .int (nI ((takeB w (takeR w c0 T i) (bv8 (sb_b (T i)))).2)), .int (en), .int (tk), .int (dn), .int (rm)])), (b, .inl (ca 2, 25, .inr (.inl (u)))), (rb, .inl (ca 3, 300, .inl (f)))] H locs := C.re [1, 2, 0] rfl rfl
        rw [bv8_sb _ (hT i (by omega)).1] at C hp
        obtain ⟨M1, rfl⟩ : ∃ z, z = u := ⟨_, rfl⟩
        have h1 := hp
        refine lv_iinc (k := 0) (v := nI (i + 1)) hx hb dS_takeRow_14 hl rfl (n_inc1 _) (Nat.le_of_ble_eq_true rfl) rfl (fun ls hl => ?_)
        replace hl : lv_has ls 4 [(3, .int (nI (i + 1))), (0, .ref (h)), (1, .ref (rb)), (2, .int (nI n))] := hl
        refine lv_goto (tgt := 2) hx hb dS_takeRow_17 (by decide) ?_
        exact ih_lp2 (i + 1) _ _ _ _ (by omega) (by omega) h1 C (lv_sub hl [0, 1, 2, 3] rfl)
  exact lp2 (n + 1) 0 _ _ _ _ (by omega) (by omega) hL C (lv_sub hl [0, 1, 2, 3] rfl)
abbrev rm_S_takeString : Room := { frames := 4, cells := 0, slots := 0, locals := 106 }
set_option maxHeartbeats 4000000 in
set_option maxRecDepth 100000 in
theorem c_S_takeString (l : Launch) (D : va_G) (ca : Nat → ClassId) (s0 : State) (a0 : Array Value) (Z : Wd a0 s0) (tz : Nat → Nat) (Zs : ZS tz s0) (h b : Nat) (L : Nat → Int64) (kd en tk dn rm : Int32) (w : Nat) (hw : w ≤ 200) (c0 : Co) (hL : kEq (lb L) c0.1) (hp0 : c0.2 < w) (rb : Nat) (f : Nat → Int32) (T : Nat → Nat) (n : Nat) (hn : n ≤ 300) (hT : sb_Lat T n f) : CtV l yS_takeString [.code yS_takeString cS_takeString 3 none] rm_S_takeString 0 0 D ca s0 [.ref (h), .ref (rb), .int (nI n)] [(h, .inr (1, [.ref (b), .int (kd), .int (nI w), .int (nI (c0.2)), .int (en), .int (tk), .int (dn), .int (rm)])), (b, .inl (ca 2, 25, .inr (.inl (L)))), (rb, .inl (ca 3, 300, .inl (f)))] (S := Nat → Int64) (fun M => kEq (lb M) (takeS w c0 T n).1) (fun M => [(h, .inr (1, [.ref (b), .int (kd), .int (nI w), .int (nI (takeS w c0 T n).2), .int (en), .int (tk), .int (dn), .int (rm)])), (b, .inl (ca 2, 25, .inr (.inl M))), (rb, .inl (ca 3, 300, .inl f))]) := by
  refine ctV_of (cc := cS_takeString) (maxL := 3) (own := RS) Z rfl (by decide) rfl (Nat.le_of_ble_eq_true rfl) ?_
  intro p e s m args below meth c A ls Q S hnm ret C hl
  have hx := S.1
  have hb := S.2.1
  have hown := S.2.2.2.1
  have hts := S.2.2.2.2
  generalize s.heap = H at C ⊢
  generalize ([] : List Loc) = locs at C ⊢
  replace hl : lv_has ls 3 [(0, .ref (h)), (1, .ref (rb)), (2, .int (nI n))] := hl
  refine lv_aload_n hx hb dS_takeString_0 rfl (lv_at hl 0 rfl) ?_
  refine lv_bipush (v := nI 8) hx hb dS_takeString_1 (by decide) ?_
  refine lv_iload_n hx hb dS_takeString_3 rfl (lv_at hl 2 rfl) ?_
  refine n_mul S dS_takeString_4 ?_
  refine n_callV (wc := [(h, .inr (1, [.ref (b), .int (kd), .int (nI w), .int (nI (c0.2)), .int (en), .int (tk), .int (dn), .int (rm)])), (b, .inl (ca 2, 25, .inr (.inl (L))))]) (wr := [(rb, .inl (ca 3, 300, .inl (f)))]) C [0, 1] [2] rfl rfl rfl rfl (by decide) (fun hp => va_runV (rest := []) S (c_S_takeLeft l D ca s0 a0 Z tz Zs h b L kd en tk dn rm w hw c0 hL hp0 (8 * n) (by omega) _) (cwV 1 hts (gV g_187 g_188 g_2 g_32 g_189) rfl rfl rfl (by decide +kernel) ⟨Nat.le_of_ble_eq_true rfl, Nat.le_of_ble_eq_true rfl⟩) ⟨hp.1, n_recv C 0 1 rfl rfl, hp.2⟩ rfl rfl hl.1 rfl (lv_room (Nat.le_of_ble_eq_true rfl)) dS_takeString_5 ⟨Nat.le_of_ble_eq_true rfl, Nat.le_of_ble_eq_true rfl⟩) (fun u H locs hp C => ?_)
  replace C : Cx D ca s0 A s [(h, .inr (1, [.ref (b), .int (kd), .int (nI w), .int (nI ((takeL w c0 (8 * n)).2)), .int (en), .int (tk), .int (dn), .int (rm)])), (b, .inl (ca 2, 25, .inr (.inl (u)))), (rb, .inl (ca 3, 300, .inl (f)))] H locs := C.re [1, 2, 0] rfl rfl
  obtain ⟨M1, rfl⟩ : ∃ z, z = u := ⟨_, rfl⟩
  have h1 := hp
  refine lv_aload_n hx hb dS_takeString_8 rfl (lv_at hl 0 rfl) ?_
  refine lv_aload_n hx hb dS_takeString_9 rfl (lv_at hl 1 rfl) ?_
  refine lv_iload_n hx hb dS_takeString_10 rfl (lv_at hl 2 rfl) ?_
  refine n_callV (wc := [(h, .inr (1, [.ref (b), .int (kd), .int (nI w), .int (nI ((takeL w c0 (8 * n)).2)), .int (en), .int (tk), .int (dn), .int (rm)])), (b, .inl (ca 2, 25, .inr (.inl (M1)))), (rb, .inl (ca 3, 300, .inl (f)))]) (wr := []) C [0, 1, 2] [] rfl rfl rfl rfl (by decide) (fun hp => va_runV (rest := []) S (c_S_takeRow l D ca s0 a0 Z tz Zs h b M1 kd en tk dn rm w hw (takeL w c0 (8 * n)) h1 (takeL_lt _ hp0) rb f T n hn hT _) (cwV 2 hts (gV g_218 g_219 g_7 g_32 g_220) rfl rfl rfl (by decide +kernel) ⟨Nat.le_of_ble_eq_true rfl, Nat.le_of_ble_eq_true rfl⟩) ⟨hp.1, n_recv C 0 1 rfl rfl, hp.2⟩ rfl rfl hl.1 rfl (lv_room (Nat.le_of_ble_eq_true rfl)) dS_takeString_11 ⟨Nat.le_of_ble_eq_true rfl, Nat.le_of_ble_eq_true rfl⟩) (fun u H locs hp C => ?_)
  replace C : Cx D ca s0 A s [(h, .inr (1, [.ref (b), .int (kd), .int (nI w), .int (nI ((takeS w c0 T n).2)), .int (en), .int (tk), .int (dn), .int (rm)])), (b, .inl (ca 2, 25, .inr (.inl (u)))), (rb, .inl (ca 3, 300, .inl (f)))] H locs := C.re [0, 1, 2] rfl rfl
  obtain ⟨M2, rfl⟩ : ∃ z, z = u := ⟨_, rfl⟩
  have h2 := hp
  exact ret M2 _ _ _ _ _ _ (Nat.le_refl _) (Nat.le_refl _) h2 C dS_takeString_14
abbrev rm_S_takeRowK : Room := { frames := 3, cells := 0, slots := 0, locals := 83 }
set_option maxHeartbeats 4000000 in
set_option maxRecDepth 100000 in
theorem c_S_takeRowK (l : Launch) (D : va_G) (ca : Nat → ClassId) (s0 : State) (a0 : Array Value) (Z : Wd a0 s0) (tz : Nat → Nat) (Zs : ZS tz s0) (h b : Nat) (L : Nat → Int64) (kd en tk dn rm : Int32) (w : Nat) (hw : w ≤ 200) (c0 : Co) (hL : kEq (lb L) c0.1) (hp0 : c0.2 < w)  : CtV l yS_takeRow [.code yS_takeRow cS_takeRow 4 none] rm_S_takeRowK 0 0 D ca s0 [.ref (h), .ref (tz 5), .int (nI 4)] [(h, .inr (1, [.ref (b), .int (kd), .int (nI w), .int (nI (c0.2)), .int (en), .int (tk), .int (dn), .int (rm)])), (b, .inl (ca 2, 25, .inr (.inl (L))))] (S := Nat → Int64) (fun M => kEq (lb M) (takeR w c0 pKey 4).1) (fun M => [(h, .inr (1, [.ref (b), .int (kd), .int (nI w), .int (nI (takeR w c0 pKey 4).2), .int (en), .int (tk), .int (dn), .int (rm)])), (b, .inl (ca 2, 25, .inr (.inl M)))]) := by
  refine ctV_of (cc := cS_takeRow) (maxL := 4) (own := RS) Z rfl (by decide) rfl (Nat.le_of_ble_eq_true rfl) ?_
  intro p e s m args below meth c A ls Q S hnm ret C hl
  have hx := S.1
  have hb := S.2.1
  have hown := S.2.2.2.1
  have hts := S.2.2.2.2
  generalize s.heap = H at C ⊢
  generalize ([] : List Loc) = locs at C ⊢
  replace hl : lv_has ls 4 [(0, .ref (h)), (1, .ref (tz 5)), (2, .int (nI 4))] := hl
  refine lv_iconst (v := nI 0) hx hb dS_takeRow_0 (by decide) ?_
  refine lv_istore_n hx hb dS_takeRow_1 rfl hl (Nat.le_of_ble_eq_true rfl) rfl (fun ls hl => ?_)
  replace hl : lv_has ls 4 [(3, .int (nI 0)), (0, .ref (h)), (1, .ref (tz 5)), (2, .int (nI 4))] := hl
  have lp2 : ∀ (nf : Nat) (i : Nat) (M : Nat → Int64) (H : Heap) (locs : List Loc) (ls : Array Slot), 4 - i < nf → i ≤ 4 → kEq (lb M) (takeR w c0 pKey i).1 → Cx D ca s0 A s [(h, .inr (1, [.ref (b), .int (kd), .int (nI w), .int (nI ((takeR w c0 pKey i).2)), .int (en), .int (tk), .int (dn), .int (rm)])), (b, .inl (ca 2, 25, .inr (.inl (M))))] H locs → lv_has ls 4 [(3, .int (nI i)), (0, .ref (h)), (1, .ref (tz 5)), (2, .int (nI 4))] → W p l e rm_S_takeRowK s m args below meth c H locs 0 0 Q (F0 m 2 ls []) := by
    intro nf
    induction nf with
    | zero => intro i M H locs ls hn; exact absurd hn (Nat.not_lt_zero _)
    | succ nf ih_lp2 =>
      intro i M H locs ls hn lp2_le hM C hl
      refine lv_iload_n hx hb dS_takeRow_2 rfl (lv_at hl 0 rfl) ?_
      refine lv_iload_n hx hb dS_takeRow_3 rfl (lv_at hl 3 rfl) ?_
      refine n_icmp_ge (tgt := 20) S (by omega) (by omega) dS_takeRow_4 (by decide) (fun hc4 => ?_) (fun hc4 => ?_)
      · skip
        rw [show i = 4 by omega] at C hM
        exact ret M _ _ _ _ _ _ (Nat.le_refl _) (Nat.le_refl _) hM C dS_takeRow_20
      · skip
        refine lv_aload_n hx hb dS_takeRow_7 rfl (lv_at hl 1 rfl) ?_
        refine lv_aload_n hx hb dS_takeRow_8 rfl (lv_at hl 2 rfl) ?_
        refine lv_iload_n hx hb dS_takeRow_9 rfl (lv_at hl 0 rfl) ?_
        refine n_tbald S C Zs.2.2.2.2.2.1 (i := i) (by omega) (by decide) rfl dS_takeRow_10 ?_
        refine n_callV (wc := [(h, .inr (1, [.ref (b), .int (kd), .int (nI w), .int (nI ((takeR w c0 pKey i).2)), .int (en), .int (tk), .int (dn), .int (rm)])), (b, .inl (ca 2, 25, .inr (.inl (M))))]) (wr := []) C [0, 1] [] rfl rfl rfl rfl (by decide) (fun hp => va_runV (rest := []) S (c_S_takeByte l D ca s0 a0 Z tz Zs h b M kd en tk dn rm w hw (takeR w c0 pKey i) hM (takeR_lt pKey hp0 i) (nI (pKey i)) _) (cwV 1 hts (gV g_193 g_194 g_3 g_32 g_195) rfl rfl rfl (by decide +kernel) ⟨Nat.le_of_ble_eq_true rfl, Nat.le_of_ble_eq_true rfl⟩) ⟨hp.1, n_recv C 0 1 rfl rfl, hp.2⟩ rfl rfl hl.1 rfl (lv_room (Nat.le_of_ble_eq_true rfl)) dS_takeRow_11 ⟨Nat.le_of_ble_eq_true rfl, Nat.le_of_ble_eq_true rfl⟩) (fun u H locs hp C => ?_)
        replace C : Cx D ca s0 A s [(h, .inr (1, [.ref (b), .int (kd), .int (nI w), .int (nI ((takeB w (takeR w c0 pKey i) (bv8 (nI (pKey i)))).2)), .int (en), .int (tk), .int (dn), .int (rm)])), (b, .inl (ca 2, 25, .inr (.inl (u))))] H locs := C.re [0, 1] rfl rfl
        rw [bv8_nI (pKey_lt i)] at C hp
        obtain ⟨M1, rfl⟩ : ∃ z, z = u := ⟨_, rfl⟩
        have h1 := hp
        refine lv_iinc (k := 0) (v := nI (i + 1)) hx hb dS_takeRow_14 hl rfl (n_inc1 _) (Nat.le_of_ble_eq_true rfl) rfl (fun ls hl => ?_)
        replace hl : lv_has ls 4 [(3, .int (nI (i + 1))), (0, .ref (h)), (1, .ref (tz 5)), (2, .int (nI 4))] := hl
        refine lv_goto (tgt := 2) hx hb dS_takeRow_17 (by decide) ?_
        exact ih_lp2 (i + 1) _ _ _ _ (by omega) (by omega) h1 C (lv_sub hl [0, 1, 2, 3] rfl)
  exact lp2 (4 + 1) 0 _ _ _ _ (by omega) (by omega) hL C (lv_sub hl [0, 1, 2, 3] rfl)
abbrev rm_S_takeStringK : Room := { frames := 4, cells := 0, slots := 0, locals := 106 }
set_option maxHeartbeats 4000000 in
set_option maxRecDepth 100000 in
theorem c_S_takeStringK (l : Launch) (D : va_G) (ca : Nat → ClassId) (s0 : State) (a0 : Array Value) (Z : Wd a0 s0) (tz : Nat → Nat) (Zs : ZS tz s0) (h b : Nat) (L : Nat → Int64) (kd en tk dn rm : Int32) (w : Nat) (hw : w ≤ 200) (c0 : Co) (hL : kEq (lb L) c0.1) (hp0 : c0.2 < w)  : CtV l yS_takeString [.code yS_takeString cS_takeString 3 none] rm_S_takeStringK 0 0 D ca s0 [.ref (h), .ref (tz 5), .int (nI 4)] [(h, .inr (1, [.ref (b), .int (kd), .int (nI w), .int (nI (c0.2)), .int (en), .int (tk), .int (dn), .int (rm)])), (b, .inl (ca 2, 25, .inr (.inl (L))))] (S := Nat → Int64) (fun M => kEq (lb M) (takeS w c0 pKey 4).1) (fun M => [(h, .inr (1, [.ref (b), .int (kd), .int (nI w), .int (nI (takeS w c0 pKey 4).2), .int (en), .int (tk), .int (dn), .int (rm)])), (b, .inl (ca 2, 25, .inr (.inl M)))]) := by
  refine ctV_of (cc := cS_takeString) (maxL := 3) (own := RS) Z rfl (by decide) rfl (Nat.le_of_ble_eq_true rfl) ?_
  intro p e s m args below meth c A ls Q S hnm ret C hl
  have hx := S.1
  have hb := S.2.1
  have hown := S.2.2.2.1
  have hts := S.2.2.2.2
  generalize s.heap = H at C ⊢
  generalize ([] : List Loc) = locs at C ⊢
  replace hl : lv_has ls 3 [(0, .ref (h)), (1, .ref (tz 5)), (2, .int (nI 4))] := hl
  refine lv_aload_n hx hb dS_takeString_0 rfl (lv_at hl 0 rfl) ?_
  refine lv_bipush (v := nI 8) hx hb dS_takeString_1 (by decide) ?_
  refine lv_iload_n hx hb dS_takeString_3 rfl (lv_at hl 2 rfl) ?_
  refine n_mul S dS_takeString_4 ?_
  refine n_callV (wc := [(h, .inr (1, [.ref (b), .int (kd), .int (nI w), .int (nI (c0.2)), .int (en), .int (tk), .int (dn), .int (rm)])), (b, .inl (ca 2, 25, .inr (.inl (L))))]) (wr := []) C [0, 1] [] rfl rfl rfl rfl (by decide) (fun hp => va_runV (rest := []) S (c_S_takeLeft l D ca s0 a0 Z tz Zs h b L kd en tk dn rm w hw c0 hL hp0 (8 * 4) (by omega) _) (cwV 1 hts (gV g_187 g_188 g_2 g_32 g_189) rfl rfl rfl (by decide +kernel) ⟨Nat.le_of_ble_eq_true rfl, Nat.le_of_ble_eq_true rfl⟩) ⟨hp.1, n_recv C 0 1 rfl rfl, hp.2⟩ rfl rfl hl.1 rfl (lv_room (Nat.le_of_ble_eq_true rfl)) dS_takeString_5 ⟨Nat.le_of_ble_eq_true rfl, Nat.le_of_ble_eq_true rfl⟩) (fun u H locs hp C => ?_)
  replace C : Cx D ca s0 A s [(h, .inr (1, [.ref (b), .int (kd), .int (nI w), .int (nI ((takeL w c0 (8 * 4)).2)), .int (en), .int (tk), .int (dn), .int (rm)])), (b, .inl (ca 2, 25, .inr (.inl (u))))] H locs := C.re [0, 1] rfl rfl
  obtain ⟨M1, rfl⟩ : ∃ z, z = u := ⟨_, rfl⟩
  have h1 := hp
  refine lv_aload_n hx hb dS_takeString_8 rfl (lv_at hl 0 rfl) ?_
  refine lv_aload_n hx hb dS_takeString_9 rfl (lv_at hl 1 rfl) ?_
  refine lv_iload_n hx hb dS_takeString_10 rfl (lv_at hl 2 rfl) ?_
  refine n_callV (wc := [(h, .inr (1, [.ref (b), .int (kd), .int (nI w), .int (nI ((takeL w c0 (8 * 4)).2)), .int (en), .int (tk), .int (dn), .int (rm)])), (b, .inl (ca 2, 25, .inr (.inl (M1))))]) (wr := []) C [0, 1] [] rfl rfl rfl rfl (by decide) (fun hp => va_runV (rest := []) S (c_S_takeRowK l D ca s0 a0 Z tz Zs h b M1 kd en tk dn rm w hw (takeL w c0 (8 * 4)) h1 (takeL_lt _ hp0) _) (cwV 2 hts (gV g_218 g_219 g_7 g_32 g_220) rfl rfl rfl (by decide +kernel) ⟨Nat.le_of_ble_eq_true rfl, Nat.le_of_ble_eq_true rfl⟩) ⟨hp.1, n_recv C 0 1 rfl rfl, hp.2⟩ rfl rfl hl.1 rfl (lv_room (Nat.le_of_ble_eq_true rfl)) dS_takeString_11 ⟨Nat.le_of_ble_eq_true rfl, Nat.le_of_ble_eq_true rfl⟩) (fun u H locs hp C => ?_)
  replace C : Cx D ca s0 A s [(h, .inr (1, [.ref (b), .int (kd), .int (nI w), .int (nI ((takeS w c0 pKey 4).2)), .int (en), .int (tk), .int (dn), .int (rm)])), (b, .inl (ca 2, 25, .inr (.inl (u))))] H locs := C.re [0, 1] rfl rfl
  obtain ⟨M2, rfl⟩ : ∃ z, z = u := ⟨_, rfl⟩
  have h2 := hp
  exact ret M2 _ _ _ _ _ _ (Nat.le_refl _) (Nat.le_refl _) h2 C dS_takeString_14
abbrev rm_S_takeRowT : Room := { frames := 3, cells := 0, slots := 0, locals := 83 }
set_option maxHeartbeats 4000000 in
set_option maxRecDepth 100000 in
theorem c_S_takeRowT (l : Launch) (D : va_G) (ca : Nat → ClassId) (s0 : State) (a0 : Array Value) (Z : Wd a0 s0) (tz : Nat → Nat) (Zs : ZS tz s0) (h b : Nat) (L : Nat → Int64) (kd en tk dn rm : Int32) (w : Nat) (hw : w ≤ 200) (c0 : Co) (hL : kEq (lb L) c0.1) (hp0 : c0.2 < w)  : CtV l yS_takeRow [.code yS_takeRow cS_takeRow 4 none] rm_S_takeRowT 0 0 D ca s0 [.ref (h), .ref (tz 6), .int (nI 9)] [(h, .inr (1, [.ref (b), .int (kd), .int (nI w), .int (nI (c0.2)), .int (en), .int (tk), .int (dn), .int (rm)])), (b, .inl (ca 2, 25, .inr (.inl (L))))] (S := Nat → Int64) (fun M => kEq (lb M) (takeR w c0 pTup 9).1) (fun M => [(h, .inr (1, [.ref (b), .int (kd), .int (nI w), .int (nI (takeR w c0 pTup 9).2), .int (en), .int (tk), .int (dn), .int (rm)])), (b, .inl (ca 2, 25, .inr (.inl M)))]) := by
  refine ctV_of (cc := cS_takeRow) (maxL := 4) (own := RS) Z rfl (by decide) rfl (Nat.le_of_ble_eq_true rfl) ?_
  intro p e s m args below meth c A ls Q S hnm ret C hl
  have hx := S.1
  have hb := S.2.1
  have hown := S.2.2.2.1
  have hts := S.2.2.2.2
  generalize s.heap = H at C ⊢
  generalize ([] : List Loc) = locs at C ⊢
  replace hl : lv_has ls 4 [(0, .ref (h)), (1, .ref (tz 6)), (2, .int (nI 9))] := hl
  refine lv_iconst (v := nI 0) hx hb dS_takeRow_0 (by decide) ?_
  refine lv_istore_n hx hb dS_takeRow_1 rfl hl (Nat.le_of_ble_eq_true rfl) rfl (fun ls hl => ?_)
  replace hl : lv_has ls 4 [(3, .int (nI 0)), (0, .ref (h)), (1, .ref (tz 6)), (2, .int (nI 9))] := hl
  have lp2 : ∀ (nf : Nat) (i : Nat) (M : Nat → Int64) (H : Heap) (locs : List Loc) (ls : Array Slot), 9 - i < nf → i ≤ 9 → kEq (lb M) (takeR w c0 pTup i).1 → Cx D ca s0 A s [(h, .inr (1, [.ref (b), .int (kd), .int (nI w), .int (nI ((takeR w c0 pTup i).2)), .int (en), .int (tk), .int (dn), .int (rm)])), (b, .inl (ca 2, 25, .inr (.inl (M))))] H locs → lv_has ls 4 [(3, .int (nI i)), (0, .ref (h)), (1, .ref (tz 6)), (2, .int (nI 9))] → W p l e rm_S_takeRowT s m args below meth c H locs 0 0 Q (F0 m 2 ls []) := by
    intro nf
    induction nf with
    | zero => intro i M H locs ls hn; exact absurd hn (Nat.not_lt_zero _)
    | succ nf ih_lp2 =>
      intro i M H locs ls hn lp2_le hM C hl
      refine lv_iload_n hx hb dS_takeRow_2 rfl (lv_at hl 0 rfl) ?_
      refine lv_iload_n hx hb dS_takeRow_3 rfl (lv_at hl 3 rfl) ?_
      refine n_icmp_ge (tgt := 20) S (by omega) (by omega) dS_takeRow_4 (by decide) (fun hc4 => ?_) (fun hc4 => ?_)
      · skip
        rw [show i = 9 by omega] at C hM
        exact ret M _ _ _ _ _ _ (Nat.le_refl _) (Nat.le_refl _) hM C dS_takeRow_20
      · skip
        refine lv_aload_n hx hb dS_takeRow_7 rfl (lv_at hl 1 rfl) ?_
        refine lv_aload_n hx hb dS_takeRow_8 rfl (lv_at hl 2 rfl) ?_
        refine lv_iload_n hx hb dS_takeRow_9 rfl (lv_at hl 0 rfl) ?_
        refine n_tbald S C Zs.2.2.2.2.2.2 (i := i) (by omega) (by decide) rfl dS_takeRow_10 ?_
        refine n_callV (wc := [(h, .inr (1, [.ref (b), .int (kd), .int (nI w), .int (nI ((takeR w c0 pTup i).2)), .int (en), .int (tk), .int (dn), .int (rm)])), (b, .inl (ca 2, 25, .inr (.inl (M))))]) (wr := []) C [0, 1] [] rfl rfl rfl rfl (by decide) (fun hp => va_runV (rest := []) S (c_S_takeByte l D ca s0 a0 Z tz Zs h b M kd en tk dn rm w hw (takeR w c0 pTup i) hM (takeR_lt pTup hp0 i) (nI (pTup i)) _) (cwV 1 hts (gV g_193 g_194 g_3 g_32 g_195) rfl rfl rfl (by decide +kernel) ⟨Nat.le_of_ble_eq_true rfl, Nat.le_of_ble_eq_true rfl⟩) ⟨hp.1, n_recv C 0 1 rfl rfl, hp.2⟩ rfl rfl hl.1 rfl (lv_room (Nat.le_of_ble_eq_true rfl)) dS_takeRow_11 ⟨Nat.le_of_ble_eq_true rfl, Nat.le_of_ble_eq_true rfl⟩) (fun u H locs hp C => ?_)
        replace C : Cx D ca s0 A s [(h, .inr (1, [.ref (b), .int (kd), .int (nI w), .int (nI ((takeB w (takeR w c0 pTup i) (bv8 (nI (pTup i)))).2)), .int (en), .int (tk), .int (dn), .int (rm)])), (b, .inl (ca 2, 25, .inr (.inl (u))))] H locs := C.re [0, 1] rfl rfl
        rw [bv8_nI (pTup_lt i)] at C hp
        obtain ⟨M1, rfl⟩ : ∃ z, z = u := ⟨_, rfl⟩
        have h1 := hp
        refine lv_iinc (k := 0) (v := nI (i + 1)) hx hb dS_takeRow_14 hl rfl (n_inc1 _) (Nat.le_of_ble_eq_true rfl) rfl (fun ls hl => ?_)
        replace hl : lv_has ls 4 [(3, .int (nI (i + 1))), (0, .ref (h)), (1, .ref (tz 6)), (2, .int (nI 9))] := hl
        refine lv_goto (tgt := 2) hx hb dS_takeRow_17 (by decide) ?_
        exact ih_lp2 (i + 1) _ _ _ _ (by omega) (by omega) h1 C (lv_sub hl [0, 1, 2, 3] rfl)
  exact lp2 (9 + 1) 0 _ _ _ _ (by omega) (by omega) hL C (lv_sub hl [0, 1, 2, 3] rfl)
abbrev rm_S_takeStringT : Room := { frames := 4, cells := 0, slots := 0, locals := 106 }
set_option maxHeartbeats 4000000 in
set_option maxRecDepth 100000 in
theorem c_S_takeStringT (l : Launch) (D : va_G) (ca : Nat → ClassId) (s0 : State) (a0 : Array Value) (Z : Wd a0 s0) (tz : Nat → Nat) (Zs : ZS tz s0) (h b : Nat) (L : Nat → Int64) (kd en tk dn rm : Int32) (w : Nat) (hw : w ≤ 200) (c0 : Co) (hL : kEq (lb L) c0.1) (hp0 : c0.2 < w)  : CtV l yS_takeString [.code yS_takeString cS_takeString 3 none] rm_S_takeStringT 0 0 D ca s0 [.ref (h), .ref (tz 6), .int (nI 9)] [(h, .inr (1, [.ref (b), .int (kd), .int (nI w), .int (nI (c0.2)), .int (en), .int (tk), .int (dn), .int (rm)])), (b, .inl (ca 2, 25, .inr (.inl (L))))] (S := Nat → Int64) (fun M => kEq (lb M) (takeS w c0 pTup 9).1) (fun M => [(h, .inr (1, [.ref (b), .int (kd), .int (nI w), .int (nI (takeS w c0 pTup 9).2), .int (en), .int (tk), .int (dn), .int (rm)])), (b, .inl (ca 2, 25, .inr (.inl M)))]) := by
  refine ctV_of (cc := cS_takeString) (maxL := 3) (own := RS) Z rfl (by decide) rfl (Nat.le_of_ble_eq_true rfl) ?_
  intro p e s m args below meth c A ls Q S hnm ret C hl
  have hx := S.1
  have hb := S.2.1
  have hown := S.2.2.2.1
  have hts := S.2.2.2.2
  generalize s.heap = H at C ⊢
  generalize ([] : List Loc) = locs at C ⊢
  replace hl : lv_has ls 3 [(0, .ref (h)), (1, .ref (tz 6)), (2, .int (nI 9))] := hl
  refine lv_aload_n hx hb dS_takeString_0 rfl (lv_at hl 0 rfl) ?_
  refine lv_bipush (v := nI 8) hx hb dS_takeString_1 (by decide) ?_
  refine lv_iload_n hx hb dS_takeString_3 rfl (lv_at hl 2 rfl) ?_
  refine n_mul S dS_takeString_4 ?_
  refine n_callV (wc := [(h, .inr (1, [.ref (b), .int (kd), .int (nI w), .int (nI (c0.2)), .int (en), .int (tk), .int (dn), .int (rm)])), (b, .inl (ca 2, 25, .inr (.inl (L))))]) (wr := []) C [0, 1] [] rfl rfl rfl rfl (by decide) (fun hp => va_runV (rest := []) S (c_S_takeLeft l D ca s0 a0 Z tz Zs h b L kd en tk dn rm w hw c0 hL hp0 (8 * 9) (by omega) _) (cwV 1 hts (gV g_187 g_188 g_2 g_32 g_189) rfl rfl rfl (by decide +kernel) ⟨Nat.le_of_ble_eq_true rfl, Nat.le_of_ble_eq_true rfl⟩) ⟨hp.1, n_recv C 0 1 rfl rfl, hp.2⟩ rfl rfl hl.1 rfl (lv_room (Nat.le_of_ble_eq_true rfl)) dS_takeString_5 ⟨Nat.le_of_ble_eq_true rfl, Nat.le_of_ble_eq_true rfl⟩) (fun u H locs hp C => ?_)
  replace C : Cx D ca s0 A s [(h, .inr (1, [.ref (b), .int (kd), .int (nI w), .int (nI ((takeL w c0 (8 * 9)).2)), .int (en), .int (tk), .int (dn), .int (rm)])), (b, .inl (ca 2, 25, .inr (.inl (u))))] H locs := C.re [0, 1] rfl rfl
  obtain ⟨M1, rfl⟩ : ∃ z, z = u := ⟨_, rfl⟩
  have h1 := hp
  refine lv_aload_n hx hb dS_takeString_8 rfl (lv_at hl 0 rfl) ?_
  refine lv_aload_n hx hb dS_takeString_9 rfl (lv_at hl 1 rfl) ?_
  refine lv_iload_n hx hb dS_takeString_10 rfl (lv_at hl 2 rfl) ?_
  refine n_callV (wc := [(h, .inr (1, [.ref (b), .int (kd), .int (nI w), .int (nI ((takeL w c0 (8 * 9)).2)), .int (en), .int (tk), .int (dn), .int (rm)])), (b, .inl (ca 2, 25, .inr (.inl (M1))))]) (wr := []) C [0, 1] [] rfl rfl rfl rfl (by decide) (fun hp => va_runV (rest := []) S (c_S_takeRowT l D ca s0 a0 Z tz Zs h b M1 kd en tk dn rm w hw (takeL w c0 (8 * 9)) h1 (takeL_lt _ hp0) _) (cwV 2 hts (gV g_218 g_219 g_7 g_32 g_220) rfl rfl rfl (by decide +kernel) ⟨Nat.le_of_ble_eq_true rfl, Nat.le_of_ble_eq_true rfl⟩) ⟨hp.1, n_recv C 0 1 rfl rfl, hp.2⟩ rfl rfl hl.1 rfl (lv_room (Nat.le_of_ble_eq_true rfl)) dS_takeString_11 ⟨Nat.le_of_ble_eq_true rfl, Nat.le_of_ble_eq_true rfl⟩) (fun u H locs hp C => ?_)
  replace C : Cx D ca s0 A s [(h, .inr (1, [.ref (b), .int (kd), .int (nI w), .int (nI ((takeS w c0 pTup 9).2)), .int (en), .int (tk), .int (dn), .int (rm)])), (b, .inl (ca 2, 25, .inr (.inl (u))))] H locs := C.re [0, 1] rfl rfl
  obtain ⟨M2, rfl⟩ : ∃ z, z = u := ⟨_, rfl⟩
  have h2 := hp
  exact ret M2 _ _ _ _ _ _ (Nat.le_refl _) (Nat.le_refl _) h2 C dS_takeString_14
abbrev rm_S_takeLong : Room := { frames := 3, cells := 0, slots := 0, locals := 83 }
set_option maxHeartbeats 4000000 in
set_option maxRecDepth 100000 in
theorem c_S_takeLong (l : Launch) (D : va_G) (ca : Nat → ClassId) (s0 : State) (a0 : Array Value) (Z : Wd a0 s0) (tz : Nat → Nat) (Zs : ZS tz s0) (h b : Nat) (L : Nat → Int64) (kd en tk dn rm : Int32) (w : Nat) (hw : w ≤ 200) (c0 : Co) (hL : kEq (lb L) c0.1) (hp0 : c0.2 < w) (n : Nat) (hn : n ≤ 8) (x : Int64) : CtI l yS_takeLong [.code yS_takeLong cS_takeLong 5 (some .int)] rm_S_takeLong 0 0 D ca s0 [.ref (h), .int (nI n), .long (x)] [(h, .inr (1, [.ref (b), .int (kd), .int (nI w), .int (nI (c0.2)), .int (en), .int (tk), .int (dn), .int (rm)])), (b, .inl (ca 2, 25, .inr (.inl (L))))] (S := Nat → Int64) (fun r M => r = tk + nI n ∧ kEq (lb M) (takeR w c0 (byAt x) n).1) (fun M => [(h, .inr (1, [.ref (b), .int (kd), .int (nI w), .int (nI (takeR w c0 (byAt x) n).2), .int (en), .int (tk + nI n), .int (dn), .int (rm)])), (b, .inl (ca 2, 25, .inr (.inl M)))]) := by
  refine ctI_of (cc := cS_takeLong) (maxL := 5) (own := RS) Z rfl (by decide) rfl (Nat.le_of_ble_eq_true rfl) ?_
  intro p e s m args below meth c A ls Q S hnm ret C hl
  have hx := S.1
  have hb := S.2.1
  have hown := S.2.2.2.1
  have hts := S.2.2.2.2
  generalize s.heap = H at C ⊢
  generalize ([] : List Loc) = locs at C ⊢
  replace hl : lv_has ls 5 [(0, .ref (h)), (1, .int (nI n)), (2, .long (x))] := hl
  refine lv_iconst (v := nI 0) hx hb dS_takeLong_0 (by decide) ?_
  refine lv_istore hx hb dS_takeLong_1 hl (Nat.le_of_ble_eq_true rfl) rfl (fun ls hl => ?_)
  replace hl : lv_has ls 5 [(4, .int (nI 0)), (0, .ref (h)), (1, .int (nI n)), (2, .long (x))] := hl
  have lp3 : ∀ (nf : Nat) (i : Nat) (M : Nat → Int64) (H : Heap) (locs : List Loc) (ls : Array Slot), n - i < nf → i ≤ n → kEq (lb M) (takeR w c0 (byAt x) i).1 → Cx D ca s0 A s [(h, .inr (1, [.ref (b), .int (kd), .int (nI w), .int (nI ((takeR w c0 (byAt x) i).2)), .int (en), .int (tk), .int (dn), .int (rm)])), (b, .inl (ca 2, 25, .inr (.inl (M))))] H locs → lv_has ls 5 [(4, .int (nI i)), (0, .ref (h)), (1, .int (nI n)), (2, .long (x))] → W p l e rm_S_takeLong s m args below meth c H locs 0 0 Q (F0 m 3 ls []) := by
    intro nf
    induction nf with
    | zero => intro i M H locs ls hn; exact absurd hn (Nat.not_lt_zero _)
    | succ nf ih_lp3 =>
      intro i M H locs ls hn lp3_le hM C hl
      refine lv_iload hx hb dS_takeLong_3 (lv_at hl 0 rfl) ?_
      refine lv_iload_n hx hb dS_takeLong_5 rfl (lv_at hl 2 rfl) ?_
      refine n_icmp_ge (tgt := 27) S (by omega) (by omega) dS_takeLong_6 (by decide) (fun hc6 => ?_) (fun hc6 => ?_)
      · skip
        rw [show i = n by omega] at C hM
        refine lv_aload_n hx hb dS_takeLong_27 rfl (lv_at hl 1 rfl) ?_
        refine lv_dup hx hb dS_takeLong_28 rfl ?_
        refine n_get S C hin_S 0 rfl rfl 5 (by decide) g_78 rfl dS_takeLong_29 ?_
        refine lv_iload_n hx hb dS_takeLong_32 rfl (lv_at hl 2 rfl) ?_
        refine lv_iadd hx hb dS_takeLong_33 ?_
        refine n_put S C hin_S tyS tyS_ok nmS 0 rfl rfl 5 (by decide) g_78 rfl rfl rfl rfl (Nat.le_of_ble_eq_true rfl) dS_takeLong_34 (fun H locs C => ?_)
        replace C : Cx D ca s0 A s [(h, .inr (1, [.ref (b), .int (kd), .int (nI w), .int (nI ((takeR w c0 (byAt x) n).2)), .int (en), .int (tk + (nI n)), .int (dn), .int (rm)])), (b, .inl (ca 2, 25, .inr (.inl (M))))] H locs := C
        refine lv_aload_n hx hb dS_takeLong_37 rfl (lv_at hl 1 rfl) ?_
        refine n_get S C hin_S 0 rfl rfl 5 (by decide) g_78 rfl dS_takeLong_38 ?_
        exact ret (tk + (nI n)) M _ _ _ _ _ _ (Nat.le_refl _) (Nat.le_refl _) (⟨rfl, hM⟩) C dS_takeLong_41
      · skip
        refine lv_aload_n hx hb dS_takeLong_9 rfl (lv_at hl 1 rfl) ?_
        refine lv_lload_n hx hb dS_takeLong_10 rfl (lv_at hl 3 rfl) ?_
        refine lv_bipush (v := nI 8) hx hb dS_takeLong_11 (by decide) ?_
        refine lv_iload hx hb dS_takeLong_13 (lv_at hl 0 rfl) ?_
        refine n_mul S dS_takeLong_15 ?_
        refine lv_lushr (v := lShr x (8 * i)) hx hb dS_takeLong_16 rfl ?_
        refine lv_l2i (v := (lShr x (8 * i)).toInt32) hx hb dS_takeLong_17 rfl ?_
        refine n_callV (wc := [(h, .inr (1, [.ref (b), .int (kd), .int (nI w), .int (nI ((takeR w c0 (byAt x) i).2)), .int (en), .int (tk), .int (dn), .int (rm)])), (b, .inl (ca 2, 25, .inr (.inl (M))))]) (wr := []) C [0, 1] [] rfl rfl rfl rfl (by decide) (fun hp => va_runV (rest := []) S (c_S_takeByte l D ca s0 a0 Z tz Zs h b M kd en tk dn rm w hw (takeR w c0 (byAt x) i) hM (takeR_lt _ hp0 i) ((lShr x (8 * i)).toInt32) _) (cwV 1 hts (gV g_193 g_194 g_3 g_32 g_195) rfl rfl rfl (by decide +kernel) ⟨Nat.le_of_ble_eq_true rfl, Nat.le_of_ble_eq_true rfl⟩) ⟨hp.1, n_recv C 0 1 rfl rfl, hp.2⟩ rfl rfl hl.1 rfl (lv_room (Nat.le_of_ble_eq_true rfl)) dS_takeLong_18 ⟨Nat.le_of_ble_eq_true rfl, Nat.le_of_ble_eq_true rfl⟩) (fun u H locs hp C => ?_)
        replace C : Cx D ca s0 A s [(h, .inr (1, [.ref (b), .int (kd), .int (nI w), .int (nI ((takeB w (takeR w c0 (byAt x) i) (bv8 ((lShr x (8 * i)).toInt32))).2)), .int (en), .int (tk), .int (dn), .int (rm)])), (b, .inl (ca 2, 25, .inr (.inl (u))))] H locs := C.re [0, 1] rfl rfl
        rw [bv8_shr x (by omega)] at C hp
        obtain ⟨M1, rfl⟩ : ∃ z, z = u := ⟨_, rfl⟩
        have h1 := hp
        refine lv_iinc (k := 0) (v := nI (i + 1)) hx hb dS_takeLong_21 hl rfl (n_inc1 _) (Nat.le_of_ble_eq_true rfl) rfl (fun ls hl => ?_)
        replace hl : lv_has ls 5 [(4, .int (nI (i + 1))), (0, .ref (h)), (1, .int (nI n)), (2, .long (x))] := hl
        refine lv_goto (tgt := 3) hx hb dS_takeLong_24 (by decide) ?_
        exact ih_lp3 (i + 1) _ _ _ _ (by omega) (by omega) h1 C (lv_sub hl [0, 1, 2, 3] rfl)
  exact lp3 (n + 1) 0 _ _ _ _ (by omega) (by omega) hL C (lv_sub hl [0, 1, 2, 3] rfl)
