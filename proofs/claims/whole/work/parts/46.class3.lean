abbrev rm_S_giveByte : Room := { frames := 2, cells := 0, slots := 0, locals := 62 }
set_option maxHeartbeats 4000000 in
set_option maxRecDepth 100000 in
theorem c_S_giveByte (l : Launch) (D : va_G) (ca : Nat → ClassId) (s0 : State) (a0 : Array Value) (Z : Wd a0 s0) (tz : Nat → Nat) (Zs : ZS tz s0) (h b : Nat) (L : Nat → Int64) (kd en tk dn rm : Int32) (w : Nat) (hw : w ≤ 200) (c0 : Co) (hL : kEq (lb L) c0.1) (hw0 : 0 < w) (hp0 : c0.2 ≤ w)  : CtL l yS_giveByte [.code yS_giveByte cS_giveByte 3 (some .long)] rm_S_giveByte 0 0 D ca s0 [.ref (h)] [(h, .inr (1, [.ref (b), .int (kd), .int (nI w), .int (nI (c0.2)), .int (en), .int (tk), .int (dn), .int (rm)])), (b, .inl (ca 2, 25, .inr (.inl (L))))] (S := Nat → Int64) (fun r M => r = lN (giveB w c0) ∧ kEq (lb M) (giveN w c0).1) (fun M => [(h, .inr (1, [.ref (b), .int (kd), .int (nI w), .int (nI (giveN w c0).2), .int (en), .int (tk), .int (dn), .int (rm)])), (b, .inl (ca 2, 25, .inr (.inl M)))]) := by
  refine ctL_of (cc := cS_giveByte) (maxL := 3) (own := RS) Z rfl (by decide) rfl (Nat.le_of_ble_eq_true rfl) ?_
  intro p e s m args below meth c A ls Q S hnm ret C hl
  have hx := S.1
  have hb := S.2.1
  have hown := S.2.2.2.1
  have hts := S.2.2.2.2
  generalize s.heap = H at C ⊢
  generalize ([] : List Loc) = locs at C ⊢
  replace hl : lv_has ls 3 [(0, .ref (h))] := hl
  refine lv_aload_n hx hb dS_giveByte_0 rfl (lv_at hl 0 rfl) ?_
  refine n_get S C hin_S 0 rfl rfl 3 (by decide) g_76 rfl dS_giveByte_1 ?_
  refine lv_aload_n hx hb dS_giveByte_4 rfl (lv_at hl 0 rfl) ?_
  refine n_get S C hin_S 0 rfl rfl 2 (by decide) g_75 rfl dS_giveByte_5 ?_
  refine n_icmp_lt (tgt := 15) S (by omega) (by omega) dS_giveByte_8 (by decide) (fun hc8 => ?_) (fun hc8 => ?_)
  · skip
    refine lv_aload_n hx hb dS_giveByte_15 rfl (lv_at hl 0 rfl) ?_
    refine n_get S C hin_S 0 rfl rfl 0 (by decide) g_73 rfl dS_giveByte_16 ?_
    refine lv_aload_n hx hb dS_giveByte_19 rfl (lv_at hl 0 rfl) ?_
    refine n_get S C hin_S 0 rfl rfl 3 (by decide) g_76 rfl dS_giveByte_20 ?_
    refine lv_iconst (v := nI 3) hx hb dS_giveByte_23 (by decide) ?_
    refine n_ushr S (by omega) (by omega) dS_giveByte_24 ?_
    refine lv_topi (nm_r (e' := nI (c0.2 / 8)) rfl ?_)
    refine n_lald S C 1 rfl (i := c0.2 / 8) (by omega) (by decide) dS_giveByte_25 ?_
    refine lv_bipush (v := nI 8) hx hb dS_giveByte_26 (by decide) ?_
    refine lv_aload_n hx hb dS_giveByte_28 rfl (lv_at hl 0 rfl) ?_
    refine n_get S C hin_S 0 rfl rfl 3 (by decide) g_76 rfl dS_giveByte_29 ?_
    refine lv_bipush (v := nI 7) hx hb dS_giveByte_32 (by decide) ?_
    refine n_and S 3 (by decide) (by omega) (by decide) dS_giveByte_34 ?_
    refine lv_topi (nm_r (e' := nI (c0.2 % 8)) rfl ?_)
    refine n_mul S dS_giveByte_35 ?_
    refine lv_lushr (v := lShr (L (c0.2 / 8)) (8 * (c0.2 % 8))) hx hb dS_giveByte_36 rfl ?_
    refine lv_ldc2 (v := 255) hx hb hown (hts _ g_199) dS_giveByte_37 ?_
    refine lv_land hx hb dS_giveByte_40 ?_
    refine lv_lstore_n hx hb dS_giveByte_41 rfl hl (Nat.le_of_ble_eq_true rfl) rfl (fun ls hl => ?_)
    replace hl : lv_has ls 3 [(1, .long ((lShr (L (c0.2 / 8)) (8 * (c0.2 % 8))) &&& 255)), (0, .ref (h))] := hl
    refine lv_aload_n hx hb dS_giveByte_42 rfl (lv_at hl 1 rfl) ?_
    refine lv_dup hx hb dS_giveByte_43 rfl ?_
    refine n_get S C hin_S 0 rfl rfl 3 (by decide) g_76 rfl dS_giveByte_44 ?_
    refine lv_iconst (v := nI 1) hx hb dS_giveByte_47 (by decide) ?_
    refine n_add S dS_giveByte_48 ?_
    refine n_put S C hin_S tyS tyS_ok nmS 0 rfl rfl 3 (by decide) g_76 rfl rfl rfl rfl (Nat.le_of_ble_eq_true rfl) dS_giveByte_49 (fun H locs C => ?_)
    replace C : Cx D ca s0 A s [(h, .inr (1, [.ref (b), .int (kd), .int (nI w), .int (nI (c0.2 + 1)), .int (en), .int (tk), .int (dn), .int (rm)])), (b, .inl (ca 2, 25, .inr (.inl (L))))] H locs := C
    refine lv_lload_n hx hb dS_giveByte_52 rfl (lv_at hl 0 rfl) ?_
    have eg : giveC w c0 = c0 := if_neg (by omega)
    unfold giveN giveB at ret
    rw [eg] at ret
    exact ret ((lShr (L (c0.2 / 8)) (8 * (c0.2 % 8))) &&& 255) L _ _ _ _ _ _ (Nat.le_refl _) (Nat.le_refl _) (⟨by rw [lGive_ok L (by omega), byB_eq hL (by omega)], hL⟩) C dS_giveByte_53
  · skip
    refine lv_aload_n hx hb dS_giveByte_11 rfl (lv_at hl 0 rfl) ?_
    refine n_callV (wc := [(h, .inr (1, [.ref (b), .int (kd), .int (nI w), .int (nI (c0.2)), .int (en), .int (tk), .int (dn), .int (rm)])), (b, .inl (ca 2, 25, .inr (.inl (L))))]) (wr := []) C [0, 1] [] rfl rfl rfl rfl (by decide) (fun hp => va_runV (rest := []) S (c_S_permute l D ca s0 a0 Z tz Zs h b L kd (nI w) (nI c0.2) en tk dn rm c0.1 hL _) (cwV 0 hts (gV g_200 g_201 g_5 g_32 g_202) rfl rfl rfl (by decide +kernel) ⟨Nat.le_of_ble_eq_true rfl, Nat.le_of_ble_eq_true rfl⟩) ⟨hp.1, n_recv C 0 1 rfl rfl, hp.2⟩ rfl rfl hl.1 rfl (lv_room (Nat.le_of_ble_eq_true rfl)) dS_giveByte_12 ⟨Nat.le_of_ble_eq_true rfl, Nat.le_of_ble_eq_true rfl⟩) (fun u H locs hp C => ?_)
    replace C : Cx D ca s0 A s [(h, .inr (1, [.ref (b), .int (kd), .int (nI w), .int (nI 0), .int (en), .int (tk), .int (dn), .int (rm)])), (b, .inl (ca 2, 25, .inr (.inl (u))))] H locs := C.re [0, 1] rfl rfl
    obtain ⟨M2, rfl⟩ : ∃ z, z = u := ⟨_, rfl⟩
    have h2 := hp
    refine lv_aload_n hx hb dS_giveByte_15 rfl (lv_at hl 0 rfl) ?_
    refine n_get S C hin_S 0 rfl rfl 0 (by decide) g_73 rfl dS_giveByte_16 ?_
    refine lv_aload_n hx hb dS_giveByte_19 rfl (lv_at hl 0 rfl) ?_
    refine n_get S C hin_S 0 rfl rfl 3 (by decide) g_76 rfl dS_giveByte_20 ?_
    refine lv_iconst (v := nI 3) hx hb dS_giveByte_23 (by decide) ?_
    refine n_ushr S (by omega) (by omega) dS_giveByte_24 ?_
    refine lv_topi (nm_r (e' := nI (0 / 8)) rfl ?_)
    refine n_lald S C 1 rfl (i := 0 / 8) (by omega) (by decide) dS_giveByte_25 ?_
    refine lv_bipush (v := nI 8) hx hb dS_giveByte_26 (by decide) ?_
    refine lv_aload_n hx hb dS_giveByte_28 rfl (lv_at hl 0 rfl) ?_
    refine n_get S C hin_S 0 rfl rfl 3 (by decide) g_76 rfl dS_giveByte_29 ?_
    refine lv_bipush (v := nI 7) hx hb dS_giveByte_32 (by decide) ?_
    refine n_and S 3 (by decide) (by omega) (by decide) dS_giveByte_34 ?_
    refine lv_topi (nm_r (e' := nI (0 % 8)) rfl ?_)
    refine n_mul S dS_giveByte_35 ?_
    refine lv_lushr (v := lShr (M2 (0 / 8)) (8 * (0 % 8))) hx hb dS_giveByte_36 rfl ?_
    refine lv_ldc2 (v := 255) hx hb hown (hts _ g_199) dS_giveByte_37 ?_
    refine lv_land hx hb dS_giveByte_40 ?_
    refine lv_lstore_n hx hb dS_giveByte_41 rfl hl (Nat.le_of_ble_eq_true rfl) rfl (fun ls hl => ?_)
    replace hl : lv_has ls 3 [(1, .long ((lShr (M2 (0 / 8)) (8 * (0 % 8))) &&& 255)), (0, .ref (h))] := hl
    refine lv_aload_n hx hb dS_giveByte_42 rfl (lv_at hl 1 rfl) ?_
    refine lv_dup hx hb dS_giveByte_43 rfl ?_
    refine n_get S C hin_S 0 rfl rfl 3 (by decide) g_76 rfl dS_giveByte_44 ?_
    refine lv_iconst (v := nI 1) hx hb dS_giveByte_47 (by decide) ?_
    refine n_add S dS_giveByte_48 ?_
    refine n_put S C hin_S tyS tyS_ok nmS 0 rfl rfl 3 (by decide) g_76 rfl rfl rfl rfl (Nat.le_of_ble_eq_true rfl) dS_giveByte_49 (fun H locs C => ?_)
    replace C : Cx D ca s0 A s [(h, .inr (1, [.ref (b), .int (kd), .int (nI w), .int (nI 1), .int (en), .int (tk), .int (dn), .int (rm)])), (b, .inl (ca 2, 25, .inr (.inl (M2))))] H locs := C
    refine lv_lload_n hx hb dS_giveByte_52 rfl (lv_at hl 0 rfl) ?_
    have eg : giveC w c0 = (kecc c0.1, 0) := if_pos (by omega)
    unfold giveN giveB at ret
    rw [eg] at ret
    exact ret ((lShr (M2 (0 / 8)) (8 * (0 % 8))) &&& 255) M2 _ _ _ _ _ _ (Nat.le_refl _) (Nat.le_refl _) (⟨by rw [lGive_ok M2 (by omega), byB_eq h2 (by omega)], h2⟩) C dS_giveByte_53
abbrev rm_S_giveLong : Room := { frames := 3, cells := 0, slots := 0, locals := 84 }
set_option maxHeartbeats 4000000 in
set_option maxRecDepth 100000 in
theorem c_S_giveLong (l : Launch) (D : va_G) (ca : Nat → ClassId) (s0 : State) (a0 : Array Value) (Z : Wd a0 s0) (tz : Nat → Nat) (Zs : ZS tz s0) (h b : Nat) (L : Nat → Int64) (kd en tk dn rm : Int32) (w : Nat) (hw : w ≤ 200) (c0 : Co) (hL : kEq (lb L) c0.1) (hw0 : 0 < w) (hp0 : c0.2 ≤ w) (n : Nat) (hn : n ≤ 8) : CtL l yS_giveLong [.code yS_giveLong cS_giveLong 5 (some .long)] rm_S_giveLong 0 0 D ca s0 [.ref (h), .int (nI n)] [(h, .inr (1, [.ref (b), .int (kd), .int (nI w), .int (nI (c0.2)), .int (en), .int (tk), .int (dn), .int (rm)])), (b, .inl (ca 2, 25, .inr (.inl (L))))] (S := Nat → Int64) (fun r M => r = sqV w c0 n ∧ kEq (lb M) (sqC w c0 n).1) (fun M => [(h, .inr (1, [.ref (b), .int (kd), .int (nI w), .int (nI (sqC w c0 n).2), .int (en), .int (tk), .int (dn), .int ((if rm = -1 then rm else rm - nI n))])), (b, .inl (ca 2, 25, .inr (.inl M)))]) := by
  refine ctL_of (cc := cS_giveLong) (maxL := 5) (own := RS) Z rfl (by decide) rfl (Nat.le_of_ble_eq_true rfl) ?_
  intro p e s m args below meth c A ls Q S hnm ret C hl
  have hx := S.1
  have hb := S.2.1
  have hown := S.2.2.2.1
  have hts := S.2.2.2.2
  generalize s.heap = H at C ⊢
  generalize ([] : List Loc) = locs at C ⊢
  replace hl : lv_has ls 5 [(0, .ref (h)), (1, .int (nI n))] := hl
  refine lv_lconst (v := 0) hx hb dS_giveLong_0 (by decide) ?_
  refine lv_lstore_n hx hb dS_giveLong_1 rfl hl (Nat.le_of_ble_eq_true rfl) rfl (fun ls hl => ?_)
  replace hl : lv_has ls 5 [(2, .long (0)), (0, .ref (h)), (1, .int (nI n))] := hl
  refine lv_iconst (v := nI 0) hx hb dS_giveLong_2 (by decide) ?_
  refine lv_istore hx hb dS_giveLong_3 hl (Nat.le_of_ble_eq_true rfl) rfl (fun ls hl => ?_)
  replace hl : lv_has ls 5 [(4, .int (nI 0)), (2, .long (0)), (0, .ref (h)), (1, .int (nI n))] := hl
  have lp5 : ∀ (nf : Nat) (i : Nat) (M : Nat → Int64) (H : Heap) (locs : List Loc) (ls : Array Slot), n - i < nf → i ≤ n → kEq (lb M) (sqC w c0 i).1 → Cx D ca s0 A s [(h, .inr (1, [.ref (b), .int (kd), .int (nI w), .int (nI ((sqC w c0 i).2)), .int (en), .int (tk), .int (dn), .int (rm)])), (b, .inl (ca 2, 25, .inr (.inl (M))))] H locs → lv_has ls 5 [(4, .int (nI i)), (2, .long (sqV w c0 i)), (0, .ref (h)), (1, .int (nI n))] → W p l e rm_S_giveLong s m args below meth c H locs 0 0 Q (F0 m 5 ls []) := by
    intro nf
    induction nf with
    | zero => intro i M H locs ls hn; exact absurd hn (Nat.not_lt_zero _)
    | succ nf ih_lp5 =>
      intro i M H locs ls hn lp5_le hM C hl
      refine lv_iload hx hb dS_giveLong_5 (lv_at hl 0 rfl) ?_
      refine lv_iload_n hx hb dS_giveLong_7 rfl (lv_at hl 3 rfl) ?_
      refine n_icmp_ge (tgt := 30) S (by omega) (by omega) dS_giveLong_8 (by decide) (fun hc8 => ?_) (fun hc8 => ?_)
      · skip
        rw [show i = n by omega] at C hM hl
        refine lv_aload_n hx hb dS_giveLong_30 rfl (lv_at hl 2 rfl) ?_
        refine n_get S C hin_S 0 rfl rfl 7 (by decide) g_80 rfl dS_giveLong_31 ?_
        refine lv_iconst (v := (-1)) hx hb dS_giveLong_34 (by decide) ?_
        refine lv_icmp_eq (tgt := 48) hx hb dS_giveLong_35 (by decide) (fun hc35 => ?_) (fun hc35 => ?_)
        · skip
          refine lv_lload_n hx hb dS_giveLong_48 rfl (lv_at hl 1 rfl) ?_
          rw [if_pos hc35] at ret
          exact ret (sqV w c0 n) M _ _ _ _ _ _ (Nat.le_refl _) (Nat.le_refl _) (⟨rfl, hM⟩) C dS_giveLong_49
        · skip
          refine lv_aload_n hx hb dS_giveLong_38 rfl (lv_at hl 2 rfl) ?_
          refine lv_dup hx hb dS_giveLong_39 rfl ?_
          refine n_get S C hin_S 0 rfl rfl 7 (by decide) g_80 rfl dS_giveLong_40 ?_
          refine lv_iload_n hx hb dS_giveLong_43 rfl (lv_at hl 3 rfl) ?_
          refine lv_isub hx hb dS_giveLong_44 ?_
          refine n_put S C hin_S tyS tyS_ok nmS 0 rfl rfl 7 (by decide) g_80 rfl rfl rfl rfl (Nat.le_of_ble_eq_true rfl) dS_giveLong_45 (fun H locs C => ?_)
          replace C : Cx D ca s0 A s [(h, .inr (1, [.ref (b), .int (kd), .int (nI w), .int (nI ((sqC w c0 n).2)), .int (en), .int (tk), .int (dn), .int (rm - (nI n))])), (b, .inl (ca 2, 25, .inr (.inl (M))))] H locs := C
          refine lv_lload_n hx hb dS_giveLong_48 rfl (lv_at hl 1 rfl) ?_
          rw [if_neg hc35] at ret
          exact ret (sqV w c0 n) M _ _ _ _ _ _ (Nat.le_refl _) (Nat.le_refl _) (⟨rfl, hM⟩) C dS_giveLong_49
      · skip
        refine lv_lload_n hx hb dS_giveLong_11 rfl (lv_at hl 1 rfl) ?_
        refine lv_aload_n hx hb dS_giveLong_12 rfl (lv_at hl 2 rfl) ?_
        refine n_callL (wc := [(h, .inr (1, [.ref (b), .int (kd), .int (nI w), .int (nI ((sqC w c0 i).2)), .int (en), .int (tk), .int (dn), .int (rm)])), (b, .inl (ca 2, 25, .inr (.inl (M))))]) (wr := []) C [0, 1] [] rfl rfl rfl rfl (by decide) (fun hp => va_runV (rest := [.long (sqV w c0 i)]) S (c_S_giveByte l D ca s0 a0 Z tz Zs h b M kd en tk dn rm w hw (sqC w c0 i) hM hw0 (sqC_le hp0 hw0 i) _) (cwV 0 hts (gV g_295 g_296 g_297 g_32 g_298) rfl rfl rfl (by decide +kernel) ⟨Nat.le_of_ble_eq_true rfl, Nat.le_of_ble_eq_true rfl⟩) ⟨hp.1, n_recv C 0 1 rfl rfl, hp.2⟩ rfl rfl hl.1 rfl (lv_room (Nat.le_of_ble_eq_true rfl)) dS_giveLong_13 ⟨Nat.le_of_ble_eq_true rfl, Nat.le_of_ble_eq_true rfl⟩) (fun r u H locs hp C => ?_)
        replace C : Cx D ca s0 A s [(h, .inr (1, [.ref (b), .int (kd), .int (nI w), .int (nI ((giveN w (sqC w c0 i)).2)), .int (en), .int (tk), .int (dn), .int (rm)])), (b, .inl (ca 2, 25, .inr (.inl (u))))] H locs := C.re [0, 1] rfl rfl
        obtain ⟨rfl, hp⟩ := hp
        obtain ⟨M1, rfl⟩ : ∃ z, z = u := ⟨_, rfl⟩
        have h1 := hp
        refine lv_bipush (v := nI 8) hx hb dS_giveLong_16 (by decide) ?_
        refine lv_iload hx hb dS_giveLong_18 (lv_at hl 0 rfl) ?_
        refine n_mul S dS_giveLong_20 ?_
        refine lv_lshl (v := lShl (lN (giveB w (sqC w c0 i))) (8 * i)) hx hb dS_giveLong_21 rfl ?_
        refine lv_lor hx hb dS_giveLong_22 ?_
        refine lv_lstore_n hx hb dS_giveLong_23 rfl hl (Nat.le_of_ble_eq_true rfl) rfl (fun ls hl => ?_)
        replace hl : lv_has ls 5 [(2, .long ((sqV w c0 i) ||| (lShl (lN (giveB w (sqC w c0 i))) (8 * i)))), (4, .int (nI i)), (0, .ref (h)), (1, .int (nI n))] := hl
        refine lv_iinc (k := 1) (v := nI (i + 1)) hx hb dS_giveLong_24 hl rfl (n_inc1 _) (Nat.le_of_ble_eq_true rfl) rfl (fun ls hl => ?_)
        replace hl : lv_has ls 5 [(4, .int (nI (i + 1))), (2, .long ((sqV w c0 i) ||| (lShl (lN (giveB w (sqC w c0 i))) (8 * i)))), (0, .ref (h)), (1, .int (nI n))] := hl
        refine lv_goto (tgt := 5) hx hb dS_giveLong_27 (by decide) ?_
        exact ih_lp5 (i + 1) _ _ _ _ (by omega) (by omega) h1 C (lv_sub hl [0, 1, 2, 3] rfl)
  exact lp5 (n + 1) 0 _ _ _ _ (by omega) (by omega) hL C (lv_sub hl [0, 1, 2, 3] rfl)
abbrev rm_S_canGive : Room := { frames := 0, cells := 0, slots := 0, locals := 0 }
set_option maxHeartbeats 4000000 in
set_option maxRecDepth 100000 in
theorem c_S_canGive (l : Launch) (D : va_G) (ca : Nat → ClassId) (s0 : State) (a0 : Array Value) (Z : Wd a0 s0) (h b : Nat) (kd wd pl en tk rm : Int32) (dn : Bool) (n : Int32) : CtI l yS_canGive [.code yS_canGive cS_canGive 2 (some .boolean)] rm_S_canGive 0 0 D ca s0 [.ref (h), .int (n)] [(h, .inr (1, [.ref (b), .int (kd), .int (wd), .int (pl), .int (en), .int (tk), .int (b2i dn), .int (rm)]))] (S := Unit) (fun r _ => r = b2i (canG dn rm n)) (fun _ => [(h, .inr (1, [.ref (b), .int (kd), .int (wd), .int (pl), .int (en), .int (tk), .int (b2i dn), .int (rm)]))]) := by
  refine ctZ_of (cc := cS_canGive) (maxL := 2) (own := RS) Z rfl (by decide) rfl (Nat.le_of_ble_eq_true rfl) ?_
  intro p e s m args below meth c A ls Q S hnm ret C hl
  have hx := S.1
  have hb := S.2.1
  have hown := S.2.2.2.1
  have hts := S.2.2.2.2
  generalize s.heap = H at C ⊢
  generalize ([] : List Loc) = locs at C ⊢
  replace hl : lv_has ls 2 [(0, .ref (h)), (1, .int (n))] := hl
  refine lv_aload_n hx hb dS_canGive_0 rfl (lv_at hl 0 rfl) ?_
  refine n_get S C hin_S 0 rfl rfl 6 (by decide) g_79 rfl dS_canGive_1 ?_
  refine lv_if_eq (tgt := 27) hx hb dS_canGive_4 (by decide) (fun hc4 => ?_) (fun hc4 => ?_)
  · skip
    refine lv_iconst (v := nI 0) hx hb dS_canGive_27 (by decide) ?_
    exact ret (nI 0) (()) _ _ _ _ _ _ (by decide) (Nat.le_refl _) (Nat.le_refl _) (by unfold canG; first | (rw [b2i_0.mp hc4]; rfl) | (rw [b2i_n0.mp hc4, decide_eq_false hc12, decide_eq_false (Int32.not_le.mpr hc20)]; rfl)) C dS_canGive_28
  · skip
    refine lv_aload_n hx hb dS_canGive_7 rfl (lv_at hl 0 rfl) ?_
    refine n_get S C hin_S 0 rfl rfl 7 (by decide) g_80 rfl dS_canGive_8 ?_
    refine lv_iconst (v := (-1)) hx hb dS_canGive_11 (by decide) ?_
    refine lv_icmp_eq (tgt := 23) hx hb dS_canGive_12 (by decide) (fun hc12 => ?_) (fun hc12 => ?_)
    · skip
      refine lv_iconst (v := nI 1) hx hb dS_canGive_23 (by decide) ?_
      refine lv_goto (tgt := 28) hx hb dS_canGive_24 (by decide) ?_
      exact ret (nI 1) (()) _ _ _ _ _ _ (by decide) (Nat.le_refl _) (Nat.le_refl _) (by unfold canG; first | (rw [b2i_n0.mp hc4, decide_eq_true hc12]; rfl) | (rw [b2i_n0.mp hc4, decide_eq_false hc12, decide_eq_true (Int32.not_lt.mp hc20)]; rfl)) C dS_canGive_28
    · skip
      refine lv_aload_n hx hb dS_canGive_15 rfl (lv_at hl 0 rfl) ?_
      refine n_get S C hin_S 0 rfl rfl 7 (by decide) g_80 rfl dS_canGive_16 ?_
      refine lv_iload_n hx hb dS_canGive_19 rfl (lv_at hl 1 rfl) ?_
      refine lv_icmp_lt (tgt := 27) hx hb dS_canGive_20 (by decide) (fun hc20 => ?_) (fun hc20 => ?_)
      · skip
        refine lv_iconst (v := nI 0) hx hb dS_canGive_27 (by decide) ?_
        exact ret (nI 0) (()) _ _ _ _ _ _ (by decide) (Nat.le_refl _) (Nat.le_refl _) (by unfold canG; first | (rw [b2i_0.mp hc4]; rfl) | (rw [b2i_n0.mp hc4, decide_eq_false hc12, decide_eq_false (Int32.not_le.mpr hc20)]; rfl)) C dS_canGive_28
      · skip
        refine lv_iconst (v := nI 1) hx hb dS_canGive_23 (by decide) ?_
        refine lv_goto (tgt := 28) hx hb dS_canGive_24 (by decide) ?_
        exact ret (nI 1) (()) _ _ _ _ _ _ (by decide) (Nat.le_refl _) (Nat.le_refl _) (by unfold canG; first | (rw [b2i_n0.mp hc4, decide_eq_true hc12]; rfl) | (rw [b2i_n0.mp hc4, decide_eq_false hc12, decide_eq_true (Int32.not_lt.mp hc20)]; rfl)) C dS_canGive_28
abbrev rm_S_finish : Room := { frames := 4, cells := 0, slots := 0, locals := 106 }
set_option maxHeartbeats 4000000 in
set_option maxRecDepth 100000 in
theorem c_S_finish (l : Launch) (D : va_G) (ca : Nat → ClassId) (s0 : State) (a0 : Array Value) (Z : Wd a0 s0) (tz : Nat → Nat) (Zs : ZS tz s0) (h b : Nat) (L : Nat → Int64) (tk dn rm : Int32) (w : Nat) (hw : w ≤ 200) (c0 : Co) (hL : kEq (lb L) c0.1) (hp0 : c0.2 < w) (k len : Nat) (hk : k < 16) (hlen : len ≤ 1000) (ee : Nat) (hee : ee < 256) : CtV l yS_finish [.code yS_finish cS_finish 2 none] rm_S_finish 0 0 D ca s0 [.ref (h), .int (nI len)] [(h, .inr (1, [.ref (b), .int (nI k), .int (nI w), .int (nI (c0.2)), .int (nI ee), .int (tk), .int (dn), .int (rm)])), (b, .inl (ca 2, 25, .inr (.inl (L))))] (S := Nat → Int64) (fun M => kEq (lb M) (finA w k c0 len ee)) (fun M => [(h, .inr (1, [.ref (b), .int (nI k), .int (nI w), .int (nI 0), .int (nI ee), .int (tk), .int (nI 1), .int ((if len = 0 then -1 else nI len))])), (b, .inl (ca 2, 25, .inr (.inl M)))]) := by
  refine ctV_of (cc := cS_finish) (maxL := 2) (own := RS) Z rfl (by decide) rfl (Nat.le_of_ble_eq_true rfl) ?_
  intro p e s m args below meth c A ls Q S hnm ret C hl
  have hx := S.1
  have hb := S.2.1
  have hown := S.2.2.2.1
  have hts := S.2.2.2.2
  generalize s.heap = H at C ⊢
  generalize ([] : List Loc) = locs at C ⊢
  replace hl : lv_has ls 2 [(0, .ref (h)), (1, .int (nI len))] := hl
  refine lv_aload_n hx hb dS_finish_0 rfl (lv_at hl 0 rfl) ?_
  refine n_get S C hin_S 0 rfl rfl 1 (by decide) g_74 rfl dS_finish_1 ?_
  refine lv_bipush (v := nI 8) hx hb dS_finish_4 (by decide) ?_
  have J17 : ∀ (M : Nat → Int64) (H : Heap) (locs : List Loc) (ls : Array Slot), kEq (lb M) (finC w k c0 len).1 → Cx D ca s0 A s [(h, .inr (1, [.ref (b), .int (nI k), .int (nI w), .int (nI ((finC w k c0 len).2)), .int (nI ee), .int (tk), .int (dn), .int (rm)])), (b, .inl (ca 2, 25, .inr (.inl (M))))] H locs → lv_has ls 2 [(0, .ref (h)), (1, .int (nI len))] → W p l e rm_S_finish s m args below meth c H locs 0 0 Q (F0 m 17 ls []) := by
    intro M H locs ls hM C hl
    refine lv_aload_n hx hb dS_finish_17 rfl (lv_at hl 0 rfl) ?_
    refine lv_aload_n hx hb dS_finish_18 rfl (lv_at hl 0 rfl) ?_
    refine n_get S C hin_S 0 rfl rfl 3 (by decide) g_76 rfl dS_finish_19 ?_
    refine lv_aload_n hx hb dS_finish_22 rfl (lv_at hl 0 rfl) ?_
    refine n_get S C hin_S 0 rfl rfl 4 (by decide) g_77 rfl dS_finish_23 ?_
    refine n_callV (wc := [(h, .inr (1, [.ref (b), .int (nI k), .int (nI w), .int (nI ((finC w k c0 len).2)), .int (nI ee), .int (tk), .int (dn), .int (rm)])), (b, .inl (ca 2, 25, .inr (.inl (M))))]) (wr := []) C [0, 1] [] rfl rfl rfl rfl (by decide) (fun hp => va_runV (rest := []) S (c_S_mix l D ca s0 a0 Z h b M (nI k) (nI w) (nI (finC w k c0 len).2) (nI ee) tk dn rm ((finC w k c0 len).2) (by have := finC_lt (k := k) (len := len) hp0; omega) (nI ee) _) (cwV 2 hts (gV g_196 g_197 g_4 g_32 g_198) rfl rfl rfl (by decide +kernel) ⟨Nat.le_of_ble_eq_true rfl, Nat.le_of_ble_eq_true rfl⟩) ⟨hp.1, n_recv C 0 1 rfl rfl, hp.2⟩ rfl rfl hl.1 rfl (lv_room (Nat.le_of_ble_eq_true rfl)) dS_finish_26 ⟨Nat.le_of_ble_eq_true rfl, Nat.le_of_ble_eq_true rfl⟩) (fun u H locs hp C => ?_)
    replace C : Cx D ca s0 A s [(h, .inr (1, [.ref (b), .int (nI k), .int (nI w), .int (nI ((finC w k c0 len).2)), .int (nI ee), .int (tk), .int (dn), .int (rm)])), (b, .inl (ca 2, 25, .inr (.inl (u))))] H locs := C.re [0, 1] rfl rfl
    obtain ⟨M6, rfl⟩ : ∃ z, z = u := ⟨_, rfl⟩
    have h6 := hp
    refine lv_aload_n hx hb dS_finish_29 rfl (lv_at hl 0 rfl) ?_
    refine lv_aload_n hx hb dS_finish_30 rfl (lv_at hl 0 rfl) ?_
    refine n_get S C hin_S 0 rfl rfl 2 (by decide) g_75 rfl dS_finish_31 ?_
    refine lv_iconst (v := nI 1) hx hb dS_finish_34 (by decide) ?_
    refine n_sub S (by omega) dS_finish_35 ?_
    refine lv_sipush (v := nI 128) hx hb dS_finish_36 (by decide) ?_
    refine n_callV (wc := [(h, .inr (1, [.ref (b), .int (nI k), .int (nI w), .int (nI ((finC w k c0 len).2)), .int (nI ee), .int (tk), .int (dn), .int (rm)])), (b, .inl (ca 2, 25, .inr (.inl (M6))))]) (wr := []) C [0, 1] [] rfl rfl rfl rfl (by decide) (fun hp => va_runV (rest := []) S (c_S_mix l D ca s0 a0 Z h b M6 (nI k) (nI w) (nI (finC w k c0 len).2) (nI ee) tk dn rm (w - 1) (by omega) (nI 128) _) (cwV 2 hts (gV g_196 g_197 g_4 g_32 g_198) rfl rfl rfl (by decide +kernel) ⟨Nat.le_of_ble_eq_true rfl, Nat.le_of_ble_eq_true rfl⟩) ⟨hp.1, n_recv C 0 1 rfl rfl, hp.2⟩ rfl rfl hl.1 rfl (lv_room (Nat.le_of_ble_eq_true rfl)) dS_finish_39 ⟨Nat.le_of_ble_eq_true rfl, Nat.le_of_ble_eq_true rfl⟩) (fun u H locs hp C => ?_)
    replace C : Cx D ca s0 A s [(h, .inr (1, [.ref (b), .int (nI k), .int (nI w), .int (nI ((finC w k c0 len).2)), .int (nI ee), .int (tk), .int (dn), .int (rm)])), (b, .inl (ca 2, 25, .inr (.inl (u))))] H locs := C.re [0, 1] rfl rfl
    obtain ⟨M7, rfl⟩ : ∃ z, z = u := ⟨_, rfl⟩
    have h7 := hp
    refine lv_aload_n hx hb dS_finish_42 rfl (lv_at hl 0 rfl) ?_
    refine n_callV (wc := [(h, .inr (1, [.ref (b), .int (nI k), .int (nI w), .int (nI ((finC w k c0 len).2)), .int (nI ee), .int (tk), .int (dn), .int (rm)])), (b, .inl (ca 2, 25, .inr (.inl (M7))))]) (wr := []) C [0, 1] [] rfl rfl rfl rfl (by decide) (fun hp => va_runV (rest := []) S (c_S_permute l D ca s0 a0 Z tz Zs h b M7 (nI k) (nI w) (nI (finC w k c0 len).2) (nI ee) tk dn rm (mixB (mixB (finC w k c0 len).1 (finC w k c0 len).2 ee) (w - 1) 128) (by rw [bv8_nI (by decide)] at h7; rw [bv8_nI hee] at h6; exact h7.tr (mixB_eq (h6.tr (mixB_eq hM _ _)) _ _)) _) (cwV 0 hts (gV g_200 g_201 g_5 g_32 g_202) rfl rfl rfl (by decide +kernel) ⟨Nat.le_of_ble_eq_true rfl, Nat.le_of_ble_eq_true rfl⟩) ⟨hp.1, n_recv C 0 1 rfl rfl, hp.2⟩ rfl rfl hl.1 rfl (lv_room (Nat.le_of_ble_eq_true rfl)) dS_finish_43 ⟨Nat.le_of_ble_eq_true rfl, Nat.le_of_ble_eq_true rfl⟩) (fun u H locs hp C => ?_)
    replace C : Cx D ca s0 A s [(h, .inr (1, [.ref (b), .int (nI k), .int (nI w), .int (nI 0), .int (nI ee), .int (tk), .int (dn), .int (rm)])), (b, .inl (ca 2, 25, .inr (.inl (u))))] H locs := C.re [0, 1] rfl rfl
    obtain ⟨M8, rfl⟩ : ∃ z, z = u := ⟨_, rfl⟩
    have h8 := hp
    refine lv_aload_n hx hb dS_finish_46 rfl (lv_at hl 0 rfl) ?_
    refine lv_iconst (v := nI 1) hx hb dS_finish_47 (by decide) ?_
    refine n_put S C hin_S tyS tyS_ok nmS 0 rfl rfl 6 (by decide) g_79 rfl rfl rfl rfl (Nat.le_of_ble_eq_true rfl) dS_finish_48 (fun H locs C => ?_)
    replace C : Cx D ca s0 A s [(h, .inr (1, [.ref (b), .int (nI k), .int (nI w), .int (nI 0), .int (nI ee), .int (tk), .int (nI 1), .int (rm)])), (b, .inl (ca 2, 25, .inr (.inl (M8))))] H locs := C
    refine lv_aload_n hx hb dS_finish_51 rfl (lv_at hl 0 rfl) ?_
    refine lv_iload_n hx hb dS_finish_52 rfl (lv_at hl 1 rfl) ?_
    refine n_if_ne (tgt := 60) S (by omega) dS_finish_53 (by decide) (fun hc53 => ?_) (fun hc53 => ?_)
    · skip
      refine lv_iload_n hx hb dS_finish_60 rfl (lv_at hl 1 rfl) ?_
      refine n_put S C hin_S tyS tyS_ok nmS 0 rfl rfl 7 (by decide) g_80 rfl rfl rfl rfl (Nat.le_of_ble_eq_true rfl) dS_finish_61 (fun H locs C => ?_)
      replace C : Cx D ca s0 A s [(h, .inr (1, [.ref (b), .int (nI k), .int (nI w), .int (nI 0), .int (nI ee), .int (tk), .int (nI 1), .int (nI len)])), (b, .inl (ca 2, 25, .inr (.inl (M8))))] H locs := C
      rw [if_neg hc53] at ret
      exact ret M8 _ _ _ _ _ _ (Nat.le_refl _) (Nat.le_refl _) h8 C dS_finish_64
    · skip
      refine lv_iconst (v := (-1)) hx hb dS_finish_56 (by decide) ?_
      refine lv_goto (tgt := 61) hx hb dS_finish_57 (by decide) ?_
      refine n_put S C hin_S tyS tyS_ok nmS 0 rfl rfl 7 (by decide) g_80 rfl rfl rfl rfl (Nat.le_of_ble_eq_true rfl) dS_finish_61 (fun H locs C => ?_)
      replace C : Cx D ca s0 A s [(h, .inr (1, [.ref (b), .int (nI k), .int (nI w), .int (nI 0), .int (nI ee), .int (tk), .int (nI 1), .int ((-1))])), (b, .inl (ca 2, 25, .inr (.inl (M8))))] H locs := C
      rw [if_pos hc53] at ret
      exact ret M8 _ _ _ _ _ _ (Nat.le_refl _) (Nat.le_refl _) h8 C dS_finish_64
  refine n_icmp_lt (tgt := 17) S (by omega) (by omega) dS_finish_6 (by decide) (fun hc6 => ?_) (fun hc6 => ?_)
  · skip
    replace C : Cx D ca s0 A s [(h, .inr (1, [.ref (b), .int (nI k), .int (nI w), .int (nI ((finC w k c0 len).2)), .int (nI ee), .int (tk), .int (dn), .int (rm)])), (b, .inl (ca 2, 25, .inr (.inl (L))))] H locs := by rw [show finC w k c0 len = c0 from if_neg (by omega)]; exact C
    exact J17 L _ _ _ (by rw [show finC w k c0 len = c0 from if_neg (by omega)]; exact hL) C (lv_sub hl [0, 1] rfl)
  · skip
    refine lv_aload_n hx hb dS_finish_9 rfl (lv_at hl 0 rfl) ?_
    refine lv_bipush (v := nI 8) hx hb dS_finish_10 (by decide) ?_
    refine lv_iload_n hx hb dS_finish_12 rfl (lv_at hl 1 rfl) ?_
    refine n_mul S dS_finish_13 ?_
    refine n_callV (wc := [(h, .inr (1, [.ref (b), .int (nI k), .int (nI w), .int (nI (c0.2)), .int (nI ee), .int (tk), .int (dn), .int (rm)])), (b, .inl (ca 2, 25, .inr (.inl (L))))]) (wr := []) C [0, 1] [] rfl rfl rfl rfl (by decide) (fun hp => va_runV (rest := []) S (c_S_takeRight l D ca s0 a0 Z tz Zs h b L (nI k) (nI ee) tk dn rm w hw c0 hL hp0 (8 * len) (by omega) _) (cwV 1 hts (gV g_277 g_278 g_9 g_32 g_279) rfl rfl rfl (by decide +kernel) ⟨Nat.le_of_ble_eq_true rfl, Nat.le_of_ble_eq_true rfl⟩) ⟨hp.1, n_recv C 0 1 rfl rfl, hp.2⟩ rfl rfl hl.1 rfl (lv_room (Nat.le_of_ble_eq_true rfl)) dS_finish_14 ⟨Nat.le_of_ble_eq_true rfl, Nat.le_of_ble_eq_true rfl⟩) (fun u H locs hp C => ?_)
    replace C : Cx D ca s0 A s [(h, .inr (1, [.ref (b), .int (nI k), .int (nI w), .int (nI ((takeE w c0 (8 * len)).2)), .int (nI ee), .int (tk), .int (dn), .int (rm)])), (b, .inl (ca 2, 25, .inr (.inl (u))))] H locs := C.re [0, 1] rfl rfl
    obtain ⟨M5, rfl⟩ : ∃ z, z = u := ⟨_, rfl⟩
    have h5 := hp
    replace C : Cx D ca s0 A s [(h, .inr (1, [.ref (b), .int (nI k), .int (nI w), .int (nI ((finC w k c0 len).2)), .int (nI ee), .int (tk), .int (dn), .int (rm)])), (b, .inl (ca 2, 25, .inr (.inl (M5))))] H locs := by rw [show finC w k c0 len = takeE w c0 (8 * len) from if_pos hc6]; exact C
    exact J17 M5 _ _ _ (by rw [show finC w k c0 len = takeE w c0 (8 * len) from if_pos hc6]; exact h5) C (lv_sub hl [0, 1] rfl)
