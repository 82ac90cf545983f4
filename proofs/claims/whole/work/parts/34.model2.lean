abbrev rm_M_turns : Room := { frames := 1, cells := 0, slots := 0, locals := 22 }
set_option maxHeartbeats 4000000 in
set_option maxRecDepth 100000 in
theorem c_M_turns (l : Launch) (D : va_G) (ca : Nat → ClassId) (s0 : State) (a0 : Array Value) (Z : Wd a0 s0) (h0 : Nat) (q : Nat → Nat) (th tz : Int32) (f g : Nat → Int32) (B : Nat → Bool) (hf : rB f B) : CtV l yM_turns [.code yM_turns cM_turns 6 none] rm_M_turns 0 0 D ca s0 [.ref (h0)] [(h0, .inr (3, mF q (th) (tz))), (q 10, .inl (ca 1, 1600, .inl (f))), (q 11, .inl (ca 1, 1600, .inl (g)))] (S := (Nat → Int32) × (Nat → Int32)) (fun u => rB u.1 (kRho B)) (fun u => [(h0, .inr (3, mF q th tz)), (q 10, .inl (ca 1, 1600, .inl u.1)), (q 11, .inl (ca 1, 1600, .inl u.2))]) := by
  refine ctV_of (cc := cM_turns) (maxL := 6) (own := RM) Z rfl (by decide) rfl (Nat.le_of_ble_eq_true rfl) ?_
  intro p e s m args below meth c A ls Q S hnm ret C hl
  have hx := S.1
  have hb := S.2.1
  have hown := S.2.2.2.1
  have hts := S.2.2.2.2
  generalize s.heap = H at C ⊢
  generalize ([] : List Loc) = locs at C ⊢
  replace hl : lv_has ls 6 [(0, .ref (h0))] := hl
  refine lv_iconst (v := nI 1) hx hb dM_turns_0 (by decide) ?_
  refine lv_istore_n hx hb dM_turns_1 rfl hl (Nat.le_of_ble_eq_true rfl) rfl (fun ls hl => ?_)
  replace hl : lv_has ls 6 [(1, .int (nI 1)), (0, .ref (h0))] := hl
  refine lv_iconst (v := nI 0) hx hb dM_turns_2 (by decide) ?_
  refine lv_istore_n hx hb dM_turns_3 rfl hl (Nat.le_of_ble_eq_true rfl) rfl (fun ls hl => ?_)
  replace hl : lv_has ls 6 [(2, .int (nI 0)), (1, .int (nI 1)), (0, .ref (h0))] := hl
  refine lv_iconst (v := nI 0) hx hb dM_turns_4 (by decide) ?_
  refine lv_istore_n hx hb dM_turns_5 rfl hl (Nat.le_of_ble_eq_true rfl) rfl (fun ls hl => ?_)
  replace hl : lv_has ls 6 [(3, .int (nI 0)), (2, .int (nI 0)), (1, .int (nI 1)), (0, .ref (h0))] := hl
  have lp6 : ∀ (nf : Nat) (z : Nat) (g1 : Nat → Int32) (H : Heap) (locs : List Loc) (ls : Array Slot), 64 - z < nf → z ≤ 64 → Done zR zO zT (bF (kRho B)) g1 0 0 z → Cx D ca s0 A s [(h0, .inr (3, mF q (th) (tz))), (q 10, .inl (ca 1, 1600, .inl (f))), (q 11, .inl (ca 1, 1600, .inl (g1)))] H locs → lv_has ls 6 [(3, .int (nI z)), (2, .int (nI 0)), (1, .int (nI 1)), (0, .ref (h0))] → W p l e rm_M_turns s m args below meth c H locs 0 0 Q (F0 m 6 ls []) := by
    intro nf
    induction nf with
    | zero => intro z g1 H locs ls hn; exact absurd hn (Nat.not_lt_zero _)
    | succ nf ih_lp6 =>
      intro z g1 H locs ls hn lp6_le hZ C hl
      refine lv_iload_n hx hb dM_turns_6 rfl (lv_at hl 0 rfl) ?_
      refine lv_bipush (v := nI 64) hx hb dM_turns_7 (by decide) ?_
      refine n_icmp_ge (tgt := 30) S (by omega) (by omega) dM_turns_9 (by decide) (fun hc9 => ?_) (fun hc9 => ?_)
      · skip
        refine lv_iconst (v := nI 0) hx hb dM_turns_30 (by decide) ?_
        refine lv_istore_n hx hb dM_turns_31 rfl hl (Nat.le_of_ble_eq_true rfl) rfl (fun ls hl => ?_)
        replace hl : lv_has ls 6 [(3, .int (nI 0)), (2, .int (nI 0)), (1, .int (nI 1)), (0, .ref (h0))] := hl
        have lp32 : ∀ (nf : Nat) (t : Nat) (g1 : Nat → Int32) (H : Heap) (locs : List Loc) (ls : Array Slot), 24 - t < nf → t ≤ 24 → Done zR zO zT (bF (kRho B)) g1 (t + 1) 0 0 → Cx D ca s0 A s [(h0, .inr (3, mF q (th) (tz))), (q 10, .inl (ca 1, 1600, .inl (f))), (q 11, .inl (ca 1, 1600, .inl (g1)))] H locs → lv_has ls 6 [(3, .int (nI t)), (2, .int (nI ((kPos t).2))), (1, .int (nI ((kPos t).1))), (0, .ref (h0))] → W p l e rm_M_turns s m args below meth c H locs 0 0 Q (F0 m 32 ls []) := by
          intro nf
          induction nf with
          | zero => intro t g1 H locs ls hn; exact absurd hn (Nat.not_lt_zero _)
          | succ nf ih_lp32 =>
            intro t g1 H locs ls hn lp32_le hT C hl
            refine lv_iload_n hx hb dM_turns_32 rfl (lv_at hl 0 rfl) ?_
            refine lv_bipush (v := nI 24) hx hb dM_turns_33 (by decide) ?_
            refine n_icmp_ge (tgt := 117) S (by omega) (by omega) dM_turns_35 (by decide) (fun hc35 => ?_) (fun hc35 => ?_)
            · skip
              refine lv_aload_n hx hb dM_turns_117 rfl (lv_at hl 3 rfl) ?_
              refine n_callV (wc := [(h0, .inr (3, mF q (th) (tz))), (q 10, .inl (ca 1, 1600, .inl (f))), (q 11, .inl (ca 1, 1600, .inl (g1)))]) (wr := []) C [0, 1, 2] [] rfl rfl rfl rfl (by decide) (fun hp => va_runV (rest := []) S (c_M_take l D ca s0 a0 Z h0 q th tz f g1 (kRho B) (fun k hk => Done_all zR_lt (eq_of_le hc35 lp32_le ▸ hT) k hk) _) (cwV 0 hts (gV g_372 g_373 g_18 g_34 g_374) rfl rfl rfl (by decide +kernel) ⟨Nat.le_of_ble_eq_true rfl, Nat.le_of_ble_eq_true rfl⟩) ⟨hp.1, n_recv C 0 3 rfl rfl, hp.2⟩ rfl rfl hl.1 rfl (lv_room (Nat.le_of_ble_eq_true rfl)) dM_turns_118 ⟨Nat.le_of_ble_eq_true rfl, Nat.le_of_ble_eq_true rfl⟩) (fun u H locs hp C => ?_)
              replace C : Cx D ca s0 A s [(h0, .inr (3, mF q (th) (tz))), (q 10, .inl (ca 1, 1600, .inl (u))), (q 11, .inl (ca 1, 1600, .inl (g1)))] H locs := C.re [0, 1, 2] rfl rfl
              exact ret ((u, g1)) _ _ _ _ _ _ (Nat.le_refl _) (Nat.le_refl _) hp C dM_turns_121
            · skip
              have hfar : (t + 1) * (t + 2) ≤ 25 * 26 := Nat.mul_le_mul (by omega) (by omega)
              have hkp := kPos_lt t
              refine lv_iload_n hx hb dM_turns_38 rfl (lv_at hl 0 rfl) ?_
              refine lv_iconst (v := nI 1) hx hb dM_turns_39 (by decide) ?_
              refine n_add S dM_turns_40 ?_
              refine lv_iload_n hx hb dM_turns_41 rfl (lv_at hl 0 rfl) ?_
              refine lv_iconst (v := nI 2) hx hb dM_turns_42 (by decide) ?_
              refine n_add S dM_turns_43 ?_
              refine n_mul S dM_turns_44 ?_
              refine lv_iconst (v := nI 2) hx hb dM_turns_45 (by decide) ?_
              refine n_div S (by omega) (by omega) (by omega) dM_turns_46 ?_
              refine lv_istore hx hb dM_turns_47 hl (Nat.le_of_ble_eq_true rfl) rfl (fun ls hl => ?_)
              replace hl : lv_has ls 6 [(4, .int (nI (((t + 1) * (t + 2)) / 2))), (3, .int (nI t)), (2, .int (nI ((kPos t).2))), (1, .int (nI ((kPos t).1))), (0, .ref (h0))] := hl
              refine lv_iconst (v := nI 0) hx hb dM_turns_49 (by decide) ?_
              refine lv_istore hx hb dM_turns_50 hl (Nat.le_of_ble_eq_true rfl) rfl (fun ls hl => ?_)
              replace hl : lv_has ls 6 [(5, .int (nI 0)), (4, .int (nI (((t + 1) * (t + 2)) / 2))), (3, .int (nI t)), (2, .int (nI ((kPos t).2))), (1, .int (nI ((kPos t).1))), (0, .ref (h0))] := hl
              have lp52 : ∀ (nf : Nat) (z : Nat) (g1 : Nat → Int32) (H : Heap) (locs : List Loc) (ls : Array Slot), 64 - z < nf → z ≤ 64 → Done zR zO zT (bF (kRho B)) g1 (t + 1) 0 z → Cx D ca s0 A s [(h0, .inr (3, mF q (th) (tz))), (q 10, .inl (ca 1, 1600, .inl (f))), (q 11, .inl (ca 1, 1600, .inl (g1)))] H locs → lv_has ls 6 [(5, .int (nI z)), (4, .int (nI (((t + 1) * (t + 2)) / 2))), (3, .int (nI t)), (2, .int (nI ((kPos t).2))), (1, .int (nI ((kPos t).1))), (0, .ref (h0))] → W p l e rm_M_turns s m args below meth c H locs 0 0 Q (F0 m 52 ls []) := by
                intro nf
                induction nf with
                | zero => intro z g1 H locs ls hn; exact absurd hn (Nat.not_lt_zero _)
                | succ nf ih_lp52 =>
                  intro z g1 H locs ls hn lp52_le hZ C hl
                  refine lv_iload hx hb dM_turns_52 (lv_at hl 0 rfl) ?_
                  refine lv_bipush (v := nI 64) hx hb dM_turns_54 (by decide) ?_
                  refine n_icmp_ge (tgt := 95) S (by omega) (by omega) dM_turns_56 (by decide) (fun hc56 => ?_) (fun hc56 => ?_)
                  · skip
                    refine lv_iload_n hx hb dM_turns_95 rfl (lv_at hl 4 rfl) ?_
                    refine lv_istore hx hb dM_turns_96 hl (Nat.le_of_ble_eq_true rfl) rfl (fun ls hl => ?_)
                    replace hl : lv_has ls 6 [(5, .int (nI ((kPos t).1))), (4, .int (nI (((t + 1) * (t + 2)) / 2))), (3, .int (nI t)), (2, .int (nI ((kPos t).2))), (1, .int (nI ((kPos t).1))), (0, .ref (h0))] := hl
                    refine lv_iload_n hx hb dM_turns_98 rfl (lv_at hl 3 rfl) ?_
                    refine lv_istore_n hx hb dM_turns_99 rfl hl (Nat.le_of_ble_eq_true rfl) rfl (fun ls hl => ?_)
                    replace hl : lv_has ls 6 [(1, .int (nI ((kPos t).2))), (5, .int (nI ((kPos t).1))), (4, .int (nI (((t + 1) * (t + 2)) / 2))), (3, .int (nI t)), (2, .int (nI ((kPos t).2))), (0, .ref (h0))] := hl
                    refine lv_iconst (v := nI 2) hx hb dM_turns_100 (by decide) ?_
                    refine lv_iload hx hb dM_turns_101 (lv_at hl 1 rfl) ?_
                    refine n_mul S dM_turns_103 ?_
                    refine lv_iconst (v := nI 3) hx hb dM_turns_104 (by decide) ?_
                    refine lv_iload_n hx hb dM_turns_105 rfl (lv_at hl 4 rfl) ?_
                    refine n_mul S dM_turns_106 ?_
                    refine n_add S dM_turns_107 ?_
                    refine lv_iconst (v := nI 5) hx hb dM_turns_108 (by decide) ?_
                    refine n_rem S (by omega) (by omega) (by omega) dM_turns_109 ?_
                    refine lv_istore_n hx hb dM_turns_110 rfl hl (Nat.le_of_ble_eq_true rfl) rfl (fun ls hl => ?_)
                    replace hl : lv_has ls 6 [(2, .int (nI (((2 * ((kPos t).1)) + (3 * ((kPos t).2))) % 5))), (1, .int (nI ((kPos t).2))), (5, .int (nI ((kPos t).1))), (4, .int (nI (((t + 1) * (t + 2)) / 2))), (3, .int (nI t)), (0, .ref (h0))] := hl
                    refine lv_iinc (k := 4) (v := nI (t + 1)) hx hb dM_turns_111 hl rfl (n_inc1 _) (Nat.le_of_ble_eq_true rfl) rfl (fun ls hl => ?_)
                    replace hl : lv_has ls 6 [(3, .int (nI (t + 1))), (2, .int (nI (((2 * ((kPos t).1)) + (3 * ((kPos t).2))) % 5))), (1, .int (nI ((kPos t).2))), (5, .int (nI ((kPos t).1))), (4, .int (nI (((t + 1) * (t + 2)) / 2))), (0, .ref (h0))] := hl
                    refine lv_goto (tgt := 32) hx hb dM_turns_114 (by decide) ?_
                    exact ih_lp32 (t + 1) _ _ _ _ (by omega) (by omega) (Done_a zO_lt (Done_b zT_lt (eq_of_le hc56 lp52_le ▸ hZ))) C (lv_sub hl [0, 1, 2, 5] rfl)
                  · skip
                    refine lv_aload_n hx hb dM_turns_59 rfl (lv_at hl 5 rfl) ?_
                    refine n_get S C hin_M 0 rfl rfl 13 (by decide) g_415 rfl dM_turns_60 ?_
                    refine lv_iload_n hx hb dM_turns_63 rfl (lv_at hl 4 rfl) ?_
                    refine lv_iload_n hx hb dM_turns_64 rfl (lv_at hl 3 rfl) ?_
                    refine lv_iload hx hb dM_turns_65 (lv_at hl 0 rfl) ?_
                    refine lv_iload hx hb dM_turns_67 (lv_at hl 1 rfl) ?_
                    refine n_add S dM_turns_69 ?_
                    refine lv_bipush (v := nI 64) hx hb dM_turns_70 (by decide) ?_
                    refine n_rem S (by omega) (by omega) (by omega) dM_turns_72 ?_
                    refine n_callP C (fun hp => va_runS (rest := [.ref (q 11)]) S (c_M_at l D ca s0 a0 Z ((kPos t).1) ((kPos t).2) ((z + (t + 1) * (t + 2) / 2) % 64) (by omega) (by omega) _) (cwS 3 hts (gS g_369 g_370 g_34 g_371) rfl rfl rfl (by decide +kernel) ⟨Nat.le_of_ble_eq_true rfl, Nat.le_of_ble_eq_true rfl⟩) hp rfl rfl hl.1 rfl (lv_room (Nat.le_of_ble_eq_true rfl)) dM_turns_73 ⟨Nat.le_of_ble_eq_true rfl, Nat.le_of_ble_eq_true rfl⟩) (fun r u H locs hp C => ?_)
                    subst hp
                    refine lv_aload_n hx hb dM_turns_76 rfl (lv_at hl 5 rfl) ?_
                    refine n_get S C hin_M 0 rfl rfl 12 (by decide) g_414 rfl dM_turns_77 ?_
                    refine lv_iload_n hx hb dM_turns_80 rfl (lv_at hl 4 rfl) ?_
                    refine lv_iload_n hx hb dM_turns_81 rfl (lv_at hl 3 rfl) ?_
                    refine lv_iload hx hb dM_turns_82 (lv_at hl 0 rfl) ?_
                    refine n_callP C (fun hp => va_runS (rest := [.ref (q 10), .int (nI (kAt ((kPos t).1) ((kPos t).2) ((z + (t + 1) * (t + 2) / 2) % 64))), .ref (q 11)]) S (c_M_at l D ca s0 a0 Z ((kPos t).1) ((kPos t).2) z (by omega) (by omega) _) (cwS 3 hts (gS g_369 g_370 g_34 g_371) rfl rfl rfl (by decide +kernel) ⟨Nat.le_of_ble_eq_true rfl, Nat.le_of_ble_eq_true rfl⟩) hp rfl rfl hl.1 rfl (lv_room (Nat.le_of_ble_eq_true rfl)) dM_turns_84 ⟨Nat.le_of_ble_eq_true rfl, Nat.le_of_ble_eq_true rfl⟩) (fun r u H locs hp C => ?_)
                    subst hp
                    refine n_zald S C 1 rfl (i := kAt ((kPos t).1) ((kPos t).2) z) (kAt_lt (by omega)) (by decide) dM_turns_87 ?_
                    refine lv_topi (nm_r (e' := b2i (B (kAt ((kPos t).1) ((kPos t).2) z))) (hf _ (kAt_lt (by omega))) ?_)
                    refine n_zast S C 2 rfl (i := kAt ((kPos t).1) ((kPos t).2) ((z + (t + 1) * (t + 2) / 2) % 64)) (kAt_lt (Nat.mod_lt _ (by decide))) (by decide) dM_turns_88 (fun H locs C => ?_)
                    replace C : Cx D ca s0 A s [(h0, .inr (3, mF q (th) (tz))), (q 10, .inl (ca 1, 1600, .inl (f))), (q 11, .inl (ca 1, 1600, .inl (upd g1 (kAt ((kPos t).1) ((kPos t).2) ((z + (t + 1) * (t + 2) / 2) % 64)) (vp_nar .boolean (b2i (B (kAt ((kPos t).1) ((kPos t).2) z)))))))] H locs := C
                    refine lv_iinc (k := 0) (v := nI (z + 1)) hx hb dM_turns_89 hl rfl (n_inc1 _) (Nat.le_of_ble_eq_true rfl) rfl (fun ls hl => ?_)
                    replace hl : lv_has ls 6 [(5, .int (nI (z + 1))), (4, .int (nI (((t + 1) * (t + 2)) / 2))), (3, .int (nI t)), (2, .int (nI ((kPos t).2))), (1, .int (nI ((kPos t).1))), (0, .ref (h0))] := hl
                    refine lv_goto (tgt := 52) hx hb dM_turns_92 (by decide) ?_
                    exact ih_lp52 (z + 1) _ _ _ _ (by omega) (by omega) (Done_put hZ (fun k hk h1 _ h3 => ix_rho (by omega) (by omega) hk h1 h3) (by show _ = b2i (kRho B (kAt ((kPos t).1) ((kPos t).2) ((z + (t + 1) * (t + 2) / 2) % 64))); rw [b2i_nar, at_rho (by omega) (by omega)])) C (lv_sub hl [0, 1, 2, 3, 4, 5] rfl)
              exact lp52 (64 + 1) 0 _ _ _ _ (by omega) (by omega) hT C (lv_sub hl [0, 1, 2, 3, 4, 5] rfl)
        exact lp32 (24 + 1) 0 _ _ _ _ (by omega) (by omega) (Done_a zO_lt (Done_b zT_lt (eq_of_le hc9 lp6_le ▸ hZ))) C (lv_sub hl [0, 1, 2, 3] rfl)
      · skip
        refine lv_aload_n hx hb dM_turns_12 rfl (lv_at hl 3 rfl) ?_
        refine n_get S C hin_M 0 rfl rfl 13 (by decide) g_415 rfl dM_turns_13 ?_
        refine lv_iload_n hx hb dM_turns_16 rfl (lv_at hl 0 rfl) ?_
        refine lv_aload_n hx hb dM_turns_17 rfl (lv_at hl 3 rfl) ?_
        refine n_get S C hin_M 0 rfl rfl 12 (by decide) g_414 rfl dM_turns_18 ?_
        refine lv_iload_n hx hb dM_turns_21 rfl (lv_at hl 0 rfl) ?_
        refine n_zald S C 1 rfl (i := z) (by omega) (by decide) dM_turns_22 ?_
        refine lv_topi (nm_r (e' := b2i (B z)) (hf _ (by omega)) ?_)
        refine n_zast S C 2 rfl (i := z) (by omega) (by decide) dM_turns_23 (fun H locs C => ?_)
        replace C : Cx D ca s0 A s [(h0, .inr (3, mF q (th) (tz))), (q 10, .inl (ca 1, 1600, .inl (f))), (q 11, .inl (ca 1, 1600, .inl (upd g1 z (vp_nar .boolean (b2i (B z))))))] H locs := C
        refine lv_iinc (k := 0) (v := nI (z + 1)) hx hb dM_turns_24 hl rfl (n_inc1 _) (Nat.le_of_ble_eq_true rfl) rfl (fun ls hl => ?_)
        replace hl : lv_has ls 6 [(3, .int (nI (z + 1))), (2, .int (nI 0)), (1, .int (nI 1)), (0, .ref (h0))] := hl
        refine lv_goto (tgt := 6) hx hb dM_turns_27 (by decide) ?_
        exact ih_lp6 (z + 1) _ _ _ _ (by omega) (by omega) (Done_put hZ (fun k hk h1 _ h3 => ix_rho0 hk h1 h3) (by show _ = b2i (kRho B z); rw [b2i_nar, at_rho0 (by omega)])) C (lv_sub hl [0, 1, 2, 3] rfl)
  exact lp6 (64 + 1) 0 g _ _ _ (by omega) (by omega) Done_0 C (lv_sub hl [0, 1, 2, 3] rfl)
abbrev rm_M_places : Room := { frames := 1, cells := 0, slots := 0, locals := 22 }
set_option maxHeartbeats 4000000 in
set_option maxRecDepth 100000 in
theorem c_M_places (l : Launch) (D : va_G) (ca : Nat → ClassId) (s0 : State) (a0 : Array Value) (Z : Wd a0 s0) (h0 : Nat) (q : Nat → Nat) (th tz : Int32) (f g : Nat → Int32) (B : Nat → Bool) (hf : rB f B) : CtV l yM_places [.code yM_places cM_places 4 none] rm_M_places 0 0 D ca s0 [.ref (h0)] [(h0, .inr (3, mF q (th) (tz))), (q 10, .inl (ca 1, 1600, .inl (f))), (q 11, .inl (ca 1, 1600, .inl (g)))] (S := (Nat → Int32) × (Nat → Int32)) (fun u => rB u.1 (kPi B)) (fun u => [(h0, .inr (3, mF q th tz)), (q 10, .inl (ca 1, 1600, .inl u.1)), (q 11, .inl (ca 1, 1600, .inl u.2))]) := by
  refine ctV_of (cc := cM_places) (maxL := 4) (own := RM) Z rfl (by decide) rfl (Nat.le_of_ble_eq_true rfl) ?_
  intro p e s m args below meth c A ls Q S hnm ret C hl
  have hx := S.1
  have hb := S.2.1
  have hown := S.2.2.2.1
  have hts := S.2.2.2.2
  generalize s.heap = H at C ⊢
  generalize ([] : List Loc) = locs at C ⊢
  replace hl : lv_has ls 4 [(0, .ref (h0))] := hl
  refine lv_iconst (v := nI 0) hx hb dM_places_0 (by decide) ?_
  refine lv_istore_n hx hb dM_places_1 rfl hl (Nat.le_of_ble_eq_true rfl) rfl (fun ls hl => ?_)
  replace hl : lv_has ls 4 [(1, .int (nI 0)), (0, .ref (h0))] := hl
  have lp2 : ∀ (nf : Nat) (x : Nat) (g1 : Nat → Int32) (H : Heap) (locs : List Loc) (ls : Array Slot), 5 - x < nf → x ≤ 5 → Done zS zX zZ (bF (kPi B)) g1 x 0 0 → Cx D ca s0 A s [(h0, .inr (3, mF q (th) (tz))), (q 10, .inl (ca 1, 1600, .inl (f))), (q 11, .inl (ca 1, 1600, .inl (g1)))] H locs → lv_has ls 4 [(1, .int (nI x)), (0, .ref (h0))] → W p l e rm_M_places s m args below meth c H locs 0 0 Q (F0 m 2 ls []) := by
    intro nf
    induction nf with
    | zero => intro x g1 H locs ls hn; exact absurd hn (Nat.not_lt_zero _)
    | succ nf ih_lp2 =>
      intro x g1 H locs ls hn lp2_le hX C hl
      refine lv_iload_n hx hb dM_places_2 rfl (lv_at hl 0 rfl) ?_
      refine lv_iconst (v := nI 5) hx hb dM_places_3 (by decide) ?_
      refine n_icmp_ge (tgt := 68) S (by omega) (by omega) dM_places_4 (by decide) (fun hc4 => ?_) (fun hc4 => ?_)
      · skip
        refine lv_aload_n hx hb dM_places_68 rfl (lv_at hl 1 rfl) ?_
        refine n_callV (wc := [(h0, .inr (3, mF q (th) (tz))), (q 10, .inl (ca 1, 1600, .inl (f))), (q 11, .inl (ca 1, 1600, .inl (g1)))]) (wr := []) C [0, 1, 2] [] rfl rfl rfl rfl (by decide) (fun hp => va_runV (rest := []) S (c_M_take l D ca s0 a0 Z h0 q th tz f g1 (kPi B) (fun k hk => Done_all zS_lt (eq_of_le hc4 lp2_le ▸ hX) k hk) _) (cwV 0 hts (gV g_372 g_373 g_18 g_34 g_374) rfl rfl rfl (by decide +kernel) ⟨Nat.le_of_ble_eq_true rfl, Nat.le_of_ble_eq_true rfl⟩) ⟨hp.1, n_recv C 0 3 rfl rfl, hp.2⟩ rfl rfl hl.1 rfl (lv_room (Nat.le_of_ble_eq_true rfl)) dM_places_69 ⟨Nat.le_of_ble_eq_true rfl, Nat.le_of_ble_eq_true rfl⟩) (fun u H locs hp C => ?_)
        replace C : Cx D ca s0 A s [(h0, .inr (3, mF q (th) (tz))), (q 10, .inl (ca 1, 1600, .inl (u))), (q 11, .inl (ca 1, 1600, .inl (g1)))] H locs := C.re [0, 1, 2] rfl rfl
        exact ret ((u, g1)) _ _ _ _ _ _ (Nat.le_refl _) (Nat.le_refl _) hp C dM_places_72
      · skip
        refine lv_iconst (v := nI 0) hx hb dM_places_7 (by decide) ?_
        refine lv_istore_n hx hb dM_places_8 rfl hl (Nat.le_of_ble_eq_true rfl) rfl (fun ls hl => ?_)
        replace hl : lv_has ls 4 [(2, .int (nI 0)), (1, .int (nI x)), (0, .ref (h0))] := hl
        have lp9 : ∀ (nf : Nat) (y : Nat) (g1 : Nat → Int32) (H : Heap) (locs : List Loc) (ls : Array Slot), 5 - y < nf → y ≤ 5 → Done zS zX zZ (bF (kPi B)) g1 x y 0 → Cx D ca s0 A s [(h0, .inr (3, mF q (th) (tz))), (q 10, .inl (ca 1, 1600, .inl (f))), (q 11, .inl (ca 1, 1600, .inl (g1)))] H locs → lv_has ls 4 [(2, .int (nI y)), (1, .int (nI x)), (0, .ref (h0))] → W p l e rm_M_places s m args below meth c H locs 0 0 Q (F0 m 9 ls []) := by
          intro nf
          induction nf with
          | zero => intro y g1 H locs ls hn; exact absurd hn (Nat.not_lt_zero _)
          | succ nf ih_lp9 =>
            intro y g1 H locs ls hn lp9_le hY C hl
            refine lv_iload_n hx hb dM_places_9 rfl (lv_at hl 0 rfl) ?_
            refine lv_iconst (v := nI 5) hx hb dM_places_10 (by decide) ?_
            refine n_icmp_ge (tgt := 62) S (by omega) (by omega) dM_places_11 (by decide) (fun hc11 => ?_) (fun hc11 => ?_)
            · skip
              refine lv_iinc (k := 1) (v := nI (x + 1)) hx hb dM_places_62 hl rfl (n_inc1 _) (Nat.le_of_ble_eq_true rfl) rfl (fun ls hl => ?_)
              replace hl : lv_has ls 4 [(1, .int (nI (x + 1))), (2, .int (nI y)), (0, .ref (h0))] := hl
              refine lv_goto (tgt := 2) hx hb dM_places_65 (by decide) ?_
              exact ih_lp2 (x + 1) _ _ _ _ (by omega) (by omega) (Done_a zX_lt (eq_of_le hc11 lp9_le ▸ hY)) C (lv_sub hl [0, 2] rfl)
            · skip
              refine lv_iconst (v := nI 0) hx hb dM_places_14 (by decide) ?_
              refine lv_istore_n hx hb dM_places_15 rfl hl (Nat.le_of_ble_eq_true rfl) rfl (fun ls hl => ?_)
              replace hl : lv_has ls 4 [(3, .int (nI 0)), (2, .int (nI y)), (1, .int (nI x)), (0, .ref (h0))] := hl
              have lp16 : ∀ (nf : Nat) (z : Nat) (g1 : Nat → Int32) (H : Heap) (locs : List Loc) (ls : Array Slot), 64 - z < nf → z ≤ 64 → Done zS zX zZ (bF (kPi B)) g1 x y z → Cx D ca s0 A s [(h0, .inr (3, mF q (th) (tz))), (q 10, .inl (ca 1, 1600, .inl (f))), (q 11, .inl (ca 1, 1600, .inl (g1)))] H locs → lv_has ls 4 [(3, .int (nI z)), (2, .int (nI y)), (1, .int (nI x)), (0, .ref (h0))] → W p l e rm_M_places s m args below meth c H locs 0 0 Q (F0 m 16 ls []) := by
                intro nf
                induction nf with
                | zero => intro z g1 H locs ls hn; exact absurd hn (Nat.not_lt_zero _)
                | succ nf ih_lp16 =>
                  intro z g1 H locs ls hn lp16_le hZ C hl
                  refine lv_iload_n hx hb dM_places_16 rfl (lv_at hl 0 rfl) ?_
                  refine lv_bipush (v := nI 64) hx hb dM_places_17 (by decide) ?_
                  refine n_icmp_ge (tgt := 56) S (by omega) (by omega) dM_places_19 (by decide) (fun hc19 => ?_) (fun hc19 => ?_)
                  · skip
                    refine lv_iinc (k := 1) (v := nI (y + 1)) hx hb dM_places_56 hl rfl (n_inc1 _) (Nat.le_of_ble_eq_true rfl) rfl (fun ls hl => ?_)
                    replace hl : lv_has ls 4 [(2, .int (nI (y + 1))), (3, .int (nI z)), (1, .int (nI x)), (0, .ref (h0))] := hl
                    refine lv_goto (tgt := 9) hx hb dM_places_59 (by decide) ?_
                    exact ih_lp9 (y + 1) _ _ _ _ (by omega) (by omega) (Done_b zZ_lt (eq_of_le hc19 lp16_le ▸ hZ)) C (lv_sub hl [0, 2, 3] rfl)
                  · skip
                    refine lv_aload_n hx hb dM_places_22 rfl (lv_at hl 3 rfl) ?_
                    refine n_get S C hin_M 0 rfl rfl 13 (by decide) g_415 rfl dM_places_23 ?_
                    refine lv_iload_n hx hb dM_places_26 rfl (lv_at hl 1 rfl) ?_
                    refine lv_iconst (v := nI 2) hx hb dM_places_27 (by decide) ?_
                    refine lv_iload_n hx hb dM_places_28 rfl (lv_at hl 2 rfl) ?_
                    refine n_mul S dM_places_29 ?_
                    refine lv_iconst (v := nI 3) hx hb dM_places_30 (by decide) ?_
                    refine lv_iload_n hx hb dM_places_31 rfl (lv_at hl 1 rfl) ?_
                    refine n_mul S dM_places_32 ?_
                    refine n_add S dM_places_33 ?_
                    refine lv_iload_n hx hb dM_places_34 rfl (lv_at hl 0 rfl) ?_
                    refine n_callP C (fun hp => va_runS (rest := [.ref (q 11)]) S (c_M_at l D ca s0 a0 Z y (2 * x + 3 * y) z (by omega) (by omega) _) (cwS 3 hts (gS g_369 g_370 g_34 g_371) rfl rfl rfl (by decide +kernel) ⟨Nat.le_of_ble_eq_true rfl, Nat.le_of_ble_eq_true rfl⟩) hp rfl rfl hl.1 rfl (lv_room (Nat.le_of_ble_eq_true rfl)) dM_places_35 ⟨Nat.le_of_ble_eq_true rfl, Nat.le_of_ble_eq_true rfl⟩) (fun r u H locs hp C => ?_)
                    subst hp
                    refine lv_aload_n hx hb dM_places_38 rfl (lv_at hl 3 rfl) ?_
                    refine n_get S C hin_M 0 rfl rfl 12 (by decide) g_414 rfl dM_places_39 ?_
                    refine lv_iload_n hx hb dM_places_42 rfl (lv_at hl 2 rfl) ?_
                    refine lv_iload_n hx hb dM_places_43 rfl (lv_at hl 1 rfl) ?_
                    refine lv_iload_n hx hb dM_places_44 rfl (lv_at hl 0 rfl) ?_
                    refine n_callP C (fun hp => va_runS (rest := [.ref (q 10), .int (nI (kAt y (2 * x + 3 * y) z)), .ref (q 11)]) S (c_M_at l D ca s0 a0 Z x y z (by omega) (by omega) _) (cwS 3 hts (gS g_369 g_370 g_34 g_371) rfl rfl rfl (by decide +kernel) ⟨Nat.le_of_ble_eq_true rfl, Nat.le_of_ble_eq_true rfl⟩) hp rfl rfl hl.1 rfl (lv_room (Nat.le_of_ble_eq_true rfl)) dM_places_45 ⟨Nat.le_of_ble_eq_true rfl, Nat.le_of_ble_eq_true rfl⟩) (fun r u H locs hp C => ?_)
                    subst hp
                    refine n_zald S C 1 rfl (i := kAt x y z) (kAt_lt (by omega)) (by decide) dM_places_48 ?_
                    refine lv_topi (nm_r (e' := b2i (B (kAt x y z))) (hf _ (kAt_lt (by omega))) ?_)
                    refine n_zast S C 2 rfl (i := kAt y (2 * x + 3 * y) z) (kAt_lt (by omega)) (by decide) dM_places_49 (fun H locs C => ?_)
                    replace C : Cx D ca s0 A s [(h0, .inr (3, mF q (th) (tz))), (q 10, .inl (ca 1, 1600, .inl (f))), (q 11, .inl (ca 1, 1600, .inl (upd g1 (kAt y (2 * x + 3 * y) z) (vp_nar .boolean (b2i (B (kAt x y z)))))))] H locs := C
                    refine lv_iinc (k := 0) (v := nI (z + 1)) hx hb dM_places_50 hl rfl (n_inc1 _) (Nat.le_of_ble_eq_true rfl) rfl (fun ls hl => ?_)
                    replace hl : lv_has ls 4 [(3, .int (nI (z + 1))), (2, .int (nI y)), (1, .int (nI x)), (0, .ref (h0))] := hl
                    refine lv_goto (tgt := 16) hx hb dM_places_53 (by decide) ?_
                    exact ih_lp16 (z + 1) _ _ _ _ (by omega) (by omega) (Done_put hZ (fun k hk h1 h2 h3 => ix_pi (by omega) (by omega) (by omega) hk h1 h2 h3) (by show _ = b2i (kPi B (kAt y (2 * x + 3 * y) z)); rw [b2i_nar, at_pi (by omega) (by omega) (by omega)])) C (lv_sub hl [0, 1, 2, 3] rfl)
              exact lp16 (64 + 1) 0 _ _ _ _ (by omega) (by omega) hY C (lv_sub hl [0, 1, 2, 3] rfl)
        exact lp9 (5 + 1) 0 _ _ _ _ (by omega) (by omega) hX C (lv_sub hl [0, 1, 2] rfl)
  exact lp2 (5 + 1) 0 g _ _ _ (by omega) (by omega) Done_0 C (lv_sub hl [0, 1] rfl)
abbrev rm_M_rowsOf : Room := { frames := 1, cells := 0, slots := 0, locals := 22 }
set_option maxHeartbeats 4000000 in
set_option maxRecDepth 100000 in
theorem c_M_rowsOf (l : Launch) (D : va_G) (ca : Nat → ClassId) (s0 : State) (a0 : Array Value) (Z : Wd a0 s0) (h0 : Nat) (q : Nat → Nat) (th tz : Int32) (f g : Nat → Int32) (B : Nat → Bool) (hf : rB f B) : CtV l yM_rowsOf [.code yM_rowsOf cM_rowsOf 5 none] rm_M_rowsOf 0 0 D ca s0 [.ref (h0)] [(h0, .inr (3, mF q (th) (tz))), (q 10, .inl (ca 1, 1600, .inl (f))), (q 11, .inl (ca 1, 1600, .inl (g)))] (S := (Nat → Int32) × (Nat → Int32)) (fun u => rB u.1 (kChi B)) (fun u => [(h0, .inr (3, mF q th tz)), (q 10, .inl (ca 1, 1600, .inl u.1)), (q 11, .inl (ca 1, 1600, .inl u.2))]) := by
  refine ctV_of (cc := cM_rowsOf) (maxL := 5) (own := RM) Z rfl (by decide) rfl (Nat.le_of_ble_eq_true rfl) ?_
  intro p e s m args below meth c A ls Q S hnm ret C hl
  have hx := S.1
  have hb := S.2.1
  have hown := S.2.2.2.1
  have hts := S.2.2.2.2
  generalize s.heap = H at C ⊢
  generalize ([] : List Loc) = locs at C ⊢
  replace hl : lv_has ls 5 [(0, .ref (h0))] := hl
  refine lv_iconst (v := nI 0) hx hb dM_rowsOf_0 (by decide) ?_
  refine lv_istore_n hx hb dM_rowsOf_1 rfl hl (Nat.le_of_ble_eq_true rfl) rfl (fun ls hl => ?_)
  replace hl : lv_has ls 5 [(1, .int (nI 0)), (0, .ref (h0))] := hl
  have lp2 : ∀ (nf : Nat) (x : Nat) (g1 : Nat → Int32) (H : Heap) (locs : List Loc) (ls : Array Slot), 5 - x < nf → x ≤ 5 → Done zX zY zZ (bF (kChi B)) g1 x 0 0 → Cx D ca s0 A s [(h0, .inr (3, mF q (th) (tz))), (q 10, .inl (ca 1, 1600, .inl (f))), (q 11, .inl (ca 1, 1600, .inl (g1)))] H locs → lv_has ls 5 [(1, .int (nI x)), (0, .ref (h0))] → W p l e rm_M_rowsOf s m args below meth c H locs 0 0 Q (F0 m 2 ls []) := by
    intro nf
    induction nf with
    | zero => intro x g1 H locs ls hn; exact absurd hn (Nat.not_lt_zero _)
    | succ nf ih_lp2 =>
      intro x g1 H locs ls hn lp2_le hX C hl
      refine lv_iload_n hx hb dM_rowsOf_2 rfl (lv_at hl 0 rfl) ?_
      refine lv_iconst (v := nI 5) hx hb dM_rowsOf_3 (by decide) ?_
      refine n_icmp_ge (tgt := 111) S (by omega) (by omega) dM_rowsOf_4 (by decide) (fun hc4 => ?_) (fun hc4 => ?_)
      · skip
        refine lv_aload_n hx hb dM_rowsOf_111 rfl (lv_at hl 1 rfl) ?_
        refine n_callV (wc := [(h0, .inr (3, mF q (th) (tz))), (q 10, .inl (ca 1, 1600, .inl (f))), (q 11, .inl (ca 1, 1600, .inl (g1)))]) (wr := []) C [0, 1, 2] [] rfl rfl rfl rfl (by decide) (fun hp => va_runV (rest := []) S (c_M_take l D ca s0 a0 Z h0 q th tz f g1 (kChi B) (fun k hk => Done_all zX_lt (eq_of_le hc4 lp2_le ▸ hX) k hk) _) (cwV 0 hts (gV g_372 g_373 g_18 g_34 g_374) rfl rfl rfl (by decide +kernel) ⟨Nat.le_of_ble_eq_true rfl, Nat.le_of_ble_eq_true rfl⟩) ⟨hp.1, n_recv C 0 3 rfl rfl, hp.2⟩ rfl rfl hl.1 rfl (lv_room (Nat.le_of_ble_eq_true rfl)) dM_rowsOf_112 ⟨Nat.le_of_ble_eq_true rfl, Nat.le_of_ble_eq_true rfl⟩) (fun u H locs hp C => ?_)
        replace C : Cx D ca s0 A s [(h0, .inr (3, mF q (th) (tz))), (q 10, .inl (ca 1, 1600, .inl (u))), (q 11, .inl (ca 1, 1600, .inl (g1)))] H locs := C.re [0, 1, 2] rfl rfl
        exact ret ((u, g1)) _ _ _ _ _ _ (Nat.le_refl _) (Nat.le_refl _) hp C dM_rowsOf_115
      · skip
        refine lv_iconst (v := nI 0) hx hb dM_rowsOf_7 (by decide) ?_
        refine lv_istore_n hx hb dM_rowsOf_8 rfl hl (Nat.le_of_ble_eq_true rfl) rfl (fun ls hl => ?_)
        replace hl : lv_has ls 5 [(2, .int (nI 0)), (1, .int (nI x)), (0, .ref (h0))] := hl
        have lp9 : ∀ (nf : Nat) (y : Nat) (g1 : Nat → Int32) (H : Heap) (locs : List Loc) (ls : Array Slot), 5 - y < nf → y ≤ 5 → Done zX zY zZ (bF (kChi B)) g1 x y 0 → Cx D ca s0 A s [(h0, .inr (3, mF q (th) (tz))), (q 10, .inl (ca 1, 1600, .inl (f))), (q 11, .inl (ca 1, 1600, .inl (g1)))] H locs → lv_has ls 5 [(2, .int (nI y)), (1, .int (nI x)), (0, .ref (h0))] → W p l e rm_M_rowsOf s m args below meth c H locs 0 0 Q (F0 m 9 ls []) := by
          intro nf
          induction nf with
          | zero => intro y g1 H locs ls hn; exact absurd hn (Nat.not_lt_zero _)
          | succ nf ih_lp9 =>
            intro y g1 H locs ls hn lp9_le hY C hl
            refine lv_iload_n hx hb dM_rowsOf_9 rfl (lv_at hl 0 rfl) ?_
            refine lv_iconst (v := nI 5) hx hb dM_rowsOf_10 (by decide) ?_
            refine n_icmp_ge (tgt := 105) S (by omega) (by omega) dM_rowsOf_11 (by decide) (fun hc11 => ?_) (fun hc11 => ?_)
            · skip
              refine lv_iinc (k := 1) (v := nI (x + 1)) hx hb dM_rowsOf_105 hl rfl (n_inc1 _) (Nat.le_of_ble_eq_true rfl) rfl (fun ls hl => ?_)
              replace hl : lv_has ls 5 [(1, .int (nI (x + 1))), (2, .int (nI y)), (0, .ref (h0))] := hl
              refine lv_goto (tgt := 2) hx hb dM_rowsOf_108 (by decide) ?_
              exact ih_lp2 (x + 1) _ _ _ _ (by omega) (by omega) (Done_a zY_lt (eq_of_le hc11 lp9_le ▸ hY)) C (lv_sub hl [0, 2] rfl)
            · skip
              refine lv_iconst (v := nI 0) hx hb dM_rowsOf_14 (by decide) ?_
              refine lv_istore_n hx hb dM_rowsOf_15 rfl hl (Nat.le_of_ble_eq_true rfl) rfl (fun ls hl => ?_)
              replace hl : lv_has ls 5 [(3, .int (nI 0)), (2, .int (nI y)), (1, .int (nI x)), (0, .ref (h0))] := hl
              have lp16 : ∀ (nf : Nat) (z : Nat) (g1 : Nat → Int32) (H : Heap) (locs : List Loc) (ls : Array Slot), 64 - z < nf → z ≤ 64 → Done zX zY zZ (bF (kChi B)) g1 x y z → Cx D ca s0 A s [(h0, .inr (3, mF q (th) (tz))), (q 10, .inl (ca 1, 1600, .inl (f))), (q 11, .inl (ca 1, 1600, .inl (g1)))] H locs → lv_has ls 5 [(3, .int (nI z)), (2, .int (nI y)), (1, .int (nI x)), (0, .ref (h0))] → W p l e rm_M_rowsOf s m args below meth c H locs 0 0 Q (F0 m 16 ls []) := by
                intro nf
                induction nf with
                | zero => intro z g1 H locs ls hn; exact absurd hn (Nat.not_lt_zero _)
                | succ nf ih_lp16 =>
                  intro z g1 H locs ls hn lp16_le hZ C hl
                  refine lv_iload_n hx hb dM_rowsOf_16 rfl (lv_at hl 0 rfl) ?_
                  refine lv_bipush (v := nI 64) hx hb dM_rowsOf_17 (by decide) ?_
                  refine n_icmp_ge (tgt := 99) S (by omega) (by omega) dM_rowsOf_19 (by decide) (fun hc19 => ?_) (fun hc19 => ?_)
                  · skip
                    refine lv_iinc (k := 1) (v := nI (y + 1)) hx hb dM_rowsOf_99 hl rfl (n_inc1 _) (Nat.le_of_ble_eq_true rfl) rfl (fun ls hl => ?_)
                    replace hl : lv_has ls 5 [(2, .int (nI (y + 1))), (3, .int (nI z)), (1, .int (nI x)), (0, .ref (h0))] := hl
                    refine lv_goto (tgt := 9) hx hb dM_rowsOf_102 (by decide) ?_
                    exact ih_lp9 (y + 1) _ _ _ _ (by omega) (by omega) (Done_b zZ_lt (eq_of_le hc19 lp16_le ▸ hZ)) C (lv_sub hl [0, 2, 3] rfl)
                  · skip
                    refine lv_aload_n hx hb dM_rowsOf_22 rfl (lv_at hl 3 rfl) ?_
                    refine n_get S C hin_M 0 rfl rfl 12 (by decide) g_414 rfl dM_rowsOf_23 ?_
                    refine lv_iload_n hx hb dM_rowsOf_26 rfl (lv_at hl 2 rfl) ?_
                    refine lv_iconst (v := nI 1) hx hb dM_rowsOf_27 (by decide) ?_
                    refine n_add S dM_rowsOf_28 ?_
                    refine lv_iload_n hx hb dM_rowsOf_29 rfl (lv_at hl 1 rfl) ?_
                    refine lv_iload_n hx hb dM_rowsOf_30 rfl (lv_at hl 0 rfl) ?_
                    refine n_callP C (fun hp => va_runS (rest := [.ref (q 10)]) S (c_M_at l D ca s0 a0 Z (x + 1) y z (by omega) (by omega) _) (cwS 3 hts (gS g_369 g_370 g_34 g_371) rfl rfl rfl (by decide +kernel) ⟨Nat.le_of_ble_eq_true rfl, Nat.le_of_ble_eq_true rfl⟩) hp rfl rfl hl.1 rfl (lv_room (Nat.le_of_ble_eq_true rfl)) dM_rowsOf_31 ⟨Nat.le_of_ble_eq_true rfl, Nat.le_of_ble_eq_true rfl⟩) (fun r u H locs hp C => ?_)
                    subst hp
                    refine n_zald S C 1 rfl (i := kAt (x + 1) y z) (kAt_lt (by omega)) (by decide) dM_rowsOf_34 ?_
                    refine lv_topi (nm_r (e' := b2i (B (kAt (x + 1) y z))) (hf _ (kAt_lt (by omega))) ?_)
                    have J59 : ∀ (o : Bool) (H : Heap) (locs : List Loc) (ls : Array Slot), o = ((!B (kAt (x + 1) y z)) && B (kAt (x + 2) y z)) → Cx D ca s0 A s [(h0, .inr (3, mF q (th) (tz))), (q 10, .inl (ca 1, 1600, .inl (f))), (q 11, .inl (ca 1, 1600, .inl (g1)))] H locs → lv_has ls 5 [(3, .int (nI z)), (2, .int (nI y)), (1, .int (nI x)), (0, .ref (h0))] → W p l e rm_M_rowsOf s m args below meth c H locs 0 0 Q (F0 m 59 ls [.int (b2i o)]) := by
                      intro o H locs ls ho C hl
                      refine lv_istore hx hb dM_rowsOf_59 hl (Nat.le_of_ble_eq_true rfl) rfl (fun ls hl => ?_)
                      replace hl : lv_has ls 5 [(4, .int (b2i o)), (3, .int (nI z)), (2, .int (nI y)), (1, .int (nI x)), (0, .ref (h0))] := hl
                      refine lv_aload_n hx hb dM_rowsOf_61 rfl (lv_at hl 4 rfl) ?_
                      refine n_get S C hin_M 0 rfl rfl 13 (by decide) g_415 rfl dM_rowsOf_62 ?_
                      refine lv_iload_n hx hb dM_rowsOf_65 rfl (lv_at hl 3 rfl) ?_
                      refine lv_iload_n hx hb dM_rowsOf_66 rfl (lv_at hl 2 rfl) ?_
                      refine lv_iload_n hx hb dM_rowsOf_67 rfl (lv_at hl 1 rfl) ?_
                      refine n_callP C (fun hp => va_runS (rest := [.ref (q 11)]) S (c_M_at l D ca s0 a0 Z (x) y z (by omega) (by omega) _) (cwS 3 hts (gS g_369 g_370 g_34 g_371) rfl rfl rfl (by decide +kernel) ⟨Nat.le_of_ble_eq_true rfl, Nat.le_of_ble_eq_true rfl⟩) hp rfl rfl hl.1 rfl (lv_room (Nat.le_of_ble_eq_true rfl)) dM_rowsOf_68 ⟨Nat.le_of_ble_eq_true rfl, Nat.le_of_ble_eq_true rfl⟩) (fun r u H locs hp C => ?_)
                      subst hp
                      refine lv_aload_n hx hb dM_rowsOf_71 rfl (lv_at hl 4 rfl) ?_
                      refine n_get S C hin_M 0 rfl rfl 12 (by decide) g_414 rfl dM_rowsOf_72 ?_
                      refine lv_iload_n hx hb dM_rowsOf_75 rfl (lv_at hl 3 rfl) ?_
                      refine lv_iload_n hx hb dM_rowsOf_76 rfl (lv_at hl 2 rfl) ?_
                      refine lv_iload_n hx hb dM_rowsOf_77 rfl (lv_at hl 1 rfl) ?_
                      refine n_callP C (fun hp => va_runS (rest := [.ref (q 10), .int (nI (kAt x y z)), .ref (q 11)]) S (c_M_at l D ca s0 a0 Z (x) y z (by omega) (by omega) _) (cwS 3 hts (gS g_369 g_370 g_34 g_371) rfl rfl rfl (by decide +kernel) ⟨Nat.le_of_ble_eq_true rfl, Nat.le_of_ble_eq_true rfl⟩) hp rfl rfl hl.1 rfl (lv_room (Nat.le_of_ble_eq_true rfl)) dM_rowsOf_78 ⟨Nat.le_of_ble_eq_true rfl, Nat.le_of_ble_eq_true rfl⟩) (fun r u H locs hp C => ?_)
                      subst hp
                      refine n_zald S C 1 rfl (i := kAt x y z) (kAt_lt (by omega)) (by decide) dM_rowsOf_81 ?_
                      refine lv_topi (nm_r (e' := b2i (B (kAt x y z))) (hf _ (kAt_lt (by omega))) ?_)
                      refine lv_iload hx hb dM_rowsOf_82 (lv_at hl 0 rfl) ?_
                      refine n_bne S dM_rowsOf_84 dM_rowsOf_87 dM_rowsOf_88 dM_rowsOf_91 (by decide) (by decide) ?_
                      refine n_zast S C 2 rfl (i := kAt x y z) (kAt_lt (by omega)) (by decide) dM_rowsOf_92 (fun H locs C => ?_)
                      replace C : Cx D ca s0 A s [(h0, .inr (3, mF q (th) (tz))), (q 10, .inl (ca 1, 1600, .inl (f))), (q 11, .inl (ca 1, 1600, .inl (upd g1 (kAt x y z) (vp_nar .boolean (b2i ((B (kAt x y z)) ^^ o))))))] H locs := C
                      refine lv_iinc (k := 1) (v := nI (z + 1)) hx hb dM_rowsOf_93 hl rfl (n_inc1 _) (Nat.le_of_ble_eq_true rfl) rfl (fun ls hl => ?_)
                      replace hl : lv_has ls 5 [(3, .int (nI (z + 1))), (4, .int (b2i o)), (2, .int (nI y)), (1, .int (nI x)), (0, .ref (h0))] := hl
                      refine lv_goto (tgt := 16) hx hb dM_rowsOf_96 (by decide) ?_
                      exact ih_lp16 (z + 1) _ _ _ _ (by omega) (by omega) (Done_put hZ (fun k hk h1 h2 h3 => ix_theta (by omega) (by omega) (by omega) hk h1 h3 h2) (by show _ = b2i (kChi B (kAt x y z)); rw [b2i_nar, at_chi (by omega) (by omega) (by omega), ho])) C (lv_sub hl [0, 2, 3, 4] rfl)
                    refine lv_if_ne (tgt := 58) hx hb dM_rowsOf_35 (by decide) (fun hc35 => ?_) (fun hc35 => ?_)
                    · skip
                      refine lv_iconst (v := nI 0) hx hb dM_rowsOf_58 (by decide) ?_
                      exact J59 false _ _ _ (by first | (rw [b2i_n0.mp hc35]; rfl) | (rw [b2i_0.mp hc35, b2i_0.mp hc51]; rfl)) C (lv_sub hl [0, 1, 2, 3] rfl)
                    · skip
                      refine lv_aload_n hx hb dM_rowsOf_38 rfl (lv_at hl 3 rfl) ?_
                      refine n_get S C hin_M 0 rfl rfl 12 (by decide) g_414 rfl dM_rowsOf_39 ?_
                      refine lv_iload_n hx hb dM_rowsOf_42 rfl (lv_at hl 2 rfl) ?_
                      refine lv_iconst (v := nI 2) hx hb dM_rowsOf_43 (by decide) ?_
                      refine n_add S dM_rowsOf_44 ?_
                      refine lv_iload_n hx hb dM_rowsOf_45 rfl (lv_at hl 1 rfl) ?_
                      refine lv_iload_n hx hb dM_rowsOf_46 rfl (lv_at hl 0 rfl) ?_
                      refine n_callP C (fun hp => va_runS (rest := [.ref (q 10)]) S (c_M_at l D ca s0 a0 Z (x + 2) y z (by omega) (by omega) _) (cwS 3 hts (gS g_369 g_370 g_34 g_371) rfl rfl rfl (by decide +kernel) ⟨Nat.le_of_ble_eq_true rfl, Nat.le_of_ble_eq_true rfl⟩) hp rfl rfl hl.1 rfl (lv_room (Nat.le_of_ble_eq_true rfl)) dM_rowsOf_47 ⟨Nat.le_of_ble_eq_true rfl, Nat.le_of_ble_eq_true rfl⟩) (fun r u H locs hp C => ?_)
                      subst hp
                      refine n_zald S C 1 rfl (i := kAt (x + 2) y z) (kAt_lt (by omega)) (by decide) dM_rowsOf_50 ?_
                      refine lv_topi (nm_r (e' := b2i (B (kAt (x + 2) y z))) (hf _ (kAt_lt (by omega))) ?_)
                      refine lv_if_eq (tgt := 58) hx hb dM_rowsOf_51 (by decide) (fun hc51 => ?_) (fun hc51 => ?_)
                      · skip
                        refine lv_iconst (v := nI 0) hx hb dM_rowsOf_58 (by decide) ?_
                        exact J59 false _ _ _ (by first | (rw [b2i_n0.mp hc35]; rfl) | (rw [b2i_0.mp hc35, b2i_0.mp hc51]; rfl)) C (lv_sub hl [0, 1, 2, 3] rfl)
                      · skip
                        refine lv_iconst (v := nI 1) hx hb dM_rowsOf_54 (by decide) ?_
                        refine lv_goto (tgt := 59) hx hb dM_rowsOf_55 (by decide) ?_
                        exact J59 true _ _ _ (by rw [b2i_0.mp hc35, b2i_n0.mp hc51]; rfl) C (lv_sub hl [0, 1, 2, 3] rfl)
              exact lp16 (64 + 1) 0 _ _ _ _ (by omega) (by omega) hY C (lv_sub hl [0, 1, 2, 3] rfl)
        exact lp9 (5 + 1) 0 _ _ _ _ (by omega) (by omega) hX C (lv_sub hl [0, 1, 2] rfl)
  exact lp2 (5 + 1) 0 g _ _ _ (by omega) (by omega) Done_0 C (lv_sub hl [0, 1] rfl)
abbrev rm_M_constant : Room := { frames := 0, cells := 0, slots := 0, locals := 0 }
set_option maxHeartbeats 4000000 in
set_option maxRecDepth 100000 in
theorem c_M_constant (l : Launch) (D : va_G) (ca : Nat → ClassId) (s0 : State) (a0 : Array Value) (Z : Wd a0 s0) (t : Nat) (ht : t < 2 ^ 31) : CtI l yM_constant [.code yM_constant cM_constant 3 (some .boolean)] rm_M_constant 0 0 D ca s0 [.int (nI t)] [] (S := Unit) (fun r _ => r = b2i (kRc t)) (fun _ => []) := by
  refine ctZ_of (cc := cM_constant) (maxL := 3) (own := RM) Z rfl (by decide) rfl (Nat.le_of_ble_eq_true rfl) ?_
  intro p e s m args below meth c A ls Q S hnm ret C hl
  have hx := S.1
  have hb := S.2.1
  have hown := S.2.2.2.1
  have hts := S.2.2.2.2
  generalize s.heap = H at C ⊢
  generalize ([] : List Loc) = locs at C ⊢
  replace hl : lv_has ls 3 [(0, .int (nI t))] := hl
  refine lv_iconst (v := nI 1) hx hb dM_constant_0 (by decide) ?_
  refine lv_istore_n hx hb dM_constant_1 rfl hl (Nat.le_of_ble_eq_true rfl) rfl (fun ls hl => ?_)
  replace hl : lv_has ls 3 [(1, .int (nI 1)), (0, .int (nI t))] := hl
  refine lv_iconst (v := nI 0) hx hb dM_constant_2 (by decide) ?_
  refine lv_istore_n hx hb dM_constant_3 rfl hl (Nat.le_of_ble_eq_true rfl) rfl (fun ls hl => ?_)
  replace hl : lv_has ls 3 [(2, .int (nI 0)), (1, .int (nI 1)), (0, .int (nI t))] := hl
  have lp4 : ∀ (nf : Nat) (k : Nat) (H : Heap) (locs : List Loc) (ls : Array Slot), t - k < nf → k ≤ t → Cx D ca s0 A s [] H locs → lv_has ls 3 [(2, .int (nI k)), (1, .int (nI (kLf k))), (0, .int (nI t))] → W p l e rm_M_constant s m args below meth c H locs 0 0 Q (F0 m 4 ls []) := by
    intro nf
    induction nf with
    | zero => intro k H locs ls hn; exact absurd hn (Nat.not_lt_zero _)
    | succ nf ih_lp4 =>
      intro k H locs ls hn lp4_le  C hl
      refine lv_iload_n hx hb dM_constant_4 rfl (lv_at hl 0 rfl) ?_
      refine lv_iload_n hx hb dM_constant_5 rfl (lv_at hl 2 rfl) ?_
      refine n_icmp_ge (tgt := 39) S (by omega) (by omega) dM_constant_6 (by decide) (fun hc6 => ?_) (fun hc6 => ?_)
      · skip
        have hlf := kLf_lt k
        refine lv_iload_n hx hb dM_constant_39 rfl (lv_at hl 1 rfl) ?_
        refine lv_iconst (v := nI 2) hx hb dM_constant_40 (by decide) ?_
        refine n_rem S (by omega) (by omega) (by omega) dM_constant_41 ?_
        refine lv_iconst (v := nI 1) hx hb dM_constant_42 (by decide) ?_
        refine n_bc_ne S (kRc k) (rc_iff k) dM_constant_43 dM_constant_46 dM_constant_47 dM_constant_50 (by decide) (by decide) ?_
        exact ret (b2i (kRc k)) (()) _ _ _ _ _ _ (b2i_narrow _) (Nat.le_refl _) (Nat.le_refl _) (by rw [show t = k by omega]) C dM_constant_51
      · skip
        have hlf := kLf_lt k
        refine lv_iconst (v := nI 2) hx hb dM_constant_9 (by decide) ?_
        refine lv_iload_n hx hb dM_constant_10 rfl (lv_at hl 1 rfl) ?_
        refine n_mul S dM_constant_11 ?_
        refine lv_istore_n hx hb dM_constant_12 rfl hl (Nat.le_of_ble_eq_true rfl) rfl (fun ls hl => ?_)
        replace hl : lv_has ls 3 [(1, .int (nI (2 * (kLf k)))), (2, .int (nI k)), (0, .int (nI t))] := hl
        refine lv_iload_n hx hb dM_constant_13 rfl (lv_at hl 0 rfl) ?_
        refine lv_sipush (v := nI 255) hx hb dM_constant_14 (by decide) ?_
        refine n_icmp_le (tgt := 31) S (by omega) (by omega) dM_constant_17 (by decide) (fun hc17 => ?_) (fun hc17 => ?_)
        · skip
          refine lv_iload_n hx hb dM_constant_31 rfl (lv_at hl 0 rfl) ?_
          refine lv_topi (nm_r (e' := nI (kLf (k + 1))) (congrArg nI (kLf_lo hc17)) ?_)
          refine lv_istore_n hx hb dM_constant_32 rfl hl (Nat.le_of_ble_eq_true rfl) rfl (fun ls hl => ?_)
          replace hl : lv_has ls 3 [(1, .int (nI (kLf (k + 1)))), (2, .int (nI k)), (0, .int (nI t))] := hl
          refine lv_iinc (k := 1) (v := nI (k + 1)) hx hb dM_constant_33 hl rfl (n_inc1 _) (Nat.le_of_ble_eq_true rfl) rfl (fun ls hl => ?_)
          replace hl : lv_has ls 3 [(2, .int (nI (k + 1))), (1, .int (nI (kLf (k + 1)))), (0, .int (nI t))] := hl
          refine lv_goto (tgt := 4) hx hb dM_constant_36 (by decide) ?_
          exact ih_lp4 (k + 1) _ _ _ (by omega) (by omega) C (lv_sub hl [0, 1, 2] rfl)
        · skip
          refine lv_iload_n hx hb dM_constant_20 rfl (lv_at hl 0 rfl) ?_
          refine lv_sipush (v := nI 256) hx hb dM_constant_21 (by decide) ?_
          refine n_sub S (by omega) dM_constant_24 ?_
          refine lv_bipush (v := nI 113) hx hb dM_constant_25 (by decide) ?_
          refine n_xor S dM_constant_27 ?_
          refine lv_goto (tgt := 32) hx hb dM_constant_28 (by decide) ?_
          refine lv_topi (nm_r (e' := nI (kLf (k + 1))) (congrArg nI (kLf_hi hc17)) ?_)
          refine lv_istore_n hx hb dM_constant_32 rfl hl (Nat.le_of_ble_eq_true rfl) rfl (fun ls hl => ?_)
          replace hl : lv_has ls 3 [(1, .int (nI (kLf (k + 1)))), (2, .int (nI k)), (0, .int (nI t))] := hl
          refine lv_iinc (k := 1) (v := nI (k + 1)) hx hb dM_constant_33 hl rfl (n_inc1 _) (Nat.le_of_ble_eq_true rfl) rfl (fun ls hl => ?_)
          replace hl : lv_has ls 3 [(2, .int (nI (k + 1))), (1, .int (nI (kLf (k + 1)))), (0, .int (nI t))] := hl
          refine lv_goto (tgt := 4) hx hb dM_constant_36 (by decide) ?_
          exact ih_lp4 (k + 1) _ _ _ (by omega) (by omega) C (lv_sub hl [0, 1, 2] rfl)
  exact lp4 (t + 1) 0 _ _ _ (by omega) (by omega) C (lv_sub hl [0, 1, 2] rfl)
abbrev rm_M_permute : Room := { frames := 3, cells := 0, slots := 0, locals := 70 }
set_option maxHeartbeats 4000000 in
set_option maxRecDepth 100000 in
theorem c_M_permute (l : Launch) (D : va_G) (ca : Nat → ClassId) (s0 : State) (a0 : Array Value) (Z : Wd a0 s0) (h0 : Nat) (q : Nat → Nat) (th tz : Int32) (k0 : Nat) (hk0 : k0 < 6) (b0 f g : Nat → Int32) (B : Nat → Bool) (hb0 : ∀ j, j < 1600 → b0 (1600 * k0 + j) = b2i (B j)) : CtV l yM_permute [.code yM_permute cM_permute 5 none] rm_M_permute 0 0 D ca s0 [.ref (h0), .int (nI k0)] [(h0, .inr (3, mF q (th) (tz))), (q 3, .inl (ca 1, 9600, .inl (b0))), (q 10, .inl (ca 1, 1600, .inl (f))), (q 11, .inl (ca 1, 1600, .inl (g)))] (S := (Nat → Int32) × (Nat → Int32) × (Nat → Int32)) (fun u => rS u.1 b0 (1600 * k0) 1600 (kecc B)) (fun u => [(h0, .inr (3, mF q th tz)), (q 3, .inl (ca 1, 9600, .inl u.1)), (q 10, .inl (ca 1, 1600, .inl u.2.1)), (q 11, .inl (ca 1, 1600, .inl u.2.2))]) := by
  refine ctV_of (cc := cM_permute) (maxL := 5) (own := RM) Z rfl (by decide) rfl (Nat.le_of_ble_eq_true rfl) ?_
  intro p e s m args below meth c A ls Q S hnm ret C hl
  have hx := S.1
  have hb := S.2.1
  have hown := S.2.2.2.1
  have hts := S.2.2.2.2
  generalize s.heap = H at C ⊢
  generalize ([] : List Loc) = locs at C ⊢
  replace hl : lv_has ls 5 [(0, .ref (h0)), (1, .int (nI k0))] := hl
  refine lv_iconst (v := nI 0) hx hb dM_permute_0 (by decide) ?_
  refine lv_istore_n hx hb dM_permute_1 rfl hl (Nat.le_of_ble_eq_true rfl) rfl (fun ls hl => ?_)
  replace hl : lv_has ls 5 [(2, .int (nI 0)), (0, .ref (h0)), (1, .int (nI k0))] := hl
  have lp2 : ∀ (nf : Nat) (k : Nat) (f1 : Nat → Int32) (H : Heap) (locs : List Loc) (ls : Array Slot), 1600 - k < nf → k ≤ 1600 → (∀ j, j < k → f1 j = b2i (B j)) → Cx D ca s0 A s [(h0, .inr (3, mF q (th) (tz))), (q 3, .inl (ca 1, 9600, .inl (b0))), (q 10, .inl (ca 1, 1600, .inl (f1))), (q 11, .inl (ca 1, 1600, .inl (g)))] H locs → lv_has ls 5 [(2, .int (nI k)), (0, .ref (h0)), (1, .int (nI k0))] → W p l e rm_M_permute s m args below meth c H locs 0 0 Q (F0 m 2 ls []) := by
    intro nf
    induction nf with
    | zero => intro k f1 H locs ls hn; exact absurd hn (Nat.not_lt_zero _)
    | succ nf ih_lp2 =>
      intro k f1 H locs ls hn lp2_le hI C hl
      refine lv_iload_n hx hb dM_permute_2 rfl (lv_at hl 0 rfl) ?_
      refine lv_sipush (v := nI 1600) hx hb dM_permute_3 (by decide) ?_
      refine n_icmp_ge (tgt := 33) S (by omega) (by omega) dM_permute_6 (by decide) (fun hc6 => ?_) (fun hc6 => ?_)
      · skip
        refine lv_iconst (v := nI 0) hx hb dM_permute_33 (by decide) ?_
        refine lv_istore_n hx hb dM_permute_34 rfl hl (Nat.le_of_ble_eq_true rfl) rfl (fun ls hl => ?_)
        replace hl : lv_has ls 5 [(2, .int (nI 0)), (0, .ref (h0)), (1, .int (nI k0))] := hl
        have lp35 : ∀ (nf : Nat) (r : Nat) (f1 : Nat → Int32) (g1 : Nat → Int32) (H : Heap) (locs : List Loc) (ls : Array Slot), 24 - r < nf → r ≤ 24 → rB f1 (kRounds B r) → Cx D ca s0 A s [(h0, .inr (3, mF q (th) (tz))), (q 3, .inl (ca 1, 9600, .inl (b0))), (q 10, .inl (ca 1, 1600, .inl (f1))), (q 11, .inl (ca 1, 1600, .inl (g1)))] H locs → lv_has ls 5 [(2, .int (nI r)), (0, .ref (h0)), (1, .int (nI k0))] → W p l e rm_M_permute s m args below meth c H locs 0 0 Q (F0 m 35 ls []) := by
          intro nf
          induction nf with
          | zero => intro r f1 g1 H locs ls hn; exact absurd hn (Nat.not_lt_zero _)
          | succ nf ih_lp35 =>
            intro r f1 g1 H locs ls hn lp35_le hR C hl
            refine lv_iload_n hx hb dM_permute_35 rfl (lv_at hl 0 rfl) ?_
            refine lv_bipush (v := nI 24) hx hb dM_permute_36 (by decide) ?_
            refine n_icmp_ge (tgt := 115) S (by omega) (by omega) dM_permute_38 (by decide) (fun hc38 => ?_) (fun hc38 => ?_)
            · skip
              refine lv_iconst (v := nI 0) hx hb dM_permute_115 (by decide) ?_
              refine lv_istore_n hx hb dM_permute_116 rfl hl (Nat.le_of_ble_eq_true rfl) rfl (fun ls hl => ?_)
              replace hl : lv_has ls 5 [(2, .int (nI 0)), (0, .ref (h0)), (1, .int (nI k0))] := hl
              have lp117 : ∀ (nf : Nat) (k : Nat) (b1 : Nat → Int32) (H : Heap) (locs : List Loc) (ls : Array Slot), 1600 - k < nf → k ≤ 1600 → rS b1 b0 (1600 * k0) k (kecc B) → Cx D ca s0 A s [(h0, .inr (3, mF q (th) (tz))), (q 3, .inl (ca 1, 9600, .inl (b1))), (q 10, .inl (ca 1, 1600, .inl (f1))), (q 11, .inl (ca 1, 1600, .inl (g1)))] H locs → lv_has ls 5 [(2, .int (nI k)), (0, .ref (h0)), (1, .int (nI k0))] → W p l e rm_M_permute s m args below meth c H locs 0 0 Q (F0 m 117 ls []) := by
                intro nf
                induction nf with
                | zero => intro k b1 H locs ls hn; exact absurd hn (Nat.not_lt_zero _)
                | succ nf ih_lp117 =>
                  intro k b1 H locs ls hn lp117_le hS C hl
                  refine lv_iload_n hx hb dM_permute_117 rfl (lv_at hl 0 rfl) ?_
                  refine lv_sipush (v := nI 1600) hx hb dM_permute_118 (by decide) ?_
                  refine n_icmp_ge (tgt := 148) S (by omega) (by omega) dM_permute_121 (by decide) (fun hc121 => ?_) (fun hc121 => ?_)
                  · skip
                    exact ret ((b1, f1, g1)) _ _ _ _ _ _ (Nat.le_refl _) (Nat.le_refl _) (eq_of_le hc121 lp117_le ▸ hS) C dM_permute_148
                  · skip
                    refine lv_aload_n hx hb dM_permute_124 rfl (lv_at hl 1 rfl) ?_
                    refine n_get S C hin_M 0 rfl rfl 5 (by decide) g_407 rfl dM_permute_125 ?_
                    refine lv_sipush (v := nI 1600) hx hb dM_permute_128 (by decide) ?_
                    refine lv_iload_n hx hb dM_permute_131 rfl (lv_at hl 2 rfl) ?_
                    refine n_mul S dM_permute_132 ?_
                    refine lv_iload_n hx hb dM_permute_133 rfl (lv_at hl 0 rfl) ?_
                    refine n_add S dM_permute_134 ?_
                    refine lv_aload_n hx hb dM_permute_135 rfl (lv_at hl 1 rfl) ?_
                    refine n_get S C hin_M 0 rfl rfl 12 (by decide) g_414 rfl dM_permute_136 ?_
                    refine lv_iload_n hx hb dM_permute_139 rfl (lv_at hl 0 rfl) ?_
                    refine n_zald S C 2 rfl (i := k) (by omega) (by decide) dM_permute_140 ?_
                    refine lv_topi (nm_r (e' := b2i (kecc B k)) ((eq_of_le hc38 lp35_le ▸ hR) k (by omega)) ?_)
                    refine n_zast S C 1 rfl (i := (1600 * k0) + k) (by omega) (by decide) dM_permute_141 (fun H locs C => ?_)
                    replace C : Cx D ca s0 A s [(h0, .inr (3, mF q (th) (tz))), (q 3, .inl (ca 1, 9600, .inl (upd b1 ((1600 * k0) + k) (vp_nar .boolean (b2i (kecc B k)))))), (q 10, .inl (ca 1, 1600, .inl (f1))), (q 11, .inl (ca 1, 1600, .inl (g1)))] H locs := C
                    refine lv_iinc (k := 0) (v := nI (k + 1)) hx hb dM_permute_142 hl rfl (n_inc1 _) (Nat.le_of_ble_eq_true rfl) rfl (fun ls hl => ?_)
                    replace hl : lv_has ls 5 [(2, .int (nI (k + 1))), (0, .ref (h0)), (1, .int (nI k0))] := hl
                    refine lv_goto (tgt := 117) hx hb dM_permute_145 (by decide) ?_
                    exact ih_lp117 (k + 1) _ _ _ _ (by omega) (by omega) (rS_s hS (b2i_nar _)) C (lv_sub hl [0, 1, 2] rfl)
              exact lp117 (1600 + 1) 0 _ _ _ _ (by omega) (by omega) rS_0 C (lv_sub hl [0, 1, 2] rfl)
            · skip
              refine lv_aload_n hx hb dM_permute_41 rfl (lv_at hl 1 rfl) ?_
              refine n_callV (wc := [(h0, .inr (3, mF q (th) (tz))), (q 10, .inl (ca 1, 1600, .inl (f1))), (q 11, .inl (ca 1, 1600, .inl (g1)))]) (wr := [(q 3, .inl (ca 1, 9600, .inl (b0)))]) C [0, 2, 3] [1] rfl rfl rfl rfl (by decide) (fun hp => va_runV (rest := []) S (c_M_columns l D ca s0 a0 Z h0 q th tz f1 g1 (kRounds B r) hR _) (cwV 0 hts (gV g_363 g_364 g_16 g_34 g_365) rfl rfl rfl (by decide +kernel) ⟨Nat.le_of_ble_eq_true rfl, Nat.le_of_ble_eq_true rfl⟩) ⟨hp.1, n_recv C 0 3 rfl rfl, hp.2⟩ rfl rfl hl.1 rfl (lv_room (Nat.le_of_ble_eq_true rfl)) dM_permute_42 ⟨Nat.le_of_ble_eq_true rfl, Nat.le_of_ble_eq_true rfl⟩) (fun u H locs hp C => ?_)
              replace C : Cx D ca s0 A s [(h0, .inr (3, mF q (th) (tz))), (q 3, .inl (ca 1, 9600, .inl (b0))), (q 10, .inl (ca 1, 1600, .inl (u.1))), (q 11, .inl (ca 1, 1600, .inl (u.2)))] H locs := C.re [1, 0, 2, 3] rfl rfl
              obtain ⟨fa, ga⟩ := u
              have ha := hp
              replace C : Cx D ca s0 A s [(h0, .inr (3, mF q (th) (tz))), (q 3, .inl (ca 1, 9600, .inl (b0))), (q 10, .inl (ca 1, 1600, .inl (fa))), (q 11, .inl (ca 1, 1600, .inl (ga)))] H locs := C
              refine lv_aload_n hx hb dM_permute_45 rfl (lv_at hl 1 rfl) ?_
              refine n_callV (wc := [(h0, .inr (3, mF q (th) (tz))), (q 10, .inl (ca 1, 1600, .inl (fa))), (q 11, .inl (ca 1, 1600, .inl (ga)))]) (wr := [(q 3, .inl (ca 1, 9600, .inl (b0)))]) C [0, 2, 3] [1] rfl rfl rfl rfl (by decide) (fun hp => va_runV (rest := []) S (c_M_turns l D ca s0 a0 Z h0 q th tz fa ga (kTheta (kRounds B r)) ha _) (cwV 0 hts (gV g_375 g_376 g_19 g_34 g_377) rfl rfl rfl (by decide +kernel) ⟨Nat.le_of_ble_eq_true rfl, Nat.le_of_ble_eq_true rfl⟩) ⟨hp.1, n_recv C 0 3 rfl rfl, hp.2⟩ rfl rfl hl.1 rfl (lv_room (Nat.le_of_ble_eq_true rfl)) dM_permute_46 ⟨Nat.le_of_ble_eq_true rfl, Nat.le_of_ble_eq_true rfl⟩) (fun u H locs hp C => ?_)
              replace C : Cx D ca s0 A s [(h0, .inr (3, mF q (th) (tz))), (q 3, .inl (ca 1, 9600, .inl (b0))), (q 10, .inl (ca 1, 1600, .inl (u.1))), (q 11, .inl (ca 1, 1600, .inl (u.2)))] H locs := C.re [1, 0, 2, 3] rfl rfl
              obtain ⟨fb, gb⟩ := u
              have hb_ := hp
              replace C : Cx D ca s0 A s [(h0, .inr (3, mF q (th) (tz))), (q 3, .inl (ca 1, 9600, .inl (b0))), (q 10, .inl (ca 1, 1600, .inl (fb))), (q 11, .inl (ca 1, 1600, .inl (gb)))] H locs := C
              refine lv_aload_n hx hb dM_permute_49 rfl (lv_at hl 1 rfl) ?_
              refine n_callV (wc := [(h0, .inr (3, mF q (th) (tz))), (q 10, .inl (ca 1, 1600, .inl (fb))), (q 11, .inl (ca 1, 1600, .inl (gb)))]) (wr := [(q 3, .inl (ca 1, 9600, .inl (b0)))]) C [0, 2, 3] [1] rfl rfl rfl rfl (by decide) (fun hp => va_runV (rest := []) S (c_M_places l D ca s0 a0 Z h0 q th tz fb gb (kRho (kTheta (kRounds B r))) hb_ _) (cwV 0 hts (gV g_378 g_379 g_20 g_34 g_380) rfl rfl rfl (by decide +kernel) ⟨Nat.le_of_ble_eq_true rfl, Nat.le_of_ble_eq_true rfl⟩) ⟨hp.1, n_recv C 0 3 rfl rfl, hp.2⟩ rfl rfl hl.1 rfl (lv_room (Nat.le_of_ble_eq_true rfl)) dM_permute_50 ⟨Nat.le_of_ble_eq_true rfl, Nat.le_of_ble_eq_true rfl⟩) (fun u H locs hp C => ?_)
              replace C : Cx D ca s0 A s [(h0, .inr (3, mF q (th) (tz))), (q 3, .inl (ca 1, 9600, .inl (b0))), (q 10, .inl (ca 1, 1600, .inl (u.1))), (q 11, .inl (ca 1, 1600, .inl (u.2)))] H locs := C.re [1, 0, 2, 3] rfl rfl
              obtain ⟨fc, gc⟩ := u
              have hc_ := hp
              replace C : Cx D ca s0 A s [(h0, .inr (3, mF q (th) (tz))), (q 3, .inl (ca 1, 9600, .inl (b0))), (q 10, .inl (ca 1, 1600, .inl (fc))), (q 11, .inl (ca 1, 1600, .inl (gc)))] H locs := C
              refine lv_aload_n hx hb dM_permute_53 rfl (lv_at hl 1 rfl) ?_
              refine n_callV (wc := [(h0, .inr (3, mF q (th) (tz))), (q 10, .inl (ca 1, 1600, .inl (fc))), (q 11, .inl (ca 1, 1600, .inl (gc)))]) (wr := [(q 3, .inl (ca 1, 9600, .inl (b0)))]) C [0, 2, 3] [1] rfl rfl rfl rfl (by decide) (fun hp => va_runV (rest := []) S (c_M_rowsOf l D ca s0 a0 Z h0 q th tz fc gc (kPi (kRho (kTheta (kRounds B r)))) hc_ _) (cwV 0 hts (gV g_381 g_382 g_21 g_34 g_383) rfl rfl rfl (by decide +kernel) ⟨Nat.le_of_ble_eq_true rfl, Nat.le_of_ble_eq_true rfl⟩) ⟨hp.1, n_recv C 0 3 rfl rfl, hp.2⟩ rfl rfl hl.1 rfl (lv_room (Nat.le_of_ble_eq_true rfl)) dM_permute_54 ⟨Nat.le_of_ble_eq_true rfl, Nat.le_of_ble_eq_true rfl⟩) (fun u H locs hp C => ?_)
              replace C : Cx D ca s0 A s [(h0, .inr (3, mF q (th) (tz))), (q 3, .inl (ca 1, 9600, .inl (b0))), (q 10, .inl (ca 1, 1600, .inl (u.1))), (q 11, .inl (ca 1, 1600, .inl (u.2)))] H locs := C.re [1, 0, 2, 3] rfl rfl
              obtain ⟨fd, gd⟩ := u
              have hd_ := hp
              replace C : Cx D ca s0 A s [(h0, .inr (3, mF q (th) (tz))), (q 3, .inl (ca 1, 9600, .inl (b0))), (q 10, .inl (ca 1, 1600, .inl (fd))), (q 11, .inl (ca 1, 1600, .inl (gd)))] H locs := C
              refine lv_iconst (v := nI 0) hx hb dM_permute_57 (by decide) ?_
              refine lv_istore_n hx hb dM_permute_58 rfl hl (Nat.le_of_ble_eq_true rfl) rfl (fun ls hl => ?_)
              replace hl : lv_has ls 5 [(3, .int (nI 0)), (2, .int (nI r)), (0, .ref (h0)), (1, .int (nI k0))] := hl
              have lp59 : ∀ (nf : Nat) (j : Nat) (f2 : Nat → Int32) (H : Heap) (locs : List Loc) (ls : Array Slot), 7 - j < nf → j ≤ 7 → rB f2 (kIotaN r (kChi (kPi (kRho (kTheta (kRounds B r))))) j) → Cx D ca s0 A s [(h0, .inr (3, mF q (th) (tz))), (q 3, .inl (ca 1, 9600, .inl (b0))), (q 10, .inl (ca 1, 1600, .inl (f2))), (q 11, .inl (ca 1, 1600, .inl (gd)))] H locs → lv_has ls 5 [(3, .int (nI j)), (2, .int (nI r)), (0, .ref (h0)), (1, .int (nI k0))] → W p l e rm_M_permute s m args below meth c H locs 0 0 Q (F0 m 59 ls []) := by
                intro nf
                induction nf with
                | zero => intro j f2 H locs ls hn; exact absurd hn (Nat.not_lt_zero _)
                | succ nf ih_lp59 =>
                  intro j f2 H locs ls hn lp59_le hJ C hl
                  refine lv_iload_n hx hb dM_permute_59 rfl (lv_at hl 0 rfl) ?_
                  refine lv_bipush (v := nI 7) hx hb dM_permute_60 (by decide) ?_
                  refine n_icmp_ge (tgt := 109) S (by omega) (by omega) dM_permute_62 (by decide) (fun hc62 => ?_) (fun hc62 => ?_)
                  · skip
                    refine lv_iinc (k := 1) (v := nI (r + 1)) hx hb dM_permute_109 hl rfl (n_inc1 _) (Nat.le_of_ble_eq_true rfl) rfl (fun ls hl => ?_)
                    replace hl : lv_has ls 5 [(2, .int (nI (r + 1))), (3, .int (nI j)), (0, .ref (h0)), (1, .int (nI k0))] := hl
                    refine lv_goto (tgt := 35) hx hb dM_permute_112 (by decide) ?_
                    exact ih_lp35 (r + 1) _ _ _ _ _ (by omega) (by omega) (by have hj := hJ; rw [show j = 7 by omega] at hj; exact hj) C (lv_sub hl [0, 2, 3] rfl)
                  · skip
                    have h2j : 2 ^ j ≤ 2 ^ 6 := Nat.pow_le_pow_right (by decide) (by omega)
                    have h2p : 0 < 2 ^ j := Nat.pow_pos (by decide)
                    refine lv_iconst (v := nI 1) hx hb dM_permute_65 (by decide) ?_
                    refine lv_iload_n hx hb dM_permute_66 rfl (lv_at hl 0 rfl) ?_
                    refine n_shl S (by omega) (by omega) dM_permute_67 ?_
                    refine lv_iconst (v := nI 1) hx hb dM_permute_68 (by decide) ?_
                    refine n_sub S (by omega) dM_permute_69 ?_
                    refine lv_topi (nm_r (e' := nI (2 ^ j - 1)) (by rw [Nat.one_mul]) ?_)
                    refine lv_istore hx hb dM_permute_70 hl (Nat.le_of_ble_eq_true rfl) rfl (fun ls hl => ?_)
                    replace hl : lv_has ls 5 [(4, .int (nI (2 ^ j - 1))), (3, .int (nI j)), (2, .int (nI r)), (0, .ref (h0)), (1, .int (nI k0))] := hl
                    refine lv_aload_n hx hb dM_permute_72 rfl (lv_at hl 3 rfl) ?_
                    refine n_get S C hin_M 0 rfl rfl 12 (by decide) g_414 rfl dM_permute_73 ?_
                    refine lv_iload hx hb dM_permute_76 (lv_at hl 0 rfl) ?_
                    refine lv_aload_n hx hb dM_permute_78 rfl (lv_at hl 3 rfl) ?_
                    refine n_get S C hin_M 0 rfl rfl 12 (by decide) g_414 rfl dM_permute_79 ?_
                    refine lv_iload hx hb dM_permute_82 (lv_at hl 0 rfl) ?_
                    refine n_zald S C 2 rfl (i := 2 ^ j - 1) (by omega) (by decide) dM_permute_84 ?_
                    refine lv_topi (nm_r (e' := b2i (kIotaN r (kChi (kPi (kRho (kTheta (kRounds B r))))) j (2 ^ j - 1))) (hJ _ (by omega)) ?_)
                    refine lv_bipush (v := nI 7) hx hb dM_permute_85 (by decide) ?_
                    refine lv_iload_n hx hb dM_permute_87 rfl (lv_at hl 2 rfl) ?_
                    refine n_mul S dM_permute_88 ?_
                    refine lv_iload_n hx hb dM_permute_89 rfl (lv_at hl 1 rfl) ?_
                    refine n_add S dM_permute_90 ?_
                    refine n_callP C (fun hp => va_runS (rest := [.int (b2i (kIotaN r (kChi (kPi (kRho (kTheta (kRounds B r))))) j (2 ^ j - 1))), .int (nI (2 ^ j - 1)), .ref (q 10)]) S (c_M_constant l D ca s0 a0 Z (7 * r + j) (by omega) _) (cwS 1 hts (gS g_384 g_385 g_34 g_386) rfl rfl rfl (by decide +kernel) ⟨Nat.le_of_ble_eq_true rfl, Nat.le_of_ble_eq_true rfl⟩) hp rfl rfl hl.1 rfl (lv_room (Nat.le_of_ble_eq_true rfl)) dM_permute_91 ⟨Nat.le_of_ble_eq_true rfl, Nat.le_of_ble_eq_true rfl⟩) (fun r u H locs hp C => ?_)
                    subst hp
                    refine n_bne S dM_permute_94 dM_permute_97 dM_permute_98 dM_permute_101 (by decide) (by decide) ?_
                    refine n_zast S C 2 rfl (i := 2 ^ j - 1) (by omega) (by decide) dM_permute_102 (fun H locs C => ?_)
                    replace C : Cx D ca s0 A s [(h0, .inr (3, mF q (th) (tz))), (q 3, .inl (ca 1, 9600, .inl (b0))), (q 10, .inl (ca 1, 1600, .inl (upd f2 (2 ^ j - 1) (vp_nar .boolean (b2i ((kIotaN r (kChi (kPi (kRho (kTheta (kRounds B r))))) j (2 ^ j - 1)) ^^ (kRc (7 * r + j)))))))), (q 11, .inl (ca 1, 1600, .inl (gd)))] H locs := C
                    refine lv_iinc (k := 1) (v := nI (j + 1)) hx hb dM_permute_103 hl rfl (n_inc1 _) (Nat.le_of_ble_eq_true rfl) rfl (fun ls hl => ?_)
                    replace hl : lv_has ls 5 [(3, .int (nI (j + 1))), (4, .int (nI (2 ^ j - 1))), (2, .int (nI r)), (0, .ref (h0)), (1, .int (nI k0))] := hl
                    refine lv_goto (tgt := 59) hx hb dM_permute_106 (by decide) ?_
                    exact ih_lp59 (j + 1) _ _ _ _ (by omega) (by omega) (iota_s hJ (b2i_nar _)) C (lv_sub hl [0, 2, 3, 4] rfl)
              exact lp59 (7 + 1) 0 _ _ _ _ (by omega) (by omega) hd_ C (lv_sub hl [0, 1, 2, 3] rfl)
        exact lp35 (24 + 1) 0 _ _ _ _ _ (by omega) (by omega) (fun k1 hk1 => hI k1 (by omega)) C (lv_sub hl [0, 1, 2] rfl)
      · skip
        refine lv_aload_n hx hb dM_permute_9 rfl (lv_at hl 1 rfl) ?_
        refine n_get S C hin_M 0 rfl rfl 12 (by decide) g_414 rfl dM_permute_10 ?_
        refine lv_iload_n hx hb dM_permute_13 rfl (lv_at hl 0 rfl) ?_
        refine lv_aload_n hx hb dM_permute_14 rfl (lv_at hl 1 rfl) ?_
        refine n_get S C hin_M 0 rfl rfl 5 (by decide) g_407 rfl dM_permute_15 ?_
        refine lv_sipush (v := nI 1600) hx hb dM_permute_18 (by decide) ?_
        refine lv_iload_n hx hb dM_permute_21 rfl (lv_at hl 2 rfl) ?_
        refine n_mul S dM_permute_22 ?_
        refine lv_iload_n hx hb dM_permute_23 rfl (lv_at hl 0 rfl) ?_
        refine n_add S dM_permute_24 ?_
        refine n_zald S C 1 rfl (i := (1600 * k0) + k) (by omega) (by decide) dM_permute_25 ?_
        refine lv_topi (nm_r (e' := b2i (B k)) (hb0 k (by omega)) ?_)
        refine n_zast S C 2 rfl (i := k) (by omega) (by decide) dM_permute_26 (fun H locs C => ?_)
        replace C : Cx D ca s0 A s [(h0, .inr (3, mF q (th) (tz))), (q 3, .inl (ca 1, 9600, .inl (b0))), (q 10, .inl (ca 1, 1600, .inl (upd f1 k (vp_nar .boolean (b2i (B k)))))), (q 11, .inl (ca 1, 1600, .inl (g)))] H locs := C
        refine lv_iinc (k := 0) (v := nI (k + 1)) hx hb dM_permute_27 hl rfl (n_inc1 _) (Nat.le_of_ble_eq_true rfl) rfl (fun ls hl => ?_)
        replace hl : lv_has ls 5 [(2, .int (nI (k + 1))), (0, .ref (h0)), (1, .int (nI k0))] := hl
        refine lv_goto (tgt := 2) hx hb dM_permute_30 (by decide) ?_
        exact ih_lp2 (k + 1) _ _ _ _ (by omega) (by omega) (fill_s hI (b2i_nar _)) C (lv_sub hl [0, 1, 2] rfl)
  exact lp2 (1600 + 1) 0 f _ _ _ (by omega) (by omega) (fun j h => absurd h (Nat.not_lt_zero j)) C (lv_sub hl [0, 1, 2] rfl)
