abbrev rm_M_at : Room := { frames := 0, cells := 0, slots := 0, locals := 0 }
set_option maxHeartbeats 4000000 in
set_option maxRecDepth 100000 in
theorem c_M_at (l : Launch) (D : va_G) (ca : Nat → ClassId) (s0 : State) (a0 : Array Value) (Z : Wd a0 s0) (x y z : Nat) (hxx : x < 2 ^ 31) (hyy : y < 2 ^ 31) : CtI l yM_at [.code yM_at cM_at 3 (some .int)] rm_M_at 0 0 D ca s0 [.int (nI x), .int (nI y), .int (nI z)] [] (S := Unit) (fun r _ => r = nI (kAt x y z)) (fun _ => []) := by
  refine ctI_of (cc := cM_at) (maxL := 3) (own := RM) Z rfl (by decide) rfl (Nat.le_of_ble_eq_true rfl) ?_
  intro p e s m args below meth c A ls Q S hnm ret C hl
  have hx := S.1
  have hb := S.2.1
  have hown := S.2.2.2.1
  have hts := S.2.2.2.2
  generalize s.heap = H at C ⊢
  generalize ([] : List Loc) = locs at C ⊢
  replace hl : lv_has ls 3 [(0, .int (nI x)), (1, .int (nI y)), (2, .int (nI z))] := hl
  refine lv_bipush (v := nI 64) hx hb dM_at_0 (by decide) ?_
  refine lv_iconst (v := nI 5) hx hb dM_at_2 (by decide) ?_
  refine lv_iload_n hx hb dM_at_3 rfl (lv_at hl 1 rfl) ?_
  refine lv_iconst (v := nI 5) hx hb dM_at_4 (by decide) ?_
  refine n_rem S (by omega) (by omega) (by omega) dM_at_5 ?_
  refine n_mul S dM_at_6 ?_
  refine lv_iload_n hx hb dM_at_7 rfl (lv_at hl 0 rfl) ?_
  refine lv_iconst (v := nI 5) hx hb dM_at_8 (by decide) ?_
  refine n_rem S (by omega) (by omega) (by omega) dM_at_9 ?_
  refine n_add S dM_at_10 ?_
  refine n_mul S dM_at_11 ?_
  refine lv_iload_n hx hb dM_at_12 rfl (lv_at hl 2 rfl) ?_
  refine n_add S dM_at_13 ?_
  exact ret (nI ((64 * ((5 * (y % 5)) + (x % 5))) + z)) (()) _ _ _ _ _ _ (Nat.le_refl _) (Nat.le_refl _) rfl C dM_at_14
abbrev rm_M_isOdd : Room := { frames := 1, cells := 0, slots := 0, locals := 22 }
set_option maxHeartbeats 4000000 in
set_option maxRecDepth 100000 in
theorem c_M_isOdd (l : Launch) (D : va_G) (ca : Nat → ClassId) (s0 : State) (a0 : Array Value) (Z : Wd a0 s0) (h0 : Nat) (q : Nat → Nat) (th tz : Int32) (x z : Nat) (f : Nat → Int32) (B : Nat → Bool) (hxx : x < 2 ^ 31) (hz : z < 64) (hf : rB f B) : CtI l yM_isOdd [.code yM_isOdd cM_isOdd 5 (some .boolean)] rm_M_isOdd 0 0 D ca s0 [.ref (h0), .int (nI x), .int (nI z)] [(h0, .inr (3, mF q (th) (tz))), (q 10, .inl (ca 1, 1600, .inl (f)))] (S := Unit) (fun r _ => r = b2i (kPar B x z)) (fun _ => [(h0, .inr (3, mF q th tz)), (q 10, .inl (ca 1, 1600, .inl f))]) := by
  refine ctZ_of (cc := cM_isOdd) (maxL := 5) (own := RM) Z rfl (by decide) rfl (Nat.le_of_ble_eq_true rfl) ?_
  intro p e s m args below meth c A ls Q S hnm ret C hl
  have hx := S.1
  have hb := S.2.1
  have hown := S.2.2.2.1
  have hts := S.2.2.2.2
  generalize s.heap = H at C ⊢
  generalize ([] : List Loc) = locs at C ⊢
  replace hl : lv_has ls 5 [(0, .ref (h0)), (1, .int (nI x)), (2, .int (nI z))] := hl
  refine lv_iconst (v := nI 0) hx hb dM_isOdd_0 (by decide) ?_
  refine lv_istore_n hx hb dM_isOdd_1 rfl hl (Nat.le_of_ble_eq_true rfl) rfl (fun ls hl => ?_)
  replace hl : lv_has ls 5 [(3, .int (nI 0)), (0, .ref (h0)), (1, .int (nI x)), (2, .int (nI z))] := hl
  refine lv_iconst (v := nI 0) hx hb dM_isOdd_2 (by decide) ?_
  refine lv_istore hx hb dM_isOdd_3 hl (Nat.le_of_ble_eq_true rfl) rfl (fun ls hl => ?_)
  replace hl : lv_has ls 5 [(4, .int (nI 0)), (3, .int (nI 0)), (0, .ref (h0)), (1, .int (nI x)), (2, .int (nI z))] := hl
  have lp5 : ∀ (nf : Nat) (y : Nat) (H : Heap) (locs : List Loc) (ls : Array Slot), 5 - y < nf → y ≤ 5 → Cx D ca s0 A s [(h0, .inr (3, mF q (th) (tz))), (q 10, .inl (ca 1, 1600, .inl (f)))] H locs → lv_has ls 5 [(4, .int (nI y)), (3, .int (b2i (kParN B x z y))), (0, .ref (h0)), (1, .int (nI x)), (2, .int (nI z))] → W p l e rm_M_isOdd s m args below meth c H locs 0 0 Q (F0 m 5 ls []) := by
    intro nf
    induction nf with
    | zero => intro y H locs ls hn; exact absurd hn (Nat.not_lt_zero _)
    | succ nf ih_lp5 =>
      intro y H locs ls hn lp5_le  C hl
      refine lv_iload hx hb dM_isOdd_5 (lv_at hl 0 rfl) ?_
      refine lv_iconst (v := nI 5) hx hb dM_isOdd_7 (by decide) ?_
      refine n_icmp_ge (tgt := 39) S (by omega) (by omega) dM_isOdd_8 (by decide) (fun hc8 => ?_) (fun hc8 => ?_)
      · skip
        refine lv_iload_n hx hb dM_isOdd_39 rfl (lv_at hl 1 rfl) ?_
        exact ret (b2i (kParN B x z y)) (()) _ _ _ _ _ _ (b2i_narrow _) (Nat.le_refl _) (Nat.le_refl _) (by rw [show y = 5 by omega]; rfl) C dM_isOdd_40
      · skip
        refine lv_iload_n hx hb dM_isOdd_11 rfl (lv_at hl 1 rfl) ?_
        refine lv_aload_n hx hb dM_isOdd_12 rfl (lv_at hl 2 rfl) ?_
        refine n_get S C hin_M 0 rfl rfl 12 (by decide) g_414 rfl dM_isOdd_13 ?_
        refine lv_iload_n hx hb dM_isOdd_16 rfl (lv_at hl 3 rfl) ?_
        refine lv_iload hx hb dM_isOdd_17 (lv_at hl 0 rfl) ?_
        refine lv_iload_n hx hb dM_isOdd_19 rfl (lv_at hl 4 rfl) ?_
        refine n_callP C (fun hp => va_runS (rest := [.ref (q 10), .int (b2i (kParN B x z y))]) S (c_M_at l D ca s0 a0 Z x y z (by omega) (by omega) _) (cwS 3 hts (gS g_369 g_370 g_34 g_371) rfl rfl rfl (by decide +kernel) ⟨Nat.le_of_ble_eq_true rfl, Nat.le_of_ble_eq_true rfl⟩) hp rfl rfl hl.1 rfl (lv_room (Nat.le_of_ble_eq_true rfl)) dM_isOdd_20 ⟨Nat.le_of_ble_eq_true rfl, Nat.le_of_ble_eq_true rfl⟩) (fun r u H locs hp C => ?_)
        subst hp
        refine n_zald S C 1 rfl (i := kAt x y z) (kAt_lt hz) (by decide) dM_isOdd_23 ?_
        refine lv_topi (nm_r (e' := b2i (B (kAt x y z))) (hf _ (kAt_lt hz)) ?_)
        refine n_bne S dM_isOdd_24 dM_isOdd_27 dM_isOdd_28 dM_isOdd_31 (by decide) (by decide) ?_
        refine lv_istore_n hx hb dM_isOdd_32 rfl hl (Nat.le_of_ble_eq_true rfl) rfl (fun ls hl => ?_)
        replace hl : lv_has ls 5 [(3, .int (b2i ((kParN B x z y) ^^ (B (kAt x y z))))), (4, .int (nI y)), (0, .ref (h0)), (1, .int (nI x)), (2, .int (nI z))] := hl
        refine lv_iinc (k := 1) (v := nI (y + 1)) hx hb dM_isOdd_33 hl rfl (n_inc1 _) (Nat.le_of_ble_eq_true rfl) rfl (fun ls hl => ?_)
        replace hl : lv_has ls 5 [(4, .int (nI (y + 1))), (3, .int (b2i ((kParN B x z y) ^^ (B (kAt x y z))))), (0, .ref (h0)), (1, .int (nI x)), (2, .int (nI z))] := hl
        refine lv_goto (tgt := 5) hx hb dM_isOdd_36 (by decide) ?_
        exact ih_lp5 (y + 1) _ _ _ (by omega) (by omega) C (lv_sub hl [0, 1, 2, 3, 4] rfl)
  exact lp5 (5 + 1) 0 _ _ _ (by omega) (by omega) C (lv_sub hl [0, 1, 2, 3, 4] rfl)
abbrev rm_M_take : Room := { frames := 0, cells := 0, slots := 0, locals := 0 }
set_option maxHeartbeats 4000000 in
set_option maxRecDepth 100000 in
theorem c_M_take (l : Launch) (D : va_G) (ca : Nat → ClassId) (s0 : State) (a0 : Array Value) (Z : Wd a0 s0) (h0 : Nat) (q : Nat → Nat) (th tz : Int32) (f g : Nat → Int32) (B : Nat → Bool) (hg : rB g B) : CtV l yM_take [.code yM_take cM_take 2 none] rm_M_take 0 0 D ca s0 [.ref (h0)] [(h0, .inr (3, mF q (th) (tz))), (q 10, .inl (ca 1, 1600, .inl (f))), (q 11, .inl (ca 1, 1600, .inl (g)))] (S := Nat → Int32) (fun f2 => rB f2 B) (fun f2 => [(h0, .inr (3, mF q th tz)), (q 10, .inl (ca 1, 1600, .inl f2)), (q 11, .inl (ca 1, 1600, .inl g))]) := by
  refine ctV_of (cc := cM_take) (maxL := 2) (own := RM) Z rfl (by decide) rfl (Nat.le_of_ble_eq_true rfl) ?_
  intro p e s m args below meth c A ls Q S hnm ret C hl
  have hx := S.1
  have hb := S.2.1
  have hown := S.2.2.2.1
  have hts := S.2.2.2.2
  generalize s.heap = H at C ⊢
  generalize ([] : List Loc) = locs at C ⊢
  replace hl : lv_has ls 2 [(0, .ref (h0))] := hl
  refine lv_iconst (v := nI 0) hx hb dM_take_0 (by decide) ?_
  refine lv_istore_n hx hb dM_take_1 rfl hl (Nat.le_of_ble_eq_true rfl) rfl (fun ls hl => ?_)
  replace hl : lv_has ls 2 [(1, .int (nI 0)), (0, .ref (h0))] := hl
  have lp2 : ∀ (nf : Nat) (k : Nat) (f1 : Nat → Int32) (H : Heap) (locs : List Loc) (ls : Array Slot), 1600 - k < nf → k ≤ 1600 → (∀ j, j < k → f1 j = b2i (B j)) → Cx D ca s0 A s [(h0, .inr (3, mF q (th) (tz))), (q 10, .inl (ca 1, 1600, .inl (f1))), (q 11, .inl (ca 1, 1600, .inl (g)))] H locs → lv_has ls 2 [(1, .int (nI k)), (0, .ref (h0))] → W p l e rm_M_take s m args below meth c H locs 0 0 Q (F0 m 2 ls []) := by
    intro nf
    induction nf with
    | zero => intro k f1 H locs ls hn; exact absurd hn (Nat.not_lt_zero _)
    | succ nf ih_lp2 =>
      intro k f1 H locs ls hn lp2_le hI C hl
      refine lv_iload_n hx hb dM_take_2 rfl (lv_at hl 0 rfl) ?_
      refine lv_sipush (v := nI 1600) hx hb dM_take_3 (by decide) ?_
      refine n_icmp_ge (tgt := 27) S (by omega) (by omega) dM_take_6 (by decide) (fun hc6 => ?_) (fun hc6 => ?_)
      · skip
        exact ret f1 _ _ _ _ _ _ (Nat.le_refl _) (Nat.le_refl _) (fun k hk => hI k (by omega)) C dM_take_27
      · skip
        refine lv_aload_n hx hb dM_take_9 rfl (lv_at hl 1 rfl) ?_
        refine n_get S C hin_M 0 rfl rfl 12 (by decide) g_414 rfl dM_take_10 ?_
        refine lv_iload_n hx hb dM_take_13 rfl (lv_at hl 0 rfl) ?_
        refine lv_aload_n hx hb dM_take_14 rfl (lv_at hl 1 rfl) ?_
        refine n_get S C hin_M 0 rfl rfl 13 (by decide) g_415 rfl dM_take_15 ?_
        refine lv_iload_n hx hb dM_take_18 rfl (lv_at hl 0 rfl) ?_
        refine n_zald S C 2 rfl (i := k) (by omega) (by decide) dM_take_19 ?_
        refine lv_topi (nm_r (e' := b2i (B k)) (hg k (by omega)) ?_)
        refine n_zast S C 1 rfl (i := k) (by omega) (by decide) dM_take_20 (fun H locs C => ?_)
        replace C : Cx D ca s0 A s [(h0, .inr (3, mF q (th) (tz))), (q 10, .inl (ca 1, 1600, .inl (upd f1 k (vp_nar .boolean (b2i (B k)))))), (q 11, .inl (ca 1, 1600, .inl (g)))] H locs := C
        refine lv_iinc (k := 0) (v := nI (k + 1)) hx hb dM_take_21 hl rfl (n_inc1 _) (Nat.le_of_ble_eq_true rfl) rfl (fun ls hl => ?_)
        replace hl : lv_has ls 2 [(1, .int (nI (k + 1))), (0, .ref (h0))] := hl
        refine lv_goto (tgt := 2) hx hb dM_take_24 (by decide) ?_
        exact ih_lp2 (k + 1) _ _ _ _ (by omega) (by omega) (fill_s hI (b2i_nar _)) C (lv_sub hl [0, 1] rfl)
  exact lp2 (1600 + 1) 0 f _ _ _ (by omega) (by omega) (fun j h => absurd h (Nat.not_lt_zero j)) C (lv_sub hl [0, 1] rfl)
abbrev rm_M_columns : Room := { frames := 2, cells := 0, slots := 0, locals := 46 }
set_option maxHeartbeats 4000000 in
set_option maxRecDepth 100000 in
theorem c_M_columns (l : Launch) (D : va_G) (ca : Nat → ClassId) (s0 : State) (a0 : Array Value) (Z : Wd a0 s0) (h0 : Nat) (q : Nat → Nat) (th tz : Int32) (f g : Nat → Int32) (B : Nat → Bool) (hf : rB f B) : CtV l yM_columns [.code yM_columns cM_columns 5 none] rm_M_columns 0 0 D ca s0 [.ref (h0)] [(h0, .inr (3, mF q (th) (tz))), (q 10, .inl (ca 1, 1600, .inl (f))), (q 11, .inl (ca 1, 1600, .inl (g)))] (S := (Nat → Int32) × (Nat → Int32)) (fun u => rB u.1 (kTheta B)) (fun u => [(h0, .inr (3, mF q th tz)), (q 10, .inl (ca 1, 1600, .inl u.1)), (q 11, .inl (ca 1, 1600, .inl u.2))]) := by
  refine ctV_of (cc := cM_columns) (maxL := 5) (own := RM) Z rfl (by decide) rfl (Nat.le_of_ble_eq_true rfl) ?_
  intro p e s m args below meth c A ls Q S hnm ret C hl
  have hx := S.1
  have hb := S.2.1
  have hown := S.2.2.2.1
  have hts := S.2.2.2.2
  generalize s.heap = H at C ⊢
  generalize ([] : List Loc) = locs at C ⊢
  replace hl : lv_has ls 5 [(0, .ref (h0))] := hl
  refine lv_iconst (v := nI 0) hx hb dM_columns_0 (by decide) ?_
  refine lv_istore_n hx hb dM_columns_1 rfl hl (Nat.le_of_ble_eq_true rfl) rfl (fun ls hl => ?_)
  replace hl : lv_has ls 5 [(1, .int (nI 0)), (0, .ref (h0))] := hl
  have lp2 : ∀ (nf : Nat) (x : Nat) (g1 : Nat → Int32) (H : Heap) (locs : List Loc) (ls : Array Slot), 5 - x < nf → x ≤ 5 → Done zX zZ zY (bF (kTheta B)) g1 x 0 0 → Cx D ca s0 A s [(h0, .inr (3, mF q (th) (tz))), (q 10, .inl (ca 1, 1600, .inl (f))), (q 11, .inl (ca 1, 1600, .inl (g1)))] H locs → lv_has ls 5 [(1, .int (nI x)), (0, .ref (h0))] → W p l e rm_M_columns s m args below meth c H locs 0 0 Q (F0 m 2 ls []) := by
    intro nf
    induction nf with
    | zero => intro x g1 H locs ls hn; exact absurd hn (Nat.not_lt_zero _)
    | succ nf ih_lp2 =>
      intro x g1 H locs ls hn lp2_le hX C hl
      refine lv_iload_n hx hb dM_columns_2 rfl (lv_at hl 0 rfl) ?_
      refine lv_iconst (v := nI 5) hx hb dM_columns_3 (by decide) ?_
      refine n_icmp_ge (tgt := 106) S (by omega) (by omega) dM_columns_4 (by decide) (fun hc4 => ?_) (fun hc4 => ?_)
      · skip
        refine lv_aload_n hx hb dM_columns_106 rfl (lv_at hl 1 rfl) ?_
        refine n_callV (wc := [(h0, .inr (3, mF q (th) (tz))), (q 10, .inl (ca 1, 1600, .inl (f))), (q 11, .inl (ca 1, 1600, .inl (g1)))]) (wr := []) C [0, 1, 2] [] rfl rfl rfl rfl (by decide) (fun hp => va_runV (rest := []) S (c_M_take l D ca s0 a0 Z h0 q th tz f g1 (kTheta B) (fun k hk => Done_all zX_lt (eq_of_le hc4 lp2_le ▸ hX) k hk) _) (cwV 0 hts (gV g_372 g_373 g_18 g_34 g_374) rfl rfl rfl (by decide +kernel) ⟨Nat.le_of_ble_eq_true rfl, Nat.le_of_ble_eq_true rfl⟩) ⟨hp.1, n_recv C 0 3 rfl rfl, hp.2⟩ rfl rfl hl.1 rfl (lv_room (Nat.le_of_ble_eq_true rfl)) dM_columns_107 ⟨Nat.le_of_ble_eq_true rfl, Nat.le_of_ble_eq_true rfl⟩) (fun u H locs hp C => ?_)
        replace C : Cx D ca s0 A s [(h0, .inr (3, mF q (th) (tz))), (q 10, .inl (ca 1, 1600, .inl (u))), (q 11, .inl (ca 1, 1600, .inl (g1)))] H locs := C.re [0, 1, 2] rfl rfl
        exact ret ((u, g1)) _ _ _ _ _ _ (Nat.le_refl _) (Nat.le_refl _) hp C dM_columns_110
      · skip
        refine lv_iconst (v := nI 0) hx hb dM_columns_7 (by decide) ?_
        refine lv_istore_n hx hb dM_columns_8 rfl hl (Nat.le_of_ble_eq_true rfl) rfl (fun ls hl => ?_)
        replace hl : lv_has ls 5 [(2, .int (nI 0)), (1, .int (nI x)), (0, .ref (h0))] := hl
        have lp9 : ∀ (nf : Nat) (z : Nat) (g1 : Nat → Int32) (H : Heap) (locs : List Loc) (ls : Array Slot), 64 - z < nf → z ≤ 64 → Done zX zZ zY (bF (kTheta B)) g1 x z 0 → Cx D ca s0 A s [(h0, .inr (3, mF q (th) (tz))), (q 10, .inl (ca 1, 1600, .inl (f))), (q 11, .inl (ca 1, 1600, .inl (g1)))] H locs → lv_has ls 5 [(2, .int (nI z)), (1, .int (nI x)), (0, .ref (h0))] → W p l e rm_M_columns s m args below meth c H locs 0 0 Q (F0 m 9 ls []) := by
          intro nf
          induction nf with
          | zero => intro z g1 H locs ls hn; exact absurd hn (Nat.not_lt_zero _)
          | succ nf ih_lp9 =>
            intro z g1 H locs ls hn lp9_le hZ C hl
            refine lv_iload_n hx hb dM_columns_9 rfl (lv_at hl 0 rfl) ?_
            refine lv_bipush (v := nI 64) hx hb dM_columns_10 (by decide) ?_
            refine n_icmp_ge (tgt := 100) S (by omega) (by omega) dM_columns_12 (by decide) (fun hc12 => ?_) (fun hc12 => ?_)
            · skip
              refine lv_iinc (k := 1) (v := nI (x + 1)) hx hb dM_columns_100 hl rfl (n_inc1 _) (Nat.le_of_ble_eq_true rfl) rfl (fun ls hl => ?_)
              replace hl : lv_has ls 5 [(1, .int (nI (x + 1))), (2, .int (nI z)), (0, .ref (h0))] := hl
              refine lv_goto (tgt := 2) hx hb dM_columns_103 (by decide) ?_
              exact ih_lp2 (x + 1) _ _ _ _ (by omega) (by omega) (Done_a zZ_lt (eq_of_le hc12 lp9_le ▸ hZ)) C (lv_sub hl [0, 2] rfl)
            · skip
              refine lv_aload_n hx hb dM_columns_15 rfl (lv_at hl 2 rfl) ?_
              refine lv_iload_n hx hb dM_columns_16 rfl (lv_at hl 1 rfl) ?_
              refine lv_iconst (v := nI 4) hx hb dM_columns_17 (by decide) ?_
              refine n_add S dM_columns_18 ?_
              refine lv_iload_n hx hb dM_columns_19 rfl (lv_at hl 0 rfl) ?_
              refine n_callI (wc := [(h0, .inr (3, mF q (th) (tz))), (q 10, .inl (ca 1, 1600, .inl (f)))]) (wr := [(q 11, .inl (ca 1, 1600, .inl (g1)))]) C [0, 1] [2] rfl rfl rfl rfl (by decide) (fun hp => va_runV (rest := []) S (c_M_isOdd l D ca s0 a0 Z h0 q th tz (x + 4) (z) f B (by omega) (by omega) hf _) (cwV 2 hts (gV g_366 g_367 g_17 g_34 g_368) rfl rfl rfl (by decide +kernel) ⟨Nat.le_of_ble_eq_true rfl, Nat.le_of_ble_eq_true rfl⟩) ⟨hp.1, n_recv C 0 3 rfl rfl, hp.2⟩ rfl rfl hl.1 rfl (lv_room (Nat.le_of_ble_eq_true rfl)) dM_columns_20 ⟨Nat.le_of_ble_eq_true rfl, Nat.le_of_ble_eq_true rfl⟩) (fun r u H locs hp C => ?_)
              replace C : Cx D ca s0 A s [(h0, .inr (3, mF q (th) (tz))), (q 10, .inl (ca 1, 1600, .inl (f))), (q 11, .inl (ca 1, 1600, .inl (g1)))] H locs := C.re [1, 2, 0] rfl rfl
              subst hp
              refine lv_aload_n hx hb dM_columns_23 rfl (lv_at hl 2 rfl) ?_
              refine lv_iload_n hx hb dM_columns_24 rfl (lv_at hl 1 rfl) ?_
              refine lv_iconst (v := nI 1) hx hb dM_columns_25 (by decide) ?_
              refine n_add S dM_columns_26 ?_
              refine lv_iload_n hx hb dM_columns_27 rfl (lv_at hl 0 rfl) ?_
              refine lv_bipush (v := nI 63) hx hb dM_columns_28 (by decide) ?_
              refine n_add S dM_columns_30 ?_
              refine lv_bipush (v := nI 64) hx hb dM_columns_31 (by decide) ?_
              refine n_rem S (by omega) (by omega) (by omega) dM_columns_33 ?_
              refine n_callI (wc := [(h0, .inr (3, mF q (th) (tz))), (q 10, .inl (ca 1, 1600, .inl (f)))]) (wr := [(q 11, .inl (ca 1, 1600, .inl (g1)))]) C [0, 1] [2] rfl rfl rfl rfl (by decide) (fun hp => va_runV (rest := [.int (b2i (kPar B (x + 4) z))]) S (c_M_isOdd l D ca s0 a0 Z h0 q th tz (x + 1) ((z + 63) % 64) f B (by omega) (by omega) hf _) (cwV 2 hts (gV g_366 g_367 g_17 g_34 g_368) rfl rfl rfl (by decide +kernel) ⟨Nat.le_of_ble_eq_true rfl, Nat.le_of_ble_eq_true rfl⟩) ⟨hp.1, n_recv C 0 3 rfl rfl, hp.2⟩ rfl rfl hl.1 rfl (lv_room (Nat.le_of_ble_eq_true rfl)) dM_columns_34 ⟨Nat.le_of_ble_eq_true rfl, Nat.le_of_ble_eq_true rfl⟩) (fun r u H locs hp C => ?_)
              replace C : Cx D ca s0 A s [(h0, .inr (3, mF q (th) (tz))), (q 10, .inl (ca 1, 1600, .inl (f))), (q 11, .inl (ca 1, 1600, .inl (g1)))] H locs := C.re [1, 2, 0] rfl rfl
              subst hp
              refine n_bne S dM_columns_37 dM_columns_40 dM_columns_41 dM_columns_44 (by decide) (by decide) ?_
              refine lv_istore_n hx hb dM_columns_45 rfl hl (Nat.le_of_ble_eq_true rfl) rfl (fun ls hl => ?_)
              replace hl : lv_has ls 5 [(3, .int (b2i ((kPar B (x + 4) z) ^^ (kPar B (x + 1) ((z + 63) % 64))))), (2, .int (nI z)), (1, .int (nI x)), (0, .ref (h0))] := hl
              refine lv_iconst (v := nI 0) hx hb dM_columns_46 (by decide) ?_
              refine lv_istore hx hb dM_columns_47 hl (Nat.le_of_ble_eq_true rfl) rfl (fun ls hl => ?_)
              replace hl : lv_has ls 5 [(4, .int (nI 0)), (3, .int (b2i ((kPar B (x + 4) z) ^^ (kPar B (x + 1) ((z + 63) % 64))))), (2, .int (nI z)), (1, .int (nI x)), (0, .ref (h0))] := hl
              have lp49 : ∀ (nf : Nat) (y : Nat) (g1 : Nat → Int32) (H : Heap) (locs : List Loc) (ls : Array Slot), 5 - y < nf → y ≤ 5 → Done zX zZ zY (bF (kTheta B)) g1 x z y → Cx D ca s0 A s [(h0, .inr (3, mF q (th) (tz))), (q 10, .inl (ca 1, 1600, .inl (f))), (q 11, .inl (ca 1, 1600, .inl (g1)))] H locs → lv_has ls 5 [(4, .int (nI y)), (3, .int (b2i ((kPar B (x + 4) z) ^^ (kPar B (x + 1) ((z + 63) % 64))))), (2, .int (nI z)), (1, .int (nI x)), (0, .ref (h0))] → W p l e rm_M_columns s m args below meth c H locs 0 0 Q (F0 m 49 ls []) := by
                intro nf
                induction nf with
                | zero => intro y g1 H locs ls hn; exact absurd hn (Nat.not_lt_zero _)
                | succ nf ih_lp49 =>
                  intro y g1 H locs ls hn lp49_le hY C hl
                  refine lv_iload hx hb dM_columns_49 (lv_at hl 0 rfl) ?_
                  refine lv_iconst (v := nI 5) hx hb dM_columns_51 (by decide) ?_
                  refine n_icmp_ge (tgt := 94) S (by omega) (by omega) dM_columns_52 (by decide) (fun hc52 => ?_) (fun hc52 => ?_)
                  · skip
                    refine lv_iinc (k := 2) (v := nI (z + 1)) hx hb dM_columns_94 hl rfl (n_inc1 _) (Nat.le_of_ble_eq_true rfl) rfl (fun ls hl => ?_)
                    replace hl : lv_has ls 5 [(2, .int (nI (z + 1))), (4, .int (nI y)), (3, .int (b2i ((kPar B (x + 4) z) ^^ (kPar B (x + 1) ((z + 63) % 64))))), (1, .int (nI x)), (0, .ref (h0))] := hl
                    refine lv_goto (tgt := 9) hx hb dM_columns_97 (by decide) ?_
                    exact ih_lp9 (z + 1) _ _ _ _ (by omega) (by omega) (Done_b zY_lt (eq_of_le hc52 lp49_le ▸ hY)) C (lv_sub hl [0, 3, 4] rfl)
                  · skip
                    refine lv_aload_n hx hb dM_columns_55 rfl (lv_at hl 4 rfl) ?_
                    refine n_get S C hin_M 0 rfl rfl 13 (by decide) g_415 rfl dM_columns_56 ?_
                    refine lv_iload_n hx hb dM_columns_59 rfl (lv_at hl 3 rfl) ?_
                    refine lv_iload hx hb dM_columns_60 (lv_at hl 0 rfl) ?_
                    refine lv_iload_n hx hb dM_columns_62 rfl (lv_at hl 2 rfl) ?_
                    refine n_callP C (fun hp => va_runS (rest := [.ref (q 11)]) S (c_M_at l D ca s0 a0 Z x y z (by omega) (by omega) _) (cwS 3 hts (gS g_369 g_370 g_34 g_371) rfl rfl rfl (by decide +kernel) ⟨Nat.le_of_ble_eq_true rfl, Nat.le_of_ble_eq_true rfl⟩) hp rfl rfl hl.1 rfl (lv_room (Nat.le_of_ble_eq_true rfl)) dM_columns_63 ⟨Nat.le_of_ble_eq_true rfl, Nat.le_of_ble_eq_true rfl⟩) (fun r u H locs hp C => ?_)
                    subst hp
                    refine lv_aload_n hx hb dM_columns_66 rfl (lv_at hl 4 rfl) ?_
                    refine n_get S C hin_M 0 rfl rfl 12 (by decide) g_414 rfl dM_columns_67 ?_
                    refine lv_iload_n hx hb dM_columns_70 rfl (lv_at hl 3 rfl) ?_
                    refine lv_iload hx hb dM_columns_71 (lv_at hl 0 rfl) ?_
                    refine lv_iload_n hx hb dM_columns_73 rfl (lv_at hl 2 rfl) ?_
                    refine n_callP C (fun hp => va_runS (rest := [.ref (q 10), .int (nI (kAt x y z)), .ref (q 11)]) S (c_M_at l D ca s0 a0 Z x y z (by omega) (by omega) _) (cwS 3 hts (gS g_369 g_370 g_34 g_371) rfl rfl rfl (by decide +kernel) ⟨Nat.le_of_ble_eq_true rfl, Nat.le_of_ble_eq_true rfl⟩) hp rfl rfl hl.1 rfl (lv_room (Nat.le_of_ble_eq_true rfl)) dM_columns_74 ⟨Nat.le_of_ble_eq_true rfl, Nat.le_of_ble_eq_true rfl⟩) (fun r u H locs hp C => ?_)
                    subst hp
                    refine n_zald S C 1 rfl (i := kAt x y z) (kAt_lt (by omega)) (by decide) dM_columns_77 ?_
                    refine lv_topi (nm_r (e' := b2i (B (kAt x y z))) (hf _ (kAt_lt (by omega))) ?_)
                    refine lv_iload_n hx hb dM_columns_78 rfl (lv_at hl 1 rfl) ?_
                    refine n_bne S dM_columns_79 dM_columns_82 dM_columns_83 dM_columns_86 (by decide) (by decide) ?_
                    refine n_zast S C 2 rfl (i := kAt x y z) (kAt_lt (by omega)) (by decide) dM_columns_87 (fun H locs C => ?_)
                    replace C : Cx D ca s0 A s [(h0, .inr (3, mF q (th) (tz))), (q 10, .inl (ca 1, 1600, .inl (f))), (q 11, .inl (ca 1, 1600, .inl (upd g1 (kAt x y z) (vp_nar .boolean (b2i ((B (kAt x y z)) ^^ ((kPar B (x + 4) z) ^^ (kPar B (x + 1) ((z + 63) % 64)))))))))] H locs := C
                    refine lv_iinc (k := 0) (v := nI (y + 1)) hx hb dM_columns_88 hl rfl (n_inc1 _) (Nat.le_of_ble_eq_true rfl) rfl (fun ls hl => ?_)
                    replace hl : lv_has ls 5 [(4, .int (nI (y + 1))), (3, .int (b2i ((kPar B (x + 4) z) ^^ (kPar B (x + 1) ((z + 63) % 64))))), (2, .int (nI z)), (1, .int (nI x)), (0, .ref (h0))] := hl
                    refine lv_goto (tgt := 49) hx hb dM_columns_91 (by decide) ?_
                    exact ih_lp49 (y + 1) _ _ _ _ (by omega) (by omega) (Done_put hY (fun k hk h1 h2 h3 => ix_theta (by omega) (by omega) (by omega) hk h1 h2 h3) (by show _ = b2i (kTheta B (kAt x y z)); rw [b2i_nar, at_theta (by omega) (by omega) (by omega)])) C (lv_sub hl [0, 1, 2, 3, 4] rfl)
              exact lp49 (5 + 1) 0 _ _ _ _ (by omega) (by omega) hZ C (lv_sub hl [0, 1, 2, 3, 4] rfl)
        exact lp9 (64 + 1) 0 _ _ _ _ (by omega) (by omega) hX C (lv_sub hl [0, 1, 2] rfl)
  exact lp2 (5 + 1) 0 g _ _ _ (by omega) (by omega) Done_0 C (lv_sub hl [0, 1] rfl)
