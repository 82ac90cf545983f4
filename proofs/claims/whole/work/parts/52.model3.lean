abbrev rm_M_widthOf : Room := { frames := 0, cells := 0, slots := 0, locals := 0 }
set_option maxHeartbeats 4000000 in
set_option maxRecDepth 100000 in
theorem c_M_widthOf (l : Launch) (D : va_G) (ca : Nat → ClassId) (s0 : State) (a0 : Array Value) (Z : Wd a0 s0) (k : Nat) (hk : k < 16) : CtI l yM_widthOf [.code yM_widthOf cM_widthOf 1 (some .int)] rm_M_widthOf 0 0 D ca s0 [.int (nI k)] [] (S := Unit) (fun r _ => r = nI (wid k)) (fun _ => []) := by
  refine ctI_of (cc := cM_widthOf) (maxL := 1) (own := RM) Z rfl (by decide) rfl (Nat.le_of_ble_eq_true rfl) ?_
  intro p e s m args below meth c A ls Q S hnm ret C hl
  have hx := S.1
  have hb := S.2.1
  have hown := S.2.2.2.1
  have hts := S.2.2.2.2
  generalize s.heap = H at C ⊢
  generalize ([] : List Loc) = locs at C ⊢
  replace hl : lv_has ls 1 [(0, .int (nI k))] := hl
  refine lv_iload_n hx hb dM_widthOf_0 rfl (lv_at hl 0 rfl) ?_
  refine lv_iconst (v := nI 4) hx hb dM_widthOf_1 (by decide) ?_
  refine n_icmp_ge (tgt := 39) S (by omega) (by omega) dM_widthOf_2 (by decide) (fun hc2 => ?_) (fun hc2 => ?_)
  · skip
    refine lv_iload_n hx hb dM_widthOf_39 rfl (lv_at hl 0 rfl) ?_
    refine lv_iconst (v := nI 2) hx hb dM_widthOf_40 (by decide) ?_
    refine n_rem S (by omega) (by omega) (by omega) dM_widthOf_41 ?_
    refine n_if_ne (tgt := 51) S (by omega) dM_widthOf_42 (by decide) (fun hc42 => ?_) (fun hc42 => ?_)
    · skip
      refine lv_sipush (v := nI 136) hx hb dM_widthOf_51 (by decide) ?_
      exact ret (nI 136) (()) _ _ _ _ _ _ (Nat.le_refl _) (Nat.le_refl _) (by rw [wid_od k hk (by omega) (by omega)]) C dM_widthOf_54
    · skip
      refine lv_sipush (v := nI 168) hx hb dM_widthOf_45 (by decide) ?_
      refine lv_goto (tgt := 54) hx hb dM_widthOf_48 (by decide) ?_
      exact ret (nI 168) (()) _ _ _ _ _ _ (Nat.le_refl _) (Nat.le_refl _) (by rw [wid_ev k hk (by omega) (by omega)]) C dM_widthOf_54
  · skip
    refine lv_iload_n hx hb dM_widthOf_5 rfl (lv_at hl 0 rfl) ?_
    refine n_if_ne (tgt := 15) S (by omega) dM_widthOf_6 (by decide) (fun hc6 => ?_) (fun hc6 => ?_)
    · skip
      refine lv_iload_n hx hb dM_widthOf_15 rfl (lv_at hl 0 rfl) ?_
      refine lv_iconst (v := nI 1) hx hb dM_widthOf_16 (by decide) ?_
      refine n_icmp_ne (tgt := 26) S (by omega) (by omega) dM_widthOf_17 (by decide) (fun hc17 => ?_) (fun hc17 => ?_)
      · skip
        refine lv_iload_n hx hb dM_widthOf_26 rfl (lv_at hl 0 rfl) ?_
        refine lv_iconst (v := nI 2) hx hb dM_widthOf_27 (by decide) ?_
        refine n_icmp_ne (tgt := 36) S (by omega) (by omega) dM_widthOf_28 (by decide) (fun hc28 => ?_) (fun hc28 => ?_)
        · skip
          refine lv_bipush (v := nI 72) hx hb dM_widthOf_36 (by decide) ?_
          exact ret (nI 72) (()) _ _ _ _ _ _ (Nat.le_refl _) (Nat.le_refl _) (by rw [show k = 3 by omega]; rfl) C dM_widthOf_38
        · skip
          refine lv_bipush (v := nI 104) hx hb dM_widthOf_31 (by decide) ?_
          refine lv_goto (tgt := 38) hx hb dM_widthOf_33 (by decide) ?_
          exact ret (nI 104) (()) _ _ _ _ _ _ (Nat.le_refl _) (Nat.le_refl _) (by rw [show k = 2 by omega]; rfl) C dM_widthOf_38
      · skip
        refine lv_sipush (v := nI 136) hx hb dM_widthOf_20 (by decide) ?_
        refine lv_goto (tgt := 38) hx hb dM_widthOf_23 (by decide) ?_
        exact ret (nI 136) (()) _ _ _ _ _ _ (Nat.le_refl _) (Nat.le_refl _) (by rw [show k = 1 by omega]; rfl) C dM_widthOf_38
    · skip
      refine lv_sipush (v := nI 144) hx hb dM_widthOf_9 (by decide) ?_
      refine lv_goto (tgt := 38) hx hb dM_widthOf_12 (by decide) ?_
      exact ret (nI 144) (()) _ _ _ _ _ _ (Nat.le_refl _) (Nat.le_refl _) (by rw [show k = 0 by omega]; rfl) C dM_widthOf_38
abbrev rm_M_lengthOf : Room := { frames := 0, cells := 0, slots := 0, locals := 0 }
set_option maxHeartbeats 4000000 in
set_option maxRecDepth 100000 in
theorem c_M_lengthOf (l : Launch) (D : va_G) (ca : Nat → ClassId) (s0 : State) (a0 : Array Value) (Z : Wd a0 s0) (k : Nat) (hk : k < 16) : CtI l yM_lengthOf [.code yM_lengthOf cM_lengthOf 1 (some .int)] rm_M_lengthOf 0 0 D ca s0 [.int (nI k)] [] (S := Unit) (fun r _ => r = nI (lenM k)) (fun _ => []) := by
  refine ctI_of (cc := cM_lengthOf) (maxL := 1) (own := RM) Z rfl (by decide) rfl (Nat.le_of_ble_eq_true rfl) ?_
  intro p e s m args below meth c A ls Q S hnm ret C hl
  have hx := S.1
  have hb := S.2.1
  have hown := S.2.2.2.1
  have hts := S.2.2.2.2
  generalize s.heap = H at C ⊢
  generalize ([] : List Loc) = locs at C ⊢
  replace hl : lv_has ls 1 [(0, .int (nI k))] := hl
  refine lv_iload_n hx hb dM_lengthOf_0 rfl (lv_at hl 0 rfl) ?_
  refine n_if_ne (tgt := 9) S (by omega) dM_lengthOf_1 (by decide) (fun hc1 => ?_) (fun hc1 => ?_)
  · skip
    refine lv_iload_n hx hb dM_lengthOf_9 rfl (lv_at hl 0 rfl) ?_
    refine lv_iconst (v := nI 1) hx hb dM_lengthOf_10 (by decide) ?_
    refine n_icmp_ne (tgt := 19) S (by omega) (by omega) dM_lengthOf_11 (by decide) (fun hc11 => ?_) (fun hc11 => ?_)
    · skip
      refine lv_iload_n hx hb dM_lengthOf_19 rfl (lv_at hl 0 rfl) ?_
      refine lv_iconst (v := nI 2) hx hb dM_lengthOf_20 (by decide) ?_
      refine n_icmp_ne (tgt := 29) S (by omega) (by omega) dM_lengthOf_21 (by decide) (fun hc21 => ?_) (fun hc21 => ?_)
      · skip
        refine lv_iload_n hx hb dM_lengthOf_29 rfl (lv_at hl 0 rfl) ?_
        refine lv_iconst (v := nI 3) hx hb dM_lengthOf_30 (by decide) ?_
        refine n_icmp_ne (tgt := 39) S (by omega) (by omega) dM_lengthOf_31 (by decide) (fun hc31 => ?_) (fun hc31 => ?_)
        · skip
          refine lv_iconst (v := nI 0) hx hb dM_lengthOf_39 (by decide) ?_
          exact ret (nI 0) (()) _ _ _ _ _ _ (Nat.le_refl _) (Nat.le_refl _) (by unfold lenM; rw [if_neg (by omega), if_neg (by omega), if_neg (by omega), if_neg (by omega)]) C dM_lengthOf_40
        · skip
          refine lv_bipush (v := nI 64) hx hb dM_lengthOf_34 (by decide) ?_
          refine lv_goto (tgt := 40) hx hb dM_lengthOf_36 (by decide) ?_
          exact ret (nI 64) (()) _ _ _ _ _ _ (Nat.le_refl _) (Nat.le_refl _) (by unfold lenM; rw [if_neg (by omega), if_neg (by omega), if_neg (by omega), if_pos (by omega)]) C dM_lengthOf_40
      · skip
        refine lv_bipush (v := nI 48) hx hb dM_lengthOf_24 (by decide) ?_
        refine lv_goto (tgt := 40) hx hb dM_lengthOf_26 (by decide) ?_
        exact ret (nI 48) (()) _ _ _ _ _ _ (Nat.le_refl _) (Nat.le_refl _) (by unfold lenM; rw [if_neg (by omega), if_neg (by omega), if_pos (by omega)]) C dM_lengthOf_40
    · skip
      refine lv_bipush (v := nI 32) hx hb dM_lengthOf_14 (by decide) ?_
      refine lv_goto (tgt := 40) hx hb dM_lengthOf_16 (by decide) ?_
      exact ret (nI 32) (()) _ _ _ _ _ _ (Nat.le_refl _) (Nat.le_refl _) (by unfold lenM; rw [if_neg (by omega), if_pos (by omega)]) C dM_lengthOf_40
  · skip
    refine lv_bipush (v := nI 28) hx hb dM_lengthOf_4 (by decide) ?_
    refine lv_goto (tgt := 40) hx hb dM_lengthOf_6 (by decide) ?_
    exact ret (nI 28) (()) _ _ _ _ _ _ (Nat.le_refl _) (Nat.le_refl _) (by unfold lenM; rw [if_pos (by omega)]) C dM_lengthOf_40
abbrev rm_M_hasLength : Room := { frames := 0, cells := 0, slots := 0, locals := 0 }
set_option maxHeartbeats 4000000 in
set_option maxRecDepth 100000 in
theorem c_M_hasLength (l : Launch) (D : va_G) (ca : Nat → ClassId) (s0 : State) (a0 : Array Value) (Z : Wd a0 s0) (k : Nat) (hk : k < 16) : CtI l yM_hasLength [.code yM_hasLength cM_hasLength 1 (some .boolean)] rm_M_hasLength 0 0 D ca s0 [.int (nI k)] [] (S := Unit) (fun r _ => r = b2i (hasL k)) (fun _ => []) := by
  refine ctZ_of (cc := cM_hasLength) (maxL := 1) (own := RM) Z rfl (by decide) rfl (Nat.le_of_ble_eq_true rfl) ?_
  intro p e s m args below meth c A ls Q S hnm ret C hl
  have hx := S.1
  have hb := S.2.1
  have hown := S.2.2.2.1
  have hts := S.2.2.2.2
  generalize s.heap = H at C ⊢
  generalize ([] : List Loc) = locs at C ⊢
  replace hl : lv_has ls 1 [(0, .int (nI k))] := hl
  refine lv_iload_n hx hb dM_hasLength_0 rfl (lv_at hl 0 rfl) ?_
  refine lv_bipush (v := nI 8) hx hb dM_hasLength_1 (by decide) ?_
  refine n_icmp_eq (tgt := 24) S (by omega) (by omega) dM_hasLength_3 (by decide) (fun hc3 => ?_) (fun hc3 => ?_)
  · skip
    refine lv_iconst (v := nI 1) hx hb dM_hasLength_24 (by decide) ?_
    refine lv_goto (tgt := 29) hx hb dM_hasLength_25 (by decide) ?_
    exact ret (nI 1) (()) _ _ _ _ _ _ (by decide) (Nat.le_refl _) (Nat.le_refl _) (by rw [show hasL k = true from decide_eq_true (by omega)]; rfl) C dM_hasLength_29
  · skip
    refine lv_iload_n hx hb dM_hasLength_6 rfl (lv_at hl 0 rfl) ?_
    refine lv_bipush (v := nI 9) hx hb dM_hasLength_7 (by decide) ?_
    refine n_icmp_eq (tgt := 24) S (by omega) (by omega) dM_hasLength_9 (by decide) (fun hc9 => ?_) (fun hc9 => ?_)
    · skip
      refine lv_iconst (v := nI 1) hx hb dM_hasLength_24 (by decide) ?_
      refine lv_goto (tgt := 29) hx hb dM_hasLength_25 (by decide) ?_
      exact ret (nI 1) (()) _ _ _ _ _ _ (by decide) (Nat.le_refl _) (Nat.le_refl _) (by rw [show hasL k = true from decide_eq_true (by omega)]; rfl) C dM_hasLength_29
    · skip
      refine lv_iload_n hx hb dM_hasLength_12 rfl (lv_at hl 0 rfl) ?_
      refine lv_bipush (v := nI 12) hx hb dM_hasLength_13 (by decide) ?_
      refine n_icmp_eq (tgt := 24) S (by omega) (by omega) dM_hasLength_15 (by decide) (fun hc15 => ?_) (fun hc15 => ?_)
      · skip
        refine lv_iconst (v := nI 1) hx hb dM_hasLength_24 (by decide) ?_
        refine lv_goto (tgt := 29) hx hb dM_hasLength_25 (by decide) ?_
        exact ret (nI 1) (()) _ _ _ _ _ _ (by decide) (Nat.le_refl _) (Nat.le_refl _) (by rw [show hasL k = true from decide_eq_true (by omega)]; rfl) C dM_hasLength_29
      · skip
        refine lv_iload_n hx hb dM_hasLength_18 rfl (lv_at hl 0 rfl) ?_
        refine lv_bipush (v := nI 13) hx hb dM_hasLength_19 (by decide) ?_
        refine n_icmp_ne (tgt := 28) S (by omega) (by omega) dM_hasLength_21 (by decide) (fun hc21 => ?_) (fun hc21 => ?_)
        · skip
          refine lv_iconst (v := nI 0) hx hb dM_hasLength_28 (by decide) ?_
          exact ret (nI 0) (()) _ _ _ _ _ _ (by decide) (Nat.le_refl _) (Nat.le_refl _) (by rw [show hasL k = false from decide_eq_false (by omega)]; rfl) C dM_hasLength_29
        · skip
          refine lv_iconst (v := nI 1) hx hb dM_hasLength_24 (by decide) ?_
          refine lv_goto (tgt := 29) hx hb dM_hasLength_25 (by decide) ?_
          exact ret (nI 1) (()) _ _ _ _ _ _ (by decide) (Nat.le_refl _) (Nat.le_refl _) (by rw [show hasL k = true from decide_eq_true (by omega)]; rfl) C dM_hasLength_29
abbrev rm_M_isSponge : Room := { frames := 0, cells := 0, slots := 0, locals := 0 }
set_option maxHeartbeats 4000000 in
set_option maxRecDepth 100000 in
theorem c_M_isSponge (l : Launch) (D : va_G) (ca : Nat → ClassId) (s0 : State) (a0 : Array Value) (Z : Wd a0 s0) (k : Int32) : CtI l yM_isSponge [.code yM_isSponge cM_isSponge 1 (some .boolean)] rm_M_isSponge 0 0 D ca s0 [.int (k)] [] (S := Unit) (fun r _ => r = b2i (decide (¬ k < 0 ∧ k < 4))) (fun _ => []) := by
  refine ctZ_of (cc := cM_isSponge) (maxL := 1) (own := RM) Z rfl (by decide) rfl (Nat.le_of_ble_eq_true rfl) ?_
  intro p e s m args below meth c A ls Q S hnm ret C hl
  have hx := S.1
  have hb := S.2.1
  have hown := S.2.2.2.1
  have hts := S.2.2.2.2
  generalize s.heap = H at C ⊢
  generalize ([] : List Loc) = locs at C ⊢
  replace hl : lv_has ls 1 [(0, .int (k))] := hl
  refine lv_iload_n hx hb dM_isSponge_0 rfl (lv_at hl 0 rfl) ?_
  refine lv_if_lt (tgt := 13) hx hb dM_isSponge_1 (by decide) (fun hc1 => ?_) (fun hc1 => ?_)
  · skip
    refine lv_iconst (v := nI 0) hx hb dM_isSponge_13 (by decide) ?_
    exact ret (nI 0) (()) _ _ _ _ _ _ (by decide) (Nat.le_refl _) (Nat.le_refl _) (by first | (rw [decide_eq_false (fun q : ¬ k < 0 ∧ k < 4 => q.1 hc1)]; rfl) | (rw [decide_eq_false (fun q : ¬ k < 0 ∧ k < 4 => absurd q.2 (Int32.not_lt.mpr hc6))]; rfl)) C dM_isSponge_14
  · skip
    refine lv_iload_n hx hb dM_isSponge_4 rfl (lv_at hl 0 rfl) ?_
    refine lv_iconst (v := nI 4) hx hb dM_isSponge_5 (by decide) ?_
    refine lv_icmp_ge (tgt := 13) hx hb dM_isSponge_6 (by decide) (fun hc6 => ?_) (fun hc6 => ?_)
    · skip
      refine lv_iconst (v := nI 0) hx hb dM_isSponge_13 (by decide) ?_
      exact ret (nI 0) (()) _ _ _ _ _ _ (by decide) (Nat.le_refl _) (Nat.le_refl _) (by first | (rw [decide_eq_false (fun q : ¬ k < 0 ∧ k < 4 => q.1 hc1)]; rfl) | (rw [decide_eq_false (fun q : ¬ k < 0 ∧ k < 4 => absurd q.2 (Int32.not_lt.mpr hc6))]; rfl)) C dM_isSponge_14
    · skip
      refine lv_iconst (v := nI 1) hx hb dM_isSponge_9 (by decide) ?_
      refine lv_goto (tgt := 14) hx hb dM_isSponge_10 (by decide) ?_
      exact ret (nI 1) (()) _ _ _ _ _ _ (by decide) (Nat.le_refl _) (Nat.le_refl _) (by rw [decide_eq_true (⟨hc1, Int32.not_le.mp hc6⟩ : ¬ k < 0 ∧ k < 4)]; rfl) C dM_isSponge_14
abbrev rm_M_bytesOf : Room := { frames := 0, cells := 0, slots := 0, locals := 0 }
set_option maxHeartbeats 4000000 in
set_option maxRecDepth 100000 in
theorem c_M_bytesOf (l : Launch) (D : va_G) (ca : Nat → ClassId) (s0 : State) (a0 : Array Value) (Z : Wd a0 s0) (v : Nat) (hv : v < 65536) : CtI l yM_bytesOf [.code yM_bytesOf cM_bytesOf 3 (some .int)] rm_M_bytesOf 0 0 D ca s0 [.int (nI v)] [] (S := Unit) (fun r _ => r = nI (nB v)) (fun _ => []) := by
  refine ctI_of (cc := cM_bytesOf) (maxL := 3) (own := RM) Z rfl (by decide) rfl (Nat.le_of_ble_eq_true rfl) ?_
  intro p e s m args below meth c A ls Q S hnm ret C hl
  have hx := S.1
  have hb := S.2.1
  have hown := S.2.2.2.1
  have hts := S.2.2.2.2
  generalize s.heap = H at C ⊢
  generalize ([] : List Loc) = locs at C ⊢
  replace hl : lv_has ls 3 [(0, .int (nI v))] := hl
  refine lv_iconst (v := nI 1) hx hb dM_bytesOf_0 (by decide) ?_
  refine lv_istore_n hx hb dM_bytesOf_1 rfl hl (Nat.le_of_ble_eq_true rfl) rfl (fun ls hl => ?_)
  replace hl : lv_has ls 3 [(1, .int (nI 1)), (0, .int (nI v))] := hl
  refine lv_iload_n hx hb dM_bytesOf_2 rfl (lv_at hl 1 rfl) ?_
  refine lv_sipush (v := nI 256) hx hb dM_bytesOf_3 (by decide) ?_
  refine n_div S (by omega) (by omega) (by omega) dM_bytesOf_6 ?_
  refine lv_istore_n hx hb dM_bytesOf_7 rfl hl (Nat.le_of_ble_eq_true rfl) rfl (fun ls hl => ?_)
  replace hl : lv_has ls 3 [(2, .int (nI (v / 256))), (1, .int (nI 1)), (0, .int (nI v))] := hl
  refine lv_iload_n hx hb dM_bytesOf_8 rfl (lv_at hl 0 rfl) ?_
  refine n_if_le (tgt := 24) S (by omega) dM_bytesOf_9 (by decide) (fun hc9 => ?_) (fun hc9 => ?_)
  · skip
    refine lv_iload_n hx hb dM_bytesOf_24 rfl (lv_at hl 1 rfl) ?_
    exact ret (nI 1) (()) _ _ _ _ _ _ (Nat.le_refl _) (Nat.le_refl _) (by unfold nB; rw [if_pos (by omega)]) C dM_bytesOf_25
  · skip
    refine lv_iinc (k := 1) (v := nI 2) hx hb dM_bytesOf_12 hl rfl (n_inc1 _) (Nat.le_of_ble_eq_true rfl) rfl (fun ls hl => ?_)
    replace hl : lv_has ls 3 [(1, .int (nI 2)), (2, .int (nI (v / 256))), (0, .int (nI v))] := hl
    refine lv_iload_n hx hb dM_bytesOf_15 rfl (lv_at hl 1 rfl) ?_
    refine lv_sipush (v := nI 256) hx hb dM_bytesOf_16 (by decide) ?_
    refine n_div S (by omega) (by omega) (by omega) dM_bytesOf_19 ?_
    refine lv_istore_n hx hb dM_bytesOf_20 rfl hl (Nat.le_of_ble_eq_true rfl) rfl (fun ls hl => ?_)
    replace hl : lv_has ls 3 [(2, .int (nI ((v / 256) / 256))), (1, .int (nI 2)), (0, .int (nI v))] := hl
    refine lv_goto (tgt := 8) hx hb dM_bytesOf_21 (by decide) ?_
    refine lv_iload_n hx hb dM_bytesOf_8 rfl (lv_at hl 0 rfl) ?_
    refine n_if_le (tgt := 24) S (by omega) dM_bytesOf_9 (by decide) (fun hc => ?_) (fun hc => False.elim (by omega))
    refine lv_iload_n hx hb dM_bytesOf_24 rfl (lv_at hl 1 rfl) ?_
    exact ret (nI 2) (()) _ _ _ _ _ _ (Nat.le_refl _) (Nat.le_refl _) (by unfold nB; rw [if_neg (by omega)]) C dM_bytesOf_25
abbrev rm_M_meet : Room := { frames := 0, cells := 0, slots := 0, locals := 0 }
set_option maxHeartbeats 4000000 in
set_option maxRecDepth 100000 in
theorem c_M_meet (l : Launch) (D : va_G) (ca : Nat → ClassId) (s0 : State) (a0 : Array Value) (Z : Wd a0 s0) (h0 : Nat) (q : Nat → Nat) (th tz : Int32) (k0 p0 v : Nat) (hk0 : k0 < 6) (hp0 : p0 < 200) (hv : v < 256) (b0 : Nat → Int32) (B : Nat → Bool) (hb0 : ∀ j, j < 1600 → b0 (1600 * k0 + j) = b2i (B j)) : CtV l yM_meet [.code yM_meet cM_meet 6 none] rm_M_meet 0 0 D ca s0 [.ref (h0), .int (nI k0), .int (nI p0), .int (nI v)] [(h0, .inr (3, mF q (th) (tz))), (q 3, .inl (ca 1, 9600, .inl (b0)))] (S := Nat → Int32) (fun u => rS u b0 (1600 * k0) 1600 (mixB B p0 v)) (fun u => [(h0, .inr (3, mF q th tz)), (q 3, .inl (ca 1, 9600, .inl u))]) := by
  refine ctV_of (cc := cM_meet) (maxL := 6) (own := RM) Z rfl (by decide) rfl (Nat.le_of_ble_eq_true rfl) ?_
  intro p e s m args below meth c A ls Q S hnm ret C hl
  have hx := S.1
  have hb := S.2.1
  have hown := S.2.2.2.1
  have hts := S.2.2.2.2
  generalize s.heap = H at C ⊢
  generalize ([] : List Loc) = locs at C ⊢
  replace hl : lv_has ls 6 [(0, .ref (h0)), (1, .int (nI k0)), (2, .int (nI p0)), (3, .int (nI v))] := hl
  refine lv_iconst (v := nI 0) hx hb dM_meet_0 (by decide) ?_
  refine lv_istore hx hb dM_meet_1 hl (Nat.le_of_ble_eq_true rfl) rfl (fun ls hl => ?_)
  replace hl : lv_has ls 6 [(4, .int (nI 0)), (0, .ref (h0)), (1, .int (nI k0)), (2, .int (nI p0)), (3, .int (nI v))] := hl
  have lp3 : ∀ (nf : Nat) (i : Nat) (b1 : Nat → Int32) (H : Heap) (locs : List Loc) (ls : Array Slot), 8 - i < nf → i ≤ 8 → rS b1 b0 (1600 * k0) 1600 (mixN B p0 v i) → Cx D ca s0 A s [(h0, .inr (3, mF q (th) (tz))), (q 3, .inl (ca 1, 9600, .inl (b1)))] H locs → lv_has ls 6 [(4, .int (nI i)), (0, .ref (h0)), (1, .int (nI k0)), (2, .int (nI p0)), (3, .int (nI v))] → W p l e rm_M_meet s m args below meth c H locs 0 0 Q (F0 m 3 ls []) := by
    intro nf
    induction nf with
    | zero => intro i b1 H locs ls hn; exact absurd hn (Nat.not_lt_zero _)
    | succ nf ih_lp3 =>
      intro i b1 H locs ls hn lp3_le hI C hl
      refine lv_iload hx hb dM_meet_3 (lv_at hl 0 rfl) ?_
      refine lv_bipush (v := nI 8) hx hb dM_meet_5 (by decide) ?_
      refine n_icmp_ge (tgt := 68) S (by omega) (by omega) dM_meet_7 (by decide) (fun hc7 => ?_) (fun hc7 => ?_)
      · skip
        exact ret b1 _ _ _ _ _ _ (Nat.le_refl _) (Nat.le_refl _) (show rS b1 b0 (1600 * k0) 1600 (mixN B p0 v 8) from eq_of_le hc7 lp3_le ▸ hI) C dM_meet_68
      · skip
        refine lv_sipush (v := nI 1600) hx hb dM_meet_10 (by decide) ?_
        refine lv_iload_n hx hb dM_meet_13 rfl (lv_at hl 2 rfl) ?_
        refine n_mul S dM_meet_14 ?_
        refine lv_bipush (v := nI 8) hx hb dM_meet_15 (by decide) ?_
        refine lv_iload_n hx hb dM_meet_17 rfl (lv_at hl 3 rfl) ?_
        refine n_mul S dM_meet_18 ?_
        refine n_add S dM_meet_19 ?_
        refine lv_iload hx hb dM_meet_20 (lv_at hl 0 rfl) ?_
        refine n_add S dM_meet_22 ?_
        refine lv_istore hx hb dM_meet_23 hl (Nat.le_of_ble_eq_true rfl) rfl (fun ls hl => ?_)
        replace hl : lv_has ls 6 [(5, .int (nI (((1600 * k0) + (8 * p0)) + i))), (4, .int (nI i)), (0, .ref (h0)), (1, .int (nI k0)), (2, .int (nI p0)), (3, .int (nI v))] := hl
        refine lv_aload_n hx hb dM_meet_25 rfl (lv_at hl 2 rfl) ?_
        refine n_get S C hin_M 0 rfl rfl 5 (by decide) g_407 rfl dM_meet_26 ?_
        refine lv_iload hx hb dM_meet_29 (lv_at hl 0 rfl) ?_
        refine lv_aload_n hx hb dM_meet_31 rfl (lv_at hl 2 rfl) ?_
        refine n_get S C hin_M 0 rfl rfl 5 (by decide) g_407 rfl dM_meet_32 ?_
        refine lv_iload hx hb dM_meet_35 (lv_at hl 0 rfl) ?_
        refine n_zald S C 1 rfl (i := ((1600 * k0) + (8 * p0)) + i) (by omega) (by decide) dM_meet_37 ?_
        refine lv_topi (nm_r (e' := b2i (mixN B p0 v i (8 * p0 + i))) (by rw [Nat.add_assoc]; exact hI.1 _ (by omega)) ?_)
        refine lv_iload_n hx hb dM_meet_38 rfl (lv_at hl 5 rfl) ?_
        refine lv_iload hx hb dM_meet_39 (lv_at hl 1 rfl) ?_
        refine n_shr S (by omega) (by omega) dM_meet_41 ?_
        refine lv_iconst (v := nI 1) hx hb dM_meet_42 (by decide) ?_
        refine n_and S 1 (by decide) (Nat.lt_of_le_of_lt (Nat.div_le_self _ _) (by omega)) (by decide) dM_meet_43 ?_
        refine lv_iconst (v := nI 1) hx hb dM_meet_44 (by decide) ?_
        refine n_bc_ne S (v.testBit i) (tb_iff v i) dM_meet_45 dM_meet_48 dM_meet_49 dM_meet_52 (by decide) (by decide) ?_
        refine n_bne S dM_meet_53 dM_meet_56 dM_meet_57 dM_meet_60 (by decide) (by decide) ?_
        refine n_zast S C 1 rfl (i := ((1600 * k0) + (8 * p0)) + i) (by omega) (by decide) dM_meet_61 (fun H locs C => ?_)
        replace C : Cx D ca s0 A s [(h0, .inr (3, mF q (th) (tz))), (q 3, .inl (ca 1, 9600, .inl (upd b1 (((1600 * k0) + (8 * p0)) + i) (vp_nar .boolean (b2i ((mixN B p0 v i (8 * p0 + i)) ^^ (v.testBit i)))))))] H locs := C
        refine lv_iinc (k := 1) (v := nI (i + 1)) hx hb dM_meet_62 hl rfl (n_inc1 _) (Nat.le_of_ble_eq_true rfl) rfl (fun ls hl => ?_)
        replace hl : lv_has ls 6 [(4, .int (nI (i + 1))), (5, .int (nI (((1600 * k0) + (8 * p0)) + i))), (0, .ref (h0)), (1, .int (nI k0)), (2, .int (nI p0)), (3, .int (nI v))] := hl
        refine lv_goto (tgt := 3) hx hb dM_meet_65 (by decide) ?_
        exact ih_lp3 (i + 1) _ _ _ _ (by omega) (by omega) (meet_s (by omega) hp0 hI (b2i_nar _)) C (lv_sub hl [0, 2, 3, 4, 5] rfl)
  exact lp3 (8 + 1) 0 _ _ _ _ (by omega) (by omega) (by rw [mixN_0]; exact ⟨hb0, fun _ _ => rfl⟩) C (lv_sub hl [0, 1, 2, 3, 4] rfl)
abbrev rm_M_comeIn : Room := { frames := 4, cells := 0, slots := 0, locals := 94 }
set_option maxHeartbeats 4000000 in
set_option maxRecDepth 100000 in
theorem c_M_comeIn (l : Launch) (D : va_G) (ca : Nat → ClassId) (s0 : State) (a0 : Array Value) (Z : Wd a0 s0) (h0 : Nat) (q : Nat → Nat) (th tz : Int32) (k0 k : Nat) (hk0 : k0 < 6) (hk : k < 16) (bt kd pl nw nx : Nat → Int32) (hkd : kd k0 = nI k) (c0 : Co) (hS : mS bt pl k0 c0) (hp0 : c0.2 < wid k) (v : Nat) (hv : v < 256) : CtV l yM_comeIn [.code yM_comeIn cM_comeIn 3 none] rm_M_comeIn 0 0 D ca s0 [.ref (h0), .int (nI k0), .int (nI v)] [(h0, .inr (3, mF q (th) (tz))), (q 3, .inl (ca 1, 9600, .inl (bt))), (q 4, .inl (ca 0, 6, .inl (kd))), (q 5, .inl (ca 0, 6, .inl (pl))), (q 10, .inl (ca 1, 1600, .inl (nw))), (q 11, .inl (ca 1, 1600, .inl (nx)))] (S := (Nat → Int32) × (Nat → Int32) × (Nat → Int32) × (Nat → Int32)) (fun u => mR bt pl k0 (takeB (wid k) c0 v) u.1 u.2.1) (fun u => [(h0, .inr (3, mF q th tz)), (q 3, .inl (ca 1, 9600, .inl u.1)), (q 4, .inl (ca 0, 6, .inl kd)), (q 5, .inl (ca 0, 6, .inl u.2.1)), (q 10, .inl (ca 1, 1600, .inl u.2.2.1)), (q 11, .inl (ca 1, 1600, .inl u.2.2.2))]) := by
  refine ctV_of (cc := cM_comeIn) (maxL := 3) (own := RM) Z rfl (by decide) rfl (Nat.le_of_ble_eq_true rfl) ?_
  intro p e s m args below meth c A ls Q S hnm ret C hl
  have hx := S.1
  have hb := S.2.1
  have hown := S.2.2.2.1
  have hts := S.2.2.2.2
  generalize s.heap = H at C ⊢
  generalize ([] : List Loc) = locs at C ⊢
  replace hl : lv_has ls 3 [(0, .ref (h0)), (1, .int (nI k0)), (2, .int (nI v))] := hl
  have hwi := wid_in k hk
  refine lv_aload_n hx hb dM_comeIn_0 rfl (lv_at hl 0 rfl) ?_
  refine lv_iload_n hx hb dM_comeIn_1 rfl (lv_at hl 1 rfl) ?_
  refine lv_aload_n hx hb dM_comeIn_2 rfl (lv_at hl 0 rfl) ?_
  refine n_get S C hin_M 0 rfl rfl 7 (by decide) g_409 rfl dM_comeIn_3 ?_
  refine lv_iload_n hx hb dM_comeIn_6 rfl (lv_at hl 1 rfl) ?_
  refine n_iald S C 3 rfl (i := k0) (by omega) (by decide) dM_comeIn_7 ?_
  refine lv_topi (nm_r (e' := nI (c0.2)) hS.2 ?_)
  refine lv_iload_n hx hb dM_comeIn_8 rfl (lv_at hl 2 rfl) ?_
  refine n_callV (wc := [(h0, .inr (3, mF q (th) (tz))), (q 3, .inl (ca 1, 9600, .inl (bt)))]) (wr := [(q 4, .inl (ca 0, 6, .inl (kd))), (q 5, .inl (ca 0, 6, .inl (pl))), (q 10, .inl (ca 1, 1600, .inl (nw))), (q 11, .inl (ca 1, 1600, .inl (nx)))]) C [0, 1] [2, 3, 4, 5] rfl rfl rfl rfl (by decide) (fun hp => va_runV (rest := []) S (c_M_meet l D ca s0 a0 Z h0 q th tz k0 c0.2 v hk0 (by have := wid_in k hk; omega) hv bt c0.1 hS.1 _) (cwV 3 hts (gV g_357 g_358 g_14 g_34 g_359) rfl rfl rfl (by decide +kernel) ⟨Nat.le_of_ble_eq_true rfl, Nat.le_of_ble_eq_true rfl⟩) ⟨hp.1, n_recv C 0 3 rfl rfl, hp.2⟩ rfl rfl hl.1 rfl (lv_room (Nat.le_of_ble_eq_true rfl)) dM_comeIn_9 ⟨Nat.le_of_ble_eq_true rfl, Nat.le_of_ble_eq_true rfl⟩) (fun u H locs hp C => ?_)
  replace C : Cx D ca s0 A s [(h0, .inr (3, mF q (th) (tz))), (q 3, .inl (ca 1, 9600, .inl (u))), (q 4, .inl (ca 0, 6, .inl (kd))), (q 5, .inl (ca 0, 6, .inl (pl))), (q 10, .inl (ca 1, 1600, .inl (nw))), (q 11, .inl (ca 1, 1600, .inl (nx)))] H locs := C.re [4, 5, 0, 1, 2, 3] rfl rfl
  obtain ⟨b1, rfl⟩ : ∃ z, z = u := ⟨_, rfl⟩
  have hm := hp
  refine lv_aload_n hx hb dM_comeIn_12 rfl (lv_at hl 0 rfl) ?_
  refine n_get S C hin_M 0 rfl rfl 7 (by decide) g_409 rfl dM_comeIn_13 ?_
  refine lv_iload_n hx hb dM_comeIn_16 rfl (lv_at hl 1 rfl) ?_
  refine lv_dup2_11 hx hb dM_comeIn_17 rfl rfl ?_
  refine n_iald S C 3 rfl (i := k0) (by omega) (by decide) dM_comeIn_18 ?_
  refine lv_topi (nm_r (e' := nI (c0.2)) hS.2 ?_)
  refine lv_iconst (v := nI 1) hx hb dM_comeIn_19 (by decide) ?_
  refine n_add S dM_comeIn_20 ?_
  refine n_iast S C 3 rfl (i := k0) (by omega) (by decide) dM_comeIn_21 (fun H locs C => ?_)
  replace C : Cx D ca s0 A s [(h0, .inr (3, mF q (th) (tz))), (q 3, .inl (ca 1, 9600, .inl (b1))), (q 4, .inl (ca 0, 6, .inl (kd))), (q 5, .inl (ca 0, 6, .inl (upd pl k0 (nI (c0.2 + 1))))), (q 10, .inl (ca 1, 1600, .inl (nw))), (q 11, .inl (ca 1, 1600, .inl (nx)))] H locs := C
  refine lv_aload_n hx hb dM_comeIn_22 rfl (lv_at hl 0 rfl) ?_
  refine n_get S C hin_M 0 rfl rfl 7 (by decide) g_409 rfl dM_comeIn_23 ?_
  refine lv_iload_n hx hb dM_comeIn_26 rfl (lv_at hl 1 rfl) ?_
  refine n_iald S C 3 rfl (i := k0) (by omega) (by decide) dM_comeIn_27 ?_
  refine lv_topi (nm_r (e' := nI (c0.2 + 1)) pk_us ?_)
  refine lv_aload_n hx hb dM_comeIn_28 rfl (lv_at hl 0 rfl) ?_
  refine n_get S C hin_M 0 rfl rfl 6 (by decide) g_408 rfl dM_comeIn_29 ?_
  refine lv_iload_n hx hb dM_comeIn_32 rfl (lv_at hl 1 rfl) ?_
  refine n_iald S C 2 rfl (i := k0) (by omega) (by decide) dM_comeIn_33 ?_
  refine lv_topi (nm_r (e' := nI k) hkd ?_)
  refine n_callP C (fun hp => va_runS (rest := [.int (nI (c0.2 + 1))]) S (c_M_widthOf l D ca s0 a0 Z k hk _) (cwS 1 hts (gS g_345 g_346 g_34 g_347) rfl rfl rfl (by decide +kernel) ⟨Nat.le_of_ble_eq_true rfl, Nat.le_of_ble_eq_true rfl⟩) hp rfl rfl hl.1 rfl (lv_room (Nat.le_of_ble_eq_true rfl)) dM_comeIn_34 ⟨Nat.le_of_ble_eq_true rfl, Nat.le_of_ble_eq_true rfl⟩) (fun r u H locs hp C => ?_)
  subst hp
  have hwi := wid_in k hk
  refine n_icmp_ne (tgt := 52) S (by omega) (by omega) dM_comeIn_37 (by decide) (fun hc37 => ?_) (fun hc37 => ?_)
  · skip
    rw [takeB_f (by omega)] at ret
    exact ret ((b1, _, nw, nx)) _ _ _ _ _ _ (Nat.le_refl _) (Nat.le_refl _) (mR_s hm) C dM_comeIn_52
  · skip
    refine lv_aload_n hx hb dM_comeIn_40 rfl (lv_at hl 0 rfl) ?_
    refine n_get S C hin_M 0 rfl rfl 7 (by decide) g_409 rfl dM_comeIn_41 ?_
    refine lv_iload_n hx hb dM_comeIn_44 rfl (lv_at hl 1 rfl) ?_
    refine lv_iconst (v := nI 0) hx hb dM_comeIn_45 (by decide) ?_
    refine n_iast S C 3 rfl (i := k0) (by omega) (by decide) dM_comeIn_46 (fun H locs C => ?_)
    replace C : Cx D ca s0 A s [(h0, .inr (3, mF q (th) (tz))), (q 3, .inl (ca 1, 9600, .inl (b1))), (q 4, .inl (ca 0, 6, .inl (kd))), (q 5, .inl (ca 0, 6, .inl (upd (upd pl k0 (nI (c0.2 + 1))) k0 (nI 0)))), (q 10, .inl (ca 1, 1600, .inl (nw))), (q 11, .inl (ca 1, 1600, .inl (nx)))] H locs := C
    refine lv_aload_n hx hb dM_comeIn_47 rfl (lv_at hl 0 rfl) ?_
    refine lv_iload_n hx hb dM_comeIn_48 rfl (lv_at hl 1 rfl) ?_
    refine n_callV (wc := [(h0, .inr (3, mF q (th) (tz))), (q 3, .inl (ca 1, 9600, .inl (b1))), (q 10, .inl (ca 1, 1600, .inl (nw))), (q 11, .inl (ca 1, 1600, .inl (nx)))]) (wr := [(q 4, .inl (ca 0, 6, .inl (kd))), (q 5, .inl (ca 0, 6, .inl (upd (upd pl k0 (nI (c0.2 + 1))) k0 (nI 0))))]) C [0, 1, 4, 5] [2, 3] rfl rfl rfl rfl (by decide) (fun hp => va_runV (rest := []) S (c_M_permute l D ca s0 a0 Z h0 q th tz k0 hk0 b1 nw nx (mixB c0.1 c0.2 v) hm.1 _) (cwV 1 hts (gV g_360 g_361 g_15 g_34 g_362) rfl rfl rfl (by decide +kernel) ⟨Nat.le_of_ble_eq_true rfl, Nat.le_of_ble_eq_true rfl⟩) ⟨hp.1, n_recv C 0 3 rfl rfl, hp.2⟩ rfl rfl hl.1 rfl (lv_room (Nat.le_of_ble_eq_true rfl)) dM_comeIn_49 ⟨Nat.le_of_ble_eq_true rfl, Nat.le_of_ble_eq_true rfl⟩) (fun u H locs hp C => ?_)
    replace C : Cx D ca s0 A s [(h0, .inr (3, mF q (th) (tz))), (q 3, .inl (ca 1, 9600, .inl (u.1))), (q 4, .inl (ca 0, 6, .inl (kd))), (q 5, .inl (ca 0, 6, .inl (upd (upd pl k0 (nI (c0.2 + 1))) k0 (nI 0)))), (q 10, .inl (ca 1, 1600, .inl (u.2.1))), (q 11, .inl (ca 1, 1600, .inl (u.2.2)))] H locs := C.re [2, 3, 0, 1, 4, 5] rfl rfl
    obtain ⟨u, ua, ub⟩ := u
    replace C : Cx D ca s0 A s [(h0, .inr (3, mF q (th) (tz))), (q 3, .inl (ca 1, 9600, .inl (u))), (q 4, .inl (ca 0, 6, .inl (kd))), (q 5, .inl (ca 0, 6, .inl (upd (upd pl k0 (nI (c0.2 + 1))) k0 (nI 0)))), (q 10, .inl (ca 1, 1600, .inl (ua))), (q 11, .inl (ca 1, 1600, .inl (ub)))] H locs := C
    rw [takeB_t (by omega)] at ret
    rw [upd_upd] at C
    exact ret ((u, upd pl k0 (nI 0), ua, ub)) _ _ _ _ _ _ (Nat.le_refl _) (Nat.le_refl _) (mR_s (rS_tr hm hp)) C dM_comeIn_52
abbrev rm_M_number : Room := { frames := 5, cells := 0, slots := 0, locals := 116 }
set_option maxHeartbeats 4000000 in
set_option maxRecDepth 100000 in
theorem c_M_number (l : Launch) (D : va_G) (ca : Nat → ClassId) (s0 : State) (a0 : Array Value) (Z : Wd a0 s0) (h0 : Nat) (q : Nat → Nat) (th tz : Int32) (k0 k : Nat) (hk0 : k0 < 6) (hk : k < 16) (bt kd pl nw nx : Nat → Int32) (hkd : kd k0 = nI k) (c0 : Co) (hS : mS bt pl k0 c0) (hp0 : c0.2 < wid k) (v : Nat) (hv : v < 65536) : CtV l yM_number [.code yM_number cM_number 4 none] rm_M_number 0 0 D ca s0 [.ref (h0), .int (nI k0), .int (nI v)] [(h0, .inr (3, mF q (th) (tz))), (q 3, .inl (ca 1, 9600, .inl (bt))), (q 4, .inl (ca 0, 6, .inl (kd))), (q 5, .inl (ca 0, 6, .inl (pl))), (q 10, .inl (ca 1, 1600, .inl (nw))), (q 11, .inl (ca 1, 1600, .inl (nx)))] (S := (Nat → Int32) × (Nat → Int32) × (Nat → Int32) × (Nat → Int32)) (fun u => mR bt pl k0 (numC (wid k) c0 v) u.1 u.2.1) (fun u => [(h0, .inr (3, mF q th tz)), (q 3, .inl (ca 1, 9600, .inl u.1)), (q 4, .inl (ca 0, 6, .inl kd)), (q 5, .inl (ca 0, 6, .inl u.2.1)), (q 10, .inl (ca 1, 1600, .inl u.2.2.1)), (q 11, .inl (ca 1, 1600, .inl u.2.2.2))]) := by
  refine ctV_of (cc := cM_number) (maxL := 4) (own := RM) Z rfl (by decide) rfl (Nat.le_of_ble_eq_true rfl) ?_
  intro p e s m args below meth c A ls Q S hnm ret C hl
  have hx := S.1
  have hb := S.2.1
  have hown := S.2.2.2.1
  have hts := S.2.2.2.2
  generalize s.heap = H at C ⊢
  generalize ([] : List Loc) = locs at C ⊢
  replace hl : lv_has ls 4 [(0, .ref (h0)), (1, .int (nI k0)), (2, .int (nI v))] := hl
  refine lv_iload_n hx hb dM_number_0 rfl (lv_at hl 2 rfl) ?_
  refine n_callP C (fun hp => va_runS (rest := []) S (c_M_bytesOf l D ca s0 a0 Z v hv _) (cwS 1 hts (gS g_351 g_352 g_34 g_353) rfl rfl rfl (by decide +kernel) ⟨Nat.le_of_ble_eq_true rfl, Nat.le_of_ble_eq_true rfl⟩) hp rfl rfl hl.1 rfl (lv_room (Nat.le_of_ble_eq_true rfl)) dM_number_1 ⟨Nat.le_of_ble_eq_true rfl, Nat.le_of_ble_eq_true rfl⟩) (fun r u H locs hp C => ?_)
  subst hp
  by_cases hv2 : v < 256
  · skip
    refine lv_topi (nm_r (e' := nI 1) (congrArg nI (show nB v = 1 from if_pos hv2)) ?_)
    refine lv_iconst (v := nI 1) hx hb dM_number_4 (by decide) ?_
    refine n_sub S (by omega) dM_number_5 ?_
    refine lv_istore_n hx hb dM_number_6 rfl hl (Nat.le_of_ble_eq_true rfl) rfl (fun ls hl => ?_)
    replace hl : lv_has ls 4 [(3, .int (nI 0)), (0, .ref (h0)), (1, .int (nI k0)), (2, .int (nI v))] := hl
    refine lv_iload_n hx hb dM_number_7 rfl (lv_at hl 0 rfl) ?_
    refine n_if_lt (tgt := 32) S (by omega) dM_number_8 (by decide) (fun hc => False.elim hc) (fun hc => ?_)
    refine lv_aload_n hx hb dM_number_11 rfl (lv_at hl 1 rfl) ?_
    refine lv_iload_n hx hb dM_number_12 rfl (lv_at hl 2 rfl) ?_
    refine lv_iload_n hx hb dM_number_13 rfl (lv_at hl 3 rfl) ?_
    refine lv_bipush (v := nI 8) hx hb dM_number_14 (by decide) ?_
    refine lv_iload_n hx hb dM_number_16 rfl (lv_at hl 0 rfl) ?_
    refine n_mul S dM_number_17 ?_
    refine lv_topi (nm_r (e' := nI 0) rfl ?_)
    refine n_shr S (by omega) (by omega) dM_number_18 ?_
    refine lv_sipush (v := nI 255) hx hb dM_number_19 (by decide) ?_
    refine n_and S 8 (by decide) (Nat.lt_of_le_of_lt (Nat.div_le_self _ _) (by omega)) (by decide) dM_number_22 ?_
    refine n_callV (wc := [(h0, .inr (3, mF q (th) (tz))), (q 3, .inl (ca 1, 9600, .inl (bt))), (q 4, .inl (ca 0, 6, .inl (kd))), (q 5, .inl (ca 0, 6, .inl (pl))), (q 10, .inl (ca 1, 1600, .inl (nw))), (q 11, .inl (ca 1, 1600, .inl (nx)))]) (wr := []) C [0, 1, 2, 3, 4, 5] [] rfl rfl rfl rfl (by decide) (fun hp => va_runV (rest := []) S (c_M_comeIn l D ca s0 a0 Z h0 q th tz k0 k hk0 hk bt kd pl nw nx hkd (c0) (mR.rf hS).1 hp0 ((v / 2 ^ 0) % 2 ^ 8) (Nat.mod_lt _ (by decide)) _) (cwV 2 hts (gV g_354 g_355 g_13 g_34 g_356) rfl rfl rfl (by decide +kernel) ⟨Nat.le_of_ble_eq_true rfl, Nat.le_of_ble_eq_true rfl⟩) ⟨hp.1, n_recv C 0 3 rfl rfl, hp.2⟩ rfl rfl hl.1 rfl (lv_room (Nat.le_of_ble_eq_true rfl)) dM_number_23 ⟨Nat.le_of_ble_eq_true rfl, Nat.le_of_ble_eq_true rfl⟩) (fun u H locs hp C => ?_)
    replace C : Cx D ca s0 A s [(h0, .inr (3, mF q (th) (tz))), (q 3, .inl (ca 1, 9600, .inl (u.1))), (q 4, .inl (ca 0, 6, .inl (kd))), (q 5, .inl (ca 0, 6, .inl (u.2.1))), (q 10, .inl (ca 1, 1600, .inl (u.2.2.1))), (q 11, .inl (ca 1, 1600, .inl (u.2.2.2)))] H locs := C.re [0, 1, 2, 3, 4, 5] rfl rfl
    obtain ⟨b1, p1, n1, x1⟩ := u
    have h1 := (mR.rf hS).tr hp
    replace C : Cx D ca s0 A s [(h0, .inr (3, mF q (th) (tz))), (q 3, .inl (ca 1, 9600, .inl (b1))), (q 4, .inl (ca 0, 6, .inl (kd))), (q 5, .inl (ca 0, 6, .inl (p1))), (q 10, .inl (ca 1, 1600, .inl (n1))), (q 11, .inl (ca 1, 1600, .inl (x1)))] H locs := C
    refine lv_iinc (k := 0) (v := (-1)) hx hb dM_number_26 hl rfl (by decide) (Nat.le_of_ble_eq_true rfl) rfl (fun ls hl => ?_)
    replace hl : lv_has ls 4 [(3, .int ((-1))), (0, .ref (h0)), (1, .int (nI k0)), (2, .int (nI v))] := hl
    refine lv_goto (tgt := 7) hx hb dM_number_29 (by decide) ?_
    refine lv_iload_n hx hb dM_number_7 rfl (lv_at hl 0 rfl) ?_
    refine lv_if_lt (tgt := 32) hx hb dM_number_8 (by decide) (fun hc => ?_) (fun hc => absurd (by decide) hc)
    rw [numC_lo hv2] at ret
    exact ret ((b1, p1, n1, x1)) _ _ _ _ _ _ (Nat.le_refl _) (Nat.le_refl _) h1 C dM_number_32
  · skip
    refine lv_topi (nm_r (e' := nI 2) (congrArg nI (show nB v = 2 from if_neg hv2)) ?_)
    refine lv_iconst (v := nI 1) hx hb dM_number_4 (by decide) ?_
    refine n_sub S (by omega) dM_number_5 ?_
    refine lv_istore_n hx hb dM_number_6 rfl hl (Nat.le_of_ble_eq_true rfl) rfl (fun ls hl => ?_)
    replace hl : lv_has ls 4 [(3, .int (nI 1)), (0, .ref (h0)), (1, .int (nI k0)), (2, .int (nI v))] := hl
    refine lv_iload_n hx hb dM_number_7 rfl (lv_at hl 0 rfl) ?_
    refine n_if_lt (tgt := 32) S (by omega) dM_number_8 (by decide) (fun hc => False.elim hc) (fun hc => ?_)
    refine lv_aload_n hx hb dM_number_11 rfl (lv_at hl 1 rfl) ?_
    refine lv_iload_n hx hb dM_number_12 rfl (lv_at hl 2 rfl) ?_
    refine lv_iload_n hx hb dM_number_13 rfl (lv_at hl 3 rfl) ?_
    refine lv_bipush (v := nI 8) hx hb dM_number_14 (by decide) ?_
    refine lv_iload_n hx hb dM_number_16 rfl (lv_at hl 0 rfl) ?_
    refine n_mul S dM_number_17 ?_
    refine lv_topi (nm_r (e' := nI 8) rfl ?_)
    refine n_shr S (by omega) (by omega) dM_number_18 ?_
    refine lv_sipush (v := nI 255) hx hb dM_number_19 (by decide) ?_
    refine n_and S 8 (by decide) (Nat.lt_of_le_of_lt (Nat.div_le_self _ _) (by omega)) (by decide) dM_number_22 ?_
    refine n_callV (wc := [(h0, .inr (3, mF q (th) (tz))), (q 3, .inl (ca 1, 9600, .inl (bt))), (q 4, .inl (ca 0, 6, .inl (kd))), (q 5, .inl (ca 0, 6, .inl (pl))), (q 10, .inl (ca 1, 1600, .inl (nw))), (q 11, .inl (ca 1, 1600, .inl (nx)))]) (wr := []) C [0, 1, 2, 3, 4, 5] [] rfl rfl rfl rfl (by decide) (fun hp => va_runV (rest := []) S (c_M_comeIn l D ca s0 a0 Z h0 q th tz k0 k hk0 hk bt kd pl nw nx hkd (c0) (mR.rf hS).1 hp0 ((v / 2 ^ 8) % 2 ^ 8) (Nat.mod_lt _ (by decide)) _) (cwV 2 hts (gV g_354 g_355 g_13 g_34 g_356) rfl rfl rfl (by decide +kernel) ⟨Nat.le_of_ble_eq_true rfl, Nat.le_of_ble_eq_true rfl⟩) ⟨hp.1, n_recv C 0 3 rfl rfl, hp.2⟩ rfl rfl hl.1 rfl (lv_room (Nat.le_of_ble_eq_true rfl)) dM_number_23 ⟨Nat.le_of_ble_eq_true rfl, Nat.le_of_ble_eq_true rfl⟩) (fun u H locs hp C => ?_)
    replace C : Cx D ca s0 A s [(h0, .inr (3, mF q (th) (tz))), (q 3, .inl (ca 1, 9600, .inl (u.1))), (q 4, .inl (ca 0, 6, .inl (kd))), (q 5, .inl (ca 0, 6, .inl (u.2.1))), (q 10, .inl (ca 1, 1600, .inl (u.2.2.1))), (q 11, .inl (ca 1, 1600, .inl (u.2.2.2)))] H locs := C.re [0, 1, 2, 3, 4, 5] rfl rfl
    obtain ⟨b2, p2, n2, x2⟩ := u
    have h2 := (mR.rf hS).tr hp
    replace C : Cx D ca s0 A s [(h0, .inr (3, mF q (th) (tz))), (q 3, .inl (ca 1, 9600, .inl (b2))), (q 4, .inl (ca 0, 6, .inl (kd))), (q 5, .inl (ca 0, 6, .inl (p2))), (q 10, .inl (ca 1, 1600, .inl (n2))), (q 11, .inl (ca 1, 1600, .inl (x2)))] H locs := C
    refine lv_iinc (k := 0) (v := nI 0) hx hb dM_number_26 hl rfl (n_dec1 (by omega)) (Nat.le_of_ble_eq_true rfl) rfl (fun ls hl => ?_)
    replace hl : lv_has ls 4 [(3, .int (nI 0)), (0, .ref (h0)), (1, .int (nI k0)), (2, .int (nI v))] := hl
    refine lv_goto (tgt := 7) hx hb dM_number_29 (by decide) ?_
    refine lv_iload_n hx hb dM_number_7 rfl (lv_at hl 0 rfl) ?_
    refine n_if_lt (tgt := 32) S (by omega) dM_number_8 (by decide) (fun hc => False.elim hc) (fun hc => ?_)
    refine lv_aload_n hx hb dM_number_11 rfl (lv_at hl 1 rfl) ?_
    refine lv_iload_n hx hb dM_number_12 rfl (lv_at hl 2 rfl) ?_
    refine lv_iload_n hx hb dM_number_13 rfl (lv_at hl 3 rfl) ?_
    refine lv_bipush (v := nI 8) hx hb dM_number_14 (by decide) ?_
    refine lv_iload_n hx hb dM_number_16 rfl (lv_at hl 0 rfl) ?_
    refine n_mul S dM_number_17 ?_
    refine lv_topi (nm_r (e' := nI 0) rfl ?_)
    refine n_shr S (by omega) (by omega) dM_number_18 ?_
    refine lv_sipush (v := nI 255) hx hb dM_number_19 (by decide) ?_
    refine n_and S 8 (by decide) (Nat.lt_of_le_of_lt (Nat.div_le_self _ _) (by omega)) (by decide) dM_number_22 ?_
    refine n_callV (wc := [(h0, .inr (3, mF q (th) (tz))), (q 3, .inl (ca 1, 9600, .inl (b2))), (q 4, .inl (ca 0, 6, .inl (kd))), (q 5, .inl (ca 0, 6, .inl (p2))), (q 10, .inl (ca 1, 1600, .inl (n2))), (q 11, .inl (ca 1, 1600, .inl (x2)))]) (wr := []) C [0, 1, 2, 3, 4, 5] [] rfl rfl rfl rfl (by decide) (fun hp => va_runV (rest := []) S (c_M_comeIn l D ca s0 a0 Z h0 q th tz k0 k hk0 hk b2 kd p2 n2 x2 hkd (takeB (wid k) (c0) ((v / 2 ^ 8) % 2 ^ 8)) h2.1 (takeB_lt _ hp0) ((v / 2 ^ 0) % 2 ^ 8) (Nat.mod_lt _ (by decide)) _) (cwV 2 hts (gV g_354 g_355 g_13 g_34 g_356) rfl rfl rfl (by decide +kernel) ⟨Nat.le_of_ble_eq_true rfl, Nat.le_of_ble_eq_true rfl⟩) ⟨hp.1, n_recv C 0 3 rfl rfl, hp.2⟩ rfl rfl hl.1 rfl (lv_room (Nat.le_of_ble_eq_true rfl)) dM_number_23 ⟨Nat.le_of_ble_eq_true rfl, Nat.le_of_ble_eq_true rfl⟩) (fun u H locs hp C => ?_)
    replace C : Cx D ca s0 A s [(h0, .inr (3, mF q (th) (tz))), (q 3, .inl (ca 1, 9600, .inl (u.1))), (q 4, .inl (ca 0, 6, .inl (kd))), (q 5, .inl (ca 0, 6, .inl (u.2.1))), (q 10, .inl (ca 1, 1600, .inl (u.2.2.1))), (q 11, .inl (ca 1, 1600, .inl (u.2.2.2)))] H locs := C.re [0, 1, 2, 3, 4, 5] rfl rfl
    obtain ⟨b3, p3, n3, x3⟩ := u
    have h3 := h2.tr hp
    replace C : Cx D ca s0 A s [(h0, .inr (3, mF q (th) (tz))), (q 3, .inl (ca 1, 9600, .inl (b3))), (q 4, .inl (ca 0, 6, .inl (kd))), (q 5, .inl (ca 0, 6, .inl (p3))), (q 10, .inl (ca 1, 1600, .inl (n3))), (q 11, .inl (ca 1, 1600, .inl (x3)))] H locs := C
    refine lv_iinc (k := 0) (v := (-1)) hx hb dM_number_26 hl rfl (by decide) (Nat.le_of_ble_eq_true rfl) rfl (fun ls hl => ?_)
    replace hl : lv_has ls 4 [(3, .int ((-1))), (0, .ref (h0)), (1, .int (nI k0)), (2, .int (nI v))] := hl
    refine lv_goto (tgt := 7) hx hb dM_number_29 (by decide) ?_
    refine lv_iload_n hx hb dM_number_7 rfl (lv_at hl 0 rfl) ?_
    refine lv_if_lt (tgt := 32) hx hb dM_number_8 (by decide) (fun hc => ?_) (fun hc => absurd (by decide) hc)
    rw [numC_hi hv2 hv] at ret
    exact ret ((b3, p3, n3, x3)) _ _ _ _ _ _ (Nat.le_refl _) (Nat.le_refl _) h3 C dM_number_32
abbrev rm_M_leftOf : Room := { frames := 6, cells := 0, slots := 0, locals := 139 }
set_option maxHeartbeats 4000000 in
set_option maxRecDepth 100000 in
theorem c_M_leftOf (l : Launch) (D : va_G) (ca : Nat → ClassId) (s0 : State) (a0 : Array Value) (Z : Wd a0 s0) (h0 : Nat) (q : Nat → Nat) (th tz : Int32) (k0 k : Nat) (hk0 : k0 < 6) (hk : k < 16) (bt kd pl nw nx : Nat → Int32) (hkd : kd k0 = nI k) (c0 : Co) (hS : mS bt pl k0 c0) (hp0 : c0.2 < wid k) (v : Nat) (hv : v < 65536) : CtV l yM_leftOf [.code yM_leftOf cM_leftOf 3 none] rm_M_leftOf 0 0 D ca s0 [.ref (h0), .int (nI k0), .int (nI v)] [(h0, .inr (3, mF q (th) (tz))), (q 3, .inl (ca 1, 9600, .inl (bt))), (q 4, .inl (ca 0, 6, .inl (kd))), (q 5, .inl (ca 0, 6, .inl (pl))), (q 10, .inl (ca 1, 1600, .inl (nw))), (q 11, .inl (ca 1, 1600, .inl (nx)))] (S := (Nat → Int32) × (Nat → Int32) × (Nat → Int32) × (Nat → Int32)) (fun u => mR bt pl k0 (takeL (wid k) c0 v) u.1 u.2.1) (fun u => [(h0, .inr (3, mF q th tz)), (q 3, .inl (ca 1, 9600, .inl u.1)), (q 4, .inl (ca 0, 6, .inl kd)), (q 5, .inl (ca 0, 6, .inl u.2.1)), (q 10, .inl (ca 1, 1600, .inl u.2.2.1)), (q 11, .inl (ca 1, 1600, .inl u.2.2.2))]) := by
  refine ctV_of (cc := cM_leftOf) (maxL := 3) (own := RM) Z rfl (by decide) rfl (Nat.le_of_ble_eq_true rfl) ?_
  intro p e s m args below meth c A ls Q S hnm ret C hl
  have hx := S.1
  have hb := S.2.1
  have hown := S.2.2.2.1
  have hts := S.2.2.2.2
  generalize s.heap = H at C ⊢
  generalize ([] : List Loc) = locs at C ⊢
  replace hl : lv_has ls 3 [(0, .ref (h0)), (1, .int (nI k0)), (2, .int (nI v))] := hl
  refine lv_aload_n hx hb dM_leftOf_0 rfl (lv_at hl 0 rfl) ?_
  refine lv_iload_n hx hb dM_leftOf_1 rfl (lv_at hl 1 rfl) ?_
  refine lv_iload_n hx hb dM_leftOf_2 rfl (lv_at hl 2 rfl) ?_
  refine n_callP C (fun hp => va_runS (rest := [.int (nI k0), .ref (h0)]) S (c_M_bytesOf l D ca s0 a0 Z v hv _) (cwS 1 hts (gS g_351 g_352 g_34 g_353) rfl rfl rfl (by decide +kernel) ⟨Nat.le_of_ble_eq_true rfl, Nat.le_of_ble_eq_true rfl⟩) hp rfl rfl hl.1 rfl (lv_room (Nat.le_of_ble_eq_true rfl)) dM_leftOf_3 ⟨Nat.le_of_ble_eq_true rfl, Nat.le_of_ble_eq_true rfl⟩) (fun r u H locs hp C => ?_)
  subst hp
  refine n_callV (wc := [(h0, .inr (3, mF q (th) (tz))), (q 3, .inl (ca 1, 9600, .inl (bt))), (q 4, .inl (ca 0, 6, .inl (kd))), (q 5, .inl (ca 0, 6, .inl (pl))), (q 10, .inl (ca 1, 1600, .inl (nw))), (q 11, .inl (ca 1, 1600, .inl (nx)))]) (wr := []) C [0, 1, 2, 3, 4, 5] [] rfl rfl rfl rfl (by decide) (fun hp => va_runV (rest := []) S (c_M_comeIn l D ca s0 a0 Z h0 q th tz k0 k hk0 hk bt kd pl nw nx hkd (c0) (mR.rf hS).1 hp0 (nB v) (by unfold nB; split <;> decide) _) (cwV 2 hts (gV g_354 g_355 g_13 g_34 g_356) rfl rfl rfl (by decide +kernel) ⟨Nat.le_of_ble_eq_true rfl, Nat.le_of_ble_eq_true rfl⟩) ⟨hp.1, n_recv C 0 3 rfl rfl, hp.2⟩ rfl rfl hl.1 rfl (lv_room (Nat.le_of_ble_eq_true rfl)) dM_leftOf_6 ⟨Nat.le_of_ble_eq_true rfl, Nat.le_of_ble_eq_true rfl⟩) (fun u H locs hp C => ?_)
  replace C : Cx D ca s0 A s [(h0, .inr (3, mF q (th) (tz))), (q 3, .inl (ca 1, 9600, .inl (u.1))), (q 4, .inl (ca 0, 6, .inl (kd))), (q 5, .inl (ca 0, 6, .inl (u.2.1))), (q 10, .inl (ca 1, 1600, .inl (u.2.2.1))), (q 11, .inl (ca 1, 1600, .inl (u.2.2.2)))] H locs := C.re [0, 1, 2, 3, 4, 5] rfl rfl
  obtain ⟨b4, p4, n4, x4⟩ := u
  have h4 := (mR.rf hS).tr hp
  replace C : Cx D ca s0 A s [(h0, .inr (3, mF q (th) (tz))), (q 3, .inl (ca 1, 9600, .inl (b4))), (q 4, .inl (ca 0, 6, .inl (kd))), (q 5, .inl (ca 0, 6, .inl (p4))), (q 10, .inl (ca 1, 1600, .inl (n4))), (q 11, .inl (ca 1, 1600, .inl (x4)))] H locs := C
  refine lv_aload_n hx hb dM_leftOf_9 rfl (lv_at hl 0 rfl) ?_
  refine lv_iload_n hx hb dM_leftOf_10 rfl (lv_at hl 1 rfl) ?_
  refine lv_iload_n hx hb dM_leftOf_11 rfl (lv_at hl 2 rfl) ?_
  refine n_callV (wc := [(h0, .inr (3, mF q (th) (tz))), (q 3, .inl (ca 1, 9600, .inl (b4))), (q 4, .inl (ca 0, 6, .inl (kd))), (q 5, .inl (ca 0, 6, .inl (p4))), (q 10, .inl (ca 1, 1600, .inl (n4))), (q 11, .inl (ca 1, 1600, .inl (x4)))]) (wr := []) C [0, 1, 2, 3, 4, 5] [] rfl rfl rfl rfl (by decide) (fun hp => va_runV (rest := []) S (c_M_number l D ca s0 a0 Z h0 q th tz k0 k hk0 hk b4 kd p4 n4 x4 hkd (takeB (wid k) c0 (nB v)) h4.1 (takeB_lt _ hp0) v hv _) (cwV 2 hts (gV g_387 g_388 g_22 g_34 g_389) rfl rfl rfl (by decide +kernel) ⟨Nat.le_of_ble_eq_true rfl, Nat.le_of_ble_eq_true rfl⟩) ⟨hp.1, n_recv C 0 3 rfl rfl, hp.2⟩ rfl rfl hl.1 rfl (lv_room (Nat.le_of_ble_eq_true rfl)) dM_leftOf_12 ⟨Nat.le_of_ble_eq_true rfl, Nat.le_of_ble_eq_true rfl⟩) (fun u H locs hp C => ?_)
  replace C : Cx D ca s0 A s [(h0, .inr (3, mF q (th) (tz))), (q 3, .inl (ca 1, 9600, .inl (u.1))), (q 4, .inl (ca 0, 6, .inl (kd))), (q 5, .inl (ca 0, 6, .inl (u.2.1))), (q 10, .inl (ca 1, 1600, .inl (u.2.2.1))), (q 11, .inl (ca 1, 1600, .inl (u.2.2.2)))] H locs := C.re [0, 1, 2, 3, 4, 5] rfl rfl
  obtain ⟨b5, p5, n5, x5⟩ := u
  have h5 := h4.tr hp
  replace C : Cx D ca s0 A s [(h0, .inr (3, mF q (th) (tz))), (q 3, .inl (ca 1, 9600, .inl (b5))), (q 4, .inl (ca 0, 6, .inl (kd))), (q 5, .inl (ca 0, 6, .inl (p5))), (q 10, .inl (ca 1, 1600, .inl (n5))), (q 11, .inl (ca 1, 1600, .inl (x5)))] H locs := C
  rw [takeL_num] at ret
  exact ret ((b5, p5, n5, x5)) _ _ _ _ _ _ (Nat.le_refl _) (Nat.le_refl _) h5 C dM_leftOf_15
abbrev rm_M_string : Room := { frames := 7, cells := 0, slots := 0, locals := 161 }
set_option maxHeartbeats 4000000 in
set_option maxRecDepth 100000 in
theorem c_M_string (l : Launch) (D : va_G) (ca : Nat → ClassId) (s0 : State) (a0 : Array Value) (Z : Wd a0 s0) (h0 : Nat) (q : Nat → Nat) (th tz : Int32) (k0 k : Nat) (hk0 : k0 < 6) (hk : k < 16) (bt kd pl nw nx : Nat → Int32) (hkd : kd k0 = nI k) (c0 : Co) (hS : mS bt pl k0 c0) (hp0 : c0.2 < wid k) (rw : Nat → Int32) (fr n : Nat) (T : Nat → Nat) (hn : n ≤ 300) (hfr : fr ≤ 600) (hT : ∀ j, j < n → T j < 256 ∧ rw (fr + j) = nI (T j)) : CtV l yM_string [.code yM_string cM_string 6 none] rm_M_string 0 0 D ca s0 [.ref (h0), .int (nI k0), .ref (q 2), .int (nI fr), .int (nI n)] [(h0, .inr (3, mF q (th) (tz))), (q 3, .inl (ca 1, 9600, .inl (bt))), (q 4, .inl (ca 0, 6, .inl (kd))), (q 5, .inl (ca 0, 6, .inl (pl))), (q 10, .inl (ca 1, 1600, .inl (nw))), (q 11, .inl (ca 1, 1600, .inl (nx))), (q 2, .inl (ca 0, 900, .inl (rw)))] (S := (Nat → Int32) × (Nat → Int32) × (Nat → Int32) × (Nat → Int32)) (fun u => mR bt pl k0 (takeS (wid k) c0 T n) u.1 u.2.1) (fun u => [(h0, .inr (3, mF q th tz)), (q 3, .inl (ca 1, 9600, .inl u.1)), (q 4, .inl (ca 0, 6, .inl kd)), (q 5, .inl (ca 0, 6, .inl u.2.1)), (q 10, .inl (ca 1, 1600, .inl u.2.2.1)), (q 11, .inl (ca 1, 1600, .inl u.2.2.2)), (q 2, .inl (ca 0, 900, .inl rw))]) := by
  refine ctV_of (cc := cM_string) (maxL := 6) (own := RM) Z rfl (by decide) rfl (Nat.le_of_ble_eq_true rfl) ?_
  intro p e s m args below meth c A ls Q S hnm ret C hl
  have hx := S.1
  have hb := S.2.1
  have hown := S.2.2.2.1
  have hts := S.2.2.2.2
  generalize s.heap = H at C ⊢
  generalize ([] : List Loc) = locs at C ⊢
  replace hl : lv_has ls 6 [(0, .ref (h0)), (1, .int (nI k0)), (2, .ref (q 2)), (3, .int (nI fr)), (4, .int (nI n))] := hl
  refine lv_aload_n hx hb dM_string_0 rfl (lv_at hl 0 rfl) ?_
  refine lv_iload_n hx hb dM_string_1 rfl (lv_at hl 1 rfl) ?_
  refine lv_bipush (v := nI 8) hx hb dM_string_2 (by decide) ?_
  refine lv_iload hx hb dM_string_4 (lv_at hl 4 rfl) ?_
  refine n_mul S dM_string_6 ?_
  refine n_callV (wc := [(h0, .inr (3, mF q (th) (tz))), (q 3, .inl (ca 1, 9600, .inl (bt))), (q 4, .inl (ca 0, 6, .inl (kd))), (q 5, .inl (ca 0, 6, .inl (pl))), (q 10, .inl (ca 1, 1600, .inl (nw))), (q 11, .inl (ca 1, 1600, .inl (nx)))]) (wr := [(q 2, .inl (ca 0, 900, .inl (rw)))]) C [0, 1, 2, 3, 4, 5] [6] rfl rfl rfl rfl (by decide) (fun hp => va_runV (rest := []) S (c_M_leftOf l D ca s0 a0 Z h0 q th tz k0 k hk0 hk bt kd pl nw nx hkd (c0) (mR.rf hS).1 hp0 (8 * n) (by omega) _) (cwV 2 hts (gV g_348 g_349 g_12 g_34 g_350) rfl rfl rfl (by decide +kernel) ⟨Nat.le_of_ble_eq_true rfl, Nat.le_of_ble_eq_true rfl⟩) ⟨hp.1, n_recv C 0 3 rfl rfl, hp.2⟩ rfl rfl hl.1 rfl (lv_room (Nat.le_of_ble_eq_true rfl)) dM_string_7 ⟨Nat.le_of_ble_eq_true rfl, Nat.le_of_ble_eq_true rfl⟩) (fun u H locs hp C => ?_)
  replace C : Cx D ca s0 A s [(h0, .inr (3, mF q (th) (tz))), (q 3, .inl (ca 1, 9600, .inl (u.1))), (q 4, .inl (ca 0, 6, .inl (kd))), (q 5, .inl (ca 0, 6, .inl (u.2.1))), (q 10, .inl (ca 1, 1600, .inl (u.2.2.1))), (q 11, .inl (ca 1, 1600, .inl (u.2.2.2))), (q 2, .inl (ca 0, 900, .inl (rw)))] H locs := C.re [1, 2, 3, 4, 5, 6, 0] rfl rfl
  obtain ⟨b6, p6, n6, x6⟩ := u
  have h6 := (mR.rf hS).tr hp
  replace C : Cx D ca s0 A s [(h0, .inr (3, mF q (th) (tz))), (q 3, .inl (ca 1, 9600, .inl (b6))), (q 4, .inl (ca 0, 6, .inl (kd))), (q 5, .inl (ca 0, 6, .inl (p6))), (q 10, .inl (ca 1, 1600, .inl (n6))), (q 11, .inl (ca 1, 1600, .inl (x6))), (q 2, .inl (ca 0, 900, .inl (rw)))] H locs := C
  refine lv_iconst (v := nI 0) hx hb dM_string_10 (by decide) ?_
  refine lv_istore hx hb dM_string_11 hl (Nat.le_of_ble_eq_true rfl) rfl (fun ls hl => ?_)
  replace hl : lv_has ls 6 [(5, .int (nI 0)), (0, .ref (h0)), (1, .int (nI k0)), (2, .ref (q 2)), (3, .int (nI fr)), (4, .int (nI n))] := hl
  have lp13 : ∀ (nf : Nat) (i : Nat) (b1 : Nat → Int32) (p1 : Nat → Int32) (n1 : Nat → Int32) (x1 : Nat → Int32) (H : Heap) (locs : List Loc) (ls : Array Slot), n - i < nf → i ≤ n → mR bt pl k0 (takeR (wid k) (takeL (wid k) c0 (8 * n)) T i) b1 p1 → Cx D ca s0 A s [(h0, .inr (3, mF q (th) (tz))), (q 3, .inl (ca 1, 9600, .inl (b1))), (q 4, .inl (ca 0, 6, .inl (kd))), (q 5, .inl (ca 0, 6, .inl (p1))), (q 10, .inl (ca 1, 1600, .inl (n1))), (q 11, .inl (ca 1, 1600, .inl (x1))), (q 2, .inl (ca 0, 900, .inl (rw)))] H locs → lv_has ls 6 [(5, .int (nI i)), (0, .ref (h0)), (1, .int (nI k0)), (2, .ref (q 2)), (3, .int (nI fr)), (4, .int (nI n))] → W p l e rm_M_string s m args below meth c H locs 0 0 Q (F0 m 13 ls []) := by
    intro nf
    induction nf with
    | zero => intro i b1 p1 n1 x1 H locs ls hn; exact absurd hn (Nat.not_lt_zero _)
    | succ nf ih_lp13 =>
      intro i b1 p1 n1 x1 H locs ls hn lp13_le hI C hl
      refine lv_iload hx hb dM_string_13 (lv_at hl 0 rfl) ?_
      refine lv_iload hx hb dM_string_15 (lv_at hl 5 rfl) ?_
      refine n_icmp_ge (tgt := 37) S (by omega) (by omega) dM_string_17 (by decide) (fun hc17 => ?_) (fun hc17 => ?_)
      · skip
        exact ret ((b1, p1, n1, x1)) _ _ _ _ _ _ (Nat.le_refl _) (Nat.le_refl _) (show mR bt pl k0 (takeR (wid k) (takeL (wid k) c0 (8 * n)) T n) b1 p1 from (show i = n by omega) ▸ hI) C dM_string_37
      · skip
        refine lv_aload_n hx hb dM_string_20 rfl (lv_at hl 1 rfl) ?_
        refine lv_iload_n hx hb dM_string_21 rfl (lv_at hl 2 rfl) ?_
        refine lv_aload_n hx hb dM_string_22 rfl (lv_at hl 3 rfl) ?_
        refine lv_iload_n hx hb dM_string_23 rfl (lv_at hl 4 rfl) ?_
        refine lv_iload hx hb dM_string_24 (lv_at hl 0 rfl) ?_
        refine n_add S dM_string_26 ?_
        refine n_iald S C 6 rfl (i := fr + i) (by omega) (by decide) dM_string_27 ?_
        refine lv_topi (nm_r (e' := nI (T i)) ((hT i (by omega)).2) ?_)
        refine n_callV (wc := [(h0, .inr (3, mF q (th) (tz))), (q 3, .inl (ca 1, 9600, .inl (b1))), (q 4, .inl (ca 0, 6, .inl (kd))), (q 5, .inl (ca 0, 6, .inl (p1))), (q 10, .inl (ca 1, 1600, .inl (n1))), (q 11, .inl (ca 1, 1600, .inl (x1)))]) (wr := [(q 2, .inl (ca 0, 900, .inl (rw)))]) C [0, 1, 2, 3, 4, 5] [6] rfl rfl rfl rfl (by decide) (fun hp => va_runV (rest := []) S (c_M_comeIn l D ca s0 a0 Z h0 q th tz k0 k hk0 hk b1 kd p1 n1 x1 hkd (takeR (wid k) (takeL (wid k) c0 (8 * n)) T i) hI.1 (takeR_lt _ (takeL_lt _ hp0) i) (T i) (hT i (by omega)).1 _) (cwV 2 hts (gV g_354 g_355 g_13 g_34 g_356) rfl rfl rfl (by decide +kernel) ⟨Nat.le_of_ble_eq_true rfl, Nat.le_of_ble_eq_true rfl⟩) ⟨hp.1, n_recv C 0 3 rfl rfl, hp.2⟩ rfl rfl hl.1 rfl (lv_room (Nat.le_of_ble_eq_true rfl)) dM_string_28 ⟨Nat.le_of_ble_eq_true rfl, Nat.le_of_ble_eq_true rfl⟩) (fun u H locs hp C => ?_)
        replace C : Cx D ca s0 A s [(h0, .inr (3, mF q (th) (tz))), (q 3, .inl (ca 1, 9600, .inl (u.1))), (q 4, .inl (ca 0, 6, .inl (kd))), (q 5, .inl (ca 0, 6, .inl (u.2.1))), (q 10, .inl (ca 1, 1600, .inl (u.2.2.1))), (q 11, .inl (ca 1, 1600, .inl (u.2.2.2))), (q 2, .inl (ca 0, 900, .inl (rw)))] H locs := C.re [1, 2, 3, 4, 5, 6, 0] rfl rfl
        obtain ⟨b7, p7, n7, x7⟩ := u
        have h7 := hI.tr hp
        replace C : Cx D ca s0 A s [(h0, .inr (3, mF q (th) (tz))), (q 3, .inl (ca 1, 9600, .inl (b7))), (q 4, .inl (ca 0, 6, .inl (kd))), (q 5, .inl (ca 0, 6, .inl (p7))), (q 10, .inl (ca 1, 1600, .inl (n7))), (q 11, .inl (ca 1, 1600, .inl (x7))), (q 2, .inl (ca 0, 900, .inl (rw)))] H locs := C
        refine lv_iinc (k := 0) (v := nI (i + 1)) hx hb dM_string_31 hl rfl (n_inc1 _) (Nat.le_of_ble_eq_true rfl) rfl (fun ls hl => ?_)
        replace hl : lv_has ls 6 [(5, .int (nI (i + 1))), (0, .ref (h0)), (1, .int (nI k0)), (2, .ref (q 2)), (3, .int (nI fr)), (4, .int (nI n))] := hl
        refine lv_goto (tgt := 13) hx hb dM_string_34 (by decide) ?_
        exact ih_lp13 (i + 1) _ _ _ _ _ _ _ (by omega) (by omega) h7 C (lv_sub hl [0, 1, 2, 3, 4, 5] rfl)
  exact lp13 (n + 1) 0 _ _ _ _ _ _ _ (by omega) (by omega) h6 C (lv_sub hl [0, 1, 2, 3, 4, 5] rfl)
abbrev rm_M_fill : Room := { frames := 5, cells := 0, slots := 0, locals := 116 }
set_option maxHeartbeats 4000000 in
set_option maxRecDepth 100000 in
theorem c_M_fill (l : Launch) (D : va_G) (ca : Nat → ClassId) (s0 : State) (a0 : Array Value) (Z : Wd a0 s0) (h0 : Nat) (q : Nat → Nat) (th tz : Int32) (k0 k : Nat) (hk0 : k0 < 6) (hk : k < 16) (bt kd pl nw nx : Nat → Int32) (hkd : kd k0 = nI k) (c0 : Co) (hS : mS bt pl k0 c0) (hp0 : c0.2 < wid k)  : CtV l yM_fill [.code yM_fill cM_fill 2 none] rm_M_fill 0 0 D ca s0 [.ref (h0), .int (nI k0)] [(h0, .inr (3, mF q (th) (tz))), (q 3, .inl (ca 1, 9600, .inl (bt))), (q 4, .inl (ca 0, 6, .inl (kd))), (q 5, .inl (ca 0, 6, .inl (pl))), (q 10, .inl (ca 1, 1600, .inl (nw))), (q 11, .inl (ca 1, 1600, .inl (nx)))] (S := (Nat → Int32) × (Nat → Int32) × (Nat → Int32) × (Nat → Int32)) (fun u => mR bt pl k0 (fillU c0) u.1 u.2.1) (fun u => [(h0, .inr (3, mF q th tz)), (q 3, .inl (ca 1, 9600, .inl u.1)), (q 4, .inl (ca 0, 6, .inl kd)), (q 5, .inl (ca 0, 6, .inl u.2.1)), (q 10, .inl (ca 1, 1600, .inl u.2.2.1)), (q 11, .inl (ca 1, 1600, .inl u.2.2.2))]) := by
  refine ctV_of (cc := cM_fill) (maxL := 2) (own := RM) Z rfl (by decide) rfl (Nat.le_of_ble_eq_true rfl) ?_
  intro p e s m args below meth c A ls Q S hnm ret C hl
  have hx := S.1
  have hb := S.2.1
  have hown := S.2.2.2.1
  have hts := S.2.2.2.2
  generalize s.heap = H at C ⊢
  generalize ([] : List Loc) = locs at C ⊢
  replace hl : lv_has ls 2 [(0, .ref (h0)), (1, .int (nI k0))] := hl
  have hwi := wid_in k hk
  by_cases hz : c0.2 = 0
  · skip
    refine lv_aload_n hx hb dM_fill_0 rfl (lv_at hl 0 rfl) ?_
    refine n_get S C hin_M 0 rfl rfl 7 (by decide) g_409 rfl dM_fill_1 ?_
    refine lv_iload_n hx hb dM_fill_4 rfl (lv_at hl 1 rfl) ?_
    refine n_iald S C 3 rfl (i := k0) (by omega) (by decide) dM_fill_5 ?_
    refine lv_topi (nm_r (e' := nI c0.2) hS.2 ?_)
    refine n_if_eq (tgt := 18) S (by omega) dM_fill_6 (by decide) (fun hc => ?_) (fun hc => absurd hz hc)
    rw [show fillU c0 = c0 from if_pos hz] at ret
    exact ret ((bt, pl, nw, nx)) _ _ _ _ _ _ (Nat.le_refl _) (Nat.le_refl _) (mR.rf hS) C dM_fill_18
  · skip
    have lp0 : ∀ (nf : Nat) (i : Nat) (b1 : Nat → Int32) (p1 : Nat → Int32) (n1 : Nat → Int32) (x1 : Nat → Int32) (H : Heap) (locs : List Loc) (ls : Array Slot), wid k - i < nf → i ≤ wid k → 0 < i → mR bt pl k0 (fcore (wid k) c0.1 i) b1 p1 → Cx D ca s0 A s [(h0, .inr (3, mF q (th) (tz))), (q 3, .inl (ca 1, 9600, .inl (b1))), (q 4, .inl (ca 0, 6, .inl (kd))), (q 5, .inl (ca 0, 6, .inl (p1))), (q 10, .inl (ca 1, 1600, .inl (n1))), (q 11, .inl (ca 1, 1600, .inl (x1)))] H locs → lv_has ls 2 [(0, .ref (h0)), (1, .int (nI k0))] → W p l e rm_M_fill s m args below meth c H locs 0 0 Q (F0 m 0 ls []) := by
      intro nf
      induction nf with
      | zero => intro i b1 p1 n1 x1 H locs ls hn; exact absurd hn (Nat.not_lt_zero _)
      | succ nf ih_lp0 =>
        intro i b1 p1 n1 x1 H locs ls hn lp0_le hi0 hI C hl
        refine lv_aload_n hx hb dM_fill_0 rfl (lv_at hl 0 rfl) ?_
        refine n_get S C hin_M 0 rfl rfl 7 (by decide) g_409 rfl dM_fill_1 ?_
        refine lv_iload_n hx hb dM_fill_4 rfl (lv_at hl 1 rfl) ?_
        refine n_iald S C 3 rfl (i := k0) (by omega) (by decide) dM_fill_5 ?_
        refine lv_topi (nm_r (e' := nI (fcore (wid k) c0.1 i).2) hI.1.2 ?_)
        have hfl : (fcore (wid k) c0.1 i).2 < 2 ^ 31 := by unfold fcore; split <;> (show _ < 2 ^ 31) <;> omega
        refine n_if_eq (tgt := 18) S (by omega) dM_fill_6 (by decide) (fun hc6 => ?_) (fun hc6 => ?_)
        · skip
          rw [show fillU c0 = (kecc c0.1, 0) from if_neg hz] at ret
          exact ret ((b1, p1, n1, x1)) _ _ _ _ _ _ (Nat.le_refl _) (Nat.le_refl _) (by have hi1 : i = wid k := Classical.byContradiction (fun q => absurd (show i = 0 by rw [fcore_lt q] at hc6; exact hc6) (by omega)); unfold fcore at hI; rw [if_pos hi1] at hI; exact hI) C dM_fill_18
        · skip
          have hlt : i ≠ wid k := fun q => hc6 (by unfold fcore; rw [if_pos q])
          rw [fcore_lt hlt] at hI
          refine lv_aload_n hx hb dM_fill_9 rfl (lv_at hl 0 rfl) ?_
          refine lv_iload_n hx hb dM_fill_10 rfl (lv_at hl 1 rfl) ?_
          refine lv_iconst (v := nI 0) hx hb dM_fill_11 (by decide) ?_
          refine n_callV (wc := [(h0, .inr (3, mF q (th) (tz))), (q 3, .inl (ca 1, 9600, .inl (b1))), (q 4, .inl (ca 0, 6, .inl (kd))), (q 5, .inl (ca 0, 6, .inl (p1))), (q 10, .inl (ca 1, 1600, .inl (n1))), (q 11, .inl (ca 1, 1600, .inl (x1)))]) (wr := []) C [0, 1, 2, 3, 4, 5] [] rfl rfl rfl rfl (by decide) (fun hp => va_runV (rest := []) S (c_M_comeIn l D ca s0 a0 Z h0 q th tz k0 k hk0 hk b1 kd p1 n1 x1 hkd ((c0.1, i)) hI.1 (show i < wid k by omega) 0 (by decide) _) (cwV 2 hts (gV g_354 g_355 g_13 g_34 g_356) rfl rfl rfl (by decide +kernel) ⟨Nat.le_of_ble_eq_true rfl, Nat.le_of_ble_eq_true rfl⟩) ⟨hp.1, n_recv C 0 3 rfl rfl, hp.2⟩ rfl rfl hl.1 rfl (lv_room (Nat.le_of_ble_eq_true rfl)) dM_fill_12 ⟨Nat.le_of_ble_eq_true rfl, Nat.le_of_ble_eq_true rfl⟩) (fun u H locs hp C => ?_)
          replace C : Cx D ca s0 A s [(h0, .inr (3, mF q (th) (tz))), (q 3, .inl (ca 1, 9600, .inl (u.1))), (q 4, .inl (ca 0, 6, .inl (kd))), (q 5, .inl (ca 0, 6, .inl (u.2.1))), (q 10, .inl (ca 1, 1600, .inl (u.2.2.1))), (q 11, .inl (ca 1, 1600, .inl (u.2.2.2)))] H locs := C.re [0, 1, 2, 3, 4, 5] rfl rfl
          obtain ⟨b8, p8, n8, x8⟩ := u
          have h8 := hI.tr hp
          replace C : Cx D ca s0 A s [(h0, .inr (3, mF q (th) (tz))), (q 3, .inl (ca 1, 9600, .inl (b8))), (q 4, .inl (ca 0, 6, .inl (kd))), (q 5, .inl (ca 0, 6, .inl (p8))), (q 10, .inl (ca 1, 1600, .inl (n8))), (q 11, .inl (ca 1, 1600, .inl (x8)))] H locs := C
          refine lv_goto (tgt := 0) hx hb dM_fill_15 (by decide) ?_
          exact ih_lp0 (i + 1) _ _ _ _ _ _ _ (by omega) (by omega) (by omega) (fcore_s (w := wid k) (p := i) (A := c0.1) ▸ h8) C (lv_sub hl [0, 1] rfl)
    exact lp0 (wid k + 1) c0.2 _ _ _ _ _ _ _ (by omega) (by omega) (by omega) (by rw [fcore_lt (by omega)]; exact mR.rf hS) C (lv_sub hl [0, 1] rfl)
