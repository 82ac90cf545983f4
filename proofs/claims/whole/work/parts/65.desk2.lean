abbrev rm_x_K_feed : Room := { frames := 7, cells := 1, slots := 6, locals := 110 }
set_option maxHeartbeats 4000000 in
set_option maxRecDepth 100000 in
theorem x_K_feed (l : Launch) (D : va_G) (ca : Nat → ClassId) (s0 : State) (a0 : Array Value) (Z : Wd a0 s0) (hl0 : l.stackTraces = false) (sx : Nat → Nat) (Xs : XS sx s0) (d : Nat) (y : Int32) (hr : y < nI 1 ∨ nI 8 < y) (x : Int64) : CtX l yK_feed [.code yK_feed cK_feed 4 (some .int)] rm_x_K_feed 1 6 D ca s0 [.ref (d), .int (y), .long (x)] [] (xE 1) := by
  refine ctX_of (cc := cK_feed) (maxL := 4) (own := RK) (ret := (some .int)) Z rfl (by decide) rfl (Nat.le_of_ble_eq_true rfl) ?_
  intro p e s m args below meth c A ls Q S htb hlk hA hQ thr C hl
  have hx := S.1
  have hb := S.2.1
  have hown := S.2.2.2.1
  have hts := S.2.2.2.2
  generalize s.heap = H at C ⊢
  generalize ([] : List Loc) = locs at C ⊢
  replace hl : lv_has ls 4 [(0, .ref (d)), (1, .int (y)), (2, .long (x))] := hl
  refine lv_iload_n hx hb dK_feed_0 rfl (lv_at hl 1 rfl) ?_
  refine n_callP C (fun hp => va_runS (rest := []) S (c_K_isByteCount_no l D ca s0 a0 Z y hr _) (cwS 1 hts (gS g_101 g_102 g_30 g_103) rfl rfl rfl (by decide +kernel) ⟨Nat.le_of_ble_eq_true rfl, Nat.le_of_ble_eq_true rfl⟩) hp rfl rfl hl.1 rfl (lv_room (Nat.le_of_ble_eq_true rfl)) dK_feed_1 ⟨Nat.le_of_ble_eq_true rfl, Nat.le_of_ble_eq_true rfl⟩) (fun r u H locs hp C => ?_)
  subst hp
  exact n_callXP C (fun hp => vx_runS (rest := []) S (x_K_refuseUnless l D ca s0 a0 Z hl0 sx Xs _) (cwS 1 hts (gS g_104 g_105 g_30 g_106) rfl rfl rfl (by decide +kernel) ⟨Nat.le_of_ble_eq_true rfl, Nat.le_of_ble_eq_true rfl⟩) hp rfl rfl hl.1 rfl (lv_room (Nat.le_of_ble_eq_true rfl)) dK_feed_4 ⟨Nat.le_of_ble_eq_true rfl, Nat.le_of_ble_eq_true rfl⟩) (fun q9 ce H locs C c1 c2 c3 => thr q9 ce _ _ _ _ _ _ _ (Nat.le_of_ble_eq_true rfl) (Nat.le_of_ble_eq_true rfl) C c1 c2 c3)
abbrev rm_K_feed_ok : Room := { frames := 1, cells := 0, slots := 0, locals := 24 }
set_option maxHeartbeats 4000000 in
set_option maxRecDepth 100000 in
theorem c_K_feed_ok (l : Launch) (D : va_G) (ca : Nat → ClassId) (s0 : State) (a0 : Array Value) (Z : Wd a0 s0) (d : Nat) (g : Nat → Nat) (rb : Nat) (f : Nat → Int32) (T : Nat → Nat) (n : Nat) (hn : n ≤ 300) (hT : sb_Lat T n f) (k : Nat) (hk1 : 1 ≤ k) (hk : k ≤ 8) (x : Int64) (hfit : n + k ≤ 300) : CtI l yK_feed [.code yK_feed cK_feed 4 (some .int)] rm_K_feed_ok 0 0 D ca s0 [.ref (d), .int (nI k), .long (x)] [(d, .inr (2, kF g)), (g 0, .inr (0, [.ref (rb), .int (nI n)])), (rb, .inl (ca 3, 300, .inl (f)))] (S := Nat → Int32) (fun r u => r = nI (n + k) ∧ sb_Lat (sb_cat T n (byAt x)) (n + k) u) (fun u => [(d, .inr (2, kF g)), (g 0, .inr (0, [.ref (rb), .int (nI (n + k))])), (rb, .inl (ca 3, 300, .inl u))]) := by
  refine ctI_of (cc := cK_feed) (maxL := 4) (own := RK) Z rfl (by decide) rfl (Nat.le_of_ble_eq_true rfl) ?_
  intro p e s m args below meth c A ls Q S hnm ret C hl
  have hx := S.1
  have hb := S.2.1
  have hown := S.2.2.2.1
  have hts := S.2.2.2.2
  generalize s.heap = H at C ⊢
  generalize ([] : List Loc) = locs at C ⊢
  replace hl : lv_has ls 4 [(0, .ref (d)), (1, .int (nI k)), (2, .long (x))] := hl
  refine lv_iload_n hx hb dK_feed_0 rfl (lv_at hl 1 rfl) ?_
  refine n_callP C (fun hp => va_runS (rest := []) S (c_K_isByteCount l D ca s0 a0 Z k hk1 hk _) (cwS 1 hts (gS g_101 g_102 g_30 g_103) rfl rfl rfl (by decide +kernel) ⟨Nat.le_of_ble_eq_true rfl, Nat.le_of_ble_eq_true rfl⟩) hp rfl rfl hl.1 rfl (lv_room (Nat.le_of_ble_eq_true rfl)) dK_feed_1 ⟨Nat.le_of_ble_eq_true rfl, Nat.le_of_ble_eq_true rfl⟩) (fun r u H locs hp C => ?_)
  subst hp
  refine n_callPV C (fun hp => va_runS (rest := []) S (c_K_refuseUnless l D ca s0 a0 Z _) (cwS 1 hts (gS g_104 g_105 g_30 g_106) rfl rfl rfl (by decide +kernel) ⟨Nat.le_of_ble_eq_true rfl, Nat.le_of_ble_eq_true rfl⟩) hp rfl rfl hl.1 rfl (lv_room (Nat.le_of_ble_eq_true rfl)) dK_feed_4 ⟨Nat.le_of_ble_eq_true rfl, Nat.le_of_ble_eq_true rfl⟩) (fun u H locs hp C => ?_)
  refine lv_aload_n hx hb dK_feed_7 rfl (lv_at hl 0 rfl) ?_
  refine n_get S C hin_K 0 rfl rfl 0 (by decide) g_82 rfl dK_feed_8 ?_
  refine lv_iload_n hx hb dK_feed_11 rfl (lv_at hl 1 rfl) ?_
  refine n_callI (wc := [(g 0, .inr (0, [.ref (rb), .int (nI n)]))]) (wr := [(d, .inr (2, kF g)), (rb, .inl (ca 3, 300, .inl (f)))]) C [1] [0, 2] rfl rfl rfl rfl (by decide) (fun hp => va_runV (rest := []) S (c_R_hasRoomFor l D ca s0 a0 Z (g 0) rb n k hn hk _) (cwV 1 hts (gV g_141 g_142 g_143 g_31 g_144) rfl rfl rfl (by decide +kernel) ⟨Nat.le_of_ble_eq_true rfl, Nat.le_of_ble_eq_true rfl⟩) ⟨hp.1, n_recv C 1 0 rfl rfl, hp.2⟩ rfl rfl hl.1 rfl (lv_room (Nat.le_of_ble_eq_true rfl)) dK_feed_12 ⟨Nat.le_of_ble_eq_true rfl, Nat.le_of_ble_eq_true rfl⟩) (fun r u H locs hp C => ?_)
  replace C : Cx D ca s0 A s [(d, .inr (2, kF g)), (g 0, .inr (0, [.ref (rb), .int (nI n)])), (rb, .inl (ca 3, 300, .inl (f)))] H locs := C.re [0, 2, 1] rfl rfl
  subst hp
  refine lv_topi (nm_r (e' := nI 1) (by rw [decide_eq_true (by omega)]; rfl) ?_)
  refine n_if_eq (tgt := 30) S (by omega) dK_feed_15 (by decide) (fun hc => False.elim (by omega)) (fun hc => ?_)
  refine lv_aload_n hx hb dK_feed_18 rfl (lv_at hl 0 rfl) ?_
  refine n_get S C hin_K 0 rfl rfl 0 (by decide) g_82 rfl dK_feed_19 ?_
  refine lv_iload_n hx hb dK_feed_22 rfl (lv_at hl 1 rfl) ?_
  refine lv_lload_n hx hb dK_feed_23 rfl (lv_at hl 2 rfl) ?_
  refine n_callI (wc := [(g 0, .inr (0, [.ref (rb), .int (nI n)])), (rb, .inl (ca 3, 300, .inl (f)))]) (wr := [(d, .inr (2, kF g))]) C [1, 2] [0] rfl rfl rfl rfl (by decide) (fun hp => va_runV (rest := []) S (c_R_append l D ca s0 a0 Z (g 0) rb f T n hn hT k hk hfit x _) (cwV 2 hts (gV g_145 g_146 g_147 g_31 g_148) rfl rfl rfl (by decide +kernel) ⟨Nat.le_of_ble_eq_true rfl, Nat.le_of_ble_eq_true rfl⟩) ⟨hp.1, n_recv C 1 0 rfl rfl, hp.2⟩ rfl rfl hl.1 rfl (lv_room (Nat.le_of_ble_eq_true rfl)) dK_feed_24 ⟨Nat.le_of_ble_eq_true rfl, Nat.le_of_ble_eq_true rfl⟩) (fun r u H locs hp C => ?_)
  replace C : Cx D ca s0 A s [(d, .inr (2, kF g)), (g 0, .inr (0, [.ref (rb), .int (nI (n + k))])), (rb, .inl (ca 3, 300, .inl (u)))] H locs := C.re [0, 1, 2] rfl rfl
  obtain ⟨rfl, hp⟩ := hp
  refine lv_goto (tgt := 31) hx hb dK_feed_27 (by decide) ?_
  exact ret (nI (n + k)) u _ _ _ _ _ _ (Nat.le_refl _) (Nat.le_refl _) (⟨rfl, hp⟩) C dK_feed_31
abbrev rm_K_feed_full : Room := { frames := 1, cells := 0, slots := 0, locals := 21 }
set_option maxHeartbeats 4000000 in
set_option maxRecDepth 100000 in
theorem c_K_feed_full (l : Launch) (D : va_G) (ca : Nat → ClassId) (s0 : State) (a0 : Array Value) (Z : Wd a0 s0) (d : Nat) (g : Nat → Nat) (rb n : Nat) (hn : n ≤ 300) (k : Nat) (hk1 : 1 ≤ k) (hk : k ≤ 8) (x : Int64) (hfull : 300 < n + k) : CtI l yK_feed [.code yK_feed cK_feed 4 (some .int)] rm_K_feed_full 0 0 D ca s0 [.ref (d), .int (nI k), .long (x)] [(d, .inr (2, kF g)), (g 0, .inr (0, [.ref (rb), .int (nI n)]))] (S := Unit) (fun r _ => r = -1) (fun _ => [(d, .inr (2, kF g)), (g 0, .inr (0, [.ref (rb), .int (nI n)]))]) := by
  refine ctI_of (cc := cK_feed) (maxL := 4) (own := RK) Z rfl (by decide) rfl (Nat.le_of_ble_eq_true rfl) ?_
  intro p e s m args below meth c A ls Q S hnm ret C hl
  have hx := S.1
  have hb := S.2.1
  have hown := S.2.2.2.1
  have hts := S.2.2.2.2
  generalize s.heap = H at C ⊢
  generalize ([] : List Loc) = locs at C ⊢
  replace hl : lv_has ls 4 [(0, .ref (d)), (1, .int (nI k)), (2, .long (x))] := hl
  refine lv_iload_n hx hb dK_feed_0 rfl (lv_at hl 1 rfl) ?_
  refine n_callP C (fun hp => va_runS (rest := []) S (c_K_isByteCount l D ca s0 a0 Z k hk1 hk _) (cwS 1 hts (gS g_101 g_102 g_30 g_103) rfl rfl rfl (by decide +kernel) ⟨Nat.le_of_ble_eq_true rfl, Nat.le_of_ble_eq_true rfl⟩) hp rfl rfl hl.1 rfl (lv_room (Nat.le_of_ble_eq_true rfl)) dK_feed_1 ⟨Nat.le_of_ble_eq_true rfl, Nat.le_of_ble_eq_true rfl⟩) (fun r u H locs hp C => ?_)
  subst hp
  refine n_callPV C (fun hp => va_runS (rest := []) S (c_K_refuseUnless l D ca s0 a0 Z _) (cwS 1 hts (gS g_104 g_105 g_30 g_106) rfl rfl rfl (by decide +kernel) ⟨Nat.le_of_ble_eq_true rfl, Nat.le_of_ble_eq_true rfl⟩) hp rfl rfl hl.1 rfl (lv_room (Nat.le_of_ble_eq_true rfl)) dK_feed_4 ⟨Nat.le_of_ble_eq_true rfl, Nat.le_of_ble_eq_true rfl⟩) (fun u H locs hp C => ?_)
  refine lv_aload_n hx hb dK_feed_7 rfl (lv_at hl 0 rfl) ?_
  refine n_get S C hin_K 0 rfl rfl 0 (by decide) g_82 rfl dK_feed_8 ?_
  refine lv_iload_n hx hb dK_feed_11 rfl (lv_at hl 1 rfl) ?_
  refine n_callI (wc := [(g 0, .inr (0, [.ref (rb), .int (nI n)]))]) (wr := [(d, .inr (2, kF g))]) C [1] [0] rfl rfl rfl rfl (by decide) (fun hp => va_runV (rest := []) S (c_R_hasRoomFor l D ca s0 a0 Z (g 0) rb n k hn hk _) (cwV 1 hts (gV g_141 g_142 g_143 g_31 g_144) rfl rfl rfl (by decide +kernel) ⟨Nat.le_of_ble_eq_true rfl, Nat.le_of_ble_eq_true rfl⟩) ⟨hp.1, n_recv C 1 0 rfl rfl, hp.2⟩ rfl rfl hl.1 rfl (lv_room (Nat.le_of_ble_eq_true rfl)) dK_feed_12 ⟨Nat.le_of_ble_eq_true rfl, Nat.le_of_ble_eq_true rfl⟩) (fun r u H locs hp C => ?_)
  replace C : Cx D ca s0 A s [(d, .inr (2, kF g)), (g 0, .inr (0, [.ref (rb), .int (nI n)]))] H locs := C.re [0, 1] rfl rfl
  subst hp
  refine lv_topi (nm_r (e' := nI 0) (by rw [decide_eq_false (by omega)]; rfl) ?_)
  refine n_if_eq (tgt := 30) S (by omega) dK_feed_15 (by decide) (fun hc => ?_) (fun hc => False.elim (by omega))
  refine lv_iconst (v := (-1)) hx hb dK_feed_30 (by decide) ?_
  exact ret ((-1)) (()) _ _ _ _ _ _ (Nat.le_refl _) (Nat.le_refl _) rfl C dK_feed_31
abbrev rm_K_wipe : Room := { frames := 0, cells := 0, slots := 0, locals := 0 }
set_option maxHeartbeats 4000000 in
set_option maxRecDepth 100000 in
theorem c_K_wipe (l : Launch) (D : va_G) (ca : Nat → ClassId) (s0 : State) (a0 : Array Value) (Z : Wd a0 s0) (d : Nat) (g : Nat → Nat) (rb n : Nat) : CtI l yK_wipe [.code yK_wipe cK_wipe 2 (some .int)] rm_K_wipe 0 0 D ca s0 [.ref (d)] [(d, .inr (2, kF g)), (g 0, .inr (0, [.ref (rb), .int (nI n)]))] (S := Unit) (fun r _ => r = nI n) (fun _ => [(d, .inr (2, kF g)), (g 0, .inr (0, [.ref (rb), .int (nI 0)]))]) := by
  refine ctI_of (cc := cK_wipe) (maxL := 2) (own := RK) Z rfl (by decide) rfl (Nat.le_of_ble_eq_true rfl) ?_
  intro p e s m args below meth c A ls Q S hnm ret C hl
  have hx := S.1
  have hb := S.2.1
  have hown := S.2.2.2.1
  have hts := S.2.2.2.2
  generalize s.heap = H at C ⊢
  generalize ([] : List Loc) = locs at C ⊢
  replace hl : lv_has ls 2 [(0, .ref (d))] := hl
  refine lv_aload_n hx hb dK_wipe_0 rfl (lv_at hl 0 rfl) ?_
  refine n_get S C hin_K 0 rfl rfl 0 (by decide) g_82 rfl dK_wipe_1 ?_
  refine n_getN S C Z hin_R 1 rfl rfl 1 (by decide) t_2 rfl dK_wipe_4 ?_
  refine lv_istore_n hx hb dK_wipe_7 rfl hl (Nat.le_of_ble_eq_true rfl) rfl (fun ls hl => ?_)
  replace hl : lv_has ls 2 [(1, .int (nI n)), (0, .ref (d))] := hl
  refine lv_aload_n hx hb dK_wipe_8 rfl (lv_at hl 1 rfl) ?_
  refine n_get S C hin_K 0 rfl rfl 0 (by decide) g_82 rfl dK_wipe_9 ?_
  refine lv_iconst (v := nI 0) hx hb dK_wipe_12 (by decide) ?_
  refine n_putN S C Z hin_R tyR tyR_ok nmR 1 rfl rfl 1 (by decide) t_2 rfl rfl rfl rfl (Nat.le_of_ble_eq_true rfl) dK_wipe_13 (fun H locs C => ?_)
  replace C : Cx D ca s0 A s [(d, .inr (2, kF g)), (g 0, .inr (0, [.ref (rb), .int (nI 0)]))] H locs := C
  refine lv_iload_n hx hb dK_wipe_16 rfl (lv_at hl 0 rfl) ?_
  exact ret (nI n) (()) _ _ _ _ _ _ (Nat.le_refl _) (Nat.le_refl _) rfl C dK_wipe_17
abbrev rm_x_K_let : Room := { frames := 7, cells := 1, slots := 6, locals := 110 }
set_option maxHeartbeats 4000000 in
set_option maxRecDepth 100000 in
theorem x_K_let (l : Launch) (D : va_G) (ca : Nat → ClassId) (s0 : State) (a0 : Array Value) (Z : Wd a0 s0) (hl0 : l.stackTraces = false) (sx : Nat → Nat) (Xs : XS sx s0) (d : Nat) (y : Int32) (hr : y < 0 ∨ nI 2 < y) : CtX l yK_let [.code yK_let cK_let 3 (some .int)] rm_x_K_let 1 6 D ca s0 [.ref (d), .int (y)] [] (xE 1) := by
  refine ctX_of (cc := cK_let) (maxL := 3) (own := RK) (ret := (some .int)) Z rfl (by decide) rfl (Nat.le_of_ble_eq_true rfl) ?_
  intro p e s m args below meth c A ls Q S htb hlk hA hQ thr C hl
  have hx := S.1
  have hb := S.2.1
  have hown := S.2.2.2.1
  have hts := S.2.2.2.2
  generalize s.heap = H at C ⊢
  generalize ([] : List Loc) = locs at C ⊢
  replace hl : lv_has ls 3 [(0, .ref (d)), (1, .int (y))] := hl
  refine lv_iload_n hx hb dK_let_0 rfl (lv_at hl 1 rfl) ?_
  refine lv_if_lt (tgt := 13) hx hb dK_let_1 (by decide) (fun hc1 => ?_) (fun hc1 => ?_)
  · skip
    refine lv_iconst (v := nI 0) hx hb dK_let_13 (by decide) ?_
    exact n_callXP C (fun hp => vx_runS (rest := []) S (x_K_refuseUnless l D ca s0 a0 Z hl0 sx Xs _) (cwS 1 hts (gS g_104 g_105 g_30 g_106) rfl rfl rfl (by decide +kernel) ⟨Nat.le_of_ble_eq_true rfl, Nat.le_of_ble_eq_true rfl⟩) hp rfl rfl hl.1 rfl (lv_room (Nat.le_of_ble_eq_true rfl)) dK_let_14 ⟨Nat.le_of_ble_eq_true rfl, Nat.le_of_ble_eq_true rfl⟩) (fun q9 ce H locs C c1 c2 c3 => thr q9 ce _ _ _ _ _ _ _ (Nat.le_of_ble_eq_true rfl) (Nat.le_of_ble_eq_true rfl) C c1 c2 c3)
  · skip
    refine lv_iload_n hx hb dK_let_4 rfl (lv_at hl 1 rfl) ?_
    refine lv_iconst (v := nI 2) hx hb dK_let_5 (by decide) ?_
    refine lv_icmp_gt (tgt := 13) hx hb dK_let_6 (by decide) (fun hc => ?_) (fun hc => absurd (hr.resolve_left hc1) hc)
    refine lv_iconst (v := nI 0) hx hb dK_let_13 (by decide) ?_
    exact n_callXP C (fun hp => vx_runS (rest := []) S (x_K_refuseUnless l D ca s0 a0 Z hl0 sx Xs _) (cwS 1 hts (gS g_104 g_105 g_30 g_106) rfl rfl rfl (by decide +kernel) ⟨Nat.le_of_ble_eq_true rfl, Nat.le_of_ble_eq_true rfl⟩) hp rfl rfl hl.1 rfl (lv_room (Nat.le_of_ble_eq_true rfl)) dK_let_14 ⟨Nat.le_of_ble_eq_true rfl, Nat.le_of_ble_eq_true rfl⟩) (fun q9 ce H locs C c1 c2 c3 => thr q9 ce _ _ _ _ _ _ _ (Nat.le_of_ble_eq_true rfl) (Nat.le_of_ble_eq_true rfl) C c1 c2 c3)
abbrev rm_K_let_ok1 : Room := { frames := 2, cells := 0, slots := 0, locals := 81 }
set_option maxHeartbeats 4000000 in
set_option maxRecDepth 100000 in
theorem c_K_let_ok1 (l : Launch) (D : va_G) (ca : Nat → ClassId) (s0 : State) (a0 : Array Value) (Z : Wd a0 s0) (d : Nat) (g : Nat → Nat) (rb : Nat) (f : Nat → Int32) (T : Nat → Nat) (n : Nat) (hn : n ≤ 300) (hT : sb_Lat T n f) (rj : Nat) (fj : Nat → Int32) (nj : Nat) : CtI l yK_let [.code yK_let cK_let 3 (some .int)] rm_K_let_ok1 0 0 D ca s0 [.ref (d), .int (nI 0)] [(d, .inr (2, kF g)), (g 1, .inr (0, [.ref (rj), .int (nI nj)])), (rj, .inl (ca 3, 300, .inl (fj))), (g 0, .inr (0, [.ref (rb), .int (nI n)])), (rb, .inl (ca 3, 300, .inl (f)))] (S := Nat → Int32) (fun r u => r = nI n ∧ sb_Lat T n u) (fun u => [(d, .inr (2, kF g)), (g 1, .inr (0, [.ref (rj), .int (nI n)])), (rj, .inl (ca 3, 300, .inl u)), (g 0, .inr (0, [.ref (rb), .int (nI 0)])), (rb, .inl (ca 3, 300, .inl f))]) := by
  refine ctI_of (cc := cK_let) (maxL := 3) (own := RK) Z rfl (by decide) rfl (Nat.le_of_ble_eq_true rfl) ?_
  intro p e s m args below meth c A ls Q S hnm ret C hl
  have hx := S.1
  have hb := S.2.1
  have hown := S.2.2.2.1
  have hts := S.2.2.2.2
  generalize s.heap = H at C ⊢
  generalize ([] : List Loc) = locs at C ⊢
  replace hl : lv_has ls 3 [(0, .ref (d)), (1, .int (nI 0))] := hl
  refine lv_iload_n hx hb dK_let_0 rfl (lv_at hl 1 rfl) ?_
  refine n_if_lt (tgt := 13) S (by omega) dK_let_1 (by decide) (fun hc => hc.elim) (fun hc => ?_)
  refine lv_iload_n hx hb dK_let_4 rfl (lv_at hl 1 rfl) ?_
  refine lv_iconst (v := nI 2) hx hb dK_let_5 (by decide) ?_
  refine n_icmp_gt (tgt := 13) S (by omega) (by omega) dK_let_6 (by decide) (fun hc => False.elim (by omega)) (fun hc => ?_)
  refine lv_iconst (v := nI 1) hx hb dK_let_9 (by decide) ?_
  refine lv_goto (tgt := 14) hx hb dK_let_10 (by decide) ?_
  refine n_callPV C (fun hp => va_runS (rest := []) S (c_K_refuseUnless l D ca s0 a0 Z _) (cwS 1 hts (gS g_104 g_105 g_30 g_106) rfl rfl rfl (by decide +kernel) ⟨Nat.le_of_ble_eq_true rfl, Nat.le_of_ble_eq_true rfl⟩) hp rfl rfl hl.1 rfl (lv_room (Nat.le_of_ble_eq_true rfl)) dK_let_14 ⟨Nat.le_of_ble_eq_true rfl, Nat.le_of_ble_eq_true rfl⟩) (fun u H locs hp C => ?_)
  refine lv_iload_n hx hb dK_let_17 rfl (lv_at hl 1 rfl) ?_
  refine n_if_ne (tgt := 28) S (by omega) dK_let_18 (by decide) (fun hc => False.elim (by omega)) (fun hc => ?_)
  refine lv_aload_n hx hb dK_let_21 rfl (lv_at hl 0 rfl) ?_
  refine n_get S C hin_K 0 rfl rfl 1 (by decide) g_83 rfl dK_let_22 ?_
  refine lv_goto (tgt := 44) hx hb dK_let_25 (by decide) ?_
  refine lv_astore_n hx hb dK_let_44 rfl hl (Nat.le_of_ble_eq_true rfl) rfl (fun ls hl => ?_)
  replace hl : lv_has ls 3 [(2, .ref (g 1)), (0, .ref (d)), (1, .int (nI 0))] := hl
  refine lv_aload_n hx hb dK_let_45 rfl (lv_at hl 0 rfl) ?_
  refine lv_aload_n hx hb dK_let_46 rfl (lv_at hl 1 rfl) ?_
  refine n_get S C hin_K 0 rfl rfl 0 (by decide) g_82 rfl dK_let_47 ?_
  refine n_callV (wc := [(g 1, .inr (0, [.ref (rj), .int (nI nj)])), (rj, .inl (ca 3, 300, .inl (fj))), (g 0, .inr (0, [.ref (rb), .int (nI n)])), (rb, .inl (ca 3, 300, .inl (f)))]) (wr := [(d, .inr (2, kF g))]) C [1, 2, 3, 4] [0] rfl rfl rfl rfl (by decide) (fun hp => va_runV (rest := []) S (c_R_becomeLike l D ca s0 a0 Z (g 1) rj fj nj (g 0) rb f T n hn hT _) (cwV 1 hts (gV g_156 g_157 g_158 g_31 g_159) rfl rfl rfl (by decide +kernel) ⟨Nat.le_of_ble_eq_true rfl, Nat.le_of_ble_eq_true rfl⟩) ⟨hp.1, n_recv C 1 0 rfl rfl, hp.2⟩ rfl rfl hl.1 rfl (lv_room (Nat.le_of_ble_eq_true rfl)) dK_let_50 ⟨Nat.le_of_ble_eq_true rfl, Nat.le_of_ble_eq_true rfl⟩) (fun u H locs hp C => ?_)
  replace C : Cx D ca s0 A s [(d, .inr (2, kF g)), (g 1, .inr (0, [.ref (rj), .int (nI n)])), (rj, .inl (ca 3, 300, .inl (u))), (g 0, .inr (0, [.ref (rb), .int (nI n)])), (rb, .inl (ca 3, 300, .inl (f)))] H locs := C.re [0, 1, 2, 3, 4] rfl rfl
  refine lv_aload_n hx hb dK_let_53 rfl (lv_at hl 1 rfl) ?_
  refine n_get S C hin_K 0 rfl rfl 0 (by decide) g_82 rfl dK_let_54 ?_
  refine lv_iconst (v := nI 0) hx hb dK_let_57 (by decide) ?_
  refine n_putN S C Z hin_R tyR tyR_ok nmR 3 rfl rfl 1 (by decide) t_2 rfl rfl rfl rfl (Nat.le_of_ble_eq_true rfl) dK_let_58 (fun H locs C => ?_)
  replace C : Cx D ca s0 A s [(d, .inr (2, kF g)), (g 1, .inr (0, [.ref (rj), .int (nI n)])), (rj, .inl (ca 3, 300, .inl (u))), (g 0, .inr (0, [.ref (rb), .int (nI 0)])), (rb, .inl (ca 3, 300, .inl (f)))] H locs := C
  refine lv_aload_n hx hb dK_let_61 rfl (lv_at hl 0 rfl) ?_
  refine n_getN S C Z hin_R 1 rfl rfl 1 (by decide) t_2 rfl dK_let_62 ?_
  exact ret (nI n) u _ _ _ _ _ _ (Nat.le_refl _) (Nat.le_refl _) (⟨rfl, hp⟩) C dK_let_65
abbrev rm_K_let_ok2 : Room := { frames := 2, cells := 0, slots := 0, locals := 81 }
set_option maxHeartbeats 4000000 in
set_option maxRecDepth 100000 in
theorem c_K_let_ok2 (l : Launch) (D : va_G) (ca : Nat → ClassId) (s0 : State) (a0 : Array Value) (Z : Wd a0 s0) (d : Nat) (g : Nat → Nat) (rb : Nat) (f : Nat → Int32) (T : Nat → Nat) (n : Nat) (hn : n ≤ 300) (hT : sb_Lat T n f) (rj : Nat) (fj : Nat → Int32) (nj : Nat) : CtI l yK_let [.code yK_let cK_let 3 (some .int)] rm_K_let_ok2 0 0 D ca s0 [.ref (d), .int (nI 1)] [(d, .inr (2, kF g)), (g 2, .inr (0, [.ref (rj), .int (nI nj)])), (rj, .inl (ca 3, 300, .inl (fj))), (g 0, .inr (0, [.ref (rb), .int (nI n)])), (rb, .inl (ca 3, 300, .inl (f)))] (S := Nat → Int32) (fun r u => r = nI n ∧ sb_Lat T n u) (fun u => [(d, .inr (2, kF g)), (g 2, .inr (0, [.ref (rj), .int (nI n)])), (rj, .inl (ca 3, 300, .inl u)), (g 0, .inr (0, [.ref (rb), .int (nI 0)])), (rb, .inl (ca 3, 300, .inl f))]) := by
  refine ctI_of (cc := cK_let) (maxL := 3) (own := RK) Z rfl (by decide) rfl (Nat.le_of_ble_eq_true rfl) ?_
  intro p e s m args below meth c A ls Q S hnm ret C hl
  have hx := S.1
  have hb := S.2.1
  have hown := S.2.2.2.1
  have hts := S.2.2.2.2
  generalize s.heap = H at C ⊢
  generalize ([] : List Loc) = locs at C ⊢
  replace hl : lv_has ls 3 [(0, .ref (d)), (1, .int (nI 1))] := hl
  refine lv_iload_n hx hb dK_let_0 rfl (lv_at hl 1 rfl) ?_
  refine n_if_lt (tgt := 13) S (by omega) dK_let_1 (by decide) (fun hc => hc.elim) (fun hc => ?_)
  refine lv_iload_n hx hb dK_let_4 rfl (lv_at hl 1 rfl) ?_
  refine lv_iconst (v := nI 2) hx hb dK_let_5 (by decide) ?_
  refine n_icmp_gt (tgt := 13) S (by omega) (by omega) dK_let_6 (by decide) (fun hc => False.elim (by omega)) (fun hc => ?_)
  refine lv_iconst (v := nI 1) hx hb dK_let_9 (by decide) ?_
  refine lv_goto (tgt := 14) hx hb dK_let_10 (by decide) ?_
  refine n_callPV C (fun hp => va_runS (rest := []) S (c_K_refuseUnless l D ca s0 a0 Z _) (cwS 1 hts (gS g_104 g_105 g_30 g_106) rfl rfl rfl (by decide +kernel) ⟨Nat.le_of_ble_eq_true rfl, Nat.le_of_ble_eq_true rfl⟩) hp rfl rfl hl.1 rfl (lv_room (Nat.le_of_ble_eq_true rfl)) dK_let_14 ⟨Nat.le_of_ble_eq_true rfl, Nat.le_of_ble_eq_true rfl⟩) (fun u H locs hp C => ?_)
  refine lv_iload_n hx hb dK_let_17 rfl (lv_at hl 1 rfl) ?_
  refine n_if_ne (tgt := 28) S (by omega) dK_let_18 (by decide) (fun hc => ?_) (fun hc => False.elim (by omega))
  refine lv_iload_n hx hb dK_let_28 rfl (lv_at hl 1 rfl) ?_
  refine lv_iconst (v := nI 1) hx hb dK_let_29 (by decide) ?_
  refine n_icmp_ne (tgt := 40) S (by omega) (by omega) dK_let_30 (by decide) (fun hc => False.elim (by omega)) (fun hc => ?_)
  refine lv_aload_n hx hb dK_let_33 rfl (lv_at hl 0 rfl) ?_
  refine n_get S C hin_K 0 rfl rfl 2 (by decide) g_84 rfl dK_let_34 ?_
  refine lv_goto (tgt := 44) hx hb dK_let_37 (by decide) ?_
  refine lv_astore_n hx hb dK_let_44 rfl hl (Nat.le_of_ble_eq_true rfl) rfl (fun ls hl => ?_)
  replace hl : lv_has ls 3 [(2, .ref (g 2)), (0, .ref (d)), (1, .int (nI 1))] := hl
  refine lv_aload_n hx hb dK_let_45 rfl (lv_at hl 0 rfl) ?_
  refine lv_aload_n hx hb dK_let_46 rfl (lv_at hl 1 rfl) ?_
  refine n_get S C hin_K 0 rfl rfl 0 (by decide) g_82 rfl dK_let_47 ?_
  refine n_callV (wc := [(g 2, .inr (0, [.ref (rj), .int (nI nj)])), (rj, .inl (ca 3, 300, .inl (fj))), (g 0, .inr (0, [.ref (rb), .int (nI n)])), (rb, .inl (ca 3, 300, .inl (f)))]) (wr := [(d, .inr (2, kF g))]) C [1, 2, 3, 4] [0] rfl rfl rfl rfl (by decide) (fun hp => va_runV (rest := []) S (c_R_becomeLike l D ca s0 a0 Z (g 2) rj fj nj (g 0) rb f T n hn hT _) (cwV 1 hts (gV g_156 g_157 g_158 g_31 g_159) rfl rfl rfl (by decide +kernel) ⟨Nat.le_of_ble_eq_true rfl, Nat.le_of_ble_eq_true rfl⟩) ⟨hp.1, n_recv C 1 0 rfl rfl, hp.2⟩ rfl rfl hl.1 rfl (lv_room (Nat.le_of_ble_eq_true rfl)) dK_let_50 ⟨Nat.le_of_ble_eq_true rfl, Nat.le_of_ble_eq_true rfl⟩) (fun u H locs hp C => ?_)
  replace C : Cx D ca s0 A s [(d, .inr (2, kF g)), (g 2, .inr (0, [.ref (rj), .int (nI n)])), (rj, .inl (ca 3, 300, .inl (u))), (g 0, .inr (0, [.ref (rb), .int (nI n)])), (rb, .inl (ca 3, 300, .inl (f)))] H locs := C.re [0, 1, 2, 3, 4] rfl rfl
  refine lv_aload_n hx hb dK_let_53 rfl (lv_at hl 1 rfl) ?_
  refine n_get S C hin_K 0 rfl rfl 0 (by decide) g_82 rfl dK_let_54 ?_
  refine lv_iconst (v := nI 0) hx hb dK_let_57 (by decide) ?_
  refine n_putN S C Z hin_R tyR tyR_ok nmR 3 rfl rfl 1 (by decide) t_2 rfl rfl rfl rfl (Nat.le_of_ble_eq_true rfl) dK_let_58 (fun H locs C => ?_)
  replace C : Cx D ca s0 A s [(d, .inr (2, kF g)), (g 2, .inr (0, [.ref (rj), .int (nI n)])), (rj, .inl (ca 3, 300, .inl (u))), (g 0, .inr (0, [.ref (rb), .int (nI 0)])), (rb, .inl (ca 3, 300, .inl (f)))] H locs := C
  refine lv_aload_n hx hb dK_let_61 rfl (lv_at hl 0 rfl) ?_
  refine n_getN S C Z hin_R 1 rfl rfl 1 (by decide) t_2 rfl dK_let_62 ?_
  exact ret (nI n) u _ _ _ _ _ _ (Nat.le_refl _) (Nat.le_refl _) (⟨rfl, hp⟩) C dK_let_65
abbrev rm_K_let_ok3 : Room := { frames := 2, cells := 0, slots := 0, locals := 81 }
set_option maxHeartbeats 4000000 in
set_option maxRecDepth 100000 in
theorem c_K_let_ok3 (l : Launch) (D : va_G) (ca : Nat → ClassId) (s0 : State) (a0 : Array Value) (Z : Wd a0 s0) (d : Nat) (g : Nat → Nat) (rb : Nat) (f : Nat → Int32) (T : Nat → Nat) (n : Nat) (hn : n ≤ 300) (hT : sb_Lat T n f) (rj : Nat) (fj : Nat → Int32) (nj : Nat) : CtI l yK_let [.code yK_let cK_let 3 (some .int)] rm_K_let_ok3 0 0 D ca s0 [.ref (d), .int (nI 2)] [(d, .inr (2, kF g)), (g 3, .inr (0, [.ref (rj), .int (nI nj)])), (rj, .inl (ca 3, 300, .inl (fj))), (g 0, .inr (0, [.ref (rb), .int (nI n)])), (rb, .inl (ca 3, 300, .inl (f)))] (S := Nat → Int32) (fun r u => r = nI n ∧ sb_Lat T n u) (fun u => [(d, .inr (2, kF g)), (g 3, .inr (0, [.ref (rj), .int (nI n)])), (rj, .inl (ca 3, 300, .inl u)), (g 0, .inr (0, [.ref (rb), .int (nI 0)])), (rb, .inl (ca 3, 300, .inl f))]) := by
  refine ctI_of (cc := cK_let) (maxL := 3) (own := RK) Z rfl (by decide) rfl (Nat.le_of_ble_eq_true rfl) ?_
  intro p e s m args below meth c A ls Q S hnm ret C hl
  have hx := S.1
  have hb := S.2.1
  have hown := S.2.2.2.1
  have hts := S.2.2.2.2
  generalize s.heap = H at C ⊢
  generalize ([] : List Loc) = locs at C ⊢
  replace hl : lv_has ls 3 [(0, .ref (d)), (1, .int (nI 2))] := hl
  refine lv_iload_n hx hb dK_let_0 rfl (lv_at hl 1 rfl) ?_
  refine n_if_lt (tgt := 13) S (by omega) dK_let_1 (by decide) (fun hc => hc.elim) (fun hc => ?_)
  refine lv_iload_n hx hb dK_let_4 rfl (lv_at hl 1 rfl) ?_
  refine lv_iconst (v := nI 2) hx hb dK_let_5 (by decide) ?_
  refine n_icmp_gt (tgt := 13) S (by omega) (by omega) dK_let_6 (by decide) (fun hc => False.elim (by omega)) (fun hc => ?_)
  refine lv_iconst (v := nI 1) hx hb dK_let_9 (by decide) ?_
  refine lv_goto (tgt := 14) hx hb dK_let_10 (by decide) ?_
  refine n_callPV C (fun hp => va_runS (rest := []) S (c_K_refuseUnless l D ca s0 a0 Z _) (cwS 1 hts (gS g_104 g_105 g_30 g_106) rfl rfl rfl (by decide +kernel) ⟨Nat.le_of_ble_eq_true rfl, Nat.le_of_ble_eq_true rfl⟩) hp rfl rfl hl.1 rfl (lv_room (Nat.le_of_ble_eq_true rfl)) dK_let_14 ⟨Nat.le_of_ble_eq_true rfl, Nat.le_of_ble_eq_true rfl⟩) (fun u H locs hp C => ?_)
  refine lv_iload_n hx hb dK_let_17 rfl (lv_at hl 1 rfl) ?_
  refine n_if_ne (tgt := 28) S (by omega) dK_let_18 (by decide) (fun hc => ?_) (fun hc => False.elim (by omega))
  refine lv_iload_n hx hb dK_let_28 rfl (lv_at hl 1 rfl) ?_
  refine lv_iconst (v := nI 1) hx hb dK_let_29 (by decide) ?_
  refine n_icmp_ne (tgt := 40) S (by omega) (by omega) dK_let_30 (by decide) (fun hc => ?_) (fun hc => False.elim (by omega))
  refine lv_aload_n hx hb dK_let_40 rfl (lv_at hl 0 rfl) ?_
  refine n_get S C hin_K 0 rfl rfl 3 (by decide) g_85 rfl dK_let_41 ?_
  refine lv_astore_n hx hb dK_let_44 rfl hl (Nat.le_of_ble_eq_true rfl) rfl (fun ls hl => ?_)
  replace hl : lv_has ls 3 [(2, .ref (g 3)), (0, .ref (d)), (1, .int (nI 2))] := hl
  refine lv_aload_n hx hb dK_let_45 rfl (lv_at hl 0 rfl) ?_
  refine lv_aload_n hx hb dK_let_46 rfl (lv_at hl 1 rfl) ?_
  refine n_get S C hin_K 0 rfl rfl 0 (by decide) g_82 rfl dK_let_47 ?_
  refine n_callV (wc := [(g 3, .inr (0, [.ref (rj), .int (nI nj)])), (rj, .inl (ca 3, 300, .inl (fj))), (g 0, .inr (0, [.ref (rb), .int (nI n)])), (rb, .inl (ca 3, 300, .inl (f)))]) (wr := [(d, .inr (2, kF g))]) C [1, 2, 3, 4] [0] rfl rfl rfl rfl (by decide) (fun hp => va_runV (rest := []) S (c_R_becomeLike l D ca s0 a0 Z (g 3) rj fj nj (g 0) rb f T n hn hT _) (cwV 1 hts (gV g_156 g_157 g_158 g_31 g_159) rfl rfl rfl (by decide +kernel) ⟨Nat.le_of_ble_eq_true rfl, Nat.le_of_ble_eq_true rfl⟩) ⟨hp.1, n_recv C 1 0 rfl rfl, hp.2⟩ rfl rfl hl.1 rfl (lv_room (Nat.le_of_ble_eq_true rfl)) dK_let_50 ⟨Nat.le_of_ble_eq_true rfl, Nat.le_of_ble_eq_true rfl⟩) (fun u H locs hp C => ?_)
  replace C : Cx D ca s0 A s [(d, .inr (2, kF g)), (g 3, .inr (0, [.ref (rj), .int (nI n)])), (rj, .inl (ca 3, 300, .inl (u))), (g 0, .inr (0, [.ref (rb), .int (nI n)])), (rb, .inl (ca 3, 300, .inl (f)))] H locs := C.re [0, 1, 2, 3, 4] rfl rfl
  refine lv_aload_n hx hb dK_let_53 rfl (lv_at hl 1 rfl) ?_
  refine n_get S C hin_K 0 rfl rfl 0 (by decide) g_82 rfl dK_let_54 ?_
  refine lv_iconst (v := nI 0) hx hb dK_let_57 (by decide) ?_
  refine n_putN S C Z hin_R tyR tyR_ok nmR 3 rfl rfl 1 (by decide) t_2 rfl rfl rfl rfl (Nat.le_of_ble_eq_true rfl) dK_let_58 (fun H locs C => ?_)
  replace C : Cx D ca s0 A s [(d, .inr (2, kF g)), (g 3, .inr (0, [.ref (rj), .int (nI n)])), (rj, .inl (ca 3, 300, .inl (u))), (g 0, .inr (0, [.ref (rb), .int (nI 0)])), (rb, .inl (ca 3, 300, .inl (f)))] H locs := C
  refine lv_aload_n hx hb dK_let_61 rfl (lv_at hl 0 rfl) ?_
  refine n_getN S C Z hin_R 1 rfl rfl 1 (by decide) t_2 rfl dK_let_62 ?_
  exact ret (nI n) u _ _ _ _ _ _ (Nat.le_refl _) (Nat.le_refl _) (⟨rfl, hp⟩) C dK_let_65
abbrev rm_x_K_begin1 : Room := { frames := 7, cells := 1, slots := 6, locals := 111 }
set_option maxHeartbeats 4000000 in
set_option maxRecDepth 100000 in
theorem x_K_begin1 (l : Launch) (D : va_G) (ca : Nat → ClassId) (s0 : State) (a0 : Array Value) (Z : Wd a0 s0) (hl0 : l.stackTraces = false) (sx : Nat → Nat) (Xs : XS sx s0) (d : Nat) (g : Nat → Nat) (k : Int32) (hno : ¬ (¬ k < 0 ∧ k < 4)) (y : Int32) : CtX l yK_begin [.code yK_begin cK_begin 4 none] rm_x_K_begin1 1 6 D ca s0 [.ref (d), .int (k), .int (y)] [(d, .inr (2, kF g))] (xE 0) := by
  refine ctX_of (cc := cK_begin) (maxL := 4) (own := RK) (ret := none) Z rfl (by decide) rfl (Nat.le_of_ble_eq_true rfl) ?_
  intro p e s m args below meth c A ls Q S htb hlk hA hQ thr C hl
  have hx := S.1
  have hb := S.2.1
  have hown := S.2.2.2.1
  have hts := S.2.2.2.2
  generalize s.heap = H at C ⊢
  generalize ([] : List Loc) = locs at C ⊢
  replace hl : lv_has ls 4 [(0, .ref (d)), (1, .int (k)), (2, .int (y))] := hl
  refine lv_aload_n hx hb dK_begin_0 rfl (lv_at hl 0 rfl) ?_
  refine lv_iload_n hx hb dK_begin_1 rfl (lv_at hl 1 rfl) ?_
  exact n_callXP C (fun hp => vx_runV (rest := []) S (x_K_spongeAt l D ca s0 a0 Z hl0 sx Xs d k hno _) (cwV 1 hts (gV g_171 g_172 g_1 g_30 g_173) rfl rfl rfl (by decide +kernel) ⟨Nat.le_of_ble_eq_true rfl, Nat.le_of_ble_eq_true rfl⟩) ⟨hp.1, n_recv C 0 2 rfl rfl, hp.2⟩ rfl rfl hl.1 rfl (lv_room (Nat.le_of_ble_eq_true rfl)) dK_begin_2 ⟨Nat.le_of_ble_eq_true rfl, Nat.le_of_ble_eq_true rfl⟩) (fun q9 ce H locs C c1 c2 c3 => thr q9 ce _ _ _ _ _ _ _ (Nat.le_of_ble_eq_true rfl) (Nat.le_of_ble_eq_true rfl) C c1 c2 c3)
abbrev rm_x_K_begin2 : Room := { frames := 7, cells := 1, slots := 6, locals := 110 }
set_option maxHeartbeats 4000000 in
set_option maxRecDepth 100000 in
theorem x_K_begin2 (l : Launch) (D : va_G) (ca : Nat → ClassId) (s0 : State) (a0 : Array Value) (Z : Wd a0 s0) (hl0 : l.stackTraces = false) (sx : Nat → Nat) (Xs : XS sx s0) (d : Nat) (g : Nat → Nat) (sf : Nat → Option Nat) (k0 : Nat) (hk0 : k0 < 4) (h b : Nat) (hsf : sf k0 = some h) (y : Int32) (hr : y < 0 ∨ nI 15 < y) : CtX l yK_begin [.code yK_begin cK_begin 4 none] rm_x_K_begin2 1 6 D ca s0 [.ref (d), .int (nI k0), .int (y)] [(d, .inr (2, kF g)), (g 4, .inl (ca 4, 4, .inr (.inr (.inr (.inr sf)))))] (xE 1) := by
  refine ctX_of (cc := cK_begin) (maxL := 4) (own := RK) (ret := none) Z rfl (by decide) rfl (Nat.le_of_ble_eq_true rfl) ?_
  intro p e s m args below meth c A ls Q S htb hlk hA hQ thr C hl
  have hx := S.1
  have hb := S.2.1
  have hown := S.2.2.2.1
  have hts := S.2.2.2.2
  generalize s.heap = H at C ⊢
  generalize ([] : List Loc) = locs at C ⊢
  replace hl : lv_has ls 4 [(0, .ref (d)), (1, .int (nI k0)), (2, .int (y))] := hl
  refine lv_aload_n hx hb dK_begin_0 rfl (lv_at hl 0 rfl) ?_
  refine lv_iload_n hx hb dK_begin_1 rfl (lv_at hl 1 rfl) ?_
  refine n_callR (wc := [(d, .inr (2, kF g)), (g 4, .inl (ca 4, 4, .inr (.inr (.inr (.inr sf)))))]) (wr := []) C [0, 1] [] rfl rfl rfl rfl (by decide) (fun hp => va_runV (rest := []) S (c_K_spongeAt l D ca s0 a0 Z d g sf k0 hk0 h hsf _) (cwV 1 hts (gV g_171 g_172 g_1 g_30 g_173) rfl rfl rfl (by decide +kernel) ⟨Nat.le_of_ble_eq_true rfl, Nat.le_of_ble_eq_true rfl⟩) ⟨hp.1, n_recv C 0 2 rfl rfl, hp.2⟩ rfl rfl hl.1 rfl (lv_room (Nat.le_of_ble_eq_true rfl)) dK_begin_2 ⟨Nat.le_of_ble_eq_true rfl, Nat.le_of_ble_eq_true rfl⟩) (fun H locs C => ?_)
  replace C : Cx D ca s0 A s [(d, .inr (2, kF g)), (g 4, .inl (ca 4, 4, .inr (.inr (.inr (.inr sf)))))] H locs := C.re [0, 1] rfl rfl
  refine lv_astore_n hx hb dK_begin_5 rfl hl (Nat.le_of_ble_eq_true rfl) rfl (fun ls hl => ?_)
  replace hl : lv_has ls 4 [(3, .ref (h)), (0, .ref (d)), (1, .int (nI k0)), (2, .int (y))] := hl
  refine lv_iload_n hx hb dK_begin_6 rfl (lv_at hl 3 rfl) ?_
  refine lv_if_lt (tgt := 20) hx hb dK_begin_7 (by decide) (fun hc7 => ?_) (fun hc7 => ?_)
  · skip
    refine lv_iconst (v := nI 0) hx hb dK_begin_20 (by decide) ?_
    exact n_callXP C (fun hp => vx_runS (rest := []) S (x_K_refuseUnless l D ca s0 a0 Z hl0 sx Xs _) (cwS 1 hts (gS g_104 g_105 g_30 g_106) rfl rfl rfl (by decide +kernel) ⟨Nat.le_of_ble_eq_true rfl, Nat.le_of_ble_eq_true rfl⟩) hp rfl rfl hl.1 rfl (lv_room (Nat.le_of_ble_eq_true rfl)) dK_begin_21 ⟨Nat.le_of_ble_eq_true rfl, Nat.le_of_ble_eq_true rfl⟩) (fun q9 ce H locs C c1 c2 c3 => thr q9 ce _ _ _ _ _ _ _ (Nat.le_of_ble_eq_true rfl) (Nat.le_of_ble_eq_true rfl) C c1 c2 c3)
  · skip
    refine lv_iload_n hx hb dK_begin_10 rfl (lv_at hl 3 rfl) ?_
    refine lv_bipush (v := nI 15) hx hb dK_begin_11 (by decide) ?_
    refine lv_icmp_gt (tgt := 20) hx hb dK_begin_13 (by decide) (fun hc => ?_) (fun hc => absurd (hr.resolve_left hc7) hc)
    refine lv_iconst (v := nI 0) hx hb dK_begin_20 (by decide) ?_
    exact n_callXP C (fun hp => vx_runS (rest := []) S (x_K_refuseUnless l D ca s0 a0 Z hl0 sx Xs _) (cwS 1 hts (gS g_104 g_105 g_30 g_106) rfl rfl rfl (by decide +kernel) ⟨Nat.le_of_ble_eq_true rfl, Nat.le_of_ble_eq_true rfl⟩) hp rfl rfl hl.1 rfl (lv_room (Nat.le_of_ble_eq_true rfl)) dK_begin_21 ⟨Nat.le_of_ble_eq_true rfl, Nat.le_of_ble_eq_true rfl⟩) (fun q9 ce H locs C c1 c2 c3 => thr q9 ce _ _ _ _ _ _ _ (Nat.le_of_ble_eq_true rfl) (Nat.le_of_ble_eq_true rfl) C c1 c2 c3)
abbrev rm_K_begin_ok : Room := { frames := 6, cells := 0, slots := 0, locals := 151 }
set_option maxHeartbeats 4000000 in
set_option maxRecDepth 100000 in
theorem c_K_begin_ok (l : Launch) (D : va_G) (ca : Nat → ClassId) (s0 : State) (a0 : Array Value) (Z : Wd a0 s0) (tz : Nat → Nat) (Zs : ZS tz s0) (d : Nat) (g : Nat → Nat) (sf : Nat → Option Nat) (k0 : Nat) (hk0 : k0 < 4) (h b : Nat) (hsf : sf k0 = some h) (L : Nat → Int64) (kd wd pl en tk dn rm : Int32) (R : Nat → Rw) (rb1 : Nat) (f1 : Nat → Int32) (hn1 : (R 1).2 ≤ 300) (hT1 : sb_Lat (R 1).1 (R 1).2 f1) (rb2 : Nat) (f2 : Nat → Int32) (hn2 : (R 2).2 ≤ 300) (hT2 : sb_Lat (R 2).1 (R 2).2 f2) (rb3 : Nat) (f3 : Nat → Int32) (hn3 : (R 3).2 ≤ 300) (hT3 : sb_Lat (R 3).1 (R 3).2 f3) (k : Nat) (hk : k < 16) : CtV l yK_begin [.code yK_begin cK_begin 4 none] rm_K_begin_ok 0 0 D ca s0 [.ref (d), .int (nI k0), .int (nI k)] [(d, .inr (2, kF g)), (g 4, .inl (ca 4, 4, .inr (.inr (.inr (.inr sf))))), (h, .inr (1, [.ref (b), .int (kd), .int (wd), .int (pl), .int (en), .int (tk), .int (dn), .int (rm)])), (b, .inl (ca 2, 25, .inr (.inl (L)))), (g 1, .inr (0, [.ref (rb1), .int (nI ((R 1).2))])), (rb1, .inl (ca 3, 300, .inl (f1))), (g 2, .inr (0, [.ref (rb2), .int (nI ((R 2).2))])), (rb2, .inl (ca 3, 300, .inl (f2))), (g 3, .inr (0, [.ref (rb3), .int (nI ((R 3).2))])), (rb3, .inl (ca 3, 300, .inl (f3)))] (S := Nat → Int64) (fun M => kEq (lb M) (beginC k R).1) (fun M => [(d, .inr (2, kF g)), (g 4, .inl (ca 4, 4, .inr (.inr (.inr (.inr sf))))), (h, .inr (1, [.ref (b), .int (nI k), .int (nI (wid k)), .int (nI (beginC k R).2), .int (nI (beginE k R)), .int (nI 0), .int (nI 0), .int ((-1))])), (b, .inl (ca 2, 25, .inr (.inl M))), (g 1, .inr (0, [.ref (rb1), .int (nI ((R 1).2))])), (rb1, .inl (ca 3, 300, .inl f1)), (g 2, .inr (0, [.ref (rb2), .int (nI ((R 2).2))])), (rb2, .inl (ca 3, 300, .inl f2)), (g 3, .inr (0, [.ref (rb3), .int (nI ((R 3).2))])), (rb3, .inl (ca 3, 300, .inl f3))]) := by
  refine ctV_of (cc := cK_begin) (maxL := 4) (own := RK) Z rfl (by decide) rfl (Nat.le_of_ble_eq_true rfl) ?_
  intro p e s m args below meth c A ls Q S hnm ret C hl
  have hx := S.1
  have hb := S.2.1
  have hown := S.2.2.2.1
  have hts := S.2.2.2.2
  generalize s.heap = H at C ⊢
  generalize ([] : List Loc) = locs at C ⊢
  replace hl : lv_has ls 4 [(0, .ref (d)), (1, .int (nI k0)), (2, .int (nI k))] := hl
  refine lv_aload_n hx hb dK_begin_0 rfl (lv_at hl 0 rfl) ?_
  refine lv_iload_n hx hb dK_begin_1 rfl (lv_at hl 1 rfl) ?_
  refine n_callR (wc := [(d, .inr (2, kF g)), (g 4, .inl (ca 4, 4, .inr (.inr (.inr (.inr sf)))))]) (wr := [(h, .inr (1, [.ref (b), .int (kd), .int (wd), .int (pl), .int (en), .int (tk), .int (dn), .int (rm)])), (b, .inl (ca 2, 25, .inr (.inl (L)))), (g 1, .inr (0, [.ref (rb1), .int (nI ((R 1).2))])), (rb1, .inl (ca 3, 300, .inl (f1))), (g 2, .inr (0, [.ref (rb2), .int (nI ((R 2).2))])), (rb2, .inl (ca 3, 300, .inl (f2))), (g 3, .inr (0, [.ref (rb3), .int (nI ((R 3).2))])), (rb3, .inl (ca 3, 300, .inl (f3)))]) C [0, 1] [2, 3, 4, 5, 6, 7, 8, 9] rfl rfl rfl rfl (by decide) (fun hp => va_runV (rest := []) S (c_K_spongeAt l D ca s0 a0 Z d g sf k0 hk0 h hsf _) (cwV 1 hts (gV g_171 g_172 g_1 g_30 g_173) rfl rfl rfl (by decide +kernel) ⟨Nat.le_of_ble_eq_true rfl, Nat.le_of_ble_eq_true rfl⟩) ⟨hp.1, n_recv C 0 2 rfl rfl, hp.2⟩ rfl rfl hl.1 rfl (lv_room (Nat.le_of_ble_eq_true rfl)) dK_begin_2 ⟨Nat.le_of_ble_eq_true rfl, Nat.le_of_ble_eq_true rfl⟩) (fun H locs C => ?_)
  replace C : Cx D ca s0 A s [(d, .inr (2, kF g)), (g 4, .inl (ca 4, 4, .inr (.inr (.inr (.inr sf))))), (h, .inr (1, [.ref (b), .int (kd), .int (wd), .int (pl), .int (en), .int (tk), .int (dn), .int (rm)])), (b, .inl (ca 2, 25, .inr (.inl (L)))), (g 1, .inr (0, [.ref (rb1), .int (nI ((R 1).2))])), (rb1, .inl (ca 3, 300, .inl (f1))), (g 2, .inr (0, [.ref (rb2), .int (nI ((R 2).2))])), (rb2, .inl (ca 3, 300, .inl (f2))), (g 3, .inr (0, [.ref (rb3), .int (nI ((R 3).2))])), (rb3, .inl (ca 3, 300, .inl (f3)))] H locs := C.re [8, 9, 0, 1, 2, 3, 4, 5, 6, 7] rfl rfl
  refine lv_astore_n hx hb dK_begin_5 rfl hl (Nat.le_of_ble_eq_true rfl) rfl (fun ls hl => ?_)
  replace hl : lv_has ls 4 [(3, .ref (h)), (0, .ref (d)), (1, .int (nI k0)), (2, .int (nI k))] := hl
  refine lv_iload_n hx hb dK_begin_6 rfl (lv_at hl 3 rfl) ?_
  refine n_if_lt (tgt := 20) S (by omega) dK_begin_7 (by decide) (fun hc => hc.elim) (fun hc => ?_)
  refine lv_iload_n hx hb dK_begin_10 rfl (lv_at hl 3 rfl) ?_
  refine lv_bipush (v := nI 15) hx hb dK_begin_11 (by decide) ?_
  refine n_icmp_gt (tgt := 20) S (by omega) (by omega) dK_begin_13 (by decide) (fun hc => False.elim (by omega)) (fun hc => ?_)
  refine lv_iconst (v := nI 1) hx hb dK_begin_16 (by decide) ?_
  refine lv_goto (tgt := 21) hx hb dK_begin_17 (by decide) ?_
  refine n_callPV C (fun hp => va_runS (rest := []) S (c_K_refuseUnless l D ca s0 a0 Z _) (cwS 1 hts (gS g_104 g_105 g_30 g_106) rfl rfl rfl (by decide +kernel) ⟨Nat.le_of_ble_eq_true rfl, Nat.le_of_ble_eq_true rfl⟩) hp rfl rfl hl.1 rfl (lv_room (Nat.le_of_ble_eq_true rfl)) dK_begin_21 ⟨Nat.le_of_ble_eq_true rfl, Nat.le_of_ble_eq_true rfl⟩) (fun u H locs hp C => ?_)
  refine lv_aload_n hx hb dK_begin_24 rfl (lv_at hl 0 rfl) ?_
  refine lv_iload_n hx hb dK_begin_25 rfl (lv_at hl 3 rfl) ?_
  refine n_callV (wc := [(h, .inr (1, [.ref (b), .int (kd), .int (wd), .int (pl), .int (en), .int (tk), .int (dn), .int (rm)])), (b, .inl (ca 2, 25, .inr (.inl (L))))]) (wr := [(d, .inr (2, kF g)), (g 4, .inl (ca 4, 4, .inr (.inr (.inr (.inr sf))))), (g 1, .inr (0, [.ref (rb1), .int (nI ((R 1).2))])), (rb1, .inl (ca 3, 300, .inl (f1))), (g 2, .inr (0, [.ref (rb2), .int (nI ((R 2).2))])), (rb2, .inl (ca 3, 300, .inl (f2))), (g 3, .inr (0, [.ref (rb3), .int (nI ((R 3).2))])), (rb3, .inl (ca 3, 300, .inl (f3)))]) C [2, 3] [0, 1, 4, 5, 6, 7, 8, 9] rfl rfl rfl rfl (by decide) (fun hp => va_runV (rest := []) S (c_S_restart l D ca s0 a0 Z tz Zs h b L kd wd pl en tk dn rm k hk _) (cwV 1 hts (gV g_181 g_67 g_68 g_32 g_69) rfl rfl rfl (by decide +kernel) ⟨Nat.le_of_ble_eq_true rfl, Nat.le_of_ble_eq_true rfl⟩) ⟨hp.1, n_recv C 2 1 rfl rfl, hp.2⟩ rfl rfl hl.1 rfl (lv_room (Nat.le_of_ble_eq_true rfl)) dK_begin_26 ⟨Nat.le_of_ble_eq_true rfl, Nat.le_of_ble_eq_true rfl⟩) (fun u H locs hp C => ?_)
  replace C : Cx D ca s0 A s [(d, .inr (2, kF g)), (g 4, .inl (ca 4, 4, .inr (.inr (.inr (.inr sf))))), (h, .inr (1, [.ref (b), .int (nI k), .int (nI (wid k)), .int (nI ((zeroC).2)), .int (nI (e0 k)), .int (nI 0), .int (nI 0), .int ((-1))])), (b, .inl (ca 2, 25, .inr (.inl (u)))), (g 1, .inr (0, [.ref (rb1), .int (nI ((R 1).2))])), (rb1, .inl (ca 3, 300, .inl (f1))), (g 2, .inr (0, [.ref (rb2), .int (nI ((R 2).2))])), (rb2, .inl (ca 3, 300, .inl (f2))), (g 3, .inr (0, [.ref (rb3), .int (nI ((R 3).2))])), (rb3, .inl (ca 3, 300, .inl (f3)))] H locs := C.re [0, 1, 8, 9, 2, 3, 4, 5, 6, 7] rfl rfl
  obtain ⟨M1, rfl⟩ : ∃ z, z = u := ⟨_, rfl⟩
  have h1 := hp
  have hwi := wid_in k hk
  have hzl : zeroC.2 < wid k := show 0 < wid k by omega
  have hcs : (k < 4) ∨ (4 ≤ k ∧ k < 6) ∨ (6 ≤ k ∧ k < 8 ∧ (R 1).2 + (R 2).2 = 0) ∨ (6 ≤ k ∧ k < 8 ∧ (R 1).2 + (R 2).2 ≠ 0) ∨ (8 ≤ k ∧ k < 12) ∨ (12 ≤ k) := by omega
  rcases hcs with hA | hA | hA | hA | hA | hA
  · skip
    refine lv_iload_n hx hb dK_begin_29 rfl (lv_at hl 3 rfl) ?_
    refine lv_bipush (v := nI 12) hx hb dK_begin_30 (by decide) ?_
    refine n_icmp_lt (tgt := 53) S (by omega) (by omega) dK_begin_32 (by decide) (fun hc => ?_) (fun hc => False.elim (by omega))
    refine lv_iload_n hx hb dK_begin_53 rfl (lv_at hl 3 rfl) ?_
    refine lv_bipush (v := nI 8) hx hb dK_begin_54 (by decide) ?_
    refine n_icmp_lt (tgt := 85) S (by omega) (by omega) dK_begin_56 (by decide) (fun hc => ?_) (fun hc => False.elim (by omega))
    refine lv_iload_n hx hb dK_begin_85 rfl (lv_at hl 3 rfl) ?_
    refine lv_bipush (v := nI 6) hx hb dK_begin_86 (by decide) ?_
    refine n_icmp_lt (tgt := 131) S (by omega) (by omega) dK_begin_88 (by decide) (fun hc => ?_) (fun hc => False.elim (by omega))
    have eC : beginC k R = zeroC := if_pos (by omega)
    have eE : beginE k R = 6 := if_pos (by omega)
    rw [eC, eE] at ret
    rw [show e0 k = 6 from if_pos (by omega)] at C
    exact ret M1 _ _ _ _ _ _ (Nat.le_refl _) (Nat.le_refl _) h1 C dK_begin_131
  · skip
    refine lv_iload_n hx hb dK_begin_29 rfl (lv_at hl 3 rfl) ?_
    refine lv_bipush (v := nI 12) hx hb dK_begin_30 (by decide) ?_
    refine n_icmp_lt (tgt := 53) S (by omega) (by omega) dK_begin_32 (by decide) (fun hc => ?_) (fun hc => False.elim (by omega))
    refine lv_iload_n hx hb dK_begin_53 rfl (lv_at hl 3 rfl) ?_
    refine lv_bipush (v := nI 8) hx hb dK_begin_54 (by decide) ?_
    refine n_icmp_lt (tgt := 85) S (by omega) (by omega) dK_begin_56 (by decide) (fun hc => ?_) (fun hc => False.elim (by omega))
    refine lv_iload_n hx hb dK_begin_85 rfl (lv_at hl 3 rfl) ?_
    refine lv_bipush (v := nI 6) hx hb dK_begin_86 (by decide) ?_
    refine n_icmp_lt (tgt := 131) S (by omega) (by omega) dK_begin_88 (by decide) (fun hc => ?_) (fun hc => False.elim (by omega))
    have eC : beginC k R = zeroC := if_pos (by omega)
    have eE : beginE k R = 31 := (if_neg (by omega)).trans (if_pos (by omega))
    rw [eC, eE] at ret
    rw [show e0 k = 31 from if_neg (by omega)] at C
    exact ret M1 _ _ _ _ _ _ (Nat.le_refl _) (Nat.le_refl _) h1 C dK_begin_131
  · skip
    refine lv_iload_n hx hb dK_begin_29 rfl (lv_at hl 3 rfl) ?_
    refine lv_bipush (v := nI 12) hx hb dK_begin_30 (by decide) ?_
    refine n_icmp_lt (tgt := 53) S (by omega) (by omega) dK_begin_32 (by decide) (fun hc => ?_) (fun hc => False.elim (by omega))
    refine lv_iload_n hx hb dK_begin_53 rfl (lv_at hl 3 rfl) ?_
    refine lv_bipush (v := nI 8) hx hb dK_begin_54 (by decide) ?_
    refine n_icmp_lt (tgt := 85) S (by omega) (by omega) dK_begin_56 (by decide) (fun hc => ?_) (fun hc => False.elim (by omega))
    refine lv_iload_n hx hb dK_begin_85 rfl (lv_at hl 3 rfl) ?_
    refine lv_bipush (v := nI 6) hx hb dK_begin_86 (by decide) ?_
    refine n_icmp_lt (tgt := 131) S (by omega) (by omega) dK_begin_88 (by decide) (fun hc => False.elim (by omega)) (fun hc => ?_)
    refine lv_aload_n hx hb dK_begin_91 rfl (lv_at hl 1 rfl) ?_
    refine n_get S C hin_K 0 rfl rfl 1 (by decide) g_83 rfl dK_begin_92 ?_
    refine n_getN S C Z hin_R 4 rfl rfl 1 (by decide) t_2 rfl dK_begin_95 ?_
    refine lv_aload_n hx hb dK_begin_98 rfl (lv_at hl 1 rfl) ?_
    refine n_get S C hin_K 0 rfl rfl 2 (by decide) g_84 rfl dK_begin_99 ?_
    refine n_getN S C Z hin_R 6 rfl rfl 1 (by decide) t_2 rfl dK_begin_102 ?_
    refine n_add S dK_begin_105 ?_
    refine n_if_le (tgt := 131) S (by omega) dK_begin_106 (by decide) (fun hc => ?_) (fun hc => False.elim (by omega))
    have eC : beginC k R = zeroC := (if_neg (by omega)).trans ((if_pos (by omega)).trans (if_pos (by omega)))
    have eE : beginE k R = 31 := (if_neg (by omega)).trans ((if_neg (by omega)).trans ((if_pos (by omega)).trans (if_pos (by omega))))
    rw [eC, eE] at ret
    rw [show e0 k = 31 from if_neg (by omega)] at C
    exact ret M1 _ _ _ _ _ _ (Nat.le_refl _) (Nat.le_refl _) h1 C dK_begin_131
  · skip
    refine lv_iload_n hx hb dK_begin_29 rfl (lv_at hl 3 rfl) ?_
    refine lv_bipush (v := nI 12) hx hb dK_begin_30 (by decide) ?_
    refine n_icmp_lt (tgt := 53) S (by omega) (by omega) dK_begin_32 (by decide) (fun hc => ?_) (fun hc => False.elim (by omega))
    refine lv_iload_n hx hb dK_begin_53 rfl (lv_at hl 3 rfl) ?_
    refine lv_bipush (v := nI 8) hx hb dK_begin_54 (by decide) ?_
    refine n_icmp_lt (tgt := 85) S (by omega) (by omega) dK_begin_56 (by decide) (fun hc => ?_) (fun hc => False.elim (by omega))
    refine lv_iload_n hx hb dK_begin_85 rfl (lv_at hl 3 rfl) ?_
    refine lv_bipush (v := nI 6) hx hb dK_begin_86 (by decide) ?_
    refine n_icmp_lt (tgt := 131) S (by omega) (by omega) dK_begin_88 (by decide) (fun hc => False.elim (by omega)) (fun hc => ?_)
    refine lv_aload_n hx hb dK_begin_91 rfl (lv_at hl 1 rfl) ?_
    refine n_get S C hin_K 0 rfl rfl 1 (by decide) g_83 rfl dK_begin_92 ?_
    refine n_getN S C Z hin_R 4 rfl rfl 1 (by decide) t_2 rfl dK_begin_95 ?_
    refine lv_aload_n hx hb dK_begin_98 rfl (lv_at hl 1 rfl) ?_
    refine n_get S C hin_K 0 rfl rfl 2 (by decide) g_84 rfl dK_begin_99 ?_
    refine n_getN S C Z hin_R 6 rfl rfl 1 (by decide) t_2 rfl dK_begin_102 ?_
    refine n_add S dK_begin_105 ?_
    refine n_if_le (tgt := 131) S (by omega) dK_begin_106 (by decide) (fun hc => False.elim (by omega)) (fun hc => ?_)
    refine lv_aload_n hx hb dK_begin_109 rfl (lv_at hl 0 rfl) ?_
    refine lv_aload_n hx hb dK_begin_110 rfl (lv_at hl 1 rfl) ?_
    refine n_get S C hin_K 0 rfl rfl 1 (by decide) g_83 rfl dK_begin_111 ?_
    refine n_getN S C Z hin_R 4 rfl rfl 0 (by decide) t_1 rfl dK_begin_114 ?_
    refine lv_aload_n hx hb dK_begin_117 rfl (lv_at hl 1 rfl) ?_
    refine n_get S C hin_K 0 rfl rfl 1 (by decide) g_83 rfl dK_begin_118 ?_
    refine n_getN S C Z hin_R 4 rfl rfl 1 (by decide) t_2 rfl dK_begin_121 ?_
    refine lv_aload_n hx hb dK_begin_124 rfl (lv_at hl 1 rfl) ?_
    refine n_get S C hin_K 0 rfl rfl 2 (by decide) g_84 rfl dK_begin_125 ?_
    refine n_callV (wc := [(h, .inr (1, [.ref (b), .int (nI k), .int (nI (wid k)), .int (nI ((zeroC).2)), .int (nI (e0 k)), .int (nI 0), .int (nI 0), .int ((-1))])), (b, .inl (ca 2, 25, .inr (.inl (M1)))), (rb1, .inl (ca 3, 300, .inl (f1))), (g 2, .inr (0, [.ref (rb2), .int (nI ((R 2).2))])), (rb2, .inl (ca 3, 300, .inl (f2)))]) (wr := [(d, .inr (2, kF g)), (g 4, .inl (ca 4, 4, .inr (.inr (.inr (.inr sf))))), (g 1, .inr (0, [.ref (rb1), .int (nI ((R 1).2))])), (g 3, .inr (0, [.ref (rb3), .int (nI ((R 3).2))])), (rb3, .inl (ca 3, 300, .inl (f3)))]) C [2, 3, 5, 6, 7] [0, 1, 4, 8, 9] rfl rfl rfl rfl (by decide) (fun hp => va_runV (rest := []) S (c_S_takePrefix l D ca s0 a0 Z tz Zs h b M1 (nI k) (nI (e0 k)) (nI 0) (nI 0) (-1) (wid k) (by omega) zeroC h1 hzl rb1 f1 (R 1).1 (R 1).2 hn1 hT1 (g 2) rb2 f2 (R 2).1 (R 2).2 hn2 hT2 _) (cwV 3 hts (gV g_183 g_184 g_185 g_32 g_186) rfl rfl rfl (by decide +kernel) ⟨Nat.le_of_ble_eq_true rfl, Nat.le_of_ble_eq_true rfl⟩) ⟨hp.1, n_recv C 2 1 rfl rfl, hp.2⟩ rfl rfl hl.1 rfl (lv_room (Nat.le_of_ble_eq_true rfl)) dK_begin_128 ⟨Nat.le_of_ble_eq_true rfl, Nat.le_of_ble_eq_true rfl⟩) (fun u H locs hp C => ?_)
    replace C : Cx D ca s0 A s [(d, .inr (2, kF g)), (g 4, .inl (ca 4, 4, .inr (.inr (.inr (.inr sf))))), (h, .inr (1, [.ref (b), .int (nI k), .int (nI (wid k)), .int (nI ((preC (wid k) zeroC (R 1).1 (R 1).2 (R 2).1 (R 2).2).2)), .int (nI 4), .int (nI 0), .int (nI 0), .int ((-1))])), (b, .inl (ca 2, 25, .inr (.inl (u)))), (g 1, .inr (0, [.ref (rb1), .int (nI ((R 1).2))])), (rb1, .inl (ca 3, 300, .inl (f1))), (g 2, .inr (0, [.ref (rb2), .int (nI ((R 2).2))])), (rb2, .inl (ca 3, 300, .inl (f2))), (g 3, .inr (0, [.ref (rb3), .int (nI ((R 3).2))])), (rb3, .inl (ca 3, 300, .inl (f3)))] H locs := C.re [0, 1, 5, 6, 2, 7, 8, 9, 3, 4] rfl rfl
    obtain ⟨M2, rfl⟩ : ∃ z, z = u := ⟨_, rfl⟩
    have h2 := hp
    have eC : beginC k R = preC (wid k) zeroC (R 1).1 (R 1).2 (R 2).1 (R 2).2 := (if_neg (by omega)).trans ((if_pos (by omega)).trans (if_neg (by omega)))
    have eE : beginE k R = 4 := (if_neg (by omega)).trans ((if_neg (by omega)).trans ((if_pos (by omega)).trans (if_neg (by omega))))
    rw [eC, eE] at ret
    exact ret M2 _ _ _ _ _ _ (Nat.le_refl _) (Nat.le_refl _) h2 C dK_begin_131
  · skip
    refine lv_iload_n hx hb dK_begin_29 rfl (lv_at hl 3 rfl) ?_
    refine lv_bipush (v := nI 12) hx hb dK_begin_30 (by decide) ?_
    refine n_icmp_lt (tgt := 53) S (by omega) (by omega) dK_begin_32 (by decide) (fun hc => ?_) (fun hc => False.elim (by omega))
    refine lv_iload_n hx hb dK_begin_53 rfl (lv_at hl 3 rfl) ?_
    refine lv_bipush (v := nI 8) hx hb dK_begin_54 (by decide) ?_
    refine n_icmp_lt (tgt := 85) S (by omega) (by omega) dK_begin_56 (by decide) (fun hc => False.elim (by omega)) (fun hc => ?_)
    refine lv_aload_n hx hb dK_begin_59 rfl (lv_at hl 0 rfl) ?_
    refine n_gets S C Zs.2.2.2.2.2.1 g_224 dK_begin_60 ?_
    refine n_gets S C Zs.2.2.2.2.2.1 g_224 dK_begin_63 ?_
    refine n_tlen S C Zs.2.2.2.2.2.1 dK_begin_66 ?_
    refine lv_aload_n hx hb dK_begin_67 rfl (lv_at hl 1 rfl) ?_
    refine n_get S C hin_K 0 rfl rfl 2 (by decide) g_84 rfl dK_begin_68 ?_
    refine n_callV (wc := [(h, .inr (1, [.ref (b), .int (nI k), .int (nI (wid k)), .int (nI ((zeroC).2)), .int (nI (e0 k)), .int (nI 0), .int (nI 0), .int ((-1))])), (b, .inl (ca 2, 25, .inr (.inl (M1)))), (g 2, .inr (0, [.ref (rb2), .int (nI ((R 2).2))])), (rb2, .inl (ca 3, 300, .inl (f2)))]) (wr := [(d, .inr (2, kF g)), (g 4, .inl (ca 4, 4, .inr (.inr (.inr (.inr sf))))), (g 1, .inr (0, [.ref (rb1), .int (nI ((R 1).2))])), (rb1, .inl (ca 3, 300, .inl (f1))), (g 3, .inr (0, [.ref (rb3), .int (nI ((R 3).2))])), (rb3, .inl (ca 3, 300, .inl (f3)))]) C [2, 3, 6, 7] [0, 1, 4, 5, 8, 9] rfl rfl rfl rfl (by decide) (fun hp => va_runV (rest := []) S (c_S_takePrefixK l D ca s0 a0 Z tz Zs h b M1 (nI k) (nI (e0 k)) (nI 0) (nI 0) (-1) (wid k) (by omega) zeroC h1 hzl (g 2) rb2 f2 (R 2).1 (R 2).2 hn2 hT2 _) (cwV 3 hts (gV g_183 g_184 g_185 g_32 g_186) rfl rfl rfl (by decide +kernel) ⟨Nat.le_of_ble_eq_true rfl, Nat.le_of_ble_eq_true rfl⟩) ⟨hp.1, n_recv C 2 1 rfl rfl, hp.2⟩ rfl rfl hl.1 rfl (lv_room (Nat.le_of_ble_eq_true rfl)) dK_begin_71 ⟨Nat.le_of_ble_eq_true rfl, Nat.le_of_ble_eq_true rfl⟩) (fun u H locs hp C => ?_)
    replace C : Cx D ca s0 A s [(d, .inr (2, kF g)), (g 4, .inl (ca 4, 4, .inr (.inr (.inr (.inr sf))))), (h, .inr (1, [.ref (b), .int (nI k), .int (nI (wid k)), .int (nI ((preC (wid k) zeroC pKey 4 (R 2).1 (R 2).2).2)), .int (nI 4), .int (nI 0), .int (nI 0), .int ((-1))])), (b, .inl (ca 2, 25, .inr (.inl (u)))), (g 1, .inr (0, [.ref (rb1), .int (nI ((R 1).2))])), (rb1, .inl (ca 3, 300, .inl (f1))), (g 2, .inr (0, [.ref (rb2), .int (nI ((R 2).2))])), (rb2, .inl (ca 3, 300, .inl (f2))), (g 3, .inr (0, [.ref (rb3), .int (nI ((R 3).2))])), (rb3, .inl (ca 3, 300, .inl (f3)))] H locs := C.re [0, 1, 6, 7, 2, 3, 8, 9, 4, 5] rfl rfl
    obtain ⟨M2, rfl⟩ : ∃ z, z = u := ⟨_, rfl⟩
    have h2 := hp
    refine lv_aload_n hx hb dK_begin_74 rfl (lv_at hl 0 rfl) ?_
    refine lv_aload_n hx hb dK_begin_75 rfl (lv_at hl 1 rfl) ?_
    refine n_get S C hin_K 0 rfl rfl 3 (by decide) g_85 rfl dK_begin_76 ?_
    refine n_callV (wc := [(h, .inr (1, [.ref (b), .int (nI k), .int (nI (wid k)), .int (nI ((preC (wid k) zeroC pKey 4 (R 2).1 (R 2).2).2)), .int (nI 4), .int (nI 0), .int (nI 0), .int ((-1))])), (b, .inl (ca 2, 25, .inr (.inl (M2)))), (g 3, .inr (0, [.ref (rb3), .int (nI ((R 3).2))])), (rb3, .inl (ca 3, 300, .inl (f3)))]) (wr := [(d, .inr (2, kF g)), (g 4, .inl (ca 4, 4, .inr (.inr (.inr (.inr sf))))), (g 1, .inr (0, [.ref (rb1), .int (nI ((R 1).2))])), (rb1, .inl (ca 3, 300, .inl (f1))), (g 2, .inr (0, [.ref (rb2), .int (nI ((R 2).2))])), (rb2, .inl (ca 3, 300, .inl (f2)))]) C [2, 3, 8, 9] [0, 1, 4, 5, 6, 7] rfl rfl rfl rfl (by decide) (fun hp => va_runV (rest := []) S (c_S_takeKey l D ca s0 a0 Z tz Zs h b M2 (nI k) (nI 4) (nI 0) (nI 0) (-1) (wid k) (by omega) (preC (wid k) zeroC pKey 4 (R 2).1 (R 2).2) h2 (by rw [preC_0]; omega) (g 3) rb3 f3 (R 3).1 (R 3).2 hn3 hT3 _) (cwV 1 hts (gV g_225 g_226 g_227 g_32 g_228) rfl rfl rfl (by decide +kernel) ⟨Nat.le_of_ble_eq_true rfl, Nat.le_of_ble_eq_true rfl⟩) ⟨hp.1, n_recv C 2 1 rfl rfl, hp.2⟩ rfl rfl hl.1 rfl (lv_room (Nat.le_of_ble_eq_true rfl)) dK_begin_79 ⟨Nat.le_of_ble_eq_true rfl, Nat.le_of_ble_eq_true rfl⟩) (fun u H locs hp C => ?_)
    replace C : Cx D ca s0 A s [(d, .inr (2, kF g)), (g 4, .inl (ca 4, 4, .inr (.inr (.inr (.inr sf))))), (h, .inr (1, [.ref (b), .int (nI k), .int (nI (wid k)), .int (nI ((keyC (wid k) (preC (wid k) zeroC pKey 4 (R 2).1 (R 2).2) (R 3).1 (R 3).2).2)), .int (nI 4), .int (nI 0), .int (nI 0), .int ((-1))])), (b, .inl (ca 2, 25, .inr (.inl (u)))), (g 1, .inr (0, [.ref (rb1), .int (nI ((R 1).2))])), (rb1, .inl (ca 3, 300, .inl (f1))), (g 2, .inr (0, [.ref (rb2), .int (nI ((R 2).2))])), (rb2, .inl (ca 3, 300, .inl (f2))), (g 3, .inr (0, [.ref (rb3), .int (nI ((R 3).2))])), (rb3, .inl (ca 3, 300, .inl (f3)))] H locs := C.re [0, 1, 6, 7, 2, 3, 4, 5, 8, 9] rfl rfl
    obtain ⟨M3, rfl⟩ : ∃ z, z = u := ⟨_, rfl⟩
    have h3 := hp
    refine lv_goto (tgt := 131) hx hb dK_begin_82 (by decide) ?_
    have eC : beginC k R = keyC (wid k) (preC (wid k) zeroC pKey 4 (R 2).1 (R 2).2) (R 3).1 (R 3).2 := (if_neg (by omega)).trans ((if_neg (by omega)).trans (if_pos (by omega)))
    have eE : beginE k R = 4 := (if_neg (by omega)).trans ((if_neg (by omega)).trans (if_neg (by omega)))
    rw [eC, eE] at ret
    exact ret M3 _ _ _ _ _ _ (Nat.le_refl _) (Nat.le_refl _) h3 C dK_begin_131
  · skip
    refine lv_iload_n hx hb dK_begin_29 rfl (lv_at hl 3 rfl) ?_
    refine lv_bipush (v := nI 12) hx hb dK_begin_30 (by decide) ?_
    refine n_icmp_lt (tgt := 53) S (by omega) (by omega) dK_begin_32 (by decide) (fun hc => False.elim (by omega)) (fun hc => ?_)
    refine lv_aload_n hx hb dK_begin_35 rfl (lv_at hl 0 rfl) ?_
    refine n_gets S C Zs.2.2.2.2.2.2 g_182 dK_begin_36 ?_
    refine n_gets S C Zs.2.2.2.2.2.2 g_182 dK_begin_39 ?_
    refine n_tlen S C Zs.2.2.2.2.2.2 dK_begin_42 ?_
    refine lv_aload_n hx hb dK_begin_43 rfl (lv_at hl 1 rfl) ?_
    refine n_get S C hin_K 0 rfl rfl 2 (by decide) g_84 rfl dK_begin_44 ?_
    refine n_callV (wc := [(h, .inr (1, [.ref (b), .int (nI k), .int (nI (wid k)), .int (nI ((zeroC).2)), .int (nI (e0 k)), .int (nI 0), .int (nI 0), .int ((-1))])), (b, .inl (ca 2, 25, .inr (.inl (M1)))), (g 2, .inr (0, [.ref (rb2), .int (nI ((R 2).2))])), (rb2, .inl (ca 3, 300, .inl (f2)))]) (wr := [(d, .inr (2, kF g)), (g 4, .inl (ca 4, 4, .inr (.inr (.inr (.inr sf))))), (g 1, .inr (0, [.ref (rb1), .int (nI ((R 1).2))])), (rb1, .inl (ca 3, 300, .inl (f1))), (g 3, .inr (0, [.ref (rb3), .int (nI ((R 3).2))])), (rb3, .inl (ca 3, 300, .inl (f3)))]) C [2, 3, 6, 7] [0, 1, 4, 5, 8, 9] rfl rfl rfl rfl (by decide) (fun hp => va_runV (rest := []) S (c_S_takePrefixT l D ca s0 a0 Z tz Zs h b M1 (nI k) (nI (e0 k)) (nI 0) (nI 0) (-1) (wid k) (by omega) zeroC h1 hzl (g 2) rb2 f2 (R 2).1 (R 2).2 hn2 hT2 _) (cwV 3 hts (gV g_183 g_184 g_185 g_32 g_186) rfl rfl rfl (by decide +kernel) ⟨Nat.le_of_ble_eq_true rfl, Nat.le_of_ble_eq_true rfl⟩) ⟨hp.1, n_recv C 2 1 rfl rfl, hp.2⟩ rfl rfl hl.1 rfl (lv_room (Nat.le_of_ble_eq_true rfl)) dK_begin_47 ⟨Nat.le_of_ble_eq_true rfl, Nat.le_of_ble_eq_true rfl⟩) (fun u H locs hp C => ?_)
    replace C : Cx D ca s0 A s [(d, .inr (2, kF g)), (g 4, .inl (ca 4, 4, .inr (.inr (.inr (.inr sf))))), (h, .inr (1, [.ref (b), .int (nI k), .int (nI (wid k)), .int (nI ((preC (wid k) zeroC pTup 9 (R 2).1 (R 2).2).2)), .int (nI 4), .int (nI 0), .int (nI 0), .int ((-1))])), (b, .inl (ca 2, 25, .inr (.inl (u)))), (g 1, .inr (0, [.ref (rb1), .int (nI ((R 1).2))])), (rb1, .inl (ca 3, 300, .inl (f1))), (g 2, .inr (0, [.ref (rb2), .int (nI ((R 2).2))])), (rb2, .inl (ca 3, 300, .inl (f2))), (g 3, .inr (0, [.ref (rb3), .int (nI ((R 3).2))])), (rb3, .inl (ca 3, 300, .inl (f3)))] H locs := C.re [0, 1, 6, 7, 2, 3, 8, 9, 4, 5] rfl rfl
    obtain ⟨M2, rfl⟩ : ∃ z, z = u := ⟨_, rfl⟩
    have h2 := hp
    refine lv_goto (tgt := 131) hx hb dK_begin_50 (by decide) ?_
    have eC : beginC k R = preC (wid k) zeroC pTup 9 (R 2).1 (R 2).2 := (if_neg (by omega)).trans ((if_neg (by omega)).trans (if_neg (by omega)))
    have eE : beginE k R = 4 := (if_neg (by omega)).trans ((if_neg (by omega)).trans (if_neg (by omega)))
    rw [eC, eE] at ret
    exact ret M2 _ _ _ _ _ _ (Nat.le_refl _) (Nat.le_refl _) h2 C dK_begin_131
abbrev rm_x_K_absorb1 : Room := { frames := 7, cells := 1, slots := 6, locals := 111 }
set_option maxHeartbeats 4000000 in
set_option maxRecDepth 100000 in
theorem x_K_absorb1 (l : Launch) (D : va_G) (ca : Nat → ClassId) (s0 : State) (a0 : Array Value) (Z : Wd a0 s0) (hl0 : l.stackTraces = false) (sx : Nat → Nat) (Xs : XS sx s0) (d : Nat) (g : Nat → Nat) (k : Int32) (hno : ¬ (¬ k < 0 ∧ k < 4)) : CtX l yK_absorb [.code yK_absorb cK_absorb 3 (some .int)] rm_x_K_absorb1 1 6 D ca s0 [.ref (d), .int (k)] [(d, .inr (2, kF g))] (xE 0) := by
  refine ctX_of (cc := cK_absorb) (maxL := 3) (own := RK) (ret := (some .int)) Z rfl (by decide) rfl (Nat.le_of_ble_eq_true rfl) ?_
  intro p e s m args below meth c A ls Q S htb hlk hA hQ thr C hl
  have hx := S.1
  have hb := S.2.1
  have hown := S.2.2.2.1
  have hts := S.2.2.2.2
  generalize s.heap = H at C ⊢
  generalize ([] : List Loc) = locs at C ⊢
  replace hl : lv_has ls 3 [(0, .ref (d)), (1, .int (k))] := hl
  refine lv_aload_n hx hb dK_absorb_0 rfl (lv_at hl 0 rfl) ?_
  refine lv_iload_n hx hb dK_absorb_1 rfl (lv_at hl 1 rfl) ?_
  exact n_callXP C (fun hp => vx_runV (rest := []) S (x_K_spongeAt l D ca s0 a0 Z hl0 sx Xs d k hno _) (cwV 1 hts (gV g_171 g_172 g_1 g_30 g_173) rfl rfl rfl (by decide +kernel) ⟨Nat.le_of_ble_eq_true rfl, Nat.le_of_ble_eq_true rfl⟩) ⟨hp.1, n_recv C 0 2 rfl rfl, hp.2⟩ rfl rfl hl.1 rfl (lv_room (Nat.le_of_ble_eq_true rfl)) dK_absorb_2 ⟨Nat.le_of_ble_eq_true rfl, Nat.le_of_ble_eq_true rfl⟩) (fun q9 ce H locs C c1 c2 c3 => thr q9 ce _ _ _ _ _ _ _ (Nat.le_of_ble_eq_true rfl) (Nat.le_of_ble_eq_true rfl) C c1 c2 c3)
abbrev rm_x_K_absorb2 : Room := { frames := 7, cells := 1, slots := 6, locals := 110 }
set_option maxHeartbeats 4000000 in
set_option maxRecDepth 100000 in
theorem x_K_absorb2 (l : Launch) (D : va_G) (ca : Nat → ClassId) (s0 : State) (a0 : Array Value) (Z : Wd a0 s0) (hl0 : l.stackTraces = false) (sx : Nat → Nat) (Xs : XS sx s0) (d : Nat) (g : Nat → Nat) (sf : Nat → Option Nat) (k0 : Nat) (hk0 : k0 < 4) (h b : Nat) (hsf : sf k0 = some h) (kd wd pl en tk rm : Int32) : CtX l yK_absorb [.code yK_absorb cK_absorb 3 (some .int)] rm_x_K_absorb2 1 6 D ca s0 [.ref (d), .int (nI k0)] [(d, .inr (2, kF g)), (g 4, .inl (ca 4, 4, .inr (.inr (.inr (.inr sf))))), (h, .inr (1, [.ref (b), .int (kd), .int (wd), .int (pl), .int (en), .int (tk), .int (b2i true), .int (rm)]))] (xE 2) := by
  refine ctX_of (cc := cK_absorb) (maxL := 3) (own := RK) (ret := (some .int)) Z rfl (by decide) rfl (Nat.le_of_ble_eq_true rfl) ?_
  intro p e s m args below meth c A ls Q S htb hlk hA hQ thr C hl
  have hx := S.1
  have hb := S.2.1
  have hown := S.2.2.2.1
  have hts := S.2.2.2.2
  generalize s.heap = H at C ⊢
  generalize ([] : List Loc) = locs at C ⊢
  replace hl : lv_has ls 3 [(0, .ref (d)), (1, .int (nI k0))] := hl
  refine lv_aload_n hx hb dK_absorb_0 rfl (lv_at hl 0 rfl) ?_
  refine lv_iload_n hx hb dK_absorb_1 rfl (lv_at hl 1 rfl) ?_
  refine n_callR (wc := [(d, .inr (2, kF g)), (g 4, .inl (ca 4, 4, .inr (.inr (.inr (.inr sf)))))]) (wr := [(h, .inr (1, [.ref (b), .int (kd), .int (wd), .int (pl), .int (en), .int (tk), .int (b2i true), .int (rm)]))]) C [0, 1] [2] rfl rfl rfl rfl (by decide) (fun hp => va_runV (rest := []) S (c_K_spongeAt l D ca s0 a0 Z d g sf k0 hk0 h hsf _) (cwV 1 hts (gV g_171 g_172 g_1 g_30 g_173) rfl rfl rfl (by decide +kernel) ⟨Nat.le_of_ble_eq_true rfl, Nat.le_of_ble_eq_true rfl⟩) ⟨hp.1, n_recv C 0 2 rfl rfl, hp.2⟩ rfl rfl hl.1 rfl (lv_room (Nat.le_of_ble_eq_true rfl)) dK_absorb_2 ⟨Nat.le_of_ble_eq_true rfl, Nat.le_of_ble_eq_true rfl⟩) (fun H locs C => ?_)
  replace C : Cx D ca s0 A s [(d, .inr (2, kF g)), (g 4, .inl (ca 4, 4, .inr (.inr (.inr (.inr sf))))), (h, .inr (1, [.ref (b), .int (kd), .int (wd), .int (pl), .int (en), .int (tk), .int (b2i true), .int (rm)]))] H locs := C.re [1, 2, 0] rfl rfl
  refine lv_astore_n hx hb dK_absorb_5 rfl hl (Nat.le_of_ble_eq_true rfl) rfl (fun ls hl => ?_)
  replace hl : lv_has ls 3 [(2, .ref (h)), (0, .ref (d)), (1, .int (nI k0))] := hl
  refine lv_aload_n hx hb dK_absorb_6 rfl (lv_at hl 0 rfl) ?_
  refine n_getN S C Z hin_S 2 rfl rfl 6 (by decide) t_6 rfl dK_absorb_7 ?_
  refine lv_topi (nm_r (e' := nI 1) rfl ?_)
  refine n_if_ne (tgt := 17) S (by omega) dK_absorb_10 (by decide) (fun hc => ?_) (fun hc => False.elim (by omega))
  refine lv_iconst (v := nI 0) hx hb dK_absorb_17 (by decide) ?_
  exact n_callXP C (fun hp => vx_runS (rest := []) S (x_K_refuseStateUnless l D ca s0 a0 Z hl0 sx Xs _) (cwS 1 hts (gS g_237 g_238 g_30 g_239) rfl rfl rfl (by decide +kernel) ⟨Nat.le_of_ble_eq_true rfl, Nat.le_of_ble_eq_true rfl⟩) hp rfl rfl hl.1 rfl (lv_room (Nat.le_of_ble_eq_true rfl)) dK_absorb_18 ⟨Nat.le_of_ble_eq_true rfl, Nat.le_of_ble_eq_true rfl⟩) (fun q9 ce H locs C c1 c2 c3 => thr q9 ce _ _ _ _ _ _ _ (Nat.le_of_ble_eq_true rfl) (Nat.le_of_ble_eq_true rfl) C c1 c2 c3)
abbrev rm_K_absorb_ok : Room := { frames := 6, cells := 0, slots := 0, locals := 149 }
set_option maxHeartbeats 4000000 in
set_option maxRecDepth 100000 in
theorem c_K_absorb_ok (l : Launch) (D : va_G) (ca : Nat → ClassId) (s0 : State) (a0 : Array Value) (Z : Wd a0 s0) (tz : Nat → Nat) (Zs : ZS tz s0) (d : Nat) (g : Nat → Nat) (sf : Nat → Option Nat) (k0 : Nat) (hk0 : k0 < 4) (h b : Nat) (hsf : sf k0 = some h) (L : Nat → Int64) (en tk rm : Int32) (k : Nat) (hk : k < 16) (c0 : Co) (hL : kEq (lb L) c0.1) (hp0 : c0.2 < wid k) (rb : Nat) (f : Nat → Int32) (T : Nat → Nat) (n : Nat) (hn : n ≤ 300) (hT : sb_Lat T n f) : CtI l yK_absorb [.code yK_absorb cK_absorb 3 (some .int)] rm_K_absorb_ok 0 0 D ca s0 [.ref (d), .int (nI k0)] [(d, .inr (2, kF g)), (g 4, .inl (ca 4, 4, .inr (.inr (.inr (.inr sf))))), (h, .inr (1, [.ref (b), .int (nI k), .int (nI (wid k)), .int (nI (c0.2)), .int (en), .int (tk), .int (b2i false), .int (rm)])), (b, .inl (ca 2, 25, .inr (.inl (L)))), (g 0, .inr (0, [.ref (rb), .int (nI n)])), (rb, .inl (ca 3, 300, .inl (f)))] (S := Nat → Int64) (fun r M => r = tk + nI n ∧ kEq (lb M) (tapC (wid k) k c0 T n).1) (fun M => [(d, .inr (2, kF g)), (g 4, .inl (ca 4, 4, .inr (.inr (.inr (.inr sf))))), (h, .inr (1, [.ref (b), .int (nI k), .int (nI (wid k)), .int (nI (tapC (wid k) k c0 T n).2), .int (en), .int (tk + nI n), .int (b2i false), .int (rm)])), (b, .inl (ca 2, 25, .inr (.inl M))), (g 0, .inr (0, [.ref (rb), .int (nI n)])), (rb, .inl (ca 3, 300, .inl f))]) := by
  refine ctI_of (cc := cK_absorb) (maxL := 3) (own := RK) Z rfl (by decide) rfl (Nat.le_of_ble_eq_true rfl) ?_
  intro p e s m args below meth c A ls Q S hnm ret C hl
  have hx := S.1
  have hb := S.2.1
  have hown := S.2.2.2.1
  have hts := S.2.2.2.2
  generalize s.heap = H at C ⊢
  generalize ([] : List Loc) = locs at C ⊢
  replace hl : lv_has ls 3 [(0, .ref (d)), (1, .int (nI k0))] := hl
  refine lv_aload_n hx hb dK_absorb_0 rfl (lv_at hl 0 rfl) ?_
  refine lv_iload_n hx hb dK_absorb_1 rfl (lv_at hl 1 rfl) ?_
  refine n_callR (wc := [(d, .inr (2, kF g)), (g 4, .inl (ca 4, 4, .inr (.inr (.inr (.inr sf)))))]) (wr := [(h, .inr (1, [.ref (b), .int (nI k), .int (nI (wid k)), .int (nI (c0.2)), .int (en), .int (tk), .int (b2i false), .int (rm)])), (b, .inl (ca 2, 25, .inr (.inl (L)))), (g 0, .inr (0, [.ref (rb), .int (nI n)])), (rb, .inl (ca 3, 300, .inl (f)))]) C [0, 1] [2, 3, 4, 5] rfl rfl rfl rfl (by decide) (fun hp => va_runV (rest := []) S (c_K_spongeAt l D ca s0 a0 Z d g sf k0 hk0 h hsf _) (cwV 1 hts (gV g_171 g_172 g_1 g_30 g_173) rfl rfl rfl (by decide +kernel) ⟨Nat.le_of_ble_eq_true rfl, Nat.le_of_ble_eq_true rfl⟩) ⟨hp.1, n_recv C 0 2 rfl rfl, hp.2⟩ rfl rfl hl.1 rfl (lv_room (Nat.le_of_ble_eq_true rfl)) dK_absorb_2 ⟨Nat.le_of_ble_eq_true rfl, Nat.le_of_ble_eq_true rfl⟩) (fun H locs C => ?_)
  replace C : Cx D ca s0 A s [(d, .inr (2, kF g)), (g 4, .inl (ca 4, 4, .inr (.inr (.inr (.inr sf))))), (h, .inr (1, [.ref (b), .int (nI k), .int (nI (wid k)), .int (nI (c0.2)), .int (en), .int (tk), .int (b2i false), .int (rm)])), (b, .inl (ca 2, 25, .inr (.inl (L)))), (g 0, .inr (0, [.ref (rb), .int (nI n)])), (rb, .inl (ca 3, 300, .inl (f)))] H locs := C.re [4, 5, 0, 1, 2, 3] rfl rfl
  refine lv_astore_n hx hb dK_absorb_5 rfl hl (Nat.le_of_ble_eq_true rfl) rfl (fun ls hl => ?_)
  replace hl : lv_has ls 3 [(2, .ref (h)), (0, .ref (d)), (1, .int (nI k0))] := hl
  refine lv_aload_n hx hb dK_absorb_6 rfl (lv_at hl 0 rfl) ?_
  refine n_getN S C Z hin_S 2 rfl rfl 6 (by decide) t_6 rfl dK_absorb_7 ?_
  refine lv_topi (nm_r (e' := nI 0) rfl ?_)
  refine n_if_ne (tgt := 17) S (by omega) dK_absorb_10 (by decide) (fun hc => False.elim (by omega)) (fun hc => ?_)
  refine lv_iconst (v := nI 1) hx hb dK_absorb_13 (by decide) ?_
  refine lv_goto (tgt := 18) hx hb dK_absorb_14 (by decide) ?_
  refine n_callPV C (fun hp => va_runS (rest := []) S (c_K_refuseStateUnless l D ca s0 a0 Z _) (cwS 1 hts (gS g_237 g_238 g_30 g_239) rfl rfl rfl (by decide +kernel) ⟨Nat.le_of_ble_eq_true rfl, Nat.le_of_ble_eq_true rfl⟩) hp rfl rfl hl.1 rfl (lv_room (Nat.le_of_ble_eq_true rfl)) dK_absorb_18 ⟨Nat.le_of_ble_eq_true rfl, Nat.le_of_ble_eq_true rfl⟩) (fun u H locs hp C => ?_)
  refine lv_aload_n hx hb dK_absorb_21 rfl (lv_at hl 0 rfl) ?_
  refine lv_aload_n hx hb dK_absorb_22 rfl (lv_at hl 1 rfl) ?_
  refine n_get S C hin_K 0 rfl rfl 0 (by decide) g_82 rfl dK_absorb_23 ?_
  refine n_callI (wc := [(h, .inr (1, [.ref (b), .int (nI k), .int (nI (wid k)), .int (nI (c0.2)), .int (en), .int (tk), .int (b2i false), .int (rm)])), (b, .inl (ca 2, 25, .inr (.inl (L)))), (g 0, .inr (0, [.ref (rb), .int (nI n)])), (rb, .inl (ca 3, 300, .inl (f)))]) (wr := [(d, .inr (2, kF g)), (g 4, .inl (ca 4, 4, .inr (.inr (.inr (.inr sf)))))]) C [2, 3, 4, 5] [0, 1] rfl rfl rfl rfl (by decide) (fun hp => va_runV (rest := []) S (c_S_takeTape l D ca s0 a0 Z tz Zs h b L en tk (b2i false) rm (wid k) (by have := wid_in k hk; omega) c0 hL hp0 (g 0) rb f T n hn hT k hk _) (cwV 1 hts (gV g_247 g_248 g_249 g_32 g_250) rfl rfl rfl (by decide +kernel) ⟨Nat.le_of_ble_eq_true rfl, Nat.le_of_ble_eq_true rfl⟩) ⟨hp.1, n_recv C 2 1 rfl rfl, hp.2⟩ rfl rfl hl.1 rfl (lv_room (Nat.le_of_ble_eq_true rfl)) dK_absorb_26 ⟨Nat.le_of_ble_eq_true rfl, Nat.le_of_ble_eq_true rfl⟩) (fun r u H locs hp C => ?_)
  replace C : Cx D ca s0 A s [(d, .inr (2, kF g)), (g 4, .inl (ca 4, 4, .inr (.inr (.inr (.inr sf))))), (h, .inr (1, [.ref (b), .int (nI k), .int (nI (wid k)), .int (nI ((tapC (wid k) k c0 T n).2)), .int (en), .int (tk + nI n), .int (b2i false), .int (rm)])), (b, .inl (ca 2, 25, .inr (.inl (u)))), (g 0, .inr (0, [.ref (rb), .int (nI n)])), (rb, .inl (ca 3, 300, .inl (f)))] H locs := C.re [0, 1, 2, 3, 4, 5] rfl rfl
  obtain ⟨rfl, hp⟩ := hp
  exact ret (tk + nI n) u _ _ _ _ _ _ (Nat.le_refl _) (Nat.le_refl _) (⟨rfl, hp⟩) C dK_absorb_29
abbrev rm_x_K_bytes1 : Room := { frames := 7, cells := 1, slots := 6, locals := 111 }
set_option maxHeartbeats 4000000 in
set_option maxRecDepth 100000 in
theorem x_K_bytes1 (l : Launch) (D : va_G) (ca : Nat → ClassId) (s0 : State) (a0 : Array Value) (Z : Wd a0 s0) (hl0 : l.stackTraces = false) (sx : Nat → Nat) (Xs : XS sx s0) (d : Nat) (g : Nat → Nat) (k : Int32) (hno : ¬ (¬ k < 0 ∧ k < 4)) (y : Int32) (x : Int64) : CtX l yK_bytes [.code yK_bytes cK_bytes 6 (some .int)] rm_x_K_bytes1 1 6 D ca s0 [.ref (d), .int (k), .int (y), .long (x)] [(d, .inr (2, kF g))] (xE 0) := by
  refine ctX_of (cc := cK_bytes) (maxL := 6) (own := RK) (ret := (some .int)) Z rfl (by decide) rfl (Nat.le_of_ble_eq_true rfl) ?_
  intro p e s m args below meth c A ls Q S htb hlk hA hQ thr C hl
  have hx := S.1
  have hb := S.2.1
  have hown := S.2.2.2.1
  have hts := S.2.2.2.2
  generalize s.heap = H at C ⊢
  generalize ([] : List Loc) = locs at C ⊢
  replace hl : lv_has ls 6 [(0, .ref (d)), (1, .int (k)), (2, .int (y)), (3, .long (x))] := hl
  refine lv_aload_n hx hb dK_bytes_0 rfl (lv_at hl 0 rfl) ?_
  refine lv_iload_n hx hb dK_bytes_1 rfl (lv_at hl 1 rfl) ?_
  exact n_callXP C (fun hp => vx_runV (rest := []) S (x_K_spongeAt l D ca s0 a0 Z hl0 sx Xs d k hno _) (cwV 1 hts (gV g_171 g_172 g_1 g_30 g_173) rfl rfl rfl (by decide +kernel) ⟨Nat.le_of_ble_eq_true rfl, Nat.le_of_ble_eq_true rfl⟩) ⟨hp.1, n_recv C 0 2 rfl rfl, hp.2⟩ rfl rfl hl.1 rfl (lv_room (Nat.le_of_ble_eq_true rfl)) dK_bytes_2 ⟨Nat.le_of_ble_eq_true rfl, Nat.le_of_ble_eq_true rfl⟩) (fun q9 ce H locs C c1 c2 c3 => thr q9 ce _ _ _ _ _ _ _ (Nat.le_of_ble_eq_true rfl) (Nat.le_of_ble_eq_true rfl) C c1 c2 c3)
abbrev rm_x_K_bytes2 : Room := { frames := 7, cells := 1, slots := 6, locals := 110 }
set_option maxHeartbeats 4000000 in
set_option maxRecDepth 100000 in
theorem x_K_bytes2 (l : Launch) (D : va_G) (ca : Nat → ClassId) (s0 : State) (a0 : Array Value) (Z : Wd a0 s0) (hl0 : l.stackTraces = false) (sx : Nat → Nat) (Xs : XS sx s0) (d : Nat) (g : Nat → Nat) (sf : Nat → Option Nat) (k0 : Nat) (hk0 : k0 < 4) (h b : Nat) (hsf : sf k0 = some h) (y : Int32) (hr : y < nI 1 ∨ nI 8 < y) (x : Int64) : CtX l yK_bytes [.code yK_bytes cK_bytes 6 (some .int)] rm_x_K_bytes2 1 6 D ca s0 [.ref (d), .int (nI k0), .int (y), .long (x)] [(d, .inr (2, kF g)), (g 4, .inl (ca 4, 4, .inr (.inr (.inr (.inr sf)))))] (xE 1) := by
  refine ctX_of (cc := cK_bytes) (maxL := 6) (own := RK) (ret := (some .int)) Z rfl (by decide) rfl (Nat.le_of_ble_eq_true rfl) ?_
  intro p e s m args below meth c A ls Q S htb hlk hA hQ thr C hl
  have hx := S.1
  have hb := S.2.1
  have hown := S.2.2.2.1
  have hts := S.2.2.2.2
  generalize s.heap = H at C ⊢
  generalize ([] : List Loc) = locs at C ⊢
  replace hl : lv_has ls 6 [(0, .ref (d)), (1, .int (nI k0)), (2, .int (y)), (3, .long (x))] := hl
  refine lv_aload_n hx hb dK_bytes_0 rfl (lv_at hl 0 rfl) ?_
  refine lv_iload_n hx hb dK_bytes_1 rfl (lv_at hl 1 rfl) ?_
  refine n_callR (wc := [(d, .inr (2, kF g)), (g 4, .inl (ca 4, 4, .inr (.inr (.inr (.inr sf)))))]) (wr := []) C [0, 1] [] rfl rfl rfl rfl (by decide) (fun hp => va_runV (rest := []) S (c_K_spongeAt l D ca s0 a0 Z d g sf k0 hk0 h hsf _) (cwV 1 hts (gV g_171 g_172 g_1 g_30 g_173) rfl rfl rfl (by decide +kernel) ⟨Nat.le_of_ble_eq_true rfl, Nat.le_of_ble_eq_true rfl⟩) ⟨hp.1, n_recv C 0 2 rfl rfl, hp.2⟩ rfl rfl hl.1 rfl (lv_room (Nat.le_of_ble_eq_true rfl)) dK_bytes_2 ⟨Nat.le_of_ble_eq_true rfl, Nat.le_of_ble_eq_true rfl⟩) (fun H locs C => ?_)
  replace C : Cx D ca s0 A s [(d, .inr (2, kF g)), (g 4, .inl (ca 4, 4, .inr (.inr (.inr (.inr sf)))))] H locs := C.re [0, 1] rfl rfl
  refine lv_astore hx hb dK_bytes_5 hl (Nat.le_of_ble_eq_true rfl) rfl (fun ls hl => ?_)
  replace hl : lv_has ls 6 [(5, .ref (h)), (0, .ref (d)), (1, .int (nI k0)), (2, .int (y)), (3, .long (x))] := hl
  refine lv_iload_n hx hb dK_bytes_7 rfl (lv_at hl 3 rfl) ?_
  refine n_callP C (fun hp => va_runS (rest := []) S (c_K_isByteCount_no l D ca s0 a0 Z y hr _) (cwS 1 hts (gS g_101 g_102 g_30 g_103) rfl rfl rfl (by decide +kernel) ⟨Nat.le_of_ble_eq_true rfl, Nat.le_of_ble_eq_true rfl⟩) hp rfl rfl hl.1 rfl (lv_room (Nat.le_of_ble_eq_true rfl)) dK_bytes_8 ⟨Nat.le_of_ble_eq_true rfl, Nat.le_of_ble_eq_true rfl⟩) (fun r u H locs hp C => ?_)
  subst hp
  exact n_callXP C (fun hp => vx_runS (rest := []) S (x_K_refuseUnless l D ca s0 a0 Z hl0 sx Xs _) (cwS 1 hts (gS g_104 g_105 g_30 g_106) rfl rfl rfl (by decide +kernel) ⟨Nat.le_of_ble_eq_true rfl, Nat.le_of_ble_eq_true rfl⟩) hp rfl rfl hl.1 rfl (lv_room (Nat.le_of_ble_eq_true rfl)) dK_bytes_11 ⟨Nat.le_of_ble_eq_true rfl, Nat.le_of_ble_eq_true rfl⟩) (fun q9 ce H locs C c1 c2 c3 => thr q9 ce _ _ _ _ _ _ _ (Nat.le_of_ble_eq_true rfl) (Nat.le_of_ble_eq_true rfl) C c1 c2 c3)
abbrev rm_x_K_bytes3 : Room := { frames := 7, cells := 1, slots := 6, locals := 110 }
set_option maxHeartbeats 4000000 in
set_option maxRecDepth 100000 in
theorem x_K_bytes3 (l : Launch) (D : va_G) (ca : Nat → ClassId) (s0 : State) (a0 : Array Value) (Z : Wd a0 s0) (hl0 : l.stackTraces = false) (sx : Nat → Nat) (Xs : XS sx s0) (d : Nat) (g : Nat → Nat) (sf : Nat → Option Nat) (k0 : Nat) (hk0 : k0 < 4) (h b : Nat) (hsf : sf k0 = some h) (wd pl en tk rm : Int32) (dn : Bool) (k : Nat) (hk : k < 16) (n : Nat) (hn1 : 1 ≤ n) (hn : n ≤ 8) (x : Int64) (hr : dn = true ∨ 11 < k) : CtX l yK_bytes [.code yK_bytes cK_bytes 6 (some .int)] rm_x_K_bytes3 1 6 D ca s0 [.ref (d), .int (nI k0), .int (nI n), .long (x)] [(d, .inr (2, kF g)), (g 4, .inl (ca 4, 4, .inr (.inr (.inr (.inr sf))))), (h, .inr (1, [.ref (b), .int (nI k), .int (wd), .int (pl), .int (en), .int (tk), .int (b2i dn), .int (rm)]))] (xE 2) := by
  refine ctX_of (cc := cK_bytes) (maxL := 6) (own := RK) (ret := (some .int)) Z rfl (by decide) rfl (Nat.le_of_ble_eq_true rfl) ?_
  intro p e s m args below meth c A ls Q S htb hlk hA hQ thr C hl
  have hx := S.1
  have hb := S.2.1
  have hown := S.2.2.2.1
  have hts := S.2.2.2.2
  generalize s.heap = H at C ⊢
  generalize ([] : List Loc) = locs at C ⊢
  replace hl : lv_has ls 6 [(0, .ref (d)), (1, .int (nI k0)), (2, .int (nI n)), (3, .long (x))] := hl
  refine lv_aload_n hx hb dK_bytes_0 rfl (lv_at hl 0 rfl) ?_
  refine lv_iload_n hx hb dK_bytes_1 rfl (lv_at hl 1 rfl) ?_
  refine n_callR (wc := [(d, .inr (2, kF g)), (g 4, .inl (ca 4, 4, .inr (.inr (.inr (.inr sf)))))]) (wr := [(h, .inr (1, [.ref (b), .int (nI k), .int (wd), .int (pl), .int (en), .int (tk), .int (b2i dn), .int (rm)]))]) C [0, 1] [2] rfl rfl rfl rfl (by decide) (fun hp => va_runV (rest := []) S (c_K_spongeAt l D ca s0 a0 Z d g sf k0 hk0 h hsf _) (cwV 1 hts (gV g_171 g_172 g_1 g_30 g_173) rfl rfl rfl (by decide +kernel) ⟨Nat.le_of_ble_eq_true rfl, Nat.le_of_ble_eq_true rfl⟩) ⟨hp.1, n_recv C 0 2 rfl rfl, hp.2⟩ rfl rfl hl.1 rfl (lv_room (Nat.le_of_ble_eq_true rfl)) dK_bytes_2 ⟨Nat.le_of_ble_eq_true rfl, Nat.le_of_ble_eq_true rfl⟩) (fun H locs C => ?_)
  replace C : Cx D ca s0 A s [(d, .inr (2, kF g)), (g 4, .inl (ca 4, 4, .inr (.inr (.inr (.inr sf))))), (h, .inr (1, [.ref (b), .int (nI k), .int (wd), .int (pl), .int (en), .int (tk), .int (b2i dn), .int (rm)]))] H locs := C.re [1, 2, 0] rfl rfl
  refine lv_astore hx hb dK_bytes_5 hl (Nat.le_of_ble_eq_true rfl) rfl (fun ls hl => ?_)
  replace hl : lv_has ls 6 [(5, .ref (h)), (0, .ref (d)), (1, .int (nI k0)), (2, .int (nI n)), (3, .long (x))] := hl
  refine lv_iload_n hx hb dK_bytes_7 rfl (lv_at hl 3 rfl) ?_
  refine n_callP C (fun hp => va_runS (rest := []) S (c_K_isByteCount l D ca s0 a0 Z n hn1 hn _) (cwS 1 hts (gS g_101 g_102 g_30 g_103) rfl rfl rfl (by decide +kernel) ⟨Nat.le_of_ble_eq_true rfl, Nat.le_of_ble_eq_true rfl⟩) hp rfl rfl hl.1 rfl (lv_room (Nat.le_of_ble_eq_true rfl)) dK_bytes_8 ⟨Nat.le_of_ble_eq_true rfl, Nat.le_of_ble_eq_true rfl⟩) (fun r u H locs hp C => ?_)
  subst hp
  refine n_callPV C (fun hp => va_runS (rest := []) S (c_K_refuseUnless l D ca s0 a0 Z _) (cwS 1 hts (gS g_104 g_105 g_30 g_106) rfl rfl rfl (by decide +kernel) ⟨Nat.le_of_ble_eq_true rfl, Nat.le_of_ble_eq_true rfl⟩) hp rfl rfl hl.1 rfl (lv_room (Nat.le_of_ble_eq_true rfl)) dK_bytes_11 ⟨Nat.le_of_ble_eq_true rfl, Nat.le_of_ble_eq_true rfl⟩) (fun u H locs hp C => ?_)
  refine lv_aload hx hb dK_bytes_14 (lv_at hl 0 rfl) ?_
  refine n_getN S C Z hin_S 2 rfl rfl 6 (by decide) t_6 rfl dK_bytes_16 ?_
  refine lv_if_ne (tgt := 36) hx hb dK_bytes_19 (by decide) (fun hc19 => ?_) (fun hc19 => ?_)
  · skip
    refine lv_iconst (v := nI 0) hx hb dK_bytes_36 (by decide) ?_
    exact n_callXP C (fun hp => vx_runS (rest := []) S (x_K_refuseStateUnless l D ca s0 a0 Z hl0 sx Xs _) (cwS 1 hts (gS g_237 g_238 g_30 g_239) rfl rfl rfl (by decide +kernel) ⟨Nat.le_of_ble_eq_true rfl, Nat.le_of_ble_eq_true rfl⟩) hp rfl rfl hl.1 rfl (lv_room (Nat.le_of_ble_eq_true rfl)) dK_bytes_37 ⟨Nat.le_of_ble_eq_true rfl, Nat.le_of_ble_eq_true rfl⟩) (fun q9 ce H locs C c1 c2 c3 => thr q9 ce _ _ _ _ _ _ _ (Nat.le_of_ble_eq_true rfl) (Nat.le_of_ble_eq_true rfl) C c1 c2 c3)
  · skip
    refine lv_aload hx hb dK_bytes_22 (lv_at hl 0 rfl) ?_
    refine n_getN S C Z hin_S 2 rfl rfl 1 (by decide) t_5 rfl dK_bytes_24 ?_
    refine lv_bipush (v := nI 12) hx hb dK_bytes_27 (by decide) ?_
    refine n_icmp_ge (tgt := 36) S (by omega) (by omega) dK_bytes_29 (by decide) (fun hc => ?_) (fun hc => absurd hc19 (b2i_n0.mpr (hr.resolve_right (by omega))))
    refine lv_iconst (v := nI 0) hx hb dK_bytes_36 (by decide) ?_
    exact n_callXP C (fun hp => vx_runS (rest := []) S (x_K_refuseStateUnless l D ca s0 a0 Z hl0 sx Xs _) (cwS 1 hts (gS g_237 g_238 g_30 g_239) rfl rfl rfl (by decide +kernel) ⟨Nat.le_of_ble_eq_true rfl, Nat.le_of_ble_eq_true rfl⟩) hp rfl rfl hl.1 rfl (lv_room (Nat.le_of_ble_eq_true rfl)) dK_bytes_37 ⟨Nat.le_of_ble_eq_true rfl, Nat.le_of_ble_eq_true rfl⟩) (fun q9 ce H locs C c1 c2 c3 => thr q9 ce _ _ _ _ _ _ _ (Nat.le_of_ble_eq_true rfl) (Nat.le_of_ble_eq_true rfl) C c1 c2 c3)
abbrev rm_K_bytes_ok : Room := { frames := 4, cells := 0, slots := 0, locals := 107 }
set_option maxHeartbeats 4000000 in
set_option maxRecDepth 100000 in
theorem c_K_bytes_ok (l : Launch) (D : va_G) (ca : Nat → ClassId) (s0 : State) (a0 : Array Value) (Z : Wd a0 s0) (tz : Nat → Nat) (Zs : ZS tz s0) (d : Nat) (g : Nat → Nat) (sf : Nat → Option Nat) (k0 : Nat) (hk0 : k0 < 4) (h b : Nat) (hsf : sf k0 = some h) (L : Nat → Int64) (en tk rm : Int32) (k : Nat) (hk : k < 16) (c0 : Co) (hL : kEq (lb L) c0.1) (hp0 : c0.2 < wid k) (hk12 : k < 12) (n : Nat) (hn1 : 1 ≤ n) (hn : n ≤ 8) (x : Int64) : CtI l yK_bytes [.code yK_bytes cK_bytes 6 (some .int)] rm_K_bytes_ok 0 0 D ca s0 [.ref (d), .int (nI k0), .int (nI n), .long (x)] [(d, .inr (2, kF g)), (g 4, .inl (ca 4, 4, .inr (.inr (.inr (.inr sf))))), (h, .inr (1, [.ref (b), .int (nI k), .int (nI (wid k)), .int (nI (c0.2)), .int (en), .int (tk), .int (b2i false), .int (rm)])), (b, .inl (ca 2, 25, .inr (.inl (L))))] (S := Nat → Int64) (fun r M => r = tk + nI n ∧ kEq (lb M) (takeR (wid k) c0 (byAt x) n).1) (fun M => [(d, .inr (2, kF g)), (g 4, .inl (ca 4, 4, .inr (.inr (.inr (.inr sf))))), (h, .inr (1, [.ref (b), .int (nI k), .int (nI (wid k)), .int (nI (takeR (wid k) c0 (byAt x) n).2), .int (en), .int (tk + nI n), .int (b2i false), .int (rm)])), (b, .inl (ca 2, 25, .inr (.inl M)))]) := by
  refine ctI_of (cc := cK_bytes) (maxL := 6) (own := RK) Z rfl (by decide) rfl (Nat.le_of_ble_eq_true rfl) ?_
  intro p e s m args below meth c A ls Q S hnm ret C hl
  have hx := S.1
  have hb := S.2.1
  have hown := S.2.2.2.1
  have hts := S.2.2.2.2
  generalize s.heap = H at C ⊢
  generalize ([] : List Loc) = locs at C ⊢
  replace hl : lv_has ls 6 [(0, .ref (d)), (1, .int (nI k0)), (2, .int (nI n)), (3, .long (x))] := hl
  refine lv_aload_n hx hb dK_bytes_0 rfl (lv_at hl 0 rfl) ?_
  refine lv_iload_n hx hb dK_bytes_1 rfl (lv_at hl 1 rfl) ?_
  refine n_callR (wc := [(d, .inr (2, kF g)), (g 4, .inl (ca 4, 4, .inr (.inr (.inr (.inr sf)))))]) (wr := [(h, .inr (1, [.ref (b), .int (nI k), .int (nI (wid k)), .int (nI (c0.2)), .int (en), .int (tk), .int (b2i false), .int (rm)])), (b, .inl (ca 2, 25, .inr (.inl (L))))]) C [0, 1] [2, 3] rfl rfl rfl rfl (by decide) (fun hp => va_runV (rest := []) S (c_K_spongeAt l D ca s0 a0 Z d g sf k0 hk0 h hsf _) (cwV 1 hts (gV g_171 g_172 g_1 g_30 g_173) rfl rfl rfl (by decide +kernel) ⟨Nat.le_of_ble_eq_true rfl, Nat.le_of_ble_eq_true rfl⟩) ⟨hp.1, n_recv C 0 2 rfl rfl, hp.2⟩ rfl rfl hl.1 rfl (lv_room (Nat.le_of_ble_eq_true rfl)) dK_bytes_2 ⟨Nat.le_of_ble_eq_true rfl, Nat.le_of_ble_eq_true rfl⟩) (fun H locs C => ?_)
  replace C : Cx D ca s0 A s [(d, .inr (2, kF g)), (g 4, .inl (ca 4, 4, .inr (.inr (.inr (.inr sf))))), (h, .inr (1, [.ref (b), .int (nI k), .int (nI (wid k)), .int (nI (c0.2)), .int (en), .int (tk), .int (b2i false), .int (rm)])), (b, .inl (ca 2, 25, .inr (.inl (L))))] H locs := C.re [2, 3, 0, 1] rfl rfl
  refine lv_astore hx hb dK_bytes_5 hl (Nat.le_of_ble_eq_true rfl) rfl (fun ls hl => ?_)
  replace hl : lv_has ls 6 [(5, .ref (h)), (0, .ref (d)), (1, .int (nI k0)), (2, .int (nI n)), (3, .long (x))] := hl
  refine lv_iload_n hx hb dK_bytes_7 rfl (lv_at hl 3 rfl) ?_
  refine n_callP C (fun hp => va_runS (rest := []) S (c_K_isByteCount l D ca s0 a0 Z n hn1 hn _) (cwS 1 hts (gS g_101 g_102 g_30 g_103) rfl rfl rfl (by decide +kernel) ⟨Nat.le_of_ble_eq_true rfl, Nat.le_of_ble_eq_true rfl⟩) hp rfl rfl hl.1 rfl (lv_room (Nat.le_of_ble_eq_true rfl)) dK_bytes_8 ⟨Nat.le_of_ble_eq_true rfl, Nat.le_of_ble_eq_true rfl⟩) (fun r u H locs hp C => ?_)
  subst hp
  refine n_callPV C (fun hp => va_runS (rest := []) S (c_K_refuseUnless l D ca s0 a0 Z _) (cwS 1 hts (gS g_104 g_105 g_30 g_106) rfl rfl rfl (by decide +kernel) ⟨Nat.le_of_ble_eq_true rfl, Nat.le_of_ble_eq_true rfl⟩) hp rfl rfl hl.1 rfl (lv_room (Nat.le_of_ble_eq_true rfl)) dK_bytes_11 ⟨Nat.le_of_ble_eq_true rfl, Nat.le_of_ble_eq_true rfl⟩) (fun u H locs hp C => ?_)
  refine lv_aload hx hb dK_bytes_14 (lv_at hl 0 rfl) ?_
  refine n_getN S C Z hin_S 2 rfl rfl 6 (by decide) t_6 rfl dK_bytes_16 ?_
  refine lv_topi (nm_r (e' := nI 0) rfl ?_)
  refine n_if_ne (tgt := 36) S (by omega) dK_bytes_19 (by decide) (fun hc => False.elim (by omega)) (fun hc => ?_)
  refine lv_aload hx hb dK_bytes_22 (lv_at hl 0 rfl) ?_
  refine n_getN S C Z hin_S 2 rfl rfl 1 (by decide) t_5 rfl dK_bytes_24 ?_
  refine lv_bipush (v := nI 12) hx hb dK_bytes_27 (by decide) ?_
  refine n_icmp_ge (tgt := 36) S (by omega) (by omega) dK_bytes_29 (by decide) (fun hc => False.elim (by omega)) (fun hc => ?_)
  refine lv_iconst (v := nI 1) hx hb dK_bytes_32 (by decide) ?_
  refine lv_goto (tgt := 37) hx hb dK_bytes_33 (by decide) ?_
  refine n_callPV C (fun hp => va_runS (rest := []) S (c_K_refuseStateUnless l D ca s0 a0 Z _) (cwS 1 hts (gS g_237 g_238 g_30 g_239) rfl rfl rfl (by decide +kernel) ⟨Nat.le_of_ble_eq_true rfl, Nat.le_of_ble_eq_true rfl⟩) hp rfl rfl hl.1 rfl (lv_room (Nat.le_of_ble_eq_true rfl)) dK_bytes_37 ⟨Nat.le_of_ble_eq_true rfl, Nat.le_of_ble_eq_true rfl⟩) (fun u H locs hp C => ?_)
  refine lv_aload hx hb dK_bytes_40 (lv_at hl 0 rfl) ?_
  refine lv_iload_n hx hb dK_bytes_42 rfl (lv_at hl 3 rfl) ?_
  refine lv_lload_n hx hb dK_bytes_43 rfl (lv_at hl 4 rfl) ?_
  refine n_callI (wc := [(h, .inr (1, [.ref (b), .int (nI k), .int (nI (wid k)), .int (nI (c0.2)), .int (en), .int (tk), .int (b2i false), .int (rm)])), (b, .inl (ca 2, 25, .inr (.inl (L))))]) (wr := [(d, .inr (2, kF g)), (g 4, .inl (ca 4, 4, .inr (.inr (.inr (.inr sf)))))]) C [2, 3] [0, 1] rfl rfl rfl rfl (by decide) (fun hp => va_runV (rest := []) S (c_S_takeLong l D ca s0 a0 Z tz Zs h b L (nI k) en tk (b2i false) rm (wid k) (by have := wid_in k hk; omega) c0 hL hp0 n hn x _) (cwV 2 hts (gV g_258 g_259 g_260 g_32 g_261) rfl rfl rfl (by decide +kernel) ⟨Nat.le_of_ble_eq_true rfl, Nat.le_of_ble_eq_true rfl⟩) ⟨hp.1, n_recv C 2 1 rfl rfl, hp.2⟩ rfl rfl hl.1 rfl (lv_room (Nat.le_of_ble_eq_true rfl)) dK_bytes_44 ⟨Nat.le_of_ble_eq_true rfl, Nat.le_of_ble_eq_true rfl⟩) (fun r u H locs hp C => ?_)
  replace C : Cx D ca s0 A s [(d, .inr (2, kF g)), (g 4, .inl (ca 4, 4, .inr (.inr (.inr (.inr sf))))), (h, .inr (1, [.ref (b), .int (nI k), .int (nI (wid k)), .int (nI ((takeR (wid k) c0 (byAt x) n).2)), .int (en), .int (tk + nI n), .int (b2i false), .int (rm)])), (b, .inl (ca 2, 25, .inr (.inl (u))))] H locs := C.re [0, 1, 2, 3] rfl rfl
  obtain ⟨rfl, hp⟩ := hp
  exact ret (tk + nI n) u _ _ _ _ _ _ (Nat.le_refl _) (Nat.le_refl _) (⟨rfl, hp⟩) C dK_bytes_47
abbrev rm_x_K_end1 : Room := { frames := 7, cells := 1, slots := 6, locals := 111 }
set_option maxHeartbeats 4000000 in
set_option maxRecDepth 100000 in
theorem x_K_end1 (l : Launch) (D : va_G) (ca : Nat → ClassId) (s0 : State) (a0 : Array Value) (Z : Wd a0 s0) (hl0 : l.stackTraces = false) (sx : Nat → Nat) (Xs : XS sx s0) (d : Nat) (g : Nat → Nat) (k : Int32) (hno : ¬ (¬ k < 0 ∧ k < 4)) (y : Int32) : CtX l yK_end [.code yK_end cK_end 4 none] rm_x_K_end1 1 6 D ca s0 [.ref (d), .int (k), .int (y)] [(d, .inr (2, kF g))] (xE 0) := by
  refine ctX_of (cc := cK_end) (maxL := 4) (own := RK) (ret := none) Z rfl (by decide) rfl (Nat.le_of_ble_eq_true rfl) ?_
  intro p e s m args below meth c A ls Q S htb hlk hA hQ thr C hl
  have hx := S.1
  have hb := S.2.1
  have hown := S.2.2.2.1
  have hts := S.2.2.2.2
  generalize s.heap = H at C ⊢
  generalize ([] : List Loc) = locs at C ⊢
  replace hl : lv_has ls 4 [(0, .ref (d)), (1, .int (k)), (2, .int (y))] := hl
  refine lv_aload_n hx hb dK_end_0 rfl (lv_at hl 0 rfl) ?_
  refine lv_iload_n hx hb dK_end_1 rfl (lv_at hl 1 rfl) ?_
  exact n_callXP C (fun hp => vx_runV (rest := []) S (x_K_spongeAt l D ca s0 a0 Z hl0 sx Xs d k hno _) (cwV 1 hts (gV g_171 g_172 g_1 g_30 g_173) rfl rfl rfl (by decide +kernel) ⟨Nat.le_of_ble_eq_true rfl, Nat.le_of_ble_eq_true rfl⟩) ⟨hp.1, n_recv C 0 2 rfl rfl, hp.2⟩ rfl rfl hl.1 rfl (lv_room (Nat.le_of_ble_eq_true rfl)) dK_end_2 ⟨Nat.le_of_ble_eq_true rfl, Nat.le_of_ble_eq_true rfl⟩) (fun q9 ce H locs C c1 c2 c3 => thr q9 ce _ _ _ _ _ _ _ (Nat.le_of_ble_eq_true rfl) (Nat.le_of_ble_eq_true rfl) C c1 c2 c3)
abbrev rm_x_K_end2 : Room := { frames := 7, cells := 1, slots := 6, locals := 110 }
set_option maxHeartbeats 4000000 in
set_option maxRecDepth 100000 in
theorem x_K_end2 (l : Launch) (D : va_G) (ca : Nat → ClassId) (s0 : State) (a0 : Array Value) (Z : Wd a0 s0) (hl0 : l.stackTraces = false) (sx : Nat → Nat) (Xs : XS sx s0) (tz : Nat → Nat) (Zs : ZS tz s0) (d : Nat) (g : Nat → Nat) (sf : Nat → Option Nat) (k0 : Nat) (hk0 : k0 < 4) (h b : Nat) (hsf : sf k0 = some h) (wd pl en tk dn rm : Int32) (k : Nat) (hk : k < 16) (y : Int32) (hq : (hasL k = true ∧ (y < nI 1 ∨ nI 1000 < y)) ∨ (hasL k = false ∧ y ≠ nI (lenM k))) : CtX l yK_end [.code yK_end cK_end 4 none] rm_x_K_end2 1 6 D ca s0 [.ref (d), .int (nI k0), .int (y)] [(d, .inr (2, kF g)), (g 4, .inl (ca 4, 4, .inr (.inr (.inr (.inr sf))))), (h, .inr (1, [.ref (b), .int (nI k), .int (wd), .int (pl), .int (en), .int (tk), .int (dn), .int (rm)]))] (xE 1) := by
  refine ctX_of (cc := cK_end) (maxL := 4) (own := RK) (ret := none) Z rfl (by decide) rfl (Nat.le_of_ble_eq_true rfl) ?_
  intro p e s m args below meth c A ls Q S htb hlk hA hQ thr C hl
  have hx := S.1
  have hb := S.2.1
  have hown := S.2.2.2.1
  have hts := S.2.2.2.2
  generalize s.heap = H at C ⊢
  generalize ([] : List Loc) = locs at C ⊢
  replace hl : lv_has ls 4 [(0, .ref (d)), (1, .int (nI k0)), (2, .int (y))] := hl
  refine lv_aload_n hx hb dK_end_0 rfl (lv_at hl 0 rfl) ?_
  refine lv_iload_n hx hb dK_end_1 rfl (lv_at hl 1 rfl) ?_
  refine n_callR (wc := [(d, .inr (2, kF g)), (g 4, .inl (ca 4, 4, .inr (.inr (.inr (.inr sf)))))]) (wr := [(h, .inr (1, [.ref (b), .int (nI k), .int (wd), .int (pl), .int (en), .int (tk), .int (dn), .int (rm)]))]) C [0, 1] [2] rfl rfl rfl rfl (by decide) (fun hp => va_runV (rest := []) S (c_K_spongeAt l D ca s0 a0 Z d g sf k0 hk0 h hsf _) (cwV 1 hts (gV g_171 g_172 g_1 g_30 g_173) rfl rfl rfl (by decide +kernel) ⟨Nat.le_of_ble_eq_true rfl, Nat.le_of_ble_eq_true rfl⟩) ⟨hp.1, n_recv C 0 2 rfl rfl, hp.2⟩ rfl rfl hl.1 rfl (lv_room (Nat.le_of_ble_eq_true rfl)) dK_end_2 ⟨Nat.le_of_ble_eq_true rfl, Nat.le_of_ble_eq_true rfl⟩) (fun H locs C => ?_)
  replace C : Cx D ca s0 A s [(d, .inr (2, kF g)), (g 4, .inl (ca 4, 4, .inr (.inr (.inr (.inr sf))))), (h, .inr (1, [.ref (b), .int (nI k), .int (wd), .int (pl), .int (en), .int (tk), .int (dn), .int (rm)]))] H locs := C.re [1, 2, 0] rfl rfl
  refine lv_astore_n hx hb dK_end_5 rfl hl (Nat.le_of_ble_eq_true rfl) rfl (fun ls hl => ?_)
  replace hl : lv_has ls 4 [(3, .ref (h)), (0, .ref (d)), (1, .int (nI k0)), (2, .int (y))] := hl
  refine lv_aload_n hx hb dK_end_6 rfl (lv_at hl 0 rfl) ?_
  refine n_getN S C Z hin_S 2 rfl rfl 1 (by decide) t_5 rfl dK_end_7 ?_
  refine lv_iload_n hx hb dK_end_10 rfl (lv_at hl 3 rfl) ?_
  refine n_callP C (fun hp => va_runS (rest := []) S (c_K_isLengthOf_no l D ca s0 a0 Z tz Zs k y hk hq _) (cwS 2 hts (gS g_269 g_270 g_30 g_271) rfl rfl rfl (by decide +kernel) ⟨Nat.le_of_ble_eq_true rfl, Nat.le_of_ble_eq_true rfl⟩) hp rfl rfl hl.1 rfl (lv_room (Nat.le_of_ble_eq_true rfl)) dK_end_11 ⟨Nat.le_of_ble_eq_true rfl, Nat.le_of_ble_eq_true rfl⟩) (fun r u H locs hp C => ?_)
  subst hp
  exact n_callXP C (fun hp => vx_runS (rest := []) S (x_K_refuseUnless l D ca s0 a0 Z hl0 sx Xs _) (cwS 1 hts (gS g_104 g_105 g_30 g_106) rfl rfl rfl (by decide +kernel) ⟨Nat.le_of_ble_eq_true rfl, Nat.le_of_ble_eq_true rfl⟩) hp rfl rfl hl.1 rfl (lv_room (Nat.le_of_ble_eq_true rfl)) dK_end_14 ⟨Nat.le_of_ble_eq_true rfl, Nat.le_of_ble_eq_true rfl⟩) (fun q9 ce H locs C c1 c2 c3 => thr q9 ce _ _ _ _ _ _ _ (Nat.le_of_ble_eq_true rfl) (Nat.le_of_ble_eq_true rfl) C c1 c2 c3)
abbrev rm_x_K_end3 : Room := { frames := 7, cells := 1, slots := 6, locals := 110 }
set_option maxHeartbeats 4000000 in
set_option maxRecDepth 100000 in
theorem x_K_end3 (l : Launch) (D : va_G) (ca : Nat → ClassId) (s0 : State) (a0 : Array Value) (Z : Wd a0 s0) (hl0 : l.stackTraces = false) (sx : Nat → Nat) (Xs : XS sx s0) (tz : Nat → Nat) (Zs : ZS tz s0) (d : Nat) (g : Nat → Nat) (sf : Nat → Option Nat) (k0 : Nat) (hk0 : k0 < 4) (h b : Nat) (hsf : sf k0 = some h) (wd pl en tk rm : Int32) (k : Nat) (hk : k < 16) (len : Nat) (hlen : len ≤ 1000) (hq : (hasL k = true ∧ 1 ≤ len) ∨ (hasL k = false ∧ len = lenM k)) : CtX l yK_end [.code yK_end cK_end 4 none] rm_x_K_end3 1 6 D ca s0 [.ref (d), .int (nI k0), .int (nI len)] [(d, .inr (2, kF g)), (g 4, .inl (ca 4, 4, .inr (.inr (.inr (.inr sf))))), (h, .inr (1, [.ref (b), .int (nI k), .int (wd), .int (pl), .int (en), .int (tk), .int (b2i true), .int (rm)]))] (xE 2) := by
  refine ctX_of (cc := cK_end) (maxL := 4) (own := RK) (ret := none) Z rfl (by decide) rfl (Nat.le_of_ble_eq_true rfl) ?_
  intro p e s m args below meth c A ls Q S htb hlk hA hQ thr C hl
  have hx := S.1
  have hb := S.2.1
  have hown := S.2.2.2.1
  have hts := S.2.2.2.2
  generalize s.heap = H at C ⊢
  generalize ([] : List Loc) = locs at C ⊢
  replace hl : lv_has ls 4 [(0, .ref (d)), (1, .int (nI k0)), (2, .int (nI len))] := hl
  refine lv_aload_n hx hb dK_end_0 rfl (lv_at hl 0 rfl) ?_
  refine lv_iload_n hx hb dK_end_1 rfl (lv_at hl 1 rfl) ?_
  refine n_callR (wc := [(d, .inr (2, kF g)), (g 4, .inl (ca 4, 4, .inr (.inr (.inr (.inr sf)))))]) (wr := [(h, .inr (1, [.ref (b), .int (nI k), .int (wd), .int (pl), .int (en), .int (tk), .int (b2i true), .int (rm)]))]) C [0, 1] [2] rfl rfl rfl rfl (by decide) (fun hp => va_runV (rest := []) S (c_K_spongeAt l D ca s0 a0 Z d g sf k0 hk0 h hsf _) (cwV 1 hts (gV g_171 g_172 g_1 g_30 g_173) rfl rfl rfl (by decide +kernel) ⟨Nat.le_of_ble_eq_true rfl, Nat.le_of_ble_eq_true rfl⟩) ⟨hp.1, n_recv C 0 2 rfl rfl, hp.2⟩ rfl rfl hl.1 rfl (lv_room (Nat.le_of_ble_eq_true rfl)) dK_end_2 ⟨Nat.le_of_ble_eq_true rfl, Nat.le_of_ble_eq_true rfl⟩) (fun H locs C => ?_)
  replace C : Cx D ca s0 A s [(d, .inr (2, kF g)), (g 4, .inl (ca 4, 4, .inr (.inr (.inr (.inr sf))))), (h, .inr (1, [.ref (b), .int (nI k), .int (wd), .int (pl), .int (en), .int (tk), .int (b2i true), .int (rm)]))] H locs := C.re [1, 2, 0] rfl rfl
  refine lv_astore_n hx hb dK_end_5 rfl hl (Nat.le_of_ble_eq_true rfl) rfl (fun ls hl => ?_)
  replace hl : lv_has ls 4 [(3, .ref (h)), (0, .ref (d)), (1, .int (nI k0)), (2, .int (nI len))] := hl
  refine lv_aload_n hx hb dK_end_6 rfl (lv_at hl 0 rfl) ?_
  refine n_getN S C Z hin_S 2 rfl rfl 1 (by decide) t_5 rfl dK_end_7 ?_
  refine lv_iload_n hx hb dK_end_10 rfl (lv_at hl 3 rfl) ?_
  refine n_callP C (fun hp => va_runS (rest := []) S (c_K_isLengthOf l D ca s0 a0 Z tz Zs k len hk hlen hq _) (cwS 2 hts (gS g_269 g_270 g_30 g_271) rfl rfl rfl (by decide +kernel) ⟨Nat.le_of_ble_eq_true rfl, Nat.le_of_ble_eq_true rfl⟩) hp rfl rfl hl.1 rfl (lv_room (Nat.le_of_ble_eq_true rfl)) dK_end_11 ⟨Nat.le_of_ble_eq_true rfl, Nat.le_of_ble_eq_true rfl⟩) (fun r u H locs hp C => ?_)
  subst hp
  refine n_callPV C (fun hp => va_runS (rest := []) S (c_K_refuseUnless l D ca s0 a0 Z _) (cwS 1 hts (gS g_104 g_105 g_30 g_106) rfl rfl rfl (by decide +kernel) ⟨Nat.le_of_ble_eq_true rfl, Nat.le_of_ble_eq_true rfl⟩) hp rfl rfl hl.1 rfl (lv_room (Nat.le_of_ble_eq_true rfl)) dK_end_14 ⟨Nat.le_of_ble_eq_true rfl, Nat.le_of_ble_eq_true rfl⟩) (fun u H locs hp C => ?_)
  refine lv_aload_n hx hb dK_end_17 rfl (lv_at hl 0 rfl) ?_
  refine n_getN S C Z hin_S 2 rfl rfl 6 (by decide) t_6 rfl dK_end_18 ?_
  refine lv_topi (nm_r (e' := nI 1) rfl ?_)
  refine n_if_ne (tgt := 28) S (by omega) dK_end_21 (by decide) (fun hc => ?_) (fun hc => False.elim (by omega))
  refine lv_iconst (v := nI 0) hx hb dK_end_28 (by decide) ?_
  exact n_callXP C (fun hp => vx_runS (rest := []) S (x_K_refuseStateUnless l D ca s0 a0 Z hl0 sx Xs _) (cwS 1 hts (gS g_237 g_238 g_30 g_239) rfl rfl rfl (by decide +kernel) ⟨Nat.le_of_ble_eq_true rfl, Nat.le_of_ble_eq_true rfl⟩) hp rfl rfl hl.1 rfl (lv_room (Nat.le_of_ble_eq_true rfl)) dK_end_29 ⟨Nat.le_of_ble_eq_true rfl, Nat.le_of_ble_eq_true rfl⟩) (fun q9 ce H locs C c1 c2 c3 => thr q9 ce _ _ _ _ _ _ _ (Nat.le_of_ble_eq_true rfl) (Nat.le_of_ble_eq_true rfl) C c1 c2 c3)
abbrev rm_K_end_ok : Room := { frames := 5, cells := 0, slots := 0, locals := 127 }
set_option maxHeartbeats 4000000 in
set_option maxRecDepth 100000 in
theorem c_K_end_ok (l : Launch) (D : va_G) (ca : Nat → ClassId) (s0 : State) (a0 : Array Value) (Z : Wd a0 s0) (tz : Nat → Nat) (Zs : ZS tz s0) (d : Nat) (g : Nat → Nat) (sf : Nat → Option Nat) (k0 : Nat) (hk0 : k0 < 4) (h b : Nat) (hsf : sf k0 = some h) (L : Nat → Int64) (tk rm : Int32) (k ee : Nat) (hk : k < 16) (hee : ee < 256) (c0 : Co) (hL : kEq (lb L) c0.1) (hp0 : c0.2 < wid k) (len : Nat) (hlen : len ≤ 1000) (hq : (hasL k = true ∧ 1 ≤ len) ∨ (hasL k = false ∧ len = lenM k)) : CtV l yK_end [.code yK_end cK_end 4 none] rm_K_end_ok 0 0 D ca s0 [.ref (d), .int (nI k0), .int (nI len)] [(d, .inr (2, kF g)), (g 4, .inl (ca 4, 4, .inr (.inr (.inr (.inr sf))))), (h, .inr (1, [.ref (b), .int (nI k), .int (nI (wid k)), .int (nI (c0.2)), .int (nI ee), .int (tk), .int (b2i false), .int (rm)])), (b, .inl (ca 2, 25, .inr (.inl (L))))] (S := Nat → Int64) (fun M => kEq (lb M) (finA (wid k) k c0 len ee)) (fun M => [(d, .inr (2, kF g)), (g 4, .inl (ca 4, 4, .inr (.inr (.inr (.inr sf))))), (h, .inr (1, [.ref (b), .int (nI k), .int (nI (wid k)), .int (nI 0), .int (nI ee), .int (tk), .int (b2i true), .int ((if len = 0 then -1 else nI len))])), (b, .inl (ca 2, 25, .inr (.inl M)))]) := by
  refine ctV_of (cc := cK_end) (maxL := 4) (own := RK) Z rfl (by decide) rfl (Nat.le_of_ble_eq_true rfl) ?_
  intro p e s m args below meth c A ls Q S hnm ret C hl
  have hx := S.1
  have hb := S.2.1
  have hown := S.2.2.2.1
  have hts := S.2.2.2.2
  generalize s.heap = H at C ⊢
  generalize ([] : List Loc) = locs at C ⊢
  replace hl : lv_has ls 4 [(0, .ref (d)), (1, .int (nI k0)), (2, .int (nI len))] := hl
  refine lv_aload_n hx hb dK_end_0 rfl (lv_at hl 0 rfl) ?_
  refine lv_iload_n hx hb dK_end_1 rfl (lv_at hl 1 rfl) ?_
  refine n_callR (wc := [(d, .inr (2, kF g)), (g 4, .inl (ca 4, 4, .inr (.inr (.inr (.inr sf)))))]) (wr := [(h, .inr (1, [.ref (b), .int (nI k), .int (nI (wid k)), .int (nI (c0.2)), .int (nI ee), .int (tk), .int (b2i false), .int (rm)])), (b, .inl (ca 2, 25, .inr (.inl (L))))]) C [0, 1] [2, 3] rfl rfl rfl rfl (by decide) (fun hp => va_runV (rest := []) S (c_K_spongeAt l D ca s0 a0 Z d g sf k0 hk0 h hsf _) (cwV 1 hts (gV g_171 g_172 g_1 g_30 g_173) rfl rfl rfl (by decide +kernel) ⟨Nat.le_of_ble_eq_true rfl, Nat.le_of_ble_eq_true rfl⟩) ⟨hp.1, n_recv C 0 2 rfl rfl, hp.2⟩ rfl rfl hl.1 rfl (lv_room (Nat.le_of_ble_eq_true rfl)) dK_end_2 ⟨Nat.le_of_ble_eq_true rfl, Nat.le_of_ble_eq_true rfl⟩) (fun H locs C => ?_)
  replace C : Cx D ca s0 A s [(d, .inr (2, kF g)), (g 4, .inl (ca 4, 4, .inr (.inr (.inr (.inr sf))))), (h, .inr (1, [.ref (b), .int (nI k), .int (nI (wid k)), .int (nI (c0.2)), .int (nI ee), .int (tk), .int (b2i false), .int (rm)])), (b, .inl (ca 2, 25, .inr (.inl (L))))] H locs := C.re [2, 3, 0, 1] rfl rfl
  refine lv_astore_n hx hb dK_end_5 rfl hl (Nat.le_of_ble_eq_true rfl) rfl (fun ls hl => ?_)
  replace hl : lv_has ls 4 [(3, .ref (h)), (0, .ref (d)), (1, .int (nI k0)), (2, .int (nI len))] := hl
  refine lv_aload_n hx hb dK_end_6 rfl (lv_at hl 0 rfl) ?_
  refine n_getN S C Z hin_S 2 rfl rfl 1 (by decide) t_5 rfl dK_end_7 ?_
  refine lv_iload_n hx hb dK_end_10 rfl (lv_at hl 3 rfl) ?_
  refine n_callP C (fun hp => va_runS (rest := []) S (c_K_isLengthOf l D ca s0 a0 Z tz Zs k len hk hlen hq _) (cwS 2 hts (gS g_269 g_270 g_30 g_271) rfl rfl rfl (by decide +kernel) ⟨Nat.le_of_ble_eq_true rfl, Nat.le_of_ble_eq_true rfl⟩) hp rfl rfl hl.1 rfl (lv_room (Nat.le_of_ble_eq_true rfl)) dK_end_11 ⟨Nat.le_of_ble_eq_true rfl, Nat.le_of_ble_eq_true rfl⟩) (fun r u H locs hp C => ?_)
  subst hp
  refine n_callPV C (fun hp => va_runS (rest := []) S (c_K_refuseUnless l D ca s0 a0 Z _) (cwS 1 hts (gS g_104 g_105 g_30 g_106) rfl rfl rfl (by decide +kernel) ⟨Nat.le_of_ble_eq_true rfl, Nat.le_of_ble_eq_true rfl⟩) hp rfl rfl hl.1 rfl (lv_room (Nat.le_of_ble_eq_true rfl)) dK_end_14 ⟨Nat.le_of_ble_eq_true rfl, Nat.le_of_ble_eq_true rfl⟩) (fun u H locs hp C => ?_)
  refine lv_aload_n hx hb dK_end_17 rfl (lv_at hl 0 rfl) ?_
  refine n_getN S C Z hin_S 2 rfl rfl 6 (by decide) t_6 rfl dK_end_18 ?_
  refine lv_topi (nm_r (e' := nI 0) rfl ?_)
  refine n_if_ne (tgt := 28) S (by omega) dK_end_21 (by decide) (fun hc => False.elim (by omega)) (fun hc => ?_)
  refine lv_iconst (v := nI 1) hx hb dK_end_24 (by decide) ?_
  refine lv_goto (tgt := 29) hx hb dK_end_25 (by decide) ?_
  refine n_callPV C (fun hp => va_runS (rest := []) S (c_K_refuseStateUnless l D ca s0 a0 Z _) (cwS 1 hts (gS g_237 g_238 g_30 g_239) rfl rfl rfl (by decide +kernel) ⟨Nat.le_of_ble_eq_true rfl, Nat.le_of_ble_eq_true rfl⟩) hp rfl rfl hl.1 rfl (lv_room (Nat.le_of_ble_eq_true rfl)) dK_end_29 ⟨Nat.le_of_ble_eq_true rfl, Nat.le_of_ble_eq_true rfl⟩) (fun u H locs hp C => ?_)
  refine lv_aload_n hx hb dK_end_32 rfl (lv_at hl 0 rfl) ?_
  refine lv_iload_n hx hb dK_end_33 rfl (lv_at hl 3 rfl) ?_
  refine n_callV (wc := [(h, .inr (1, [.ref (b), .int (nI k), .int (nI (wid k)), .int (nI (c0.2)), .int (nI ee), .int (tk), .int (b2i false), .int (rm)])), (b, .inl (ca 2, 25, .inr (.inl (L))))]) (wr := [(d, .inr (2, kF g)), (g 4, .inl (ca 4, 4, .inr (.inr (.inr (.inr sf)))))]) C [2, 3] [0, 1] rfl rfl rfl rfl (by decide) (fun hp => va_runV (rest := []) S (c_S_finish l D ca s0 a0 Z tz Zs h b L tk (b2i false) rm (wid k) (by have := wid_in k hk; omega) c0 hL hp0 k len hk hlen ee hee _) (cwV 1 hts (gV g_273 g_274 g_275 g_32 g_276) rfl rfl rfl (by decide +kernel) ⟨Nat.le_of_ble_eq_true rfl, Nat.le_of_ble_eq_true rfl⟩) ⟨hp.1, n_recv C 2 1 rfl rfl, hp.2⟩ rfl rfl hl.1 rfl (lv_room (Nat.le_of_ble_eq_true rfl)) dK_end_34 ⟨Nat.le_of_ble_eq_true rfl, Nat.le_of_ble_eq_true rfl⟩) (fun u H locs hp C => ?_)
  replace C : Cx D ca s0 A s [(d, .inr (2, kF g)), (g 4, .inl (ca 4, 4, .inr (.inr (.inr (.inr sf))))), (h, .inr (1, [.ref (b), .int (nI k), .int (nI (wid k)), .int (nI 0), .int (nI ee), .int (tk), .int (nI 1), .int (if len = 0 then -1 else nI len)])), (b, .inl (ca 2, 25, .inr (.inl (u))))] H locs := C.re [0, 1, 2, 3] rfl rfl
  exact ret u _ _ _ _ _ _ (Nat.le_refl _) (Nat.le_refl _) hp C dK_end_37
abbrev rm_x_K_squeeze1 : Room := { frames := 7, cells := 1, slots := 6, locals := 111 }
set_option maxHeartbeats 4000000 in
set_option maxRecDepth 100000 in
theorem x_K_squeeze1 (l : Launch) (D : va_G) (ca : Nat → ClassId) (s0 : State) (a0 : Array Value) (Z : Wd a0 s0) (hl0 : l.stackTraces = false) (sx : Nat → Nat) (Xs : XS sx s0) (d : Nat) (g : Nat → Nat) (k : Int32) (hno : ¬ (¬ k < 0 ∧ k < 4)) (y : Int32) : CtX l yK_squeeze [.code yK_squeeze cK_squeeze 4 (some .long)] rm_x_K_squeeze1 1 6 D ca s0 [.ref (d), .int (k), .int (y)] [(d, .inr (2, kF g))] (xE 0) := by
  refine ctX_of (cc := cK_squeeze) (maxL := 4) (own := RK) (ret := (some .long)) Z rfl (by decide) rfl (Nat.le_of_ble_eq_true rfl) ?_
  intro p e s m args below meth c A ls Q S htb hlk hA hQ thr C hl
  have hx := S.1
  have hb := S.2.1
  have hown := S.2.2.2.1
  have hts := S.2.2.2.2
  generalize s.heap = H at C ⊢
  generalize ([] : List Loc) = locs at C ⊢
  replace hl : lv_has ls 4 [(0, .ref (d)), (1, .int (k)), (2, .int (y))] := hl
  refine lv_aload_n hx hb dK_squeeze_0 rfl (lv_at hl 0 rfl) ?_
  refine lv_iload_n hx hb dK_squeeze_1 rfl (lv_at hl 1 rfl) ?_
  exact n_callXP C (fun hp => vx_runV (rest := []) S (x_K_spongeAt l D ca s0 a0 Z hl0 sx Xs d k hno _) (cwV 1 hts (gV g_171 g_172 g_1 g_30 g_173) rfl rfl rfl (by decide +kernel) ⟨Nat.le_of_ble_eq_true rfl, Nat.le_of_ble_eq_true rfl⟩) ⟨hp.1, n_recv C 0 2 rfl rfl, hp.2⟩ rfl rfl hl.1 rfl (lv_room (Nat.le_of_ble_eq_true rfl)) dK_squeeze_2 ⟨Nat.le_of_ble_eq_true rfl, Nat.le_of_ble_eq_true rfl⟩) (fun q9 ce H locs C c1 c2 c3 => thr q9 ce _ _ _ _ _ _ _ (Nat.le_of_ble_eq_true rfl) (Nat.le_of_ble_eq_true rfl) C c1 c2 c3)
abbrev rm_x_K_squeeze2 : Room := { frames := 7, cells := 1, slots := 6, locals := 110 }
set_option maxHeartbeats 4000000 in
set_option maxRecDepth 100000 in
theorem x_K_squeeze2 (l : Launch) (D : va_G) (ca : Nat → ClassId) (s0 : State) (a0 : Array Value) (Z : Wd a0 s0) (hl0 : l.stackTraces = false) (sx : Nat → Nat) (Xs : XS sx s0) (d : Nat) (g : Nat → Nat) (sf : Nat → Option Nat) (k0 : Nat) (hk0 : k0 < 4) (h b : Nat) (hsf : sf k0 = some h) (y : Int32) (hr : y < nI 1 ∨ nI 8 < y) : CtX l yK_squeeze [.code yK_squeeze cK_squeeze 4 (some .long)] rm_x_K_squeeze2 1 6 D ca s0 [.ref (d), .int (nI k0), .int (y)] [(d, .inr (2, kF g)), (g 4, .inl (ca 4, 4, .inr (.inr (.inr (.inr sf)))))] (xE 1) := by
  refine ctX_of (cc := cK_squeeze) (maxL := 4) (own := RK) (ret := (some .long)) Z rfl (by decide) rfl (Nat.le_of_ble_eq_true rfl) ?_
  intro p e s m args below meth c A ls Q S htb hlk hA hQ thr C hl
  have hx := S.1
  have hb := S.2.1
  have hown := S.2.2.2.1
  have hts := S.2.2.2.2
  generalize s.heap = H at C ⊢
  generalize ([] : List Loc) = locs at C ⊢
  replace hl : lv_has ls 4 [(0, .ref (d)), (1, .int (nI k0)), (2, .int (y))] := hl
  refine lv_aload_n hx hb dK_squeeze_0 rfl (lv_at hl 0 rfl) ?_
  refine lv_iload_n hx hb dK_squeeze_1 rfl (lv_at hl 1 rfl) ?_
  refine n_callR (wc := [(d, .inr (2, kF g)), (g 4, .inl (ca 4, 4, .inr (.inr (.inr (.inr sf)))))]) (wr := []) C [0, 1] [] rfl rfl rfl rfl (by decide) (fun hp => va_runV (rest := []) S (c_K_spongeAt l D ca s0 a0 Z d g sf k0 hk0 h hsf _) (cwV 1 hts (gV g_171 g_172 g_1 g_30 g_173) rfl rfl rfl (by decide +kernel) ⟨Nat.le_of_ble_eq_true rfl, Nat.le_of_ble_eq_true rfl⟩) ⟨hp.1, n_recv C 0 2 rfl rfl, hp.2⟩ rfl rfl hl.1 rfl (lv_room (Nat.le_of_ble_eq_true rfl)) dK_squeeze_2 ⟨Nat.le_of_ble_eq_true rfl, Nat.le_of_ble_eq_true rfl⟩) (fun H locs C => ?_)
  replace C : Cx D ca s0 A s [(d, .inr (2, kF g)), (g 4, .inl (ca 4, 4, .inr (.inr (.inr (.inr sf)))))] H locs := C.re [0, 1] rfl rfl
  refine lv_astore_n hx hb dK_squeeze_5 rfl hl (Nat.le_of_ble_eq_true rfl) rfl (fun ls hl => ?_)
  replace hl : lv_has ls 4 [(3, .ref (h)), (0, .ref (d)), (1, .int (nI k0)), (2, .int (y))] := hl
  refine lv_iload_n hx hb dK_squeeze_6 rfl (lv_at hl 3 rfl) ?_
  refine n_callP C (fun hp => va_runS (rest := []) S (c_K_isByteCount_no l D ca s0 a0 Z y hr _) (cwS 1 hts (gS g_101 g_102 g_30 g_103) rfl rfl rfl (by decide +kernel) ⟨Nat.le_of_ble_eq_true rfl, Nat.le_of_ble_eq_true rfl⟩) hp rfl rfl hl.1 rfl (lv_room (Nat.le_of_ble_eq_true rfl)) dK_squeeze_7 ⟨Nat.le_of_ble_eq_true rfl, Nat.le_of_ble_eq_true rfl⟩) (fun r u H locs hp C => ?_)
  subst hp
  exact n_callXP C (fun hp => vx_runS (rest := []) S (x_K_refuseUnless l D ca s0 a0 Z hl0 sx Xs _) (cwS 1 hts (gS g_104 g_105 g_30 g_106) rfl rfl rfl (by decide +kernel) ⟨Nat.le_of_ble_eq_true rfl, Nat.le_of_ble_eq_true rfl⟩) hp rfl rfl hl.1 rfl (lv_room (Nat.le_of_ble_eq_true rfl)) dK_squeeze_10 ⟨Nat.le_of_ble_eq_true rfl, Nat.le_of_ble_eq_true rfl⟩) (fun q9 ce H locs C c1 c2 c3 => thr q9 ce _ _ _ _ _ _ _ (Nat.le_of_ble_eq_true rfl) (Nat.le_of_ble_eq_true rfl) C c1 c2 c3)
abbrev rm_x_K_squeeze3 : Room := { frames := 7, cells := 1, slots := 6, locals := 110 }
set_option maxHeartbeats 4000000 in
set_option maxRecDepth 100000 in
theorem x_K_squeeze3 (l : Launch) (D : va_G) (ca : Nat → ClassId) (s0 : State) (a0 : Array Value) (Z : Wd a0 s0) (hl0 : l.stackTraces = false) (sx : Nat → Nat) (Xs : XS sx s0) (d : Nat) (g : Nat → Nat) (sf : Nat → Option Nat) (k0 : Nat) (hk0 : k0 < 4) (h b : Nat) (hsf : sf k0 = some h) (kd wd pl en tk rm : Int32) (dn : Bool) (n : Nat) (hn1 : 1 ≤ n) (hn : n ≤ 8) (hcn : canG dn rm (nI n) = false) : CtX l yK_squeeze [.code yK_squeeze cK_squeeze 4 (some .long)] rm_x_K_squeeze3 1 6 D ca s0 [.ref (d), .int (nI k0), .int (nI n)] [(d, .inr (2, kF g)), (g 4, .inl (ca 4, 4, .inr (.inr (.inr (.inr sf))))), (h, .inr (1, [.ref (b), .int (kd), .int (wd), .int (pl), .int (en), .int (tk), .int (b2i dn), .int (rm)]))] (xE 2) := by
  refine ctX_of (cc := cK_squeeze) (maxL := 4) (own := RK) (ret := (some .long)) Z rfl (by decide) rfl (Nat.le_of_ble_eq_true rfl) ?_
  intro p e s m args below meth c A ls Q S htb hlk hA hQ thr C hl
  have hx := S.1
  have hb := S.2.1
  have hown := S.2.2.2.1
  have hts := S.2.2.2.2
  generalize s.heap = H at C ⊢
  generalize ([] : List Loc) = locs at C ⊢
  replace hl : lv_has ls 4 [(0, .ref (d)), (1, .int (nI k0)), (2, .int (nI n))] := hl
  refine lv_aload_n hx hb dK_squeeze_0 rfl (lv_at hl 0 rfl) ?_
  refine lv_iload_n hx hb dK_squeeze_1 rfl (lv_at hl 1 rfl) ?_
  refine n_callR (wc := [(d, .inr (2, kF g)), (g 4, .inl (ca 4, 4, .inr (.inr (.inr (.inr sf)))))]) (wr := [(h, .inr (1, [.ref (b), .int (kd), .int (wd), .int (pl), .int (en), .int (tk), .int (b2i dn), .int (rm)]))]) C [0, 1] [2] rfl rfl rfl rfl (by decide) (fun hp => va_runV (rest := []) S (c_K_spongeAt l D ca s0 a0 Z d g sf k0 hk0 h hsf _) (cwV 1 hts (gV g_171 g_172 g_1 g_30 g_173) rfl rfl rfl (by decide +kernel) ⟨Nat.le_of_ble_eq_true rfl, Nat.le_of_ble_eq_true rfl⟩) ⟨hp.1, n_recv C 0 2 rfl rfl, hp.2⟩ rfl rfl hl.1 rfl (lv_room (Nat.le_of_ble_eq_true rfl)) dK_squeeze_2 ⟨Nat.le_of_ble_eq_true rfl, Nat.le_of_ble_eq_true rfl⟩) (fun H locs C => ?_)
  replace C : Cx D ca s0 A s [(d, .inr (2, kF g)), (g 4, .inl (ca 4, 4, .inr (.inr (.inr (.inr sf))))), (h, .inr (1, [.ref (b), .int (kd), .int (wd), .int (pl), .int (en), .int (tk), .int (b2i dn), .int (rm)]))] H locs := C.re [1, 2, 0] rfl rfl
  refine lv_astore_n hx hb dK_squeeze_5 rfl hl (Nat.le_of_ble_eq_true rfl) rfl (fun ls hl => ?_)
  replace hl : lv_has ls 4 [(3, .ref (h)), (0, .ref (d)), (1, .int (nI k0)), (2, .int (nI n))] := hl
  refine lv_iload_n hx hb dK_squeeze_6 rfl (lv_at hl 3 rfl) ?_
  refine n_callP C (fun hp => va_runS (rest := []) S (c_K_isByteCount l D ca s0 a0 Z n hn1 hn _) (cwS 1 hts (gS g_101 g_102 g_30 g_103) rfl rfl rfl (by decide +kernel) ⟨Nat.le_of_ble_eq_true rfl, Nat.le_of_ble_eq_true rfl⟩) hp rfl rfl hl.1 rfl (lv_room (Nat.le_of_ble_eq_true rfl)) dK_squeeze_7 ⟨Nat.le_of_ble_eq_true rfl, Nat.le_of_ble_eq_true rfl⟩) (fun r u H locs hp C => ?_)
  subst hp
  refine n_callPV C (fun hp => va_runS (rest := []) S (c_K_refuseUnless l D ca s0 a0 Z _) (cwS 1 hts (gS g_104 g_105 g_30 g_106) rfl rfl rfl (by decide +kernel) ⟨Nat.le_of_ble_eq_true rfl, Nat.le_of_ble_eq_true rfl⟩) hp rfl rfl hl.1 rfl (lv_room (Nat.le_of_ble_eq_true rfl)) dK_squeeze_10 ⟨Nat.le_of_ble_eq_true rfl, Nat.le_of_ble_eq_true rfl⟩) (fun u H locs hp C => ?_)
  refine lv_aload_n hx hb dK_squeeze_13 rfl (lv_at hl 0 rfl) ?_
  refine lv_iload_n hx hb dK_squeeze_14 rfl (lv_at hl 3 rfl) ?_
  refine n_callI (wc := [(h, .inr (1, [.ref (b), .int (kd), .int (wd), .int (pl), .int (en), .int (tk), .int (b2i dn), .int (rm)]))]) (wr := [(d, .inr (2, kF g)), (g 4, .inl (ca 4, 4, .inr (.inr (.inr (.inr sf)))))]) C [2] [0, 1] rfl rfl rfl rfl (by decide) (fun hp => va_runV (rest := []) S (c_S_canGive l D ca s0 a0 Z h b kd wd pl en tk rm dn (nI n) _) (cwV 1 hts (gV g_287 g_288 g_289 g_32 g_290) rfl rfl rfl (by decide +kernel) ⟨Nat.le_of_ble_eq_true rfl, Nat.le_of_ble_eq_true rfl⟩) ⟨hp.1, n_recv C 2 1 rfl rfl, hp.2⟩ rfl rfl hl.1 rfl (lv_room (Nat.le_of_ble_eq_true rfl)) dK_squeeze_15 ⟨Nat.le_of_ble_eq_true rfl, Nat.le_of_ble_eq_true rfl⟩) (fun r u H locs hp C => ?_)
  replace C : Cx D ca s0 A s [(d, .inr (2, kF g)), (g 4, .inl (ca 4, 4, .inr (.inr (.inr (.inr sf))))), (h, .inr (1, [.ref (b), .int (kd), .int (wd), .int (pl), .int (en), .int (tk), .int (b2i dn), .int (rm)]))] H locs := C.re [0, 1, 2] rfl rfl
  subst hp
  refine lv_topi (nm_r (e' := nI 0) (by rw [hcn]; rfl) ?_)
  exact n_callXP C (fun hp => vx_runS (rest := []) S (x_K_refuseStateUnless l D ca s0 a0 Z hl0 sx Xs _) (cwS 1 hts (gS g_237 g_238 g_30 g_239) rfl rfl rfl (by decide +kernel) ⟨Nat.le_of_ble_eq_true rfl, Nat.le_of_ble_eq_true rfl⟩) hp rfl rfl hl.1 rfl (lv_room (Nat.le_of_ble_eq_true rfl)) dK_squeeze_18 ⟨Nat.le_of_ble_eq_true rfl, Nat.le_of_ble_eq_true rfl⟩) (fun q9 ce H locs C c1 c2 c3 => thr q9 ce _ _ _ _ _ _ _ (Nat.le_of_ble_eq_true rfl) (Nat.le_of_ble_eq_true rfl) C c1 c2 c3)
abbrev rm_K_squeeze_ok : Room := { frames := 4, cells := 0, slots := 0, locals := 108 }
set_option maxHeartbeats 4000000 in
set_option maxRecDepth 100000 in
theorem c_K_squeeze_ok (l : Launch) (D : va_G) (ca : Nat → ClassId) (s0 : State) (a0 : Array Value) (Z : Wd a0 s0) (tz : Nat → Nat) (Zs : ZS tz s0) (d : Nat) (g : Nat → Nat) (sf : Nat → Option Nat) (k0 : Nat) (hk0 : k0 < 4) (h b : Nat) (hsf : sf k0 = some h) (L : Nat → Int64) (en tk rm : Int32) (k : Nat) (hk : k < 16) (c0 : Co) (hL : kEq (lb L) c0.1) (hp0 : c0.2 ≤ wid k) (n : Nat) (hn1 : 1 ≤ n) (hn : n ≤ 8) (hcg : canG true rm (nI n) = true) : CtL l yK_squeeze [.code yK_squeeze cK_squeeze 4 (some .long)] rm_K_squeeze_ok 0 0 D ca s0 [.ref (d), .int (nI k0), .int (nI n)] [(d, .inr (2, kF g)), (g 4, .inl (ca 4, 4, .inr (.inr (.inr (.inr sf))))), (h, .inr (1, [.ref (b), .int (nI k), .int (nI (wid k)), .int (nI (c0.2)), .int (en), .int (tk), .int (b2i true), .int (rm)])), (b, .inl (ca 2, 25, .inr (.inl (L))))] (S := Nat → Int64) (fun r M => r = sqV (wid k) c0 n ∧ kEq (lb M) (sqC (wid k) c0 n).1) (fun M => [(d, .inr (2, kF g)), (g 4, .inl (ca 4, 4, .inr (.inr (.inr (.inr sf))))), (h, .inr (1, [.ref (b), .int (nI k), .int (nI (wid k)), .int (nI (sqC (wid k) c0 n).2), .int (en), .int (tk), .int (b2i true), .int (lefI rm n)])), (b, .inl (ca 2, 25, .inr (.inl M)))]) := by
  refine ctL_of (cc := cK_squeeze) (maxL := 4) (own := RK) Z rfl (by decide) rfl (Nat.le_of_ble_eq_true rfl) ?_
  intro p e s m args below meth c A ls Q S hnm ret C hl
  have hx := S.1
  have hb := S.2.1
  have hown := S.2.2.2.1
  have hts := S.2.2.2.2
  generalize s.heap = H at C ⊢
  generalize ([] : List Loc) = locs at C ⊢
  replace hl : lv_has ls 4 [(0, .ref (d)), (1, .int (nI k0)), (2, .int (nI n))] := hl
  refine lv_aload_n hx hb dK_squeeze_0 rfl (lv_at hl 0 rfl) ?_
  refine lv_iload_n hx hb dK_squeeze_1 rfl (lv_at hl 1 rfl) ?_
  refine n_callR (wc := [(d, .inr (2, kF g)), (g 4, .inl (ca 4, 4, .inr (.inr (.inr (.inr sf)))))]) (wr := [(h, .inr (1, [.ref (b), .int (nI k), .int (nI (wid k)), .int (nI (c0.2)), .int (en), .int (tk), .int (b2i true), .int (rm)])), (b, .inl (ca 2, 25, .inr (.inl (L))))]) C [0, 1] [2, 3] rfl rfl rfl rfl (by decide) (fun hp => va_runV (rest := []) S (c_K_spongeAt l D ca s0 a0 Z d g sf k0 hk0 h hsf _) (cwV 1 hts (gV g_171 g_172 g_1 g_30 g_173) rfl rfl rfl (by decide +kernel) ⟨Nat.le_of_ble_eq_true rfl, Nat.le_of_ble_eq_true rfl⟩) ⟨hp.1, n_recv C 0 2 rfl rfl, hp.2⟩ rfl rfl hl.1 rfl (lv_room (Nat.le_of_ble_eq_true rfl)) dK_squeeze_2 ⟨Nat.le_of_ble_eq_true rfl, Nat.le_of_ble_eq_true rfl⟩) (fun H locs C => ?_)
  replace C : Cx D ca s0 A s [(d, .inr (2, kF g)), (g 4, .inl (ca 4, 4, .inr (.inr (.inr (.inr sf))))), (h, .inr (1, [.ref (b), .int (nI k), .int (nI (wid k)), .int (nI (c0.2)), .int (en), .int (tk), .int (b2i true), .int (rm)])), (b, .inl (ca 2, 25, .inr (.inl (L))))] H locs := C.re [2, 3, 0, 1] rfl rfl
  refine lv_astore_n hx hb dK_squeeze_5 rfl hl (Nat.le_of_ble_eq_true rfl) rfl (fun ls hl => ?_)
  replace hl : lv_has ls 4 [(3, .ref (h)), (0, .ref (d)), (1, .int (nI k0)), (2, .int (nI n))] := hl
  refine lv_iload_n hx hb dK_squeeze_6 rfl (lv_at hl 3 rfl) ?_
  refine n_callP C (fun hp => va_runS (rest := []) S (c_K_isByteCount l D ca s0 a0 Z n hn1 hn _) (cwS 1 hts (gS g_101 g_102 g_30 g_103) rfl rfl rfl (by decide +kernel) ⟨Nat.le_of_ble_eq_true rfl, Nat.le_of_ble_eq_true rfl⟩) hp rfl rfl hl.1 rfl (lv_room (Nat.le_of_ble_eq_true rfl)) dK_squeeze_7 ⟨Nat.le_of_ble_eq_true rfl, Nat.le_of_ble_eq_true rfl⟩) (fun r u H locs hp C => ?_)
  subst hp
  refine n_callPV C (fun hp => va_runS (rest := []) S (c_K_refuseUnless l D ca s0 a0 Z _) (cwS 1 hts (gS g_104 g_105 g_30 g_106) rfl rfl rfl (by decide +kernel) ⟨Nat.le_of_ble_eq_true rfl, Nat.le_of_ble_eq_true rfl⟩) hp rfl rfl hl.1 rfl (lv_room (Nat.le_of_ble_eq_true rfl)) dK_squeeze_10 ⟨Nat.le_of_ble_eq_true rfl, Nat.le_of_ble_eq_true rfl⟩) (fun u H locs hp C => ?_)
  refine lv_aload_n hx hb dK_squeeze_13 rfl (lv_at hl 0 rfl) ?_
  refine lv_iload_n hx hb dK_squeeze_14 rfl (lv_at hl 3 rfl) ?_
  refine n_callI (wc := [(h, .inr (1, [.ref (b), .int (nI k), .int (nI (wid k)), .int (nI (c0.2)), .int (en), .int (tk), .int (b2i true), .int (rm)]))]) (wr := [(d, .inr (2, kF g)), (g 4, .inl (ca 4, 4, .inr (.inr (.inr (.inr sf))))), (b, .inl (ca 2, 25, .inr (.inl (L))))]) C [2] [0, 1, 3] rfl rfl rfl rfl (by decide) (fun hp => va_runV (rest := []) S (c_S_canGive l D ca s0 a0 Z h b (nI k) (nI (wid k)) (nI c0.2) en tk rm true (nI n) _) (cwV 1 hts (gV g_287 g_288 g_289 g_32 g_290) rfl rfl rfl (by decide +kernel) ⟨Nat.le_of_ble_eq_true rfl, Nat.le_of_ble_eq_true rfl⟩) ⟨hp.1, n_recv C 2 1 rfl rfl, hp.2⟩ rfl rfl hl.1 rfl (lv_room (Nat.le_of_ble_eq_true rfl)) dK_squeeze_15 ⟨Nat.le_of_ble_eq_true rfl, Nat.le_of_ble_eq_true rfl⟩) (fun r u H locs hp C => ?_)
  replace C : Cx D ca s0 A s [(d, .inr (2, kF g)), (g 4, .inl (ca 4, 4, .inr (.inr (.inr (.inr sf))))), (h, .inr (1, [.ref (b), .int (nI k), .int (nI (wid k)), .int (nI (c0.2)), .int (en), .int (tk), .int (b2i true), .int (rm)])), (b, .inl (ca 2, 25, .inr (.inl (L))))] H locs := C.re [0, 1, 3, 2] rfl rfl
  subst hp
  refine lv_topi (nm_r (e' := nI 1) (by rw [hcg]; rfl) ?_)
  refine n_callPV C (fun hp => va_runS (rest := []) S (c_K_refuseStateUnless l D ca s0 a0 Z _) (cwS 1 hts (gS g_237 g_238 g_30 g_239) rfl rfl rfl (by decide +kernel) ⟨Nat.le_of_ble_eq_true rfl, Nat.le_of_ble_eq_true rfl⟩) hp rfl rfl hl.1 rfl (lv_room (Nat.le_of_ble_eq_true rfl)) dK_squeeze_18 ⟨Nat.le_of_ble_eq_true rfl, Nat.le_of_ble_eq_true rfl⟩) (fun u H locs hp C => ?_)
  refine lv_aload_n hx hb dK_squeeze_21 rfl (lv_at hl 0 rfl) ?_
  refine lv_iload_n hx hb dK_squeeze_22 rfl (lv_at hl 3 rfl) ?_
  refine n_callL (wc := [(h, .inr (1, [.ref (b), .int (nI k), .int (nI (wid k)), .int (nI (c0.2)), .int (en), .int (tk), .int (b2i true), .int (rm)])), (b, .inl (ca 2, 25, .inr (.inl (L))))]) (wr := [(d, .inr (2, kF g)), (g 4, .inl (ca 4, 4, .inr (.inr (.inr (.inr sf)))))]) C [2, 3] [0, 1] rfl rfl rfl rfl (by decide) (fun hp => va_runV (rest := []) S (c_S_giveLong l D ca s0 a0 Z tz Zs h b L (nI k) en tk (b2i true) rm (wid k) (by have := wid_in k hk; omega) c0 hL (by have := wid_in k hk; omega) hp0 n hn _) (cwV 1 hts (gV g_291 g_292 g_293 g_32 g_294) rfl rfl rfl (by decide +kernel) ⟨Nat.le_of_ble_eq_true rfl, Nat.le_of_ble_eq_true rfl⟩) ⟨hp.1, n_recv C 2 1 rfl rfl, hp.2⟩ rfl rfl hl.1 rfl (lv_room (Nat.le_of_ble_eq_true rfl)) dK_squeeze_23 ⟨Nat.le_of_ble_eq_true rfl, Nat.le_of_ble_eq_true rfl⟩) (fun r u H locs hp C => ?_)
  replace C : Cx D ca s0 A s [(d, .inr (2, kF g)), (g 4, .inl (ca 4, 4, .inr (.inr (.inr (.inr sf))))), (h, .inr (1, [.ref (b), .int (nI k), .int (nI (wid k)), .int (nI ((sqC (wid k) c0 n).2)), .int (en), .int (tk), .int (b2i true), .int (lefI rm n)])), (b, .inl (ca 2, 25, .inr (.inl (u))))] H locs := C.re [0, 1, 2, 3] rfl rfl
  obtain ⟨rfl, hp⟩ := hp
  exact ret (sqV (wid k) c0 n) u _ _ _ _ _ _ (Nat.le_refl _) (Nat.le_refl _) (⟨rfl, hp⟩) C dK_squeeze_26
abbrev rm_x_K_left : Room := { frames := 7, cells := 1, slots := 6, locals := 111 }
set_option maxHeartbeats 4000000 in
set_option maxRecDepth 100000 in
theorem x_K_left (l : Launch) (D : va_G) (ca : Nat → ClassId) (s0 : State) (a0 : Array Value) (Z : Wd a0 s0) (hl0 : l.stackTraces = false) (sx : Nat → Nat) (Xs : XS sx s0) (d : Nat) (g : Nat → Nat) (k : Int32) (hno : ¬ (¬ k < 0 ∧ k < 4)) : CtX l yK_left [.code yK_left cK_left 2 (some .int)] rm_x_K_left 1 6 D ca s0 [.ref (d), .int (k)] [(d, .inr (2, kF g))] (xE 0) := by
  refine ctX_of (cc := cK_left) (maxL := 2) (own := RK) (ret := (some .int)) Z rfl (by decide) rfl (Nat.le_of_ble_eq_true rfl) ?_
  intro p e s m args below meth c A ls Q S htb hlk hA hQ thr C hl
  have hx := S.1
  have hb := S.2.1
  have hown := S.2.2.2.1
  have hts := S.2.2.2.2
  generalize s.heap = H at C ⊢
  generalize ([] : List Loc) = locs at C ⊢
  replace hl : lv_has ls 2 [(0, .ref (d)), (1, .int (k))] := hl
  refine lv_aload_n hx hb dK_left_0 rfl (lv_at hl 0 rfl) ?_
  refine lv_iload_n hx hb dK_left_1 rfl (lv_at hl 1 rfl) ?_
  exact n_callXP C (fun hp => vx_runV (rest := []) S (x_K_spongeAt l D ca s0 a0 Z hl0 sx Xs d k hno _) (cwV 1 hts (gV g_171 g_172 g_1 g_30 g_173) rfl rfl rfl (by decide +kernel) ⟨Nat.le_of_ble_eq_true rfl, Nat.le_of_ble_eq_true rfl⟩) ⟨hp.1, n_recv C 0 2 rfl rfl, hp.2⟩ rfl rfl hl.1 rfl (lv_room (Nat.le_of_ble_eq_true rfl)) dK_left_2 ⟨Nat.le_of_ble_eq_true rfl, Nat.le_of_ble_eq_true rfl⟩) (fun q9 ce H locs C c1 c2 c3 => thr q9 ce _ _ _ _ _ _ _ (Nat.le_of_ble_eq_true rfl) (Nat.le_of_ble_eq_true rfl) C c1 c2 c3)
abbrev rm_x_K_kind : Room := { frames := 7, cells := 1, slots := 6, locals := 111 }
set_option maxHeartbeats 4000000 in
set_option maxRecDepth 100000 in
theorem x_K_kind (l : Launch) (D : va_G) (ca : Nat → ClassId) (s0 : State) (a0 : Array Value) (Z : Wd a0 s0) (hl0 : l.stackTraces = false) (sx : Nat → Nat) (Xs : XS sx s0) (d : Nat) (g : Nat → Nat) (k : Int32) (hno : ¬ (¬ k < 0 ∧ k < 4)) : CtX l yK_kind [.code yK_kind cK_kind 3 (some .int)] rm_x_K_kind 1 6 D ca s0 [.ref (d), .int (k)] [(d, .inr (2, kF g))] (xE 0) := by
  refine ctX_of (cc := cK_kind) (maxL := 3) (own := RK) (ret := (some .int)) Z rfl (by decide) rfl (Nat.le_of_ble_eq_true rfl) ?_
  intro p e s m args below meth c A ls Q S htb hlk hA hQ thr C hl
  have hx := S.1
  have hb := S.2.1
  have hown := S.2.2.2.1
  have hts := S.2.2.2.2
  generalize s.heap = H at C ⊢
  generalize ([] : List Loc) = locs at C ⊢
  replace hl : lv_has ls 3 [(0, .ref (d)), (1, .int (k))] := hl
  refine lv_aload_n hx hb dK_kind_0 rfl (lv_at hl 0 rfl) ?_
  refine lv_iload_n hx hb dK_kind_1 rfl (lv_at hl 1 rfl) ?_
  exact n_callXP C (fun hp => vx_runV (rest := []) S (x_K_spongeAt l D ca s0 a0 Z hl0 sx Xs d k hno _) (cwV 1 hts (gV g_171 g_172 g_1 g_30 g_173) rfl rfl rfl (by decide +kernel) ⟨Nat.le_of_ble_eq_true rfl, Nat.le_of_ble_eq_true rfl⟩) ⟨hp.1, n_recv C 0 2 rfl rfl, hp.2⟩ rfl rfl hl.1 rfl (lv_room (Nat.le_of_ble_eq_true rfl)) dK_kind_2 ⟨Nat.le_of_ble_eq_true rfl, Nat.le_of_ble_eq_true rfl⟩) (fun q9 ce H locs C c1 c2 c3 => thr q9 ce _ _ _ _ _ _ _ (Nat.le_of_ble_eq_true rfl) (Nat.le_of_ble_eq_true rfl) C c1 c2 c3)
abbrev rm_K_left_ok : Room := { frames := 1, cells := 0, slots := 0, locals := 21 }
set_option maxHeartbeats 4000000 in
set_option maxRecDepth 100000 in
theorem c_K_left_ok (l : Launch) (D : va_G) (ca : Nat → ClassId) (s0 : State) (a0 : Array Value) (Z : Wd a0 s0) (d : Nat) (g : Nat → Nat) (sf : Nat → Option Nat) (k0 : Nat) (hk0 : k0 < 4) (h b : Nat) (hsf : sf k0 = some h) (kd wd pl en tk dn rm : Int32) : CtI l yK_left [.code yK_left cK_left 2 (some .int)] rm_K_left_ok 0 0 D ca s0 [.ref (d), .int (nI k0)] [(d, .inr (2, kF g)), (g 4, .inl (ca 4, 4, .inr (.inr (.inr (.inr sf))))), (h, .inr (1, [.ref (b), .int (kd), .int (wd), .int (pl), .int (en), .int (tk), .int (dn), .int (rm)]))] (S := Unit) (fun r _ => r = rm) (fun _ => [(d, .inr (2, kF g)), (g 4, .inl (ca 4, 4, .inr (.inr (.inr (.inr sf))))), (h, .inr (1, [.ref (b), .int (kd), .int (wd), .int (pl), .int (en), .int (tk), .int (dn), .int (rm)]))]) := by
  refine ctI_of (cc := cK_left) (maxL := 2) (own := RK) Z rfl (by decide) rfl (Nat.le_of_ble_eq_true rfl) ?_
  intro p e s m args below meth c A ls Q S hnm ret C hl
  have hx := S.1
  have hb := S.2.1
  have hown := S.2.2.2.1
  have hts := S.2.2.2.2
  generalize s.heap = H at C ⊢
  generalize ([] : List Loc) = locs at C ⊢
  replace hl : lv_has ls 2 [(0, .ref (d)), (1, .int (nI k0))] := hl
  refine lv_aload_n hx hb dK_left_0 rfl (lv_at hl 0 rfl) ?_
  refine lv_iload_n hx hb dK_left_1 rfl (lv_at hl 1 rfl) ?_
  refine n_callR (wc := [(d, .inr (2, kF g)), (g 4, .inl (ca 4, 4, .inr (.inr (.inr (.inr sf)))))]) (wr := [(h, .inr (1, [.ref (b), .int (kd), .int (wd), .int (pl), .int (en), .int (tk), .int (dn), .int (rm)]))]) C [0, 1] [2] rfl rfl rfl rfl (by decide) (fun hp => va_runV (rest := []) S (c_K_spongeAt l D ca s0 a0 Z d g sf k0 hk0 h hsf _) (cwV 1 hts (gV g_171 g_172 g_1 g_30 g_173) rfl rfl rfl (by decide +kernel) ⟨Nat.le_of_ble_eq_true rfl, Nat.le_of_ble_eq_true rfl⟩) ⟨hp.1, n_recv C 0 2 rfl rfl, hp.2⟩ rfl rfl hl.1 rfl (lv_room (Nat.le_of_ble_eq_true rfl)) dK_left_2 ⟨Nat.le_of_ble_eq_true rfl, Nat.le_of_ble_eq_true rfl⟩) (fun H locs C => ?_)
  replace C : Cx D ca s0 A s [(d, .inr (2, kF g)), (g 4, .inl (ca 4, 4, .inr (.inr (.inr (.inr sf))))), (h, .inr (1, [.ref (b), .int (kd), .int (wd), .int (pl), .int (en), .int (tk), .int (dn), .int (rm)]))] H locs := C.re [1, 2, 0] rfl rfl
  refine n_getN S C Z hin_S 2 rfl rfl 7 (by decide) t_7 rfl dK_left_5 ?_
  exact ret rm (()) _ _ _ _ _ _ (Nat.le_refl _) (Nat.le_refl _) rfl C dK_left_8
abbrev rm_K_kind_ok : Room := { frames := 1, cells := 0, slots := 0, locals := 21 }
set_option maxHeartbeats 4000000 in
set_option maxRecDepth 100000 in
theorem c_K_kind_ok (l : Launch) (D : va_G) (ca : Nat → ClassId) (s0 : State) (a0 : Array Value) (Z : Wd a0 s0) (d : Nat) (g : Nat → Nat) (sf : Nat → Option Nat) (k0 : Nat) (hk0 : k0 < 4) (h b : Nat) (hsf : sf k0 = some h) (wd pl en tk rm : Int32) (dn : Bool) (k : Nat) : CtI l yK_kind [.code yK_kind cK_kind 3 (some .int)] rm_K_kind_ok 0 0 D ca s0 [.ref (d), .int (nI k0)] [(d, .inr (2, kF g)), (g 4, .inl (ca 4, 4, .inr (.inr (.inr (.inr sf))))), (h, .inr (1, [.ref (b), .int (nI k), .int (wd), .int (pl), .int (en), .int (tk), .int (b2i dn), .int (rm)]))] (S := Unit) (fun r _ => r = nI (if dn = true then k + 16 else k)) (fun _ => [(d, .inr (2, kF g)), (g 4, .inl (ca 4, 4, .inr (.inr (.inr (.inr sf))))), (h, .inr (1, [.ref (b), .int (nI k), .int (wd), .int (pl), .int (en), .int (tk), .int (b2i dn), .int (rm)]))]) := by
  refine ctI_of (cc := cK_kind) (maxL := 3) (own := RK) Z rfl (by decide) rfl (Nat.le_of_ble_eq_true rfl) ?_
  intro p e s m args below meth c A ls Q S hnm ret C hl
  have hx := S.1
  have hb := S.2.1
  have hown := S.2.2.2.1
  have hts := S.2.2.2.2
  generalize s.heap = H at C ⊢
  generalize ([] : List Loc) = locs at C ⊢
  replace hl : lv_has ls 3 [(0, .ref (d)), (1, .int (nI k0))] := hl
  refine lv_aload_n hx hb dK_kind_0 rfl (lv_at hl 0 rfl) ?_
  refine lv_iload_n hx hb dK_kind_1 rfl (lv_at hl 1 rfl) ?_
  refine n_callR (wc := [(d, .inr (2, kF g)), (g 4, .inl (ca 4, 4, .inr (.inr (.inr (.inr sf)))))]) (wr := [(h, .inr (1, [.ref (b), .int (nI k), .int (wd), .int (pl), .int (en), .int (tk), .int (b2i dn), .int (rm)]))]) C [0, 1] [2] rfl rfl rfl rfl (by decide) (fun hp => va_runV (rest := []) S (c_K_spongeAt l D ca s0 a0 Z d g sf k0 hk0 h hsf _) (cwV 1 hts (gV g_171 g_172 g_1 g_30 g_173) rfl rfl rfl (by decide +kernel) ⟨Nat.le_of_ble_eq_true rfl, Nat.le_of_ble_eq_true rfl⟩) ⟨hp.1, n_recv C 0 2 rfl rfl, hp.2⟩ rfl rfl hl.1 rfl (lv_room (Nat.le_of_ble_eq_true rfl)) dK_kind_2 ⟨Nat.le_of_ble_eq_true rfl, Nat.le_of_ble_eq_true rfl⟩) (fun H locs C => ?_)
  replace C : Cx D ca s0 A s [(d, .inr (2, kF g)), (g 4, .inl (ca 4, 4, .inr (.inr (.inr (.inr sf))))), (h, .inr (1, [.ref (b), .int (nI k), .int (wd), .int (pl), .int (en), .int (tk), .int (b2i dn), .int (rm)]))] H locs := C.re [1, 2, 0] rfl rfl
  refine lv_astore_n hx hb dK_kind_5 rfl hl (Nat.le_of_ble_eq_true rfl) rfl (fun ls hl => ?_)
  replace hl : lv_has ls 3 [(2, .ref (h)), (0, .ref (d)), (1, .int (nI k0))] := hl
  refine lv_aload_n hx hb dK_kind_6 rfl (lv_at hl 0 rfl) ?_
  refine n_getN S C Z hin_S 2 rfl rfl 6 (by decide) t_6 rfl dK_kind_7 ?_
  refine lv_if_eq (tgt := 25) hx hb dK_kind_10 (by decide) (fun hc10 => ?_) (fun hc10 => ?_)
  · skip
    refine lv_aload_n hx hb dK_kind_25 rfl (lv_at hl 0 rfl) ?_
    refine n_getN S C Z hin_S 2 rfl rfl 1 (by decide) t_5 rfl dK_kind_26 ?_
    exact ret (nI k) (()) _ _ _ _ _ _ (Nat.le_refl _) (Nat.le_refl _) (by rw [if_neg (fun q => absurd (b2i_0.mp hc10) (by rw [q]; decide))]) C dK_kind_29
  · skip
    refine lv_aload_n hx hb dK_kind_13 rfl (lv_at hl 0 rfl) ?_
    refine n_getN S C Z hin_S 2 rfl rfl 1 (by decide) t_5 rfl dK_kind_14 ?_
    refine lv_bipush (v := nI 15) hx hb dK_kind_17 (by decide) ?_
    refine n_add S dK_kind_19 ?_
    refine lv_iconst (v := nI 1) hx hb dK_kind_20 (by decide) ?_
    refine n_add S dK_kind_21 ?_
    refine lv_goto (tgt := 29) hx hb dK_kind_22 (by decide) ?_
    exact ret (nI ((k + 15) + 1)) (()) _ _ _ _ _ _ (Nat.le_refl _) (Nat.le_refl _) (by rw [if_pos (b2i_n0.mp hc10)]) C dK_kind_29
