abbrev rm_L_feed_no : Room := { frames := 8, cells := 1, slots := 6, locals := 133 }
set_option maxHeartbeats 4000000 in
set_option maxRecDepth 100000 in
theorem c_L_feed_no (l : Launch) (D : va_G) (ca : Nat → ClassId) (s0 : State) (a0 : Array Value) (Z : Wd a0 s0) (hl0 : l.stackTraces = false) (sx : Nat → Nat) (Xs : XS sx s0) (d : Nat) (y : Int32) (hr : y < nI 1 ∨ nI 8 < y) (x : Int64) (g : Nat → Nat) (Xn : XN s0) (o : Nat) (fo : Nat → Int64) : CtI l yL_feed [.codeWith yL_feed cL_feed 6 (some .int) [(0, 11, 14, 13)]] rm_L_feed_no 1 6 D ca s0 [.ref (d), .int (y), .long (x), .ref (o)] [(d, .inr (2, kF g)), (o, .inl (ca 2, 1, .inr (.inl (fo))))] (S := Unit) (fun r _ => r = nI 1) (fun _ => [(d, .inr (2, kF g)), (o, .inl (ca 2, 1, .inr (.inl (fo))))]) := by
  refine ctH_of (cc := cL_feed) (maxL := 6) (own := RL) (hh := [(0, 11, 14, 13)]) Z rfl (by decide) rfl (Nat.le_of_ble_eq_true rfl) ?_
  intro p e s m args below meth c A ls Q S htb ret C hl
  have hx := S.1
  have hb := S.2.1
  have hown := S.2.2.2.1
  have hts := S.2.2.2.2
  generalize s.heap = H at C ⊢
  generalize ([] : List Loc) = locs at C ⊢
  replace hl : lv_has ls 6 [(0, .ref (d)), (1, .int (y)), (2, .long (x)), (4, .ref (o))] := hl
  refine lv_aload hx hb dL_feed_0 (lv_at hl 3 rfl) ?_
  refine lv_iconst (v := nI 0) hx hb dL_feed_2 (by decide) ?_
  refine lv_aload_n hx hb dL_feed_3 rfl (lv_at hl 0 rfl) ?_
  refine lv_iload_n hx hb dL_feed_4 rfl (lv_at hl 1 rfl) ?_
  refine lv_lload_n hx hb dL_feed_5 rfl (lv_at hl 2 rfl) ?_
  refine n_callXP C (fun hp => vx_runV (rest := [.int (nI 0), .ref (o)]) S (x_K_feed l D ca s0 a0 Z hl0 sx Xs d y hr x _) (cwV 2 hts (gV g_97 g_98 g_99 g_30 g_100) rfl rfl rfl (by decide +kernel) ⟨Nat.le_of_ble_eq_true rfl, Nat.le_of_ble_eq_true rfl⟩) ⟨hp.1, n_recv C 0 2 rfl rfl, hp.2⟩ rfl rfl hl.1 rfl (lv_room (Nat.le_of_ble_eq_true rfl)) dL_feed_6 ⟨Nat.le_of_ble_eq_true rfl, Nat.le_of_ble_eq_true rfl⟩) (fun q9 ce H locs C c1 c2 c3 => ?_)
  refine n_catch S C Z htb 1 xc_1 [] ⟨0, 11, 14, 13⟩ [] rfl (fun z hz => nomatch hz) (by decide) (by decide) g_96 c1 c2 c3 ?_
  refine lv_astore hx hb dL_feed_14 hl (Nat.le_of_ble_eq_true rfl) rfl (fun ls hl => ?_)
  replace hl : lv_has ls 6 [(5, .ref (q9)), (0, .ref (d)), (1, .int (y)), (2, .long (x)), (4, .ref (o))] := hl
  refine lv_iconst (v := nI 1) hx hb dL_feed_16 (by decide) ?_
  exact ret (nI 1) (()) _ _ _ _ _ _ (Nat.le_of_ble_eq_true rfl) (Nat.le_of_ble_eq_true rfl) rfl C dL_feed_17
abbrev rm_L_feed_ok : Room := { frames := 2, cells := 0, slots := 0, locals := 47 }
set_option maxHeartbeats 4000000 in
set_option maxRecDepth 100000 in
theorem c_L_feed_ok (l : Launch) (D : va_G) (ca : Nat → ClassId) (s0 : State) (a0 : Array Value) (Z : Wd a0 s0) (d : Nat) (g : Nat → Nat) (rb : Nat) (f : Nat → Int32) (T : Nat → Nat) (n : Nat) (hn : n ≤ 300) (hT : sb_Lat T n f) (k : Nat) (hk1 : 1 ≤ k) (hk : k ≤ 8) (x : Int64) (hfit : n + k ≤ 300) (o : Nat) (fo : Nat → Int64) : CtI l yL_feed [.codeWith yL_feed cL_feed 6 (some .int) [(0, 11, 14, 13)]] rm_L_feed_ok 0 0 D ca s0 [.ref (d), .int (nI k), .long (x), .ref (o)] [(d, .inr (2, kF g)), (g 0, .inr (0, [.ref (rb), .int (nI n)])), (rb, .inl (ca 3, 300, .inl (f))), (o, .inl (ca 2, 1, .inr (.inl (fo))))] (S := Nat → Int32) (fun r u => r = nI 0 ∧ sb_Lat (sb_cat T n (byAt x)) (n + k) u) (fun u => [(d, .inr (2, kF g)), (g 0, .inr (0, [.ref (rb), .int (nI (n + k))])), (rb, .inl (ca 3, 300, .inl u)), (o, .inl (ca 2, 1, .inr (.inl (vp_updL fo 0 ((nI (n + k)).toInt64)))))]) := by
  refine ctH_of (cc := cL_feed) (maxL := 6) (own := RL) (hh := [(0, 11, 14, 13)]) Z rfl (by decide) rfl (Nat.le_of_ble_eq_true rfl) ?_
  intro p e s m args below meth c A ls Q S htb ret C hl
  have hx := S.1
  have hb := S.2.1
  have hown := S.2.2.2.1
  have hts := S.2.2.2.2
  generalize s.heap = H at C ⊢
  generalize ([] : List Loc) = locs at C ⊢
  replace hl : lv_has ls 6 [(0, .ref (d)), (1, .int (nI k)), (2, .long (x)), (4, .ref (o))] := hl
  refine lv_aload hx hb dL_feed_0 (lv_at hl 3 rfl) ?_
  refine lv_iconst (v := nI 0) hx hb dL_feed_2 (by decide) ?_
  refine lv_aload_n hx hb dL_feed_3 rfl (lv_at hl 0 rfl) ?_
  refine lv_iload_n hx hb dL_feed_4 rfl (lv_at hl 1 rfl) ?_
  refine lv_lload_n hx hb dL_feed_5 rfl (lv_at hl 2 rfl) ?_
  refine n_callI (wc := [(d, .inr (2, kF g)), (g 0, .inr (0, [.ref (rb), .int (nI n)])), (rb, .inl (ca 3, 300, .inl (f)))]) (wr := [(o, .inl (ca 2, 1, .inr (.inl (fo))))]) C [0, 1, 2] [3] rfl rfl rfl rfl (by decide) (fun hp => va_runV (rest := [.int (nI 0), .ref (o)]) S (c_K_feed_ok l D ca s0 a0 Z d g rb f T n hn hT k hk1 hk x hfit _) (cwV 2 hts (gV g_97 g_98 g_99 g_30 g_100) rfl rfl rfl (by decide +kernel) ⟨Nat.le_of_ble_eq_true rfl, Nat.le_of_ble_eq_true rfl⟩) ⟨hp.1, n_recv C 0 2 rfl rfl, hp.2⟩ rfl rfl hl.1 rfl (lv_room (Nat.le_of_ble_eq_true rfl)) dL_feed_6 ⟨Nat.le_of_ble_eq_true rfl, Nat.le_of_ble_eq_true rfl⟩) (fun r u H locs hp C => ?_)
  replace C : Cx D ca s0 A s [(d, .inr (2, kF g)), (g 0, .inr (0, [.ref (rb), .int (nI (n + k))])), (rb, .inl (ca 3, 300, .inl u)), (o, .inl (ca 2, 1, .inr (.inl (fo))))] H locs := C.re [1, 2, 3, 0] rfl rfl
  obtain ⟨rfl, hp⟩ := hp
  refine lv_i2l (v := (nI (n + k)).toInt64) hx hb dL_feed_9 rfl ?_
  refine n_last S C 3 rfl (i := 0) (by omega) (by decide) dL_feed_10 (fun H locs C => ?_)
  replace C : Cx D ca s0 A s [(d, .inr (2, kF g)), (g 0, .inr (0, [.ref (rb), .int (nI (n + k))])), (rb, .inl (ca 3, 300, .inl u)), (o, .inl (ca 2, 1, .inr (.inl (vp_updL fo 0 ((nI (n + k)).toInt64)))))] H locs := C
  refine lv_goto (tgt := 18) hx hb dL_feed_11 (by decide) ?_
  refine lv_iconst (v := nI 0) hx hb dL_feed_18 (by decide) ?_
  exact ret (nI 0) u _ _ _ _ _ _ (Nat.le_of_ble_eq_true rfl) (Nat.le_of_ble_eq_true rfl) (⟨rfl, hp⟩) C dL_feed_19
abbrev rm_L_feed_full : Room := { frames := 2, cells := 0, slots := 0, locals := 44 }
set_option maxHeartbeats 4000000 in
set_option maxRecDepth 100000 in
theorem c_L_feed_full (l : Launch) (D : va_G) (ca : Nat → ClassId) (s0 : State) (a0 : Array Value) (Z : Wd a0 s0) (d : Nat) (g : Nat → Nat) (rb n : Nat) (hn : n ≤ 300) (k : Nat) (hk1 : 1 ≤ k) (hk : k ≤ 8) (x : Int64) (hfull : 300 < n + k) (o : Nat) (fo : Nat → Int64) : CtI l yL_feed [.codeWith yL_feed cL_feed 6 (some .int) [(0, 11, 14, 13)]] rm_L_feed_full 0 0 D ca s0 [.ref (d), .int (nI k), .long (x), .ref (o)] [(d, .inr (2, kF g)), (g 0, .inr (0, [.ref (rb), .int (nI n)])), (o, .inl (ca 2, 1, .inr (.inl (fo))))] (S := Unit) (fun r _ => r = nI 0) (fun u => [(d, .inr (2, kF g)), (g 0, .inr (0, [.ref (rb), .int (nI n)])), (o, .inl (ca 2, 1, .inr (.inl (vp_updL fo 0 ((-1).toInt64)))))]) := by
  refine ctH_of (cc := cL_feed) (maxL := 6) (own := RL) (hh := [(0, 11, 14, 13)]) Z rfl (by decide) rfl (Nat.le_of_ble_eq_true rfl) ?_
  intro p e s m args below meth c A ls Q S htb ret C hl
  have hx := S.1
  have hb := S.2.1
  have hown := S.2.2.2.1
  have hts := S.2.2.2.2
  generalize s.heap = H at C ⊢
  generalize ([] : List Loc) = locs at C ⊢
  replace hl : lv_has ls 6 [(0, .ref (d)), (1, .int (nI k)), (2, .long (x)), (4, .ref (o))] := hl
  refine lv_aload hx hb dL_feed_0 (lv_at hl 3 rfl) ?_
  refine lv_iconst (v := nI 0) hx hb dL_feed_2 (by decide) ?_
  refine lv_aload_n hx hb dL_feed_3 rfl (lv_at hl 0 rfl) ?_
  refine lv_iload_n hx hb dL_feed_4 rfl (lv_at hl 1 rfl) ?_
  refine lv_lload_n hx hb dL_feed_5 rfl (lv_at hl 2 rfl) ?_
  refine n_callI (wc := [(d, .inr (2, kF g)), (g 0, .inr (0, [.ref (rb), .int (nI n)]))]) (wr := [(o, .inl (ca 2, 1, .inr (.inl (fo))))]) C [0, 1] [2] rfl rfl rfl rfl (by decide) (fun hp => va_runV (rest := [.int (nI 0), .ref (o)]) S (c_K_feed_full l D ca s0 a0 Z d g rb n hn k hk1 hk x hfull _) (cwV 2 hts (gV g_97 g_98 g_99 g_30 g_100) rfl rfl rfl (by decide +kernel) ⟨Nat.le_of_ble_eq_true rfl, Nat.le_of_ble_eq_true rfl⟩) ⟨hp.1, n_recv C 0 2 rfl rfl, hp.2⟩ rfl rfl hl.1 rfl (lv_room (Nat.le_of_ble_eq_true rfl)) dL_feed_6 ⟨Nat.le_of_ble_eq_true rfl, Nat.le_of_ble_eq_true rfl⟩) (fun r u H locs hp C => ?_)
  replace C : Cx D ca s0 A s [(d, .inr (2, kF g)), (g 0, .inr (0, [.ref (rb), .int (nI n)])), (o, .inl (ca 2, 1, .inr (.inl (fo))))] H locs := C.re [1, 2, 0] rfl rfl
  subst r
  refine lv_i2l (v := (-1).toInt64) hx hb dL_feed_9 rfl ?_
  refine n_last S C 2 rfl (i := 0) (by omega) (by decide) dL_feed_10 (fun H locs C => ?_)
  replace C : Cx D ca s0 A s [(d, .inr (2, kF g)), (g 0, .inr (0, [.ref (rb), .int (nI n)])), (o, .inl (ca 2, 1, .inr (.inl (vp_updL fo 0 ((-1).toInt64)))))] H locs := C
  refine lv_goto (tgt := 18) hx hb dL_feed_11 (by decide) ?_
  refine lv_iconst (v := nI 0) hx hb dL_feed_18 (by decide) ?_
  exact ret (nI 0) (()) _ _ _ _ _ _ (Nat.le_of_ble_eq_true rfl) (Nat.le_of_ble_eq_true rfl) rfl C dL_feed_19
abbrev rm_L_let_no : Room := { frames := 8, cells := 1, slots := 6, locals := 132 }
set_option maxHeartbeats 4000000 in
set_option maxRecDepth 100000 in
theorem c_L_let_no (l : Launch) (D : va_G) (ca : Nat → ClassId) (s0 : State) (a0 : Array Value) (Z : Wd a0 s0) (hl0 : l.stackTraces = false) (sx : Nat → Nat) (Xs : XS sx s0) (d : Nat) (y : Int32) (hr : y < 0 ∨ nI 2 < y) (g : Nat → Nat) (Xn : XN s0) (o : Nat) (fo : Nat → Int64) : CtI l yL_let [.codeWith yL_let cL_let 4 (some .int) [(0, 9, 12, 13)]] rm_L_let_no 1 6 D ca s0 [.ref (d), .int (y), .ref (o)] [(d, .inr (2, kF g)), (o, .inl (ca 2, 1, .inr (.inl (fo))))] (S := Unit) (fun r _ => r = nI 1) (fun _ => [(d, .inr (2, kF g)), (o, .inl (ca 2, 1, .inr (.inl (fo))))]) := by
  refine ctH_of (cc := cL_let) (maxL := 4) (own := RL) (hh := [(0, 9, 12, 13)]) Z rfl (by decide) rfl (Nat.le_of_ble_eq_true rfl) ?_
  intro p e s m args below meth c A ls Q S htb ret C hl
  have hx := S.1
  have hb := S.2.1
  have hown := S.2.2.2.1
  have hts := S.2.2.2.2
  generalize s.heap = H at C ⊢
  generalize ([] : List Loc) = locs at C ⊢
  replace hl : lv_has ls 4 [(0, .ref (d)), (1, .int (y)), (2, .ref (o))] := hl
  refine lv_aload_n hx hb dL_let_0 rfl (lv_at hl 2 rfl) ?_
  refine lv_iconst (v := nI 0) hx hb dL_let_1 (by decide) ?_
  refine lv_aload_n hx hb dL_let_2 rfl (lv_at hl 0 rfl) ?_
  refine lv_iload_n hx hb dL_let_3 rfl (lv_at hl 1 rfl) ?_
  refine n_callXP C (fun hp => vx_runV (rest := [.int (nI 0), .ref (o)]) S (x_K_let l D ca s0 a0 Z hl0 sx Xs d y hr _) (cwV 1 hts (gV g_152 g_153 g_154 g_30 g_155) rfl rfl rfl (by decide +kernel) ⟨Nat.le_of_ble_eq_true rfl, Nat.le_of_ble_eq_true rfl⟩) ⟨hp.1, n_recv C 0 2 rfl rfl, hp.2⟩ rfl rfl hl.1 rfl (lv_room (Nat.le_of_ble_eq_true rfl)) dL_let_4 ⟨Nat.le_of_ble_eq_true rfl, Nat.le_of_ble_eq_true rfl⟩) (fun q9 ce H locs C c1 c2 c3 => ?_)
  refine n_catch S C Z htb 1 xc_1 [] ⟨0, 9, 12, 13⟩ [] rfl (fun z hz => nomatch hz) (by decide) (by decide) g_96 c1 c2 c3 ?_
  refine lv_astore_n hx hb dL_let_12 rfl hl (Nat.le_of_ble_eq_true rfl) rfl (fun ls hl => ?_)
  replace hl : lv_has ls 4 [(3, .ref (q9)), (0, .ref (d)), (1, .int (y)), (2, .ref (o))] := hl
  refine lv_iconst (v := nI 1) hx hb dL_let_13 (by decide) ?_
  exact ret (nI 1) (()) _ _ _ _ _ _ (Nat.le_of_ble_eq_true rfl) (Nat.le_of_ble_eq_true rfl) rfl C dL_let_14
abbrev rm_L_let_ok1 : Room := { frames := 3, cells := 0, slots := 0, locals := 103 }
set_option maxHeartbeats 4000000 in
set_option maxRecDepth 100000 in
theorem c_L_let_ok1 (l : Launch) (D : va_G) (ca : Nat → ClassId) (s0 : State) (a0 : Array Value) (Z : Wd a0 s0) (d : Nat) (g : Nat → Nat) (rb : Nat) (f : Nat → Int32) (T : Nat → Nat) (n : Nat) (hn : n ≤ 300) (hT : sb_Lat T n f) (rj : Nat) (fj : Nat → Int32) (nj : Nat) (o : Nat) (fo : Nat → Int64) : CtI l yL_let [.codeWith yL_let cL_let 4 (some .int) [(0, 9, 12, 13)]] rm_L_let_ok1 0 0 D ca s0 [.ref (d), .int (nI 0), .ref (o)] [(d, .inr (2, kF g)), (g 1, .inr (0, [.ref (rj), .int (nI nj)])), (rj, .inl (ca 3, 300, .inl (fj))), (g 0, .inr (0, [.ref (rb), .int (nI n)])), (rb, .inl (ca 3, 300, .inl (f))), (o, .inl (ca 2, 1, .inr (.inl (fo))))] (S := Nat → Int32) (fun r u => r = nI 0 ∧ sb_Lat T n u) (fun u => [(d, .inr (2, kF g)), (g 1, .inr (0, [.ref (rj), .int (nI n)])), (rj, .inl (ca 3, 300, .inl u)), (g 0, .inr (0, [.ref (rb), .int (nI 0)])), (rb, .inl (ca 3, 300, .inl f)), (o, .inl (ca 2, 1, .inr (.inl (vp_updL fo 0 ((nI n).toInt64)))))]) := by
  refine ctH_of (cc := cL_let) (maxL := 4) (own := RL) (hh := [(0, 9, 12, 13)]) Z rfl (by decide) rfl (Nat.le_of_ble_eq_true rfl) ?_
  intro p e s m args below meth c A ls Q S htb ret C hl
  have hx := S.1
  have hb := S.2.1
  have hown := S.2.2.2.1
  have hts := S.2.2.2.2
  generalize s.heap = H at C ⊢
  generalize ([] : List Loc) = locs at C ⊢
  replace hl : lv_has ls 4 [(0, .ref (d)), (1, .int (nI 0)), (2, .ref (o))] := hl
  refine lv_aload_n hx hb dL_let_0 rfl (lv_at hl 2 rfl) ?_
  refine lv_iconst (v := nI 0) hx hb dL_let_1 (by decide) ?_
  refine lv_aload_n hx hb dL_let_2 rfl (lv_at hl 0 rfl) ?_
  refine lv_iload_n hx hb dL_let_3 rfl (lv_at hl 1 rfl) ?_
  refine n_callI (wc := [(d, .inr (2, kF g)), (g 1, .inr (0, [.ref (rj), .int (nI nj)])), (rj, .inl (ca 3, 300, .inl (fj))), (g 0, .inr (0, [.ref (rb), .int (nI n)])), (rb, .inl (ca 3, 300, .inl (f)))]) (wr := [(o, .inl (ca 2, 1, .inr (.inl (fo))))]) C [0, 1, 2, 3, 4] [5] rfl rfl rfl rfl (by decide) (fun hp => va_runV (rest := [.int (nI 0), .ref (o)]) S (c_K_let_ok1 l D ca s0 a0 Z d g rb f T n hn hT rj fj nj _) (cwV 1 hts (gV g_152 g_153 g_154 g_30 g_155) rfl rfl rfl (by decide +kernel) ⟨Nat.le_of_ble_eq_true rfl, Nat.le_of_ble_eq_true rfl⟩) ⟨hp.1, n_recv C 0 2 rfl rfl, hp.2⟩ rfl rfl hl.1 rfl (lv_room (Nat.le_of_ble_eq_true rfl)) dL_let_4 ⟨Nat.le_of_ble_eq_true rfl, Nat.le_of_ble_eq_true rfl⟩) (fun r u H locs hp C => ?_)
  replace C : Cx D ca s0 A s [(d, .inr (2, kF g)), (g 1, .inr (0, [.ref (rj), .int (nI n)])), (rj, .inl (ca 3, 300, .inl u)), (g 0, .inr (0, [.ref (rb), .int (nI 0)])), (rb, .inl (ca 3, 300, .inl f)), (o, .inl (ca 2, 1, .inr (.inl (fo))))] H locs := C.re [1, 2, 3, 4, 5, 0] rfl rfl
  obtain ⟨rfl, hp⟩ := hp
  refine lv_i2l (v := (nI n).toInt64) hx hb dL_let_7 rfl ?_
  refine n_last S C 5 rfl (i := 0) (by omega) (by decide) dL_let_8 (fun H locs C => ?_)
  replace C : Cx D ca s0 A s [(d, .inr (2, kF g)), (g 1, .inr (0, [.ref (rj), .int (nI n)])), (rj, .inl (ca 3, 300, .inl u)), (g 0, .inr (0, [.ref (rb), .int (nI 0)])), (rb, .inl (ca 3, 300, .inl f)), (o, .inl (ca 2, 1, .inr (.inl (vp_updL fo 0 ((nI n).toInt64)))))] H locs := C
  refine lv_goto (tgt := 15) hx hb dL_let_9 (by decide) ?_
  refine lv_iconst (v := nI 0) hx hb dL_let_15 (by decide) ?_
  exact ret (nI 0) u _ _ _ _ _ _ (Nat.le_of_ble_eq_true rfl) (Nat.le_of_ble_eq_true rfl) (⟨rfl, hp⟩) C dL_let_16
abbrev rm_L_let_ok2 : Room := { frames := 3, cells := 0, slots := 0, locals := 103 }
set_option maxHeartbeats 4000000 in
set_option maxRecDepth 100000 in
theorem c_L_let_ok2 (l : Launch) (D : va_G) (ca : Nat → ClassId) (s0 : State) (a0 : Array Value) (Z : Wd a0 s0) (d : Nat) (g : Nat → Nat) (rb : Nat) (f : Nat → Int32) (T : Nat → Nat) (n : Nat) (hn : n ≤ 300) (hT : sb_Lat T n f) (rj : Nat) (fj : Nat → Int32) (nj : Nat) (o : Nat) (fo : Nat → Int64) : CtI l yL_let [.codeWith yL_let cL_let 4 (some .int) [(0, 9, 12, 13)]] rm_L_let_ok2 0 0 D ca s0 [.ref (d), .int (nI 1), .ref (o)] [(d, .inr (2, kF g)), (g 2, .inr (0, [.ref (rj), .int (nI nj)])), (rj, .inl (ca 3, 300, .inl (fj))), (g 0, .inr (0, [.ref (rb), .int (nI n)])), (rb, .inl (ca 3, 300, .inl (f))), (o, .inl (ca 2, 1, .inr (.inl (fo))))] (S := Nat → Int32) (fun r u => r = nI 0 ∧ sb_Lat T n u) (fun u => [(d, .inr (2, kF g)), (g 2, .inr (0, [.ref (rj), .int (nI n)])), (rj, .inl (ca 3, 300, .inl u)), (g 0, .inr (0, [.ref (rb), .int (nI 0)])), (rb, .inl (ca 3, 300, .inl f)), (o, .inl (ca 2, 1, .inr (.inl (vp_updL fo 0 ((nI n).toInt64)))))]) := by
  refine ctH_of (cc := cL_let) (maxL := 4) (own := RL) (hh := [(0, 9, 12, 13)]) Z rfl (by decide) rfl (Nat.le_of_ble_eq_true rfl) ?_
  intro p e s m args below meth c A ls Q S htb ret C hl
  have hx := S.1
  have hb := S.2.1
  have hown := S.2.2.2.1
  have hts := S.2.2.2.2
  generalize s.heap = H at C ⊢
  generalize ([] : List Loc) = locs at C ⊢
  replace hl : lv_has ls 4 [(0, .ref (d)), (1, .int (nI 1)), (2, .ref (o))] := hl
  refine lv_aload_n hx hb dL_let_0 rfl (lv_at hl 2 rfl) ?_
  refine lv_iconst (v := nI 0) hx hb dL_let_1 (by decide) ?_
  refine lv_aload_n hx hb dL_let_2 rfl (lv_at hl 0 rfl) ?_
  refine lv_iload_n hx hb dL_let_3 rfl (lv_at hl 1 rfl) ?_
  refine n_callI (wc := [(d, .inr (2, kF g)), (g 2, .inr (0, [.ref (rj), .int (nI nj)])), (rj, .inl (ca 3, 300, .inl (fj))), (g 0, .inr (0, [.ref (rb), .int (nI n)])), (rb, .inl (ca 3, 300, .inl (f)))]) (wr := [(o, .inl (ca 2, 1, .inr (.inl (fo))))]) C [0, 1, 2, 3, 4] [5] rfl rfl rfl rfl (by decide) (fun hp => va_runV (rest := [.int (nI 0), .ref (o)]) S (c_K_let_ok2 l D ca s0 a0 Z d g rb f T n hn hT rj fj nj _) (cwV 1 hts (gV g_152 g_153 g_154 g_30 g_155) rfl rfl rfl (by decide +kernel) ⟨Nat.le_of_ble_eq_true rfl, Nat.le_of_ble_eq_true rfl⟩) ⟨hp.1, n_recv C 0 2 rfl rfl, hp.2⟩ rfl rfl hl.1 rfl (lv_room (Nat.le_of_ble_eq_true rfl)) dL_let_4 ⟨Nat.le_of_ble_eq_true rfl, Nat.le_of_ble_eq_true rfl⟩) (fun r u H locs hp C => ?_)
  replace C : Cx D ca s0 A s [(d, .inr (2, kF g)), (g 2, .inr (0, [.ref (rj), .int (nI n)])), (rj, .inl (ca 3, 300, .inl u)), (g 0, .inr (0, [.ref (rb), .int (nI 0)])), (rb, .inl (ca 3, 300, .inl f)), (o, .inl (ca 2, 1, .inr (.inl (fo))))] H locs := C.re [1, 2, 3, 4, 5, 0] rfl rfl
  obtain ⟨rfl, hp⟩ := hp
  refine lv_i2l (v := (nI n).toInt64) hx hb dL_let_7 rfl ?_
  refine n_last S C 5 rfl (i := 0) (by omega) (by decide) dL_let_8 (fun H locs C => ?_)
  replace C : Cx D ca s0 A s [(d, .inr (2, kF g)), (g 2, .inr (0, [.ref (rj), .int (nI n)])), (rj, .inl (ca 3, 300, .inl u)), (g 0, .inr (0, [.ref (rb), .int (nI 0)])), (rb, .inl (ca 3, 300, .inl f)), (o, .inl (ca 2, 1, .inr (.inl (vp_updL fo 0 ((nI n).toInt64)))))] H locs := C
  refine lv_goto (tgt := 15) hx hb dL_let_9 (by decide) ?_
  refine lv_iconst (v := nI 0) hx hb dL_let_15 (by decide) ?_
  exact ret (nI 0) u _ _ _ _ _ _ (Nat.le_of_ble_eq_true rfl) (Nat.le_of_ble_eq_true rfl) (⟨rfl, hp⟩) C dL_let_16
abbrev rm_L_let_ok3 : Room := { frames := 3, cells := 0, slots := 0, locals := 103 }
set_option maxHeartbeats 4000000 in
set_option maxRecDepth 100000 in
theorem c_L_let_ok3 (l : Launch) (D : va_G) (ca : Nat → ClassId) (s0 : State) (a0 : Array Value) (Z : Wd a0 s0) (d : Nat) (g : Nat → Nat) (rb : Nat) (f : Nat → Int32) (T : Nat → Nat) (n : Nat) (hn : n ≤ 300) (hT : sb_Lat T n f) (rj : Nat) (fj : Nat → Int32) (nj : Nat) (o : Nat) (fo : Nat → Int64) : CtI l yL_let [.codeWith yL_let cL_let 4 (some .int) [(0, 9, 12, 13)]] rm_L_let_ok3 0 0 D ca s0 [.ref (d), .int (nI 2), .ref (o)] [(d, .inr (2, kF g)), (g 3, .inr (0, [.ref (rj), .int (nI nj)])), (rj, .inl (ca 3, 300, .inl (fj))), (g 0, .inr (0, [.ref (rb), .int (nI n)])), (rb, .inl (ca 3, 300, .inl (f))), (o, .inl (ca 2, 1, .inr (.inl (fo))))] (S := Nat → Int32) (fun r u => r = nI 0 ∧ sb_Lat T n u) (fun u => [(d, .inr (2, kF g)), (g 3, .inr (0, [.ref (rj), .int (nI n)])), (rj, .inl (ca 3, 300, .inl u)), (g 0, .inr (0, [.ref (rb), .int (nI 0)])), (rb, .inl (ca 3, 300, .inl f)), (o, .inl (ca 2, 1, .inr (.inl (vp_updL fo 0 ((nI n).toInt64)))))]) := by
  refine ctH_of (cc := cL_let) (maxL := 4) (own := RL) (hh := [(0, 9, 12, 13)]) Z rfl (by decide) rfl (Nat.le_of_ble_eq_true rfl) ?_
  intro p e s m args below meth c A ls Q S htb ret C hl
  have hx := S.1
  have hb := S.2.1
  have hown := S.2.2.2.1
  have hts := S.2.2.2.2
  generalize s.heap = H at C ⊢
  generalize ([] : List Loc) = locs at C ⊢
  replace hl : lv_has ls 4 [(0, .ref (d)), (1, .int (nI 2)), (2, .ref (o))] := hl
  refine lv_aload_n hx hb dL_let_0 rfl (lv_at hl 2 rfl) ?_
  refine lv_iconst (v := nI 0) hx hb dL_let_1 (by decide) ?_
  refine lv_aload_n hx hb dL_let_2 rfl (lv_at hl 0 rfl) ?_
  refine lv_iload_n hx hb dL_let_3 rfl (lv_at hl 1 rfl) ?_
  refine n_callI (wc := [(d, .inr (2, kF g)), (g 3, .inr (0, [.ref (rj), .int (nI nj)])), (rj, .inl (ca 3, 300, .inl (fj))), (g 0, .inr (0, [.ref (rb), .int (nI n)])), (rb, .inl (ca 3, 300, .inl (f)))]) (wr := [(o, .inl (ca 2, 1, .inr (.inl (fo))))]) C [0, 1, 2, 3, 4] [5] rfl rfl rfl rfl (by decide) (fun hp => va_runV (rest := [.int (nI 0), .ref (o)]) S (c_K_let_ok3 l D ca s0 a0 Z d g rb f T n hn hT rj fj nj _) (cwV 1 hts (gV g_152 g_153 g_154 g_30 g_155) rfl rfl rfl (by decide +kernel) ⟨Nat.le_of_ble_eq_true rfl, Nat.le_of_ble_eq_true rfl⟩) ⟨hp.1, n_recv C 0 2 rfl rfl, hp.2⟩ rfl rfl hl.1 rfl (lv_room (Nat.le_of_ble_eq_true rfl)) dL_let_4 ⟨Nat.le_of_ble_eq_true rfl, Nat.le_of_ble_eq_true rfl⟩) (fun r u H locs hp C => ?_)
  replace C : Cx D ca s0 A s [(d, .inr (2, kF g)), (g 3, .inr (0, [.ref (rj), .int (nI n)])), (rj, .inl (ca 3, 300, .inl u)), (g 0, .inr (0, [.ref (rb), .int (nI 0)])), (rb, .inl (ca 3, 300, .inl f)), (o, .inl (ca 2, 1, .inr (.inl (fo))))] H locs := C.re [1, 2, 3, 4, 5, 0] rfl rfl
  obtain ⟨rfl, hp⟩ := hp
  refine lv_i2l (v := (nI n).toInt64) hx hb dL_let_7 rfl ?_
  refine n_last S C 5 rfl (i := 0) (by omega) (by decide) dL_let_8 (fun H locs C => ?_)
  replace C : Cx D ca s0 A s [(d, .inr (2, kF g)), (g 3, .inr (0, [.ref (rj), .int (nI n)])), (rj, .inl (ca 3, 300, .inl u)), (g 0, .inr (0, [.ref (rb), .int (nI 0)])), (rb, .inl (ca 3, 300, .inl f)), (o, .inl (ca 2, 1, .inr (.inl (vp_updL fo 0 ((nI n).toInt64)))))] H locs := C
  refine lv_goto (tgt := 15) hx hb dL_let_9 (by decide) ?_
  refine lv_iconst (v := nI 0) hx hb dL_let_15 (by decide) ?_
  exact ret (nI 0) u _ _ _ _ _ _ (Nat.le_of_ble_eq_true rfl) (Nat.le_of_ble_eq_true rfl) (⟨rfl, hp⟩) C dL_let_16
abbrev rm_L_begin_no1 : Room := { frames := 8, cells := 1, slots := 6, locals := 134 }
set_option maxHeartbeats 4000000 in
set_option maxRecDepth 100000 in
theorem c_L_begin_no1 (l : Launch) (D : va_G) (ca : Nat → ClassId) (s0 : State) (a0 : Array Value) (Z : Wd a0 s0) (hl0 : l.stackTraces = false) (sx : Nat → Nat) (Xs : XS sx s0) (d : Nat) (g : Nat → Nat) (k : Int32) (hno : ¬ (¬ k < 0 ∧ k < 4)) (y : Int32) (Xn : XN s0) : CtI l yL_begin [.codeWith yL_begin cL_begin 4 (some .int) [(0, 6, 9, 23), (0, 6, 12, 13)]] rm_L_begin_no1 1 6 D ca s0 [.ref (d), .int (k), .int (y)] [(d, .inr (2, kF g))] (S := Unit) (fun r _ => r = nI 1) (fun _ => [(d, .inr (2, kF g))]) := by
  refine ctH_of (cc := cL_begin) (maxL := 4) (own := RL) (hh := [(0, 6, 9, 23), (0, 6, 12, 13)]) Z rfl (by decide) rfl (Nat.le_of_ble_eq_true rfl) ?_
  intro p e s m args below meth c A ls Q S htb ret C hl
  have hx := S.1
  have hb := S.2.1
  have hown := S.2.2.2.1
  have hts := S.2.2.2.2
  generalize s.heap = H at C ⊢
  generalize ([] : List Loc) = locs at C ⊢
  replace hl : lv_has ls 4 [(0, .ref (d)), (1, .int (k)), (2, .int (y))] := hl
  refine lv_aload_n hx hb dL_begin_0 rfl (lv_at hl 0 rfl) ?_
  refine lv_iload_n hx hb dL_begin_1 rfl (lv_at hl 1 rfl) ?_
  refine lv_iload_n hx hb dL_begin_2 rfl (lv_at hl 2 rfl) ?_
  refine n_callX (wc := [(d, .inr (2, kF g))]) (wr := []) C [0] [] rfl rfl rfl rfl (by decide) (fun hp => vx_runV (rest := []) S (x_K_begin1 l D ca s0 a0 Z hl0 sx Xs d g k hno y _) (cwV 2 hts (gV g_167 g_168 g_169 g_30 g_170) rfl rfl rfl (by decide +kernel) ⟨Nat.le_of_ble_eq_true rfl, Nat.le_of_ble_eq_true rfl⟩) ⟨hp.1, n_recv C 0 2 rfl rfl, hp.2⟩ rfl rfl hl.1 rfl (lv_room (Nat.le_of_ble_eq_true rfl)) dL_begin_3 ⟨Nat.le_of_ble_eq_true rfl, Nat.le_of_ble_eq_true rfl⟩) (fun q9 ce H locs C c1 c2 c3 => ?_)
  replace C : Cx D ca s0 A s [(d, .inr (2, kF g))] H locs := C.re [0] rfl rfl
  refine n_catch S C Z htb 0 xc_0 [] ⟨0, 6, 9, 23⟩ [⟨0, 6, 12, 13⟩] rfl (fun z hz => nomatch hz) (by decide) (by decide) g_166 c1 c2 c3 ?_
  refine lv_astore_n hx hb dL_begin_9 rfl hl (Nat.le_of_ble_eq_true rfl) rfl (fun ls hl => ?_)
  replace hl : lv_has ls 4 [(3, .ref (q9)), (0, .ref (d)), (1, .int (k)), (2, .int (y))] := hl
  refine lv_iconst (v := nI 1) hx hb dL_begin_10 (by decide) ?_
  exact ret (nI 1) (()) _ _ _ _ _ _ (Nat.le_of_ble_eq_true rfl) (Nat.le_of_ble_eq_true rfl) rfl C dL_begin_11
abbrev rm_L_begin_no2 : Room := { frames := 8, cells := 1, slots := 6, locals := 133 }
set_option maxHeartbeats 4000000 in
set_option maxRecDepth 100000 in
theorem c_L_begin_no2 (l : Launch) (D : va_G) (ca : Nat → ClassId) (s0 : State) (a0 : Array Value) (Z : Wd a0 s0) (hl0 : l.stackTraces = false) (sx : Nat → Nat) (Xs : XS sx s0) (d : Nat) (g : Nat → Nat) (sf : Nat → Option Nat) (k0 : Nat) (hk0 : k0 < 4) (h b : Nat) (hsf : sf k0 = some h) (y : Int32) (hr : y < 0 ∨ nI 15 < y) (Xn : XN s0) : CtI l yL_begin [.codeWith yL_begin cL_begin 4 (some .int) [(0, 6, 9, 23), (0, 6, 12, 13)]] rm_L_begin_no2 1 6 D ca s0 [.ref (d), .int (nI k0), .int (y)] [(d, .inr (2, kF g)), (g 4, .inl (ca 4, 4, .inr (.inr (.inr (.inr sf)))))] (S := Unit) (fun r _ => r = nI 2) (fun _ => [(d, .inr (2, kF g)), (g 4, .inl (ca 4, 4, .inr (.inr (.inr (.inr sf)))))]) := by
  refine ctH_of (cc := cL_begin) (maxL := 4) (own := RL) (hh := [(0, 6, 9, 23), (0, 6, 12, 13)]) Z rfl (by decide) rfl (Nat.le_of_ble_eq_true rfl) ?_
  intro p e s m args below meth c A ls Q S htb ret C hl
  have hx := S.1
  have hb := S.2.1
  have hown := S.2.2.2.1
  have hts := S.2.2.2.2
  generalize s.heap = H at C ⊢
  generalize ([] : List Loc) = locs at C ⊢
  replace hl : lv_has ls 4 [(0, .ref (d)), (1, .int (nI k0)), (2, .int (y))] := hl
  refine lv_aload_n hx hb dL_begin_0 rfl (lv_at hl 0 rfl) ?_
  refine lv_iload_n hx hb dL_begin_1 rfl (lv_at hl 1 rfl) ?_
  refine lv_iload_n hx hb dL_begin_2 rfl (lv_at hl 2 rfl) ?_
  refine n_callX (wc := [(d, .inr (2, kF g)), (g 4, .inl (ca 4, 4, .inr (.inr (.inr (.inr sf)))))]) (wr := []) C [0, 1] [] rfl rfl rfl rfl (by decide) (fun hp => vx_runV (rest := []) S (x_K_begin2 l D ca s0 a0 Z hl0 sx Xs d g sf k0 hk0 h b hsf y hr _) (cwV 2 hts (gV g_167 g_168 g_169 g_30 g_170) rfl rfl rfl (by decide +kernel) ⟨Nat.le_of_ble_eq_true rfl, Nat.le_of_ble_eq_true rfl⟩) ⟨hp.1, n_recv C 0 2 rfl rfl, hp.2⟩ rfl rfl hl.1 rfl (lv_room (Nat.le_of_ble_eq_true rfl)) dL_begin_3 ⟨Nat.le_of_ble_eq_true rfl, Nat.le_of_ble_eq_true rfl⟩) (fun q9 ce H locs C c1 c2 c3 => ?_)
  replace C : Cx D ca s0 A s [(d, .inr (2, kF g)), (g 4, .inl (ca 4, 4, .inr (.inr (.inr (.inr sf)))))] H locs := C.re [0, 1] rfl rfl
  refine n_catch S C Z htb 1 xc_1 [⟨0, 6, 9, 23⟩] ⟨0, 6, 12, 13⟩ [] rfl (List.forall_mem_cons.mpr ⟨⟨by decide, _, g_166, Xn.1⟩, fun z hz => nomatch hz⟩) (by decide) (by decide) g_96 c1 c2 c3 ?_
  refine lv_astore_n hx hb dL_begin_12 rfl hl (Nat.le_of_ble_eq_true rfl) rfl (fun ls hl => ?_)
  replace hl : lv_has ls 4 [(3, .ref (q9)), (0, .ref (d)), (1, .int (nI k0)), (2, .int (y))] := hl
  refine lv_iconst (v := nI 2) hx hb dL_begin_13 (by decide) ?_
  exact ret (nI 2) (()) _ _ _ _ _ _ (Nat.le_of_ble_eq_true rfl) (Nat.le_of_ble_eq_true rfl) rfl C dL_begin_14
abbrev rm_L_begin_ok : Room := { frames := 7, cells := 0, slots := 0, locals := 174 }
set_option maxHeartbeats 4000000 in
set_option maxRecDepth 100000 in
theorem c_L_begin_ok (l : Launch) (D : va_G) (ca : Nat → ClassId) (s0 : State) (a0 : Array Value) (Z : Wd a0 s0) (tz : Nat → Nat) (Zs : ZS tz s0) (d : Nat) (g : Nat → Nat) (sf : Nat → Option Nat) (k0 : Nat) (hk0 : k0 < 4) (h b : Nat) (hsf : sf k0 = some h) (L : Nat → Int64) (kd wd pl en tk dn rm : Int32) (R : Nat → Rw) (rb1 : Nat) (f1 : Nat → Int32) (hn1 : (R 1).2 ≤ 300) (hT1 : sb_Lat (R 1).1 (R 1).2 f1) (rb2 : Nat) (f2 : Nat → Int32) (hn2 : (R 2).2 ≤ 300) (hT2 : sb_Lat (R 2).1 (R 2).2 f2) (rb3 : Nat) (f3 : Nat → Int32) (hn3 : (R 3).2 ≤ 300) (hT3 : sb_Lat (R 3).1 (R 3).2 f3) (k : Nat) (hk : k < 16) : CtI l yL_begin [.codeWith yL_begin cL_begin 4 (some .int) [(0, 6, 9, 23), (0, 6, 12, 13)]] rm_L_begin_ok 0 0 D ca s0 [.ref (d), .int (nI k0), .int (nI k)] [(d, .inr (2, kF g)), (g 4, .inl (ca 4, 4, .inr (.inr (.inr (.inr sf))))), (h, .inr (1, [.ref (b), .int (kd), .int (wd), .int (pl), .int (en), .int (tk), .int (dn), .int (rm)])), (b, .inl (ca 2, 25, .inr (.inl (L)))), (g 1, .inr (0, [.ref (rb1), .int (nI ((R 1).2))])), (rb1, .inl (ca 3, 300, .inl (f1))), (g 2, .inr (0, [.ref (rb2), .int (nI ((R 2).2))])), (rb2, .inl (ca 3, 300, .inl (f2))), (g 3, .inr (0, [.ref (rb3), .int (nI ((R 3).2))])), (rb3, .inl (ca 3, 300, .inl (f3)))] (S := Nat → Int64) (fun r M => r = nI 0 ∧ kEq (lb M) (beginC k R).1) (fun u => [(d, .inr (2, kF g)), (g 4, .inl (ca 4, 4, .inr (.inr (.inr (.inr sf))))), (h, .inr (1, [.ref (b), .int (nI k), .int (nI (wid k)), .int (nI (beginC k R).2), .int (nI (beginE k R)), .int (nI 0), .int (nI 0), .int ((-1))])), (b, .inl (ca 2, 25, .inr (.inl u))), (g 1, .inr (0, [.ref (rb1), .int (nI ((R 1).2))])), (rb1, .inl (ca 3, 300, .inl f1)), (g 2, .inr (0, [.ref (rb2), .int (nI ((R 2).2))])), (rb2, .inl (ca 3, 300, .inl f2)), (g 3, .inr (0, [.ref (rb3), .int (nI ((R 3).2))])), (rb3, .inl (ca 3, 300, .inl f3))]) := by
  refine ctH_of (cc := cL_begin) (maxL := 4) (own := RL) (hh := [(0, 6, 9, 23), (0, 6, 12, 13)]) Z rfl (by decide) rfl (Nat.le_of_ble_eq_true rfl) ?_
  intro p e s m args below meth c A ls Q S htb ret C hl
  have hx := S.1
  have hb := S.2.1
  have hown := S.2.2.2.1
  have hts := S.2.2.2.2
  generalize s.heap = H at C ⊢
  generalize ([] : List Loc) = locs at C ⊢
  replace hl : lv_has ls 4 [(0, .ref (d)), (1, .int (nI k0)), (2, .int (nI k))] := hl
  refine lv_aload_n hx hb dL_begin_0 rfl (lv_at hl 0 rfl) ?_
  refine lv_iload_n hx hb dL_begin_1 rfl (lv_at hl 1 rfl) ?_
  refine lv_iload_n hx hb dL_begin_2 rfl (lv_at hl 2 rfl) ?_
  refine n_callV (wc := [(d, .inr (2, kF g)), (g 4, .inl (ca 4, 4, .inr (.inr (.inr (.inr sf))))), (h, .inr (1, [.ref (b), .int (kd), .int (wd), .int (pl), .int (en), .int (tk), .int (dn), .int (rm)])), (b, .inl (ca 2, 25, .inr (.inl (L)))), (g 1, .inr (0, [.ref (rb1), .int (nI ((R 1).2))])), (rb1, .inl (ca 3, 300, .inl (f1))), (g 2, .inr (0, [.ref (rb2), .int (nI ((R 2).2))])), (rb2, .inl (ca 3, 300, .inl (f2))), (g 3, .inr (0, [.ref (rb3), .int (nI ((R 3).2))])), (rb3, .inl (ca 3, 300, .inl (f3)))]) (wr := []) C [0, 1, 2, 3, 4, 5, 6, 7, 8, 9] [] rfl rfl rfl rfl (by decide) (fun hp => va_runV (rest := []) S (c_K_begin_ok l D ca s0 a0 Z tz Zs d g sf k0 hk0 h b hsf L kd wd pl en tk dn rm R rb1 f1 hn1 hT1 rb2 f2 hn2 hT2 rb3 f3 hn3 hT3 k hk _) (cwV 2 hts (gV g_167 g_168 g_169 g_30 g_170) rfl rfl rfl (by decide +kernel) ⟨Nat.le_of_ble_eq_true rfl, Nat.le_of_ble_eq_true rfl⟩) ⟨hp.1, n_recv C 0 2 rfl rfl, hp.2⟩ rfl rfl hl.1 rfl (lv_room (Nat.le_of_ble_eq_true rfl)) dL_begin_3 ⟨Nat.le_of_ble_eq_true rfl, Nat.le_of_ble_eq_true rfl⟩) (fun u H locs hp C => ?_)
  replace C : Cx D ca s0 A s [(d, .inr (2, kF g)), (g 4, .inl (ca 4, 4, .inr (.inr (.inr (.inr sf))))), (h, .inr (1, [.ref (b), .int (nI k), .int (nI (wid k)), .int (nI (beginC k R).2), .int (nI (beginE k R)), .int (nI 0), .int (nI 0), .int ((-1))])), (b, .inl (ca 2, 25, .inr (.inl u))), (g 1, .inr (0, [.ref (rb1), .int (nI ((R 1).2))])), (rb1, .inl (ca 3, 300, .inl f1)), (g 2, .inr (0, [.ref (rb2), .int (nI ((R 2).2))])), (rb2, .inl (ca 3, 300, .inl f2)), (g 3, .inr (0, [.ref (rb3), .int (nI ((R 3).2))])), (rb3, .inl (ca 3, 300, .inl f3))] H locs := C.re [0, 1, 2, 3, 4, 5, 6, 7, 8, 9] rfl rfl
  refine lv_goto (tgt := 15) hx hb dL_begin_6 (by decide) ?_
  refine lv_iconst (v := nI 0) hx hb dL_begin_15 (by decide) ?_
  exact ret (nI 0) u _ _ _ _ _ _ (Nat.le_of_ble_eq_true rfl) (Nat.le_of_ble_eq_true rfl) (⟨rfl, hp⟩) C dL_begin_16
abbrev rm_L_absorb_no1 : Room := { frames := 8, cells := 1, slots := 6, locals := 133 }
set_option maxHeartbeats 4000000 in
set_option maxRecDepth 100000 in
theorem c_L_absorb_no1 (l : Launch) (D : va_G) (ca : Nat → ClassId) (s0 : State) (a0 : Array Value) (Z : Wd a0 s0) (hl0 : l.stackTraces = false) (sx : Nat → Nat) (Xs : XS sx s0) (d : Nat) (g : Nat → Nat) (k : Int32) (hno : ¬ (¬ k < 0 ∧ k < 4)) (Xn : XN s0) (o : Nat) (fo : Nat → Int64) : CtI l yL_absorb [.codeWith yL_absorb cL_absorb 4 (some .int) [(0, 9, 12, 23), (0, 9, 15, 28)]] rm_L_absorb_no1 1 6 D ca s0 [.ref (d), .int (k), .ref (o)] [(d, .inr (2, kF g)), (o, .inl (ca 2, 1, .inr (.inl (fo))))] (S := Unit) (fun r _ => r = nI 1) (fun _ => [(d, .inr (2, kF g)), (o, .inl (ca 2, 1, .inr (.inl (fo))))]) := by
  refine ctH_of (cc := cL_absorb) (maxL := 4) (own := RL) (hh := [(0, 9, 12, 23), (0, 9, 15, 28)]) Z rfl (by decide) rfl (Nat.le_of_ble_eq_true rfl) ?_
  intro p e s m args below meth c A ls Q S htb ret C hl
  have hx := S.1
  have hb := S.2.1
  have hown := S.2.2.2.1
  have hts := S.2.2.2.2
  generalize s.heap = H at C ⊢
  generalize ([] : List Loc) = locs at C ⊢
  replace hl : lv_has ls 4 [(0, .ref (d)), (1, .int (k)), (2, .ref (o))] := hl
  refine lv_aload_n hx hb dL_absorb_0 rfl (lv_at hl 2 rfl) ?_
  refine lv_iconst (v := nI 0) hx hb dL_absorb_1 (by decide) ?_
  refine lv_aload_n hx hb dL_absorb_2 rfl (lv_at hl 0 rfl) ?_
  refine lv_iload_n hx hb dL_absorb_3 rfl (lv_at hl 1 rfl) ?_
  refine n_callX (wc := [(d, .inr (2, kF g))]) (wr := [(o, .inl (ca 2, 1, .inr (.inl (fo))))]) C [0] [1] rfl rfl rfl rfl (by decide) (fun hp => vx_runV (rest := [.int (nI 0), .ref (o)]) S (x_K_absorb1 l D ca s0 a0 Z hl0 sx Xs d g k hno _) (cwV 1 hts (gV g_233 g_234 g_235 g_30 g_236) rfl rfl rfl (by decide +kernel) ⟨Nat.le_of_ble_eq_true rfl, Nat.le_of_ble_eq_true rfl⟩) ⟨hp.1, n_recv C 0 2 rfl rfl, hp.2⟩ rfl rfl hl.1 rfl (lv_room (Nat.le_of_ble_eq_true rfl)) dL_absorb_4 ⟨Nat.le_of_ble_eq_true rfl, Nat.le_of_ble_eq_true rfl⟩) (fun q9 ce H locs C c1 c2 c3 => ?_)
  replace C : Cx D ca s0 A s [(d, .inr (2, kF g)), (o, .inl (ca 2, 1, .inr (.inl (fo))))] H locs := C.re [1, 0] rfl rfl
  refine n_catch S C Z htb 0 xc_0 [] ⟨0, 9, 12, 23⟩ [⟨0, 9, 15, 28⟩] rfl (fun z hz => nomatch hz) (by decide) (by decide) g_166 c1 c2 c3 ?_
  refine lv_astore_n hx hb dL_absorb_12 rfl hl (Nat.le_of_ble_eq_true rfl) rfl (fun ls hl => ?_)
  replace hl : lv_has ls 4 [(3, .ref (q9)), (0, .ref (d)), (1, .int (k)), (2, .ref (o))] := hl
  refine lv_iconst (v := nI 1) hx hb dL_absorb_13 (by decide) ?_
  exact ret (nI 1) (()) _ _ _ _ _ _ (Nat.le_of_ble_eq_true rfl) (Nat.le_of_ble_eq_true rfl) rfl C dL_absorb_14
abbrev rm_L_absorb_no2 : Room := { frames := 8, cells := 1, slots := 6, locals := 132 }
set_option maxHeartbeats 4000000 in
set_option maxRecDepth 100000 in
theorem c_L_absorb_no2 (l : Launch) (D : va_G) (ca : Nat → ClassId) (s0 : State) (a0 : Array Value) (Z : Wd a0 s0) (hl0 : l.stackTraces = false) (sx : Nat → Nat) (Xs : XS sx s0) (d : Nat) (g : Nat → Nat) (sf : Nat → Option Nat) (k0 : Nat) (hk0 : k0 < 4) (h b : Nat) (hsf : sf k0 = some h) (kd wd pl en tk rm : Int32) (Xn : XN s0) (o : Nat) (fo : Nat → Int64) : CtI l yL_absorb [.codeWith yL_absorb cL_absorb 4 (some .int) [(0, 9, 12, 23), (0, 9, 15, 28)]] rm_L_absorb_no2 1 6 D ca s0 [.ref (d), .int (nI k0), .ref (o)] [(d, .inr (2, kF g)), (g 4, .inl (ca 4, 4, .inr (.inr (.inr (.inr sf))))), (h, .inr (1, [.ref (b), .int (kd), .int (wd), .int (pl), .int (en), .int (tk), .int (b2i true), .int (rm)])), (o, .inl (ca 2, 1, .inr (.inl (fo))))] (S := Unit) (fun r _ => r = nI 2) (fun _ => [(d, .inr (2, kF g)), (g 4, .inl (ca 4, 4, .inr (.inr (.inr (.inr sf))))), (h, .inr (1, [.ref (b), .int (kd), .int (wd), .int (pl), .int (en), .int (tk), .int (b2i true), .int (rm)])), (o, .inl (ca 2, 1, .inr (.inl (fo))))]) := by
  refine ctH_of (cc := cL_absorb) (maxL := 4) (own := RL) (hh := [(0, 9, 12, 23), (0, 9, 15, 28)]) Z rfl (by decide) rfl (Nat.le_of_ble_eq_true rfl) ?_
  intro p e s m args below meth c A ls Q S htb ret C hl
  have hx := S.1
  have hb := S.2.1
  have hown := S.2.2.2.1
  have hts := S.2.2.2.2
  generalize s.heap = H at C ⊢
  generalize ([] : List Loc) = locs at C ⊢
  replace hl : lv_has ls 4 [(0, .ref (d)), (1, .int (nI k0)), (2, .ref (o))] := hl
  refine lv_aload_n hx hb dL_absorb_0 rfl (lv_at hl 2 rfl) ?_
  refine lv_iconst (v := nI 0) hx hb dL_absorb_1 (by decide) ?_
  refine lv_aload_n hx hb dL_absorb_2 rfl (lv_at hl 0 rfl) ?_
  refine lv_iload_n hx hb dL_absorb_3 rfl (lv_at hl 1 rfl) ?_
  refine n_callX (wc := [(d, .inr (2, kF g)), (g 4, .inl (ca 4, 4, .inr (.inr (.inr (.inr sf))))), (h, .inr (1, [.ref (b), .int (kd), .int (wd), .int (pl), .int (en), .int (tk), .int (b2i true), .int (rm)]))]) (wr := [(o, .inl (ca 2, 1, .inr (.inl (fo))))]) C [0, 1, 2] [3] rfl rfl rfl rfl (by decide) (fun hp => vx_runV (rest := [.int (nI 0), .ref (o)]) S (x_K_absorb2 l D ca s0 a0 Z hl0 sx Xs d g sf k0 hk0 h b hsf kd wd pl en tk rm _) (cwV 1 hts (gV g_233 g_234 g_235 g_30 g_236) rfl rfl rfl (by decide +kernel) ⟨Nat.le_of_ble_eq_true rfl, Nat.le_of_ble_eq_true rfl⟩) ⟨hp.1, n_recv C 0 2 rfl rfl, hp.2⟩ rfl rfl hl.1 rfl (lv_room (Nat.le_of_ble_eq_true rfl)) dL_absorb_4 ⟨Nat.le_of_ble_eq_true rfl, Nat.le_of_ble_eq_true rfl⟩) (fun q9 ce H locs C c1 c2 c3 => ?_)
  replace C : Cx D ca s0 A s [(d, .inr (2, kF g)), (g 4, .inl (ca 4, 4, .inr (.inr (.inr (.inr sf))))), (h, .inr (1, [.ref (b), .int (kd), .int (wd), .int (pl), .int (en), .int (tk), .int (b2i true), .int (rm)])), (o, .inl (ca 2, 1, .inr (.inl (fo))))] H locs := C.re [1, 2, 3, 0] rfl rfl
  refine n_catch S C Z htb 2 xc_2 [⟨0, 9, 12, 23⟩] ⟨0, 9, 15, 28⟩ [] rfl (List.forall_mem_cons.mpr ⟨⟨by decide, _, g_166, Xn.2.1⟩, fun z hz => nomatch hz⟩) (by decide) (by decide) g_232 c1 c2 c3 ?_
  refine lv_astore_n hx hb dL_absorb_15 rfl hl (Nat.le_of_ble_eq_true rfl) rfl (fun ls hl => ?_)
  replace hl : lv_has ls 4 [(3, .ref (q9)), (0, .ref (d)), (1, .int (nI k0)), (2, .ref (o))] := hl
  refine lv_iconst (v := nI 2) hx hb dL_absorb_16 (by decide) ?_
  exact ret (nI 2) (()) _ _ _ _ _ _ (Nat.le_of_ble_eq_true rfl) (Nat.le_of_ble_eq_true rfl) rfl C dL_absorb_17
abbrev rm_L_absorb_ok : Room := { frames := 7, cells := 0, slots := 0, locals := 171 }
set_option maxHeartbeats 4000000 in
set_option maxRecDepth 100000 in
theorem c_L_absorb_ok (l : Launch) (D : va_G) (ca : Nat → ClassId) (s0 : State) (a0 : Array Value) (Z : Wd a0 s0) (tz : Nat → Nat) (Zs : ZS tz s0) (d : Nat) (g : Nat → Nat) (sf : Nat → Option Nat) (k0 : Nat) (hk0 : k0 < 4) (h b : Nat) (hsf : sf k0 = some h) (L : Nat → Int64) (en tk rm : Int32) (k : Nat) (hk : k < 16) (c0 : Co) (hL : kEq (lb L) c0.1) (hp0 : c0.2 < wid k) (rb : Nat) (f : Nat → Int32) (T : Nat → Nat) (n : Nat) (hn : n ≤ 300) (hT : sb_Lat T n f) (o : Nat) (fo : Nat → Int64) : CtI l yL_absorb [.codeWith yL_absorb cL_absorb 4 (some .int) [(0, 9, 12, 23), (0, 9, 15, 28)]] rm_L_absorb_ok 0 0 D ca s0 [.ref (d), .int (nI k0), .ref (o)] [(d, .inr (2, kF g)), (g 4, .inl (ca 4, 4, .inr (.inr (.inr (.inr sf))))), (h, .inr (1, [.ref (b), .int (nI k), .int (nI (wid k)), .int (nI (c0.2)), .int (en), .int (tk), .int (b2i false), .int (rm)])), (b, .inl (ca 2, 25, .inr (.inl (L)))), (g 0, .inr (0, [.ref (rb), .int (nI n)])), (rb, .inl (ca 3, 300, .inl (f))), (o, .inl (ca 2, 1, .inr (.inl (fo))))] (S := Nat → Int64) (fun r M => r = nI 0 ∧ kEq (lb M) (tapC (wid k) k c0 T n).1) (fun u => [(d, .inr (2, kF g)), (g 4, .inl (ca 4, 4, .inr (.inr (.inr (.inr sf))))), (h, .inr (1, [.ref (b), .int (nI k), .int (nI (wid k)), .int (nI (tapC (wid k) k c0 T n).2), .int (en), .int (tk + nI n), .int (b2i false), .int (rm)])), (b, .inl (ca 2, 25, .inr (.inl u))), (g 0, .inr (0, [.ref (rb), .int (nI n)])), (rb, .inl (ca 3, 300, .inl f)), (o, .inl (ca 2, 1, .inr (.inl (vp_updL fo 0 ((tk + nI n).toInt64)))))]) := by
  refine ctH_of (cc := cL_absorb) (maxL := 4) (own := RL) (hh := [(0, 9, 12, 23), (0, 9, 15, 28)]) Z rfl (by decide) rfl (Nat.le_of_ble_eq_true rfl) ?_
  intro p e s m args below meth c A ls Q S htb ret C hl
  have hx := S.1
  have hb := S.2.1
  have hown := S.2.2.2.1
  have hts := S.2.2.2.2
  generalize s.heap = H at C ⊢
  generalize ([] : List Loc) = locs at C ⊢
  replace hl : lv_has ls 4 [(0, .ref (d)), (1, .int (nI k0)), (2, .ref (o))] := hl
  refine lv_aload_n hx hb dL_absorb_0 rfl (lv_at hl 2 rfl) ?_
  refine lv_iconst (v := nI 0) hx hb dL_absorb_1 (by decide) ?_
  refine lv_aload_n hx hb dL_absorb_2 rfl (lv_at hl 0 rfl) ?_
  refine lv_iload_n hx hb dL_absorb_3 rfl (lv_at hl 1 rfl) ?_
  refine n_callI (wc := [(d, .inr (2, kF g)), (g 4, .inl (ca 4, 4, .inr (.inr (.inr (.inr sf))))), (h, .inr (1, [.ref (b), .int (nI k), .int (nI (wid k)), .int (nI (c0.2)), .int (en), .int (tk), .int (b2i false), .int (rm)])), (b, .inl (ca 2, 25, .inr (.inl (L)))), (g 0, .inr (0, [.ref (rb), .int (nI n)])), (rb, .inl (ca 3, 300, .inl (f)))]) (wr := [(o, .inl (ca 2, 1, .inr (.inl (fo))))]) C [0, 1, 2, 3, 4, 5] [6] rfl rfl rfl rfl (by decide) (fun hp => va_runV (rest := [.int (nI 0), .ref (o)]) S (c_K_absorb_ok l D ca s0 a0 Z tz Zs d g sf k0 hk0 h b hsf L en tk rm k hk c0 hL hp0 rb f T n hn hT _) (cwV 1 hts (gV g_233 g_234 g_235 g_30 g_236) rfl rfl rfl (by decide +kernel) ⟨Nat.le_of_ble_eq_true rfl, Nat.le_of_ble_eq_true rfl⟩) ⟨hp.1, n_recv C 0 2 rfl rfl, hp.2⟩ rfl rfl hl.1 rfl (lv_room (Nat.le_of_ble_eq_true rfl)) dL_absorb_4 ⟨Nat.le_of_ble_eq_true rfl, Nat.le_of_ble_eq_true rfl⟩) (fun r u H locs hp C => ?_)
  replace C : Cx D ca s0 A s [(d, .inr (2, kF g)), (g 4, .inl (ca 4, 4, .inr (.inr (.inr (.inr sf))))), (h, .inr (1, [.ref (b), .int (nI k), .int (nI (wid k)), .int (nI (tapC (wid k) k c0 T n).2), .int (en), .int (tk + nI n), .int (b2i false), .int (rm)])), (b, .inl (ca 2, 25, .inr (.inl u))), (g 0, .inr (0, [.ref (rb), .int (nI n)])), (rb, .inl (ca 3, 300, .inl f)), (o, .inl (ca 2, 1, .inr (.inl (fo))))] H locs := C.re [1, 2, 3, 4, 5, 6, 0] rfl rfl
  obtain ⟨rfl, hp⟩ := hp
  refine lv_i2l (v := (tk + nI n).toInt64) hx hb dL_absorb_7 rfl ?_
  refine n_last S C 6 rfl (i := 0) (by omega) (by decide) dL_absorb_8 (fun H locs C => ?_)
  replace C : Cx D ca s0 A s [(d, .inr (2, kF g)), (g 4, .inl (ca 4, 4, .inr (.inr (.inr (.inr sf))))), (h, .inr (1, [.ref (b), .int (nI k), .int (nI (wid k)), .int (nI (tapC (wid k) k c0 T n).2), .int (en), .int (tk + nI n), .int (b2i false), .int (rm)])), (b, .inl (ca 2, 25, .inr (.inl u))), (g 0, .inr (0, [.ref (rb), .int (nI n)])), (rb, .inl (ca 3, 300, .inl f)), (o, .inl (ca 2, 1, .inr (.inl (vp_updL fo 0 ((tk + nI n).toInt64)))))] H locs := C
  refine lv_goto (tgt := 18) hx hb dL_absorb_9 (by decide) ?_
  refine lv_iconst (v := nI 0) hx hb dL_absorb_18 (by decide) ?_
  exact ret (nI 0) u _ _ _ _ _ _ (Nat.le_of_ble_eq_true rfl) (Nat.le_of_ble_eq_true rfl) (⟨rfl, hp⟩) C dL_absorb_19
abbrev rm_L_bytes_no1 : Room := { frames := 8, cells := 1, slots := 6, locals := 136 }
set_option maxHeartbeats 4000000 in
set_option maxRecDepth 100000 in
theorem c_L_bytes_no1 (l : Launch) (D : va_G) (ca : Nat → ClassId) (s0 : State) (a0 : Array Value) (Z : Wd a0 s0) (hl0 : l.stackTraces = false) (sx : Nat → Nat) (Xs : XS sx s0) (d : Nat) (g : Nat → Nat) (k : Int32) (hno : ¬ (¬ k < 0 ∧ k < 4)) (y : Int32) (x : Int64) (Xn : XN s0) (o : Nat) (fo : Nat → Int64) : CtI l yL_bytes [.codeWith yL_bytes cL_bytes 7 (some .int) [(0, 12, 15, 23), (0, 12, 19, 13), (0, 12, 23, 28)]] rm_L_bytes_no1 1 6 D ca s0 [.ref (d), .int (k), .int (y), .long (x), .ref (o)] [(d, .inr (2, kF g)), (o, .inl (ca 2, 1, .inr (.inl (fo))))] (S := Unit) (fun r _ => r = nI 1) (fun _ => [(d, .inr (2, kF g)), (o, .inl (ca 2, 1, .inr (.inl (fo))))]) := by
  refine ctH_of (cc := cL_bytes) (maxL := 7) (own := RL) (hh := [(0, 12, 15, 23), (0, 12, 19, 13), (0, 12, 23, 28)]) Z rfl (by decide) rfl (Nat.le_of_ble_eq_true rfl) ?_
  intro p e s m args below meth c A ls Q S htb ret C hl
  have hx := S.1
  have hb := S.2.1
  have hown := S.2.2.2.1
  have hts := S.2.2.2.2
  generalize s.heap = H at C ⊢
  generalize ([] : List Loc) = locs at C ⊢
  replace hl : lv_has ls 7 [(0, .ref (d)), (1, .int (k)), (2, .int (y)), (3, .long (x)), (5, .ref (o))] := hl
  refine lv_aload hx hb dL_bytes_0 (lv_at hl 4 rfl) ?_
  refine lv_iconst (v := nI 0) hx hb dL_bytes_2 (by decide) ?_
  refine lv_aload_n hx hb dL_bytes_3 rfl (lv_at hl 0 rfl) ?_
  refine lv_iload_n hx hb dL_bytes_4 rfl (lv_at hl 1 rfl) ?_
  refine lv_iload_n hx hb dL_bytes_5 rfl (lv_at hl 2 rfl) ?_
  refine lv_lload_n hx hb dL_bytes_6 rfl (lv_at hl 3 rfl) ?_
  refine n_callX (wc := [(d, .inr (2, kF g))]) (wr := [(o, .inl (ca 2, 1, .inr (.inl (fo))))]) C [0] [1] rfl rfl rfl rfl (by decide) (fun hp => vx_runV (rest := [.int (nI 0), .ref (o)]) S (x_K_bytes1 l D ca s0 a0 Z hl0 sx Xs d g k hno y x _) (cwV 3 hts (gV g_254 g_255 g_256 g_30 g_257) rfl rfl rfl (by decide +kernel) ⟨Nat.le_of_ble_eq_true rfl, Nat.le_of_ble_eq_true rfl⟩) ⟨hp.1, n_recv C 0 2 rfl rfl, hp.2⟩ rfl rfl hl.1 rfl (lv_room (Nat.le_of_ble_eq_true rfl)) dL_bytes_7 ⟨Nat.le_of_ble_eq_true rfl, Nat.le_of_ble_eq_true rfl⟩) (fun q9 ce H locs C c1 c2 c3 => ?_)
  replace C : Cx D ca s0 A s [(d, .inr (2, kF g)), (o, .inl (ca 2, 1, .inr (.inl (fo))))] H locs := C.re [1, 0] rfl rfl
  refine n_catch S C Z htb 0 xc_0 [] ⟨0, 12, 15, 23⟩ [⟨0, 12, 19, 13⟩, ⟨0, 12, 23, 28⟩] rfl (fun z hz => nomatch hz) (by decide) (by decide) g_166 c1 c2 c3 ?_
  refine lv_astore hx hb dL_bytes_15 hl (Nat.le_of_ble_eq_true rfl) rfl (fun ls hl => ?_)
  replace hl : lv_has ls 7 [(6, .ref (q9)), (0, .ref (d)), (1, .int (k)), (2, .int (y)), (3, .long (x)), (5, .ref (o))] := hl
  refine lv_iconst (v := nI 1) hx hb dL_bytes_17 (by decide) ?_
  exact ret (nI 1) (()) _ _ _ _ _ _ (Nat.le_of_ble_eq_true rfl) (Nat.le_of_ble_eq_true rfl) rfl C dL_bytes_18
abbrev rm_L_bytes_no2 : Room := { frames := 8, cells := 1, slots := 6, locals := 135 }
set_option maxHeartbeats 4000000 in
set_option maxRecDepth 100000 in
theorem c_L_bytes_no2 (l : Launch) (D : va_G) (ca : Nat → ClassId) (s0 : State) (a0 : Array Value) (Z : Wd a0 s0) (hl0 : l.stackTraces = false) (sx : Nat → Nat) (Xs : XS sx s0) (d : Nat) (g : Nat → Nat) (sf : Nat → Option Nat) (k0 : Nat) (hk0 : k0 < 4) (h b : Nat) (hsf : sf k0 = some h) (y : Int32) (hr : y < nI 1 ∨ nI 8 < y) (x : Int64) (Xn : XN s0) (o : Nat) (fo : Nat → Int64) : CtI l yL_bytes [.codeWith yL_bytes cL_bytes 7 (some .int) [(0, 12, 15, 23), (0, 12, 19, 13), (0, 12, 23, 28)]] rm_L_bytes_no2 1 6 D ca s0 [.ref (d), .int (nI k0), .int (y), .long (x), .ref (o)] [(d, .inr (2, kF g)), (g 4, .inl (ca 4, 4, .inr (.inr (.inr (.inr sf))))), (o, .inl (ca 2, 1, .inr (.inl (fo))))] (S := Unit) (fun r _ => r = nI 2) (fun _ => [(d, .inr (2, kF g)), (g 4, .inl (ca 4, 4, .inr (.inr (.inr (.inr sf))))), (o, .inl (ca 2, 1, .inr (.inl (fo))))]) := by
  refine ctH_of (cc := cL_bytes) (maxL := 7) (own := RL) (hh := [(0, 12, 15, 23), (0, 12, 19, 13), (0, 12, 23, 28)]) Z rfl (by decide) rfl (Nat.le_of_ble_eq_true rfl) ?_
  intro p e s m args below meth c A ls Q S htb ret C hl
  have hx := S.1
  have hb := S.2.1
  have hown := S.2.2.2.1
  have hts := S.2.2.2.2
  generalize s.heap = H at C ⊢
  generalize ([] : List Loc) = locs at C ⊢
  replace hl : lv_has ls 7 [(0, .ref (d)), (1, .int (nI k0)), (2, .int (y)), (3, .long (x)), (5, .ref (o))] := hl
  refine lv_aload hx hb dL_bytes_0 (lv_at hl 4 rfl) ?_
  refine lv_iconst (v := nI 0) hx hb dL_bytes_2 (by decide) ?_
  refine lv_aload_n hx hb dL_bytes_3 rfl (lv_at hl 0 rfl) ?_
  refine lv_iload_n hx hb dL_bytes_4 rfl (lv_at hl 1 rfl) ?_
  refine lv_iload_n hx hb dL_bytes_5 rfl (lv_at hl 2 rfl) ?_
  refine lv_lload_n hx hb dL_bytes_6 rfl (lv_at hl 3 rfl) ?_
  refine n_callX (wc := [(d, .inr (2, kF g)), (g 4, .inl (ca 4, 4, .inr (.inr (.inr (.inr sf)))))]) (wr := [(o, .inl (ca 2, 1, .inr (.inl (fo))))]) C [0, 1] [2] rfl rfl rfl rfl (by decide) (fun hp => vx_runV (rest := [.int (nI 0), .ref (o)]) S (x_K_bytes2 l D ca s0 a0 Z hl0 sx Xs d g sf k0 hk0 h b hsf y hr x _) (cwV 3 hts (gV g_254 g_255 g_256 g_30 g_257) rfl rfl rfl (by decide +kernel) ⟨Nat.le_of_ble_eq_true rfl, Nat.le_of_ble_eq_true rfl⟩) ⟨hp.1, n_recv C 0 2 rfl rfl, hp.2⟩ rfl rfl hl.1 rfl (lv_room (Nat.le_of_ble_eq_true rfl)) dL_bytes_7 ⟨Nat.le_of_ble_eq_true rfl, Nat.le_of_ble_eq_true rfl⟩) (fun q9 ce H locs C c1 c2 c3 => ?_)
  replace C : Cx D ca s0 A s [(d, .inr (2, kF g)), (g 4, .inl (ca 4, 4, .inr (.inr (.inr (.inr sf))))), (o, .inl (ca 2, 1, .inr (.inl (fo))))] H locs := C.re [1, 2, 0] rfl rfl
  refine n_catch S C Z htb 1 xc_1 [⟨0, 12, 15, 23⟩] ⟨0, 12, 19, 13⟩ [⟨0, 12, 23, 28⟩] rfl (List.forall_mem_cons.mpr ⟨⟨by decide, _, g_166, Xn.1⟩, fun z hz => nomatch hz⟩) (by decide) (by decide) g_96 c1 c2 c3 ?_
  refine lv_astore hx hb dL_bytes_19 hl (Nat.le_of_ble_eq_true rfl) rfl (fun ls hl => ?_)
  replace hl : lv_has ls 7 [(6, .ref (q9)), (0, .ref (d)), (1, .int (nI k0)), (2, .int (y)), (3, .long (x)), (5, .ref (o))] := hl
  refine lv_iconst (v := nI 2) hx hb dL_bytes_21 (by decide) ?_
  exact ret (nI 2) (()) _ _ _ _ _ _ (Nat.le_of_ble_eq_true rfl) (Nat.le_of_ble_eq_true rfl) rfl C dL_bytes_22
abbrev rm_L_bytes_no3 : Room := { frames := 8, cells := 1, slots := 6, locals := 135 }
set_option maxHeartbeats 4000000 in
set_option maxRecDepth 100000 in
theorem c_L_bytes_no3 (l : Launch) (D : va_G) (ca : Nat → ClassId) (s0 : State) (a0 : Array Value) (Z : Wd a0 s0) (hl0 : l.stackTraces = false) (sx : Nat → Nat) (Xs : XS sx s0) (d : Nat) (g : Nat → Nat) (sf : Nat → Option Nat) (k0 : Nat) (hk0 : k0 < 4) (h b : Nat) (hsf : sf k0 = some h) (wd pl en tk rm : Int32) (dn : Bool) (k : Nat) (hk : k < 16) (n : Nat) (hn1 : 1 ≤ n) (hn : n ≤ 8) (x : Int64) (hr : dn = true ∨ 11 < k) (Xn : XN s0) (o : Nat) (fo : Nat → Int64) : CtI l yL_bytes [.codeWith yL_bytes cL_bytes 7 (some .int) [(0, 12, 15, 23), (0, 12, 19, 13), (0, 12, 23, 28)]] rm_L_bytes_no3 1 6 D ca s0 [.ref (d), .int (nI k0), .int (nI n), .long (x), .ref (o)] [(d, .inr (2, kF g)), (g 4, .inl (ca 4, 4, .inr (.inr (.inr (.inr sf))))), (h, .inr (1, [.ref (b), .int (nI k), .int (wd), .int (pl), .int (en), .int (tk), .int (b2i dn), .int (rm)])), (o, .inl (ca 2, 1, .inr (.inl (fo))))] (S := Unit) (fun r _ => r = nI 3) (fun _ => [(d, .inr (2, kF g)), (g 4, .inl (ca 4, 4, .inr (.inr (.inr (.inr sf))))), (h, .inr (1, [.ref (b), .int (nI k), .int (wd), .int (pl), .int (en), .int (tk), .int (b2i dn), .int (rm)])), (o, .inl (ca 2, 1, .inr (.inl (fo))))]) := by
  refine ctH_of (cc := cL_bytes) (maxL := 7) (own := RL) (hh := [(0, 12, 15, 23), (0, 12, 19, 13), (0, 12, 23, 28)]) Z rfl (by decide) rfl (Nat.le_of_ble_eq_true rfl) ?_
  intro p e s m args below meth c A ls Q S htb ret C hl
  have hx := S.1
  have hb := S.2.1
  have hown := S.2.2.2.1
  have hts := S.2.2.2.2
  generalize s.heap = H at C ⊢
  generalize ([] : List Loc) = locs at C ⊢
  replace hl : lv_has ls 7 [(0, .ref (d)), (1, .int (nI k0)), (2, .int (nI n)), (3, .long (x)), (5, .ref (o))] := hl
  refine lv_aload hx hb dL_bytes_0 (lv_at hl 4 rfl) ?_
  refine lv_iconst (v := nI 0) hx hb dL_bytes_2 (by decide) ?_
  refine lv_aload_n hx hb dL_bytes_3 rfl (lv_at hl 0 rfl) ?_
  refine lv_iload_n hx hb dL_bytes_4 rfl (lv_at hl 1 rfl) ?_
  refine lv_iload_n hx hb dL_bytes_5 rfl (lv_at hl 2 rfl) ?_
  refine lv_lload_n hx hb dL_bytes_6 rfl (lv_at hl 3 rfl) ?_
  refine n_callX (wc := [(d, .inr (2, kF g)), (g 4, .inl (ca 4, 4, .inr (.inr (.inr (.inr sf))))), (h, .inr (1, [.ref (b), .int (nI k), .int (wd), .int (pl), .int (en), .int (tk), .int (b2i dn), .int (rm)]))]) (wr := [(o, .inl (ca 2, 1, .inr (.inl (fo))))]) C [0, 1, 2] [3] rfl rfl rfl rfl (by decide) (fun hp => vx_runV (rest := [.int (nI 0), .ref (o)]) S (x_K_bytes3 l D ca s0 a0 Z hl0 sx Xs d g sf k0 hk0 h b hsf wd pl en tk rm dn k hk n hn1 hn x hr _) (cwV 3 hts (gV g_254 g_255 g_256 g_30 g_257) rfl rfl rfl (by decide +kernel) ⟨Nat.le_of_ble_eq_true rfl, Nat.le_of_ble_eq_true rfl⟩) ⟨hp.1, n_recv C 0 2 rfl rfl, hp.2⟩ rfl rfl hl.1 rfl (lv_room (Nat.le_of_ble_eq_true rfl)) dL_bytes_7 ⟨Nat.le_of_ble_eq_true rfl, Nat.le_of_ble_eq_true rfl⟩) (fun q9 ce H locs C c1 c2 c3 => ?_)
  replace C : Cx D ca s0 A s [(d, .inr (2, kF g)), (g 4, .inl (ca 4, 4, .inr (.inr (.inr (.inr sf))))), (h, .inr (1, [.ref (b), .int (nI k), .int (wd), .int (pl), .int (en), .int (tk), .int (b2i dn), .int (rm)])), (o, .inl (ca 2, 1, .inr (.inl (fo))))] H locs := C.re [1, 2, 3, 0] rfl rfl
  refine n_catch S C Z htb 2 xc_2 [⟨0, 12, 15, 23⟩, ⟨0, 12, 19, 13⟩] ⟨0, 12, 23, 28⟩ [] rfl (List.forall_mem_cons.mpr ⟨⟨by decide, _, g_166, Xn.2.1⟩, List.forall_mem_cons.mpr ⟨⟨by decide, _, g_96, Xn.2.2⟩, fun z hz => nomatch hz⟩⟩) (by decide) (by decide) g_232 c1 c2 c3 ?_
  refine lv_astore hx hb dL_bytes_23 hl (Nat.le_of_ble_eq_true rfl) rfl (fun ls hl => ?_)
  replace hl : lv_has ls 7 [(6, .ref (q9)), (0, .ref (d)), (1, .int (nI k0)), (2, .int (nI n)), (3, .long (x)), (5, .ref (o))] := hl
  refine lv_iconst (v := nI 3) hx hb dL_bytes_25 (by decide) ?_
  exact ret (nI 3) (()) _ _ _ _ _ _ (Nat.le_of_ble_eq_true rfl) (Nat.le_of_ble_eq_true rfl) rfl C dL_bytes_26
abbrev rm_L_bytes_ok : Room := { frames := 5, cells := 0, slots := 0, locals := 132 }
set_option maxHeartbeats 4000000 in
set_option maxRecDepth 100000 in
theorem c_L_bytes_ok (l : Launch) (D : va_G) (ca : Nat → ClassId) (s0 : State) (a0 : Array Value) (Z : Wd a0 s0) (tz : Nat → Nat) (Zs : ZS tz s0) (d : Nat) (g : Nat → Nat) (sf : Nat → Option Nat) (k0 : Nat) (hk0 : k0 < 4) (h b : Nat) (hsf : sf k0 = some h) (L : Nat → Int64) (en tk rm : Int32) (k : Nat) (hk : k < 16) (c0 : Co) (hL : kEq (lb L) c0.1) (hp0 : c0.2 < wid k) (hk12 : k < 12) (n : Nat) (hn1 : 1 ≤ n) (hn : n ≤ 8) (x : Int64) (o : Nat) (fo : Nat → Int64) : CtI l yL_bytes [.codeWith yL_bytes cL_bytes 7 (some .int) [(0, 12, 15, 23), (0, 12, 19, 13), (0, 12, 23, 28)]] rm_L_bytes_ok 0 0 D ca s0 [.ref (d), .int (nI k0), .int (nI n), .long (x), .ref (o)] [(d, .inr (2, kF g)), (g 4, .inl (ca 4, 4, .inr (.inr (.inr (.inr sf))))), (h, .inr (1, [.ref (b), .int (nI k), .int (nI (wid k)), .int (nI (c0.2)), .int (en), .int (tk), .int (b2i false), .int (rm)])), (b, .inl (ca 2, 25, .inr (.inl (L)))), (o, .inl (ca 2, 1, .inr (.inl (fo))))] (S := Nat → Int64) (fun r M => r = nI 0 ∧ kEq (lb M) (takeR (wid k) c0 (byAt x) n).1) (fun u => [(d, .inr (2, kF g)), (g 4, .inl (ca 4, 4, .inr (.inr (.inr (.inr sf))))), (h, .inr (1, [.ref (b), .int (nI k), .int (nI (wid k)), .int (nI (takeR (wid k) c0 (byAt x) n).2), .int (en), .int (tk + nI n), .int (b2i false), .int (rm)])), (b, .inl (ca 2, 25, .inr (.inl u))), (o, .inl (ca 2, 1, .inr (.inl (vp_updL fo 0 ((tk + nI n).toInt64)))))]) := by
  refine ctH_of (cc := cL_bytes) (maxL := 7) (own := RL) (hh := [(0, 12, 15, 23), (0, 12, 19, 13), (0, 12, 23, 28)]) Z rfl (by decide) rfl (Nat.le_of_ble_eq_true rfl) ?_
  intro p e s m args below meth c A ls Q S htb ret C hl
  have hx := S.1
  have hb := S.2.1
  have hown := S.2.2.2.1
  have hts := S.2.2.2.2
  generalize s.heap = H at C ⊢
  generalize ([] : List Loc) = locs at C ⊢
  replace hl : lv_has ls 7 [(0, .ref (d)), (1, .int (nI k0)), (2, .int (nI n)), (3, .long (x)), (5, .ref (o))] := hl
  refine lv_aload hx hb dL_bytes_0 (lv_at hl 4 rfl) ?_
  refine lv_iconst (v := nI 0) hx hb dL_bytes_2 (by decide) ?_
  refine lv_aload_n hx hb dL_bytes_3 rfl (lv_at hl 0 rfl) ?_
  refine lv_iload_n hx hb dL_bytes_4 rfl (lv_at hl 1 rfl) ?_
  refine lv_iload_n hx hb dL_bytes_5 rfl (lv_at hl 2 rfl) ?_
  refine lv_lload_n hx hb dL_bytes_6 rfl (lv_at hl 3 rfl) ?_
  refine n_callI (wc := [(d, .inr (2, kF g)), (g 4, .inl (ca 4, 4, .inr (.inr (.inr (.inr sf))))), (h, .inr (1, [.ref (b), .int (nI k), .int (nI (wid k)), .int (nI (c0.2)), .int (en), .int (tk), .int (b2i false), .int (rm)])), (b, .inl (ca 2, 25, .inr (.inl (L))))]) (wr := [(o, .inl (ca 2, 1, .inr (.inl (fo))))]) C [0, 1, 2, 3] [4] rfl rfl rfl rfl (by decide) (fun hp => va_runV (rest := [.int (nI 0), .ref (o)]) S (c_K_bytes_ok l D ca s0 a0 Z tz Zs d g sf k0 hk0 h b hsf L en tk rm k hk c0 hL hp0 hk12 n hn1 hn x _) (cwV 3 hts (gV g_254 g_255 g_256 g_30 g_257) rfl rfl rfl (by decide +kernel) ⟨Nat.le_of_ble_eq_true rfl, Nat.le_of_ble_eq_true rfl⟩) ⟨hp.1, n_recv C 0 2 rfl rfl, hp.2⟩ rfl rfl hl.1 rfl (lv_room (Nat.le_of_ble_eq_true rfl)) dL_bytes_7 ⟨Nat.le_of_ble_eq_true rfl, Nat.le_of_ble_eq_true rfl⟩) (fun r u H locs hp C => ?_)
  replace C : Cx D ca s0 A s [(d, .inr (2, kF g)), (g 4, .inl (ca 4, 4, .inr (.inr (.inr (.inr sf))))), (h, .inr (1, [.ref (b), .int (nI k), .int (nI (wid k)), .int (nI (takeR (wid k) c0 (byAt x) n).2), .int (en), .int (tk + nI n), .int (b2i false), .int (rm)])), (b, .inl (ca 2, 25, .inr (.inl u))), (o, .inl (ca 2, 1, .inr (.inl (fo))))] H locs := C.re [1, 2, 3, 4, 0] rfl rfl
  obtain ⟨rfl, hp⟩ := hp
  refine lv_i2l (v := (tk + nI n).toInt64) hx hb dL_bytes_10 rfl ?_
  refine n_last S C 4 rfl (i := 0) (by omega) (by decide) dL_bytes_11 (fun H locs C => ?_)
  replace C : Cx D ca s0 A s [(d, .inr (2, kF g)), (g 4, .inl (ca 4, 4, .inr (.inr (.inr (.inr sf))))), (h, .inr (1, [.ref (b), .int (nI k), .int (nI (wid k)), .int (nI (takeR (wid k) c0 (byAt x) n).2), .int (en), .int (tk + nI n), .int (b2i false), .int (rm)])), (b, .inl (ca 2, 25, .inr (.inl u))), (o, .inl (ca 2, 1, .inr (.inl (vp_updL fo 0 ((tk + nI n).toInt64)))))] H locs := C
  refine lv_goto (tgt := 27) hx hb dL_bytes_12 (by decide) ?_
  refine lv_iconst (v := nI 0) hx hb dL_bytes_27 (by decide) ?_
  exact ret (nI 0) u _ _ _ _ _ _ (Nat.le_of_ble_eq_true rfl) (Nat.le_of_ble_eq_true rfl) (⟨rfl, hp⟩) C dL_bytes_28
abbrev rm_L_end_no1 : Room := { frames := 8, cells := 1, slots := 6, locals := 134 }
set_option maxHeartbeats 4000000 in
set_option maxRecDepth 100000 in
theorem c_L_end_no1 (l : Launch) (D : va_G) (ca : Nat → ClassId) (s0 : State) (a0 : Array Value) (Z : Wd a0 s0) (hl0 : l.stackTraces = false) (sx : Nat → Nat) (Xs : XS sx s0) (d : Nat) (g : Nat → Nat) (k : Int32) (hno : ¬ (¬ k < 0 ∧ k < 4)) (y : Int32) (Xn : XN s0) : CtI l yL_end [.codeWith yL_end cL_end 4 (some .int) [(0, 6, 9, 23), (0, 6, 12, 13), (0, 6, 15, 28)]] rm_L_end_no1 1 6 D ca s0 [.ref (d), .int (k), .int (y)] [(d, .inr (2, kF g))] (S := Unit) (fun r _ => r = nI 1) (fun _ => [(d, .inr (2, kF g))]) := by
  refine ctH_of (cc := cL_end) (maxL := 4) (own := RL) (hh := [(0, 6, 9, 23), (0, 6, 12, 13), (0, 6, 15, 28)]) Z rfl (by decide) rfl (Nat.le_of_ble_eq_true rfl) ?_
  intro p e s m args below meth c A ls Q S htb ret C hl
  have hx := S.1
  have hb := S.2.1
  have hown := S.2.2.2.1
  have hts := S.2.2.2.2
  generalize s.heap = H at C ⊢
  generalize ([] : List Loc) = locs at C ⊢
  replace hl : lv_has ls 4 [(0, .ref (d)), (1, .int (k)), (2, .int (y))] := hl
  refine lv_aload_n hx hb dL_end_0 rfl (lv_at hl 0 rfl) ?_
  refine lv_iload_n hx hb dL_end_1 rfl (lv_at hl 1 rfl) ?_
  refine lv_iload_n hx hb dL_end_2 rfl (lv_at hl 2 rfl) ?_
  refine n_callX (wc := [(d, .inr (2, kF g))]) (wr := []) C [0] [] rfl rfl rfl rfl (by decide) (fun hp => vx_runV (rest := []) S (x_K_end1 l D ca s0 a0 Z hl0 sx Xs d g k hno y _) (cwV 2 hts (gV g_265 g_266 g_267 g_30 g_268) rfl rfl rfl (by decide +kernel) ⟨Nat.le_of_ble_eq_true rfl, Nat.le_of_ble_eq_true rfl⟩) ⟨hp.1, n_recv C 0 2 rfl rfl, hp.2⟩ rfl rfl hl.1 rfl (lv_room (Nat.le_of_ble_eq_true rfl)) dL_end_3 ⟨Nat.le_of_ble_eq_true rfl, Nat.le_of_ble_eq_true rfl⟩) (fun q9 ce H locs C c1 c2 c3 => ?_)
  replace C : Cx D ca s0 A s [(d, .inr (2, kF g))] H locs := C.re [0] rfl rfl
  refine n_catch S C Z htb 0 xc_0 [] ⟨0, 6, 9, 23⟩ [⟨0, 6, 12, 13⟩, ⟨0, 6, 15, 28⟩] rfl (fun z hz => nomatch hz) (by decide) (by decide) g_166 c1 c2 c3 ?_
  refine lv_astore_n hx hb dL_end_9 rfl hl (Nat.le_of_ble_eq_true rfl) rfl (fun ls hl => ?_)
  replace hl : lv_has ls 4 [(3, .ref (q9)), (0, .ref (d)), (1, .int (k)), (2, .int (y))] := hl
  refine lv_iconst (v := nI 1) hx hb dL_end_10 (by decide) ?_
  exact ret (nI 1) (()) _ _ _ _ _ _ (Nat.le_of_ble_eq_true rfl) (Nat.le_of_ble_eq_true rfl) rfl C dL_end_11
abbrev rm_L_end_no2 : Room := { frames := 8, cells := 1, slots := 6, locals := 133 }
set_option maxHeartbeats 4000000 in
set_option maxRecDepth 100000 in
theorem c_L_end_no2 (l : Launch) (D : va_G) (ca : Nat → ClassId) (s0 : State) (a0 : Array Value) (Z : Wd a0 s0) (hl0 : l.stackTraces = false) (sx : Nat → Nat) (Xs : XS sx s0) (tz : Nat → Nat) (Zs : ZS tz s0) (d : Nat) (g : Nat → Nat) (sf : Nat → Option Nat) (k0 : Nat) (hk0 : k0 < 4) (h b : Nat) (hsf : sf k0 = some h) (wd pl en tk dn rm : Int32) (k : Nat) (hk : k < 16) (y : Int32) (hq : (hasL k = true ∧ (y < nI 1 ∨ nI 1000 < y)) ∨ (hasL k = false ∧ y ≠ nI (lenM k))) (Xn : XN s0) : CtI l yL_end [.codeWith yL_end cL_end 4 (some .int) [(0, 6, 9, 23), (0, 6, 12, 13), (0, 6, 15, 28)]] rm_L_end_no2 1 6 D ca s0 [.ref (d), .int (nI k0), .int (y)] [(d, .inr (2, kF g)), (g 4, .inl (ca 4, 4, .inr (.inr (.inr (.inr sf))))), (h, .inr (1, [.ref (b), .int (nI k), .int (wd), .int (pl), .int (en), .int (tk), .int (dn), .int (rm)]))] (S := Unit) (fun r _ => r = nI 2) (fun _ => [(d, .inr (2, kF g)), (g 4, .inl (ca 4, 4, .inr (.inr (.inr (.inr sf))))), (h, .inr (1, [.ref (b), .int (nI k), .int (wd), .int (pl), .int (en), .int (tk), .int (dn), .int (rm)]))]) := by
  refine ctH_of (cc := cL_end) (maxL := 4) (own := RL) (hh := [(0, 6, 9, 23), (0, 6, 12, 13), (0, 6, 15, 28)]) Z rfl (by decide) rfl (Nat.le_of_ble_eq_true rfl) ?_
  intro p e s m args below meth c A ls Q S htb ret C hl
  have hx := S.1
  have hb := S.2.1
  have hown := S.2.2.2.1
  have hts := S.2.2.2.2
  generalize s.heap = H at C ⊢
  generalize ([] : List Loc) = locs at C ⊢
  replace hl : lv_has ls 4 [(0, .ref (d)), (1, .int (nI k0)), (2, .int (y))] := hl
  refine lv_aload_n hx hb dL_end_0 rfl (lv_at hl 0 rfl) ?_
  refine lv_iload_n hx hb dL_end_1 rfl (lv_at hl 1 rfl) ?_
  refine lv_iload_n hx hb dL_end_2 rfl (lv_at hl 2 rfl) ?_
  refine n_callX (wc := [(d, .inr (2, kF g)), (g 4, .inl (ca 4, 4, .inr (.inr (.inr (.inr sf))))), (h, .inr (1, [.ref (b), .int (nI k), .int (wd), .int (pl), .int (en), .int (tk), .int (dn), .int (rm)]))]) (wr := []) C [0, 1, 2] [] rfl rfl rfl rfl (by decide) (fun hp => vx_runV (rest := []) S (x_K_end2 l D ca s0 a0 Z hl0 sx Xs tz Zs d g sf k0 hk0 h b hsf wd pl en tk dn rm k hk y hq _) (cwV 2 hts (gV g_265 g_266 g_267 g_30 g_268) rfl rfl rfl (by decide +kernel) ⟨Nat.le_of_ble_eq_true rfl, Nat.le_of_ble_eq_true rfl⟩) ⟨hp.1, n_recv C 0 2 rfl rfl, hp.2⟩ rfl rfl hl.1 rfl (lv_room (Nat.le_of_ble_eq_true rfl)) dL_end_3 ⟨Nat.le_of_ble_eq_true rfl, Nat.le_of_ble_eq_true rfl⟩) (fun q9 ce H locs C c1 c2 c3 => ?_)
  replace C : Cx D ca s0 A s [(d, .inr (2, kF g)), (g 4, .inl (ca 4, 4, .inr (.inr (.inr (.inr sf))))), (h, .inr (1, [.ref (b), .int (nI k), .int (wd), .int (pl), .int (en), .int (tk), .int (dn), .int (rm)]))] H locs := C.re [0, 1, 2] rfl rfl
  refine n_catch S C Z htb 1 xc_1 [⟨0, 6, 9, 23⟩] ⟨0, 6, 12, 13⟩ [⟨0, 6, 15, 28⟩] rfl (List.forall_mem_cons.mpr ⟨⟨by decide, _, g_166, Xn.1⟩, fun z hz => nomatch hz⟩) (by decide) (by decide) g_96 c1 c2 c3 ?_
  refine lv_astore_n hx hb dL_end_12 rfl hl (Nat.le_of_ble_eq_true rfl) rfl (fun ls hl => ?_)
  replace hl : lv_has ls 4 [(3, .ref (q9)), (0, .ref (d)), (1, .int (nI k0)), (2, .int (y))] := hl
  refine lv_iconst (v := nI 2) hx hb dL_end_13 (by decide) ?_
  exact ret (nI 2) (()) _ _ _ _ _ _ (Nat.le_of_ble_eq_true rfl) (Nat.le_of_ble_eq_true rfl) rfl C dL_end_14
abbrev rm_L_end_no3 : Room := { frames := 8, cells := 1, slots := 6, locals := 133 }
set_option maxHeartbeats 4000000 in
set_option maxRecDepth 100000 in
theorem c_L_end_no3 (l : Launch) (D : va_G) (ca : Nat → ClassId) (s0 : State) (a0 : Array Value) (Z : Wd a0 s0) (hl0 : l.stackTraces = false) (sx : Nat → Nat) (Xs : XS sx s0) (tz : Nat → Nat) (Zs : ZS tz s0) (d : Nat) (g : Nat → Nat) (sf : Nat → Option Nat) (k0 : Nat) (hk0 : k0 < 4) (h b : Nat) (hsf : sf k0 = some h) (wd pl en tk rm : Int32) (k : Nat) (hk : k < 16) (len : Nat) (hlen : len ≤ 1000) (hq : (hasL k = true ∧ 1 ≤ len) ∨ (hasL k = false ∧ len = lenM k)) (Xn : XN s0) : CtI l yL_end [.codeWith yL_end cL_end 4 (some .int) [(0, 6, 9, 23), (0, 6, 12, 13), (0, 6, 15, 28)]] rm_L_end_no3 1 6 D ca s0 [.ref (d), .int (nI k0), .int (nI len)] [(d, .inr (2, kF g)), (g 4, .inl (ca 4, 4, .inr (.inr (.inr (.inr sf))))), (h, .inr (1, [.ref (b), .int (nI k), .int (wd), .int (pl), .int (en), .int (tk), .int (b2i true), .int (rm)]))] (S := Unit) (fun r _ => r = nI 3) (fun _ => [(d, .inr (2, kF g)), (g 4, .inl (ca 4, 4, .inr (.inr (.inr (.inr sf))))), (h, .inr (1, [.ref (b), .int (nI k), .int (wd), .int (pl), .int (en), .int (tk), .int (b2i true), .int (rm)]))]) := by
  refine ctH_of (cc := cL_end) (maxL := 4) (own := RL) (hh := [(0, 6, 9, 23), (0, 6, 12, 13), (0, 6, 15, 28)]) Z rfl (by decide) rfl (Nat.le_of_ble_eq_true rfl) ?_
  intro p e s m args below meth c A ls Q S htb ret C hl
  have hx := S.1
  have hb := S.2.1
  have hown := S.2.2.2.1
  have hts := S.2.2.2.2
  generalize s.heap = H at C ⊢
  generalize ([] : List Loc) = locs at C ⊢
  replace hl : lv_has ls 4 [(0, .ref (d)), (1, .int (nI k0)), (2, .int (nI len))] := hl
  refine lv_aload_n hx hb dL_end_0 rfl (lv_at hl 0 rfl) ?_
  refine lv_iload_n hx hb dL_end_1 rfl (lv_at hl 1 rfl) ?_
  refine lv_iload_n hx hb dL_end_2 rfl (lv_at hl 2 rfl) ?_
  refine n_callX (wc := [(d, .inr (2, kF g)), (g 4, .inl (ca 4, 4, .inr (.inr (.inr (.inr sf))))), (h, .inr (1, [.ref (b), .int (nI k), .int (wd), .int (pl), .int (en), .int (tk), .int (b2i true), .int (rm)]))]) (wr := []) C [0, 1, 2] [] rfl rfl rfl rfl (by decide) (fun hp => vx_runV (rest := []) S (x_K_end3 l D ca s0 a0 Z hl0 sx Xs tz Zs d g sf k0 hk0 h b hsf wd pl en tk rm k hk len hlen hq _) (cwV 2 hts (gV g_265 g_266 g_267 g_30 g_268) rfl rfl rfl (by decide +kernel) ⟨Nat.le_of_ble_eq_true rfl, Nat.le_of_ble_eq_true rfl⟩) ⟨hp.1, n_recv C 0 2 rfl rfl, hp.2⟩ rfl rfl hl.1 rfl (lv_room (Nat.le_of_ble_eq_true rfl)) dL_end_3 ⟨Nat.le_of_ble_eq_true rfl, Nat.le_of_ble_eq_true rfl⟩) (fun q9 ce H locs C c1 c2 c3 => ?_)
  replace C : Cx D ca s0 A s [(d, .inr (2, kF g)), (g 4, .inl (ca 4, 4, .inr (.inr (.inr (.inr sf))))), (h, .inr (1, [.ref (b), .int (nI k), .int (wd), .int (pl), .int (en), .int (tk), .int (b2i true), .int (rm)]))] H locs := C.re [0, 1, 2] rfl rfl
  refine n_catch S C Z htb 2 xc_2 [⟨0, 6, 9, 23⟩, ⟨0, 6, 12, 13⟩] ⟨0, 6, 15, 28⟩ [] rfl (List.forall_mem_cons.mpr ⟨⟨by decide, _, g_166, Xn.2.1⟩, List.forall_mem_cons.mpr ⟨⟨by decide, _, g_96, Xn.2.2⟩, fun z hz => nomatch hz⟩⟩) (by decide) (by decide) g_232 c1 c2 c3 ?_
  refine lv_astore_n hx hb dL_end_15 rfl hl (Nat.le_of_ble_eq_true rfl) rfl (fun ls hl => ?_)
  replace hl : lv_has ls 4 [(3, .ref (q9)), (0, .ref (d)), (1, .int (nI k0)), (2, .int (nI len))] := hl
  refine lv_iconst (v := nI 3) hx hb dL_end_16 (by decide) ?_
  exact ret (nI 3) (()) _ _ _ _ _ _ (Nat.le_of_ble_eq_true rfl) (Nat.le_of_ble_eq_true rfl) rfl C dL_end_17
abbrev rm_L_end_ok : Room := { frames := 6, cells := 0, slots := 0, locals := 150 }
set_option maxHeartbeats 4000000 in
set_option maxRecDepth 100000 in
theorem c_L_end_ok (l : Launch) (D : va_G) (ca : Nat → ClassId) (s0 : State) (a0 : Array Value) (Z : Wd a0 s0) (tz : Nat → Nat) (Zs : ZS tz s0) (d : Nat) (g : Nat → Nat) (sf : Nat → Option Nat) (k0 : Nat) (hk0 : k0 < 4) (h b : Nat) (hsf : sf k0 = some h) (L : Nat → Int64) (tk rm : Int32) (k ee : Nat) (hk : k < 16) (hee : ee < 256) (c0 : Co) (hL : kEq (lb L) c0.1) (hp0 : c0.2 < wid k) (len : Nat) (hlen : len ≤ 1000) (hq : (hasL k = true ∧ 1 ≤ len) ∨ (hasL k = false ∧ len = lenM k)) : CtI l yL_end [.codeWith yL_end cL_end 4 (some .int) [(0, 6, 9, 23), (0, 6, 12, 13), (0, 6, 15, 28)]] rm_L_end_ok 0 0 D ca s0 [.ref (d), .int (nI k0), .int (nI len)] [(d, .inr (2, kF g)), (g 4, .inl (ca 4, 4, .inr (.inr (.inr (.inr sf))))), (h, .inr (1, [.ref (b), .int (nI k), .int (nI (wid k)), .int (nI (c0.2)), .int (nI ee), .int (tk), .int (b2i false), .int (rm)])), (b, .inl (ca 2, 25, .inr (.inl (L))))] (S := Nat → Int64) (fun r M => r = nI 0 ∧ kEq (lb M) (finA (wid k) k c0 len ee)) (fun u => [(d, .inr (2, kF g)), (g 4, .inl (ca 4, 4, .inr (.inr (.inr (.inr sf))))), (h, .inr (1, [.ref (b), .int (nI k), .int (nI (wid k)), .int (nI 0), .int (nI ee), .int (tk), .int (b2i true), .int ((if len = 0 then -1 else nI len))])), (b, .inl (ca 2, 25, .inr (.inl u)))]) := by
  refine ctH_of (cc := cL_end) (maxL := 4) (own := RL) (hh := [(0, 6, 9, 23), (0, 6, 12, 13), (0, 6, 15, 28)]) Z rfl (by decide) rfl (Nat.le_of_ble_eq_true rfl) ?_
  intro p e s m args below meth c A ls Q S htb ret C hl
  have hx := S.1
  have hb := S.2.1
  have hown := S.2.2.2.1
  have hts := S.2.2.2.2
  generalize s.heap = H at C ⊢
  generalize ([] : List Loc) = locs at C ⊢
  replace hl : lv_has ls 4 [(0, .ref (d)), (1, .int (nI k0)), (2, .int (nI len))] := hl
  refine lv_aload_n hx hb dL_end_0 rfl (lv_at hl 0 rfl) ?_
  refine lv_iload_n hx hb dL_end_1 rfl (lv_at hl 1 rfl) ?_
  refine lv_iload_n hx hb dL_end_2 rfl (lv_at hl 2 rfl) ?_
  refine n_callV (wc := [(d, .inr (2, kF g)), (g 4, .inl (ca 4, 4, .inr (.inr (.inr (.inr sf))))), (h, .inr (1, [.ref (b), .int (nI k), .int (nI (wid k)), .int (nI (c0.2)), .int (nI ee), .int (tk), .int (b2i false), .int (rm)])), (b, .inl (ca 2, 25, .inr (.inl (L))))]) (wr := []) C [0, 1, 2, 3] [] rfl rfl rfl rfl (by decide) (fun hp => va_runV (rest := []) S (c_K_end_ok l D ca s0 a0 Z tz Zs d g sf k0 hk0 h b hsf L tk rm k ee hk hee c0 hL hp0 len hlen hq _) (cwV 2 hts (gV g_265 g_266 g_267 g_30 g_268) rfl rfl rfl (by decide +kernel) ⟨Nat.le_of_ble_eq_true rfl, Nat.le_of_ble_eq_true rfl⟩) ⟨hp.1, n_recv C 0 2 rfl rfl, hp.2⟩ rfl rfl hl.1 rfl (lv_room (Nat.le_of_ble_eq_true rfl)) dL_end_3 ⟨Nat.le_of_ble_eq_true rfl, Nat.le_of_ble_eq_true rfl⟩) (fun u H locs hp C => ?_)
  replace C : Cx D ca s0 A s [(d, .inr (2, kF g)), (g 4, .inl (ca 4, 4, .inr (.inr (.inr (.inr sf))))), (h, .inr (1, [.ref (b), .int (nI k), .int (nI (wid k)), .int (nI 0), .int (nI ee), .int (tk), .int (b2i true), .int ((if len = 0 then -1 else nI len))])), (b, .inl (ca 2, 25, .inr (.inl u)))] H locs := C.re [0, 1, 2, 3] rfl rfl
  refine lv_goto (tgt := 18) hx hb dL_end_6 (by decide) ?_
  refine lv_iconst (v := nI 0) hx hb dL_end_18 (by decide) ?_
  exact ret (nI 0) u _ _ _ _ _ _ (Nat.le_of_ble_eq_true rfl) (Nat.le_of_ble_eq_true rfl) (⟨rfl, hp⟩) C dL_end_19
abbrev rm_L_squeeze_no1 : Room := { frames := 8, cells := 1, slots := 6, locals := 134 }
set_option maxHeartbeats 4000000 in
set_option maxRecDepth 100000 in
theorem c_L_squeeze_no1 (l : Launch) (D : va_G) (ca : Nat → ClassId) (s0 : State) (a0 : Array Value) (Z : Wd a0 s0) (hl0 : l.stackTraces = false) (sx : Nat → Nat) (Xs : XS sx s0) (d : Nat) (g : Nat → Nat) (k : Int32) (hno : ¬ (¬ k < 0 ∧ k < 4)) (y : Int32) (Xn : XN s0) (o : Nat) (fo : Nat → Int64) : CtI l yL_squeeze [.codeWith yL_squeeze cL_squeeze 5 (some .int) [(0, 9, 12, 23), (0, 9, 16, 13), (0, 9, 20, 28)]] rm_L_squeeze_no1 1 6 D ca s0 [.ref (d), .int (k), .int (y), .ref (o)] [(d, .inr (2, kF g)), (o, .inl (ca 2, 1, .inr (.inl (fo))))] (S := Unit) (fun r _ => r = nI 1) (fun _ => [(d, .inr (2, kF g)), (o, .inl (ca 2, 1, .inr (.inl (fo))))]) := by
  refine ctH_of (cc := cL_squeeze) (maxL := 5) (own := RL) (hh := [(0, 9, 12, 23), (0, 9, 16, 13), (0, 9, 20, 28)]) Z rfl (by decide) rfl (Nat.le_of_ble_eq_true rfl) ?_
  intro p e s m args below meth c A ls Q S htb ret C hl
  have hx := S.1
  have hb := S.2.1
  have hown := S.2.2.2.1
  have hts := S.2.2.2.2
  generalize s.heap = H at C ⊢
  generalize ([] : List Loc) = locs at C ⊢
  replace hl : lv_has ls 5 [(0, .ref (d)), (1, .int (k)), (2, .int (y)), (3, .ref (o))] := hl
  refine lv_aload_n hx hb dL_squeeze_0 rfl (lv_at hl 3 rfl) ?_
  refine lv_iconst (v := nI 0) hx hb dL_squeeze_1 (by decide) ?_
  refine lv_aload_n hx hb dL_squeeze_2 rfl (lv_at hl 0 rfl) ?_
  refine lv_iload_n hx hb dL_squeeze_3 rfl (lv_at hl 1 rfl) ?_
  refine lv_iload_n hx hb dL_squeeze_4 rfl (lv_at hl 2 rfl) ?_
  refine n_callX (wc := [(d, .inr (2, kF g))]) (wr := [(o, .inl (ca 2, 1, .inr (.inl (fo))))]) C [0] [1] rfl rfl rfl rfl (by decide) (fun hp => vx_runV (rest := [.int (nI 0), .ref (o)]) S (x_K_squeeze1 l D ca s0 a0 Z hl0 sx Xs d g k hno y _) (cwV 2 hts (gV g_283 g_284 g_285 g_30 g_286) rfl rfl rfl (by decide +kernel) ⟨Nat.le_of_ble_eq_true rfl, Nat.le_of_ble_eq_true rfl⟩) ⟨hp.1, n_recv C 0 2 rfl rfl, hp.2⟩ rfl rfl hl.1 rfl (lv_room (Nat.le_of_ble_eq_true rfl)) dL_squeeze_5 ⟨Nat.le_of_ble_eq_true rfl, Nat.le_of_ble_eq_true rfl⟩) (fun q9 ce H locs C c1 c2 c3 => ?_)
  replace C : Cx D ca s0 A s [(d, .inr (2, kF g)), (o, .inl (ca 2, 1, .inr (.inl (fo))))] H locs := C.re [1, 0] rfl rfl
  refine n_catch S C Z htb 0 xc_0 [] ⟨0, 9, 12, 23⟩ [⟨0, 9, 16, 13⟩, ⟨0, 9, 20, 28⟩] rfl (fun z hz => nomatch hz) (by decide) (by decide) g_166 c1 c2 c3 ?_
  refine lv_astore hx hb dL_squeeze_12 hl (Nat.le_of_ble_eq_true rfl) rfl (fun ls hl => ?_)
  replace hl : lv_has ls 5 [(4, .ref (q9)), (0, .ref (d)), (1, .int (k)), (2, .int (y)), (3, .ref (o))] := hl
  refine lv_iconst (v := nI 1) hx hb dL_squeeze_14 (by decide) ?_
  exact ret (nI 1) (()) _ _ _ _ _ _ (Nat.le_of_ble_eq_true rfl) (Nat.le_of_ble_eq_true rfl) rfl C dL_squeeze_15
abbrev rm_L_squeeze_no2 : Room := { frames := 8, cells := 1, slots := 6, locals := 133 }
set_option maxHeartbeats 4000000 in
set_option maxRecDepth 100000 in
theorem c_L_squeeze_no2 (l : Launch) (D : va_G) (ca : Nat → ClassId) (s0 : State) (a0 : Array Value) (Z : Wd a0 s0) (hl0 : l.stackTraces = false) (sx : Nat → Nat) (Xs : XS sx s0) (d : Nat) (g : Nat → Nat) (sf : Nat → Option Nat) (k0 : Nat) (hk0 : k0 < 4) (h b : Nat) (hsf : sf k0 = some h) (y : Int32) (hr : y < nI 1 ∨ nI 8 < y) (Xn : XN s0) (o : Nat) (fo : Nat → Int64) : CtI l yL_squeeze [.codeWith yL_squeeze cL_squeeze 5 (some .int) [(0, 9, 12, 23), (0, 9, 16, 13), (0, 9, 20, 28)]] rm_L_squeeze_no2 1 6 D ca s0 [.ref (d), .int (nI k0), .int (y), .ref (o)] [(d, .inr (2, kF g)), (g 4, .inl (ca 4, 4, .inr (.inr (.inr (.inr sf))))), (o, .inl (ca 2, 1, .inr (.inl (fo))))] (S := Unit) (fun r _ => r = nI 2) (fun _ => [(d, .inr (2, kF g)), (g 4, .inl (ca 4, 4, .inr (.inr (.inr (.inr sf))))), (o, .inl (ca 2, 1, .inr (.inl (fo))))]) := by
  refine ctH_of (cc := cL_squeeze) (maxL := 5) (own := RL) (hh := [(0, 9, 12, 23), (0, 9, 16, 13), (0, 9, 20, 28)]) Z rfl (by decide) rfl (Nat.le_of_ble_eq_true rfl) ?_
  intro p e s m args below meth c A ls Q S htb ret C hl
  have hx := S.1
  have hb := S.2.1
  have hown := S.2.2.2.1
  have hts := S.2.2.2.2
  generalize s.heap = H at C ⊢
  generalize ([] : List Loc) = locs at C ⊢
  replace hl : lv_has ls 5 [(0, .ref (d)), (1, .int (nI k0)), (2, .int (y)), (3, .ref (o))] := hl
  refine lv_aload_n hx hb dL_squeeze_0 rfl (lv_at hl 3 rfl) ?_
  refine lv_iconst (v := nI 0) hx hb dL_squeeze_1 (by decide) ?_
  refine lv_aload_n hx hb dL_squeeze_2 rfl (lv_at hl 0 rfl) ?_
  refine lv_iload_n hx hb dL_squeeze_3 rfl (lv_at hl 1 rfl) ?_
  refine lv_iload_n hx hb dL_squeeze_4 rfl (lv_at hl 2 rfl) ?_
  refine n_callX (wc := [(d, .inr (2, kF g)), (g 4, .inl (ca 4, 4, .inr (.inr (.inr (.inr sf)))))]) (wr := [(o, .inl (ca 2, 1, .inr (.inl (fo))))]) C [0, 1] [2] rfl rfl rfl rfl (by decide) (fun hp => vx_runV (rest := [.int (nI 0), .ref (o)]) S (x_K_squeeze2 l D ca s0 a0 Z hl0 sx Xs d g sf k0 hk0 h b hsf y hr _) (cwV 2 hts (gV g_283 g_284 g_285 g_30 g_286) rfl rfl rfl (by decide +kernel) ⟨Nat.le_of_ble_eq_true rfl, Nat.le_of_ble_eq_true rfl⟩) ⟨hp.1, n_recv C 0 2 rfl rfl, hp.2⟩ rfl rfl hl.1 rfl (lv_room (Nat.le_of_ble_eq_true rfl)) dL_squeeze_5 ⟨Nat.le_of_ble_eq_true rfl, Nat.le_of_ble_eq_true rfl⟩) (fun q9 ce H locs C c1 c2 c3 => ?_)
  replace C : Cx D ca s0 A s [(d, .inr (2, kF g)), (g 4, .inl (ca 4, 4, .inr (.inr (.inr (.inr sf))))), (o, .inl (ca 2, 1, .inr (.inl (fo))))] H locs := C.re [1, 2, 0] rfl rfl
  refine n_catch S C Z htb 1 xc_1 [⟨0, 9, 12, 23⟩] ⟨0, 9, 16, 13⟩ [⟨0, 9, 20, 28⟩] rfl (List.forall_mem_cons.mpr ⟨⟨by decide, _, g_166, Xn.1⟩, fun z hz => nomatch hz⟩) (by decide) (by decide) g_96 c1 c2 c3 ?_
  refine lv_astore hx hb dL_squeeze_16 hl (Nat.le_of_ble_eq_true rfl) rfl (fun ls hl => ?_)
  replace hl : lv_has ls 5 [(4, .ref (q9)), (0, .ref (d)), (1, .int (nI k0)), (2, .int (y)), (3, .ref (o))] := hl
  refine lv_iconst (v := nI 2) hx hb dL_squeeze_18 (by decide) ?_
  exact ret (nI 2) (()) _ _ _ _ _ _ (Nat.le_of_ble_eq_true rfl) (Nat.le_of_ble_eq_true rfl) rfl C dL_squeeze_19
abbrev rm_L_squeeze_no3 : Room := { frames := 8, cells := 1, slots := 6, locals := 133 }
set_option maxHeartbeats 4000000 in
set_option maxRecDepth 100000 in
theorem c_L_squeeze_no3 (l : Launch) (D : va_G) (ca : Nat → ClassId) (s0 : State) (a0 : Array Value) (Z : Wd a0 s0) (hl0 : l.stackTraces = false) (sx : Nat → Nat) (Xs : XS sx s0) (d : Nat) (g : Nat → Nat) (sf : Nat → Option Nat) (k0 : Nat) (hk0 : k0 < 4) (h b : Nat) (hsf : sf k0 = some h) (kd wd pl en tk rm : Int32) (dn : Bool) (n : Nat) (hn1 : 1 ≤ n) (hn : n ≤ 8) (hcn : canG dn rm (nI n) = false) (Xn : XN s0) (o : Nat) (fo : Nat → Int64) : CtI l yL_squeeze [.codeWith yL_squeeze cL_squeeze 5 (some .int) [(0, 9, 12, 23), (0, 9, 16, 13), (0, 9, 20, 28)]] rm_L_squeeze_no3 1 6 D ca s0 [.ref (d), .int (nI k0), .int (nI n), .ref (o)] [(d, .inr (2, kF g)), (g 4, .inl (ca 4, 4, .inr (.inr (.inr (.inr sf))))), (h, .inr (1, [.ref (b), .int (kd), .int (wd), .int (pl), .int (en), .int (tk), .int (b2i dn), .int (rm)])), (o, .inl (ca 2, 1, .inr (.inl (fo))))] (S := Unit) (fun r _ => r = nI 3) (fun _ => [(d, .inr (2, kF g)), (g 4, .inl (ca 4, 4, .inr (.inr (.inr (.inr sf))))), (h, .inr (1, [.ref (b), .int (kd), .int (wd), .int (pl), .int (en), .int (tk), .int (b2i dn), .int (rm)])), (o, .inl (ca 2, 1, .inr (.inl (fo))))]) := by
  refine ctH_of (cc := cL_squeeze) (maxL := 5) (own := RL) (hh := [(0, 9, 12, 23), (0, 9, 16, 13), (0, 9, 20, 28)]) Z rfl (by decide) rfl (Nat.le_of_ble_eq_true rfl) ?_
  intro p e s m args below meth c A ls Q S htb ret C hl
  have hx := S.1
  have hb := S.2.1
  have hown := S.2.2.2.1
  have hts := S.2.2.2.2
  generalize s.heap = H at C ⊢
  generalize ([] : List Loc) = locs at C ⊢
  replace hl : lv_has ls 5 [(0, .ref (d)), (1, .int (nI k0)), (2, .int (nI n)), (3, .ref (o))] := hl
  refine lv_aload_n hx hb dL_squeeze_0 rfl (lv_at hl 3 rfl) ?_
  refine lv_iconst (v := nI 0) hx hb dL_squeeze_1 (by decide) ?_
  refine lv_aload_n hx hb dL_squeeze_2 rfl (lv_at hl 0 rfl) ?_
  refine lv_iload_n hx hb dL_squeeze_3 rfl (lv_at hl 1 rfl) ?_
  refine lv_iload_n hx hb dL_squeeze_4 rfl (lv_at hl 2 rfl) ?_
  refine n_callX (wc := [(d, .inr (2, kF g)), (g 4, .inl (ca 4, 4, .inr (.inr (.inr (.inr sf))))), (h, .inr (1, [.ref (b), .int (kd), .int (wd), .int (pl), .int (en), .int (tk), .int (b2i dn), .int (rm)]))]) (wr := [(o, .inl (ca 2, 1, .inr (.inl (fo))))]) C [0, 1, 2] [3] rfl rfl rfl rfl (by decide) (fun hp => vx_runV (rest := [.int (nI 0), .ref (o)]) S (x_K_squeeze3 l D ca s0 a0 Z hl0 sx Xs d g sf k0 hk0 h b hsf kd wd pl en tk rm dn n hn1 hn hcn _) (cwV 2 hts (gV g_283 g_284 g_285 g_30 g_286) rfl rfl rfl (by decide +kernel) ⟨Nat.le_of_ble_eq_true rfl, Nat.le_of_ble_eq_true rfl⟩) ⟨hp.1, n_recv C 0 2 rfl rfl, hp.2⟩ rfl rfl hl.1 rfl (lv_room (Nat.le_of_ble_eq_true rfl)) dL_squeeze_5 ⟨Nat.le_of_ble_eq_true rfl, Nat.le_of_ble_eq_true rfl⟩) (fun q9 ce H locs C c1 c2 c3 => ?_)
  replace C : Cx D ca s0 A s [(d, .inr (2, kF g)), (g 4, .inl (ca 4, 4, .inr (.inr (.inr (.inr sf))))), (h, .inr (1, [.ref (b), .int (kd), .int (wd), .int (pl), .int (en), .int (tk), .int (b2i dn), .int (rm)])), (o, .inl (ca 2, 1, .inr (.inl (fo))))] H locs := C.re [1, 2, 3, 0] rfl rfl
  refine n_catch S C Z htb 2 xc_2 [⟨0, 9, 12, 23⟩, ⟨0, 9, 16, 13⟩] ⟨0, 9, 20, 28⟩ [] rfl (List.forall_mem_cons.mpr ⟨⟨by decide, _, g_166, Xn.2.1⟩, List.forall_mem_cons.mpr ⟨⟨by decide, _, g_96, Xn.2.2⟩, fun z hz => nomatch hz⟩⟩) (by decide) (by decide) g_232 c1 c2 c3 ?_
  refine lv_astore hx hb dL_squeeze_20 hl (Nat.le_of_ble_eq_true rfl) rfl (fun ls hl => ?_)
  replace hl : lv_has ls 5 [(4, .ref (q9)), (0, .ref (d)), (1, .int (nI k0)), (2, .int (nI n)), (3, .ref (o))] := hl
  refine lv_iconst (v := nI 3) hx hb dL_squeeze_22 (by decide) ?_
  exact ret (nI 3) (()) _ _ _ _ _ _ (Nat.le_of_ble_eq_true rfl) (Nat.le_of_ble_eq_true rfl) rfl C dL_squeeze_23
abbrev rm_L_squeeze_ok : Room := { frames := 5, cells := 0, slots := 0, locals := 131 }
set_option maxHeartbeats 4000000 in
set_option maxRecDepth 100000 in
theorem c_L_squeeze_ok (l : Launch) (D : va_G) (ca : Nat → ClassId) (s0 : State) (a0 : Array Value) (Z : Wd a0 s0) (tz : Nat → Nat) (Zs : ZS tz s0) (d : Nat) (g : Nat → Nat) (sf : Nat → Option Nat) (k0 : Nat) (hk0 : k0 < 4) (h b : Nat) (hsf : sf k0 = some h) (L : Nat → Int64) (en tk rm : Int32) (k : Nat) (hk : k < 16) (c0 : Co) (hL : kEq (lb L) c0.1) (hp0 : c0.2 ≤ wid k) (n : Nat) (hn1 : 1 ≤ n) (hn : n ≤ 8) (hcg : canG true rm (nI n) = true) (o : Nat) (fo : Nat → Int64) : CtI l yL_squeeze [.codeWith yL_squeeze cL_squeeze 5 (some .int) [(0, 9, 12, 23), (0, 9, 16, 13), (0, 9, 20, 28)]] rm_L_squeeze_ok 0 0 D ca s0 [.ref (d), .int (nI k0), .int (nI n), .ref (o)] [(d, .inr (2, kF g)), (g 4, .inl (ca 4, 4, .inr (.inr (.inr (.inr sf))))), (h, .inr (1, [.ref (b), .int (nI k), .int (nI (wid k)), .int (nI (c0.2)), .int (en), .int (tk), .int (b2i true), .int (rm)])), (b, .inl (ca 2, 25, .inr (.inl (L)))), (o, .inl (ca 2, 1, .inr (.inl (fo))))] (S := Nat → Int64) (fun r M => r = nI 0 ∧ kEq (lb M) (sqC (wid k) c0 n).1) (fun u => [(d, .inr (2, kF g)), (g 4, .inl (ca 4, 4, .inr (.inr (.inr (.inr sf))))), (h, .inr (1, [.ref (b), .int (nI k), .int (nI (wid k)), .int (nI (sqC (wid k) c0 n).2), .int (en), .int (tk), .int (b2i true), .int (lefI rm n)])), (b, .inl (ca 2, 25, .inr (.inl u))), (o, .inl (ca 2, 1, .inr (.inl (vp_updL fo 0 (sqV (wid k) c0 n)))))]) := by
  refine ctH_of (cc := cL_squeeze) (maxL := 5) (own := RL) (hh := [(0, 9, 12, 23), (0, 9, 16, 13), (0, 9, 20, 28)]) Z rfl (by decide) rfl (Nat.le_of_ble_eq_true rfl) ?_
  intro p e s m args below meth c A ls Q S htb ret C hl
  have hx := S.1
  have hb := S.2.1
  have hown := S.2.2.2.1
  have hts := S.2.2.2.2
  generalize s.heap = H at C ⊢
  generalize ([] : List Loc) = locs at C ⊢
  replace hl : lv_has ls 5 [(0, .ref (d)), (1, .int (nI k0)), (2, .int (nI n)), (3, .ref (o))] := hl
  refine lv_aload_n hx hb dL_squeeze_0 rfl (lv_at hl 3 rfl) ?_
  refine lv_iconst (v := nI 0) hx hb dL_squeeze_1 (by decide) ?_
  refine lv_aload_n hx hb dL_squeeze_2 rfl (lv_at hl 0 rfl) ?_
  refine lv_iload_n hx hb dL_squeeze_3 rfl (lv_at hl 1 rfl) ?_
  refine lv_iload_n hx hb dL_squeeze_4 rfl (lv_at hl 2 rfl) ?_
  refine n_callL (wc := [(d, .inr (2, kF g)), (g 4, .inl (ca 4, 4, .inr (.inr (.inr (.inr sf))))), (h, .inr (1, [.ref (b), .int (nI k), .int (nI (wid k)), .int (nI (c0.2)), .int (en), .int (tk), .int (b2i true), .int (rm)])), (b, .inl (ca 2, 25, .inr (.inl (L))))]) (wr := [(o, .inl (ca 2, 1, .inr (.inl (fo))))]) C [0, 1, 2, 3] [4] rfl rfl rfl rfl (by decide) (fun hp => va_runV (rest := [.int (nI 0), .ref (o)]) S (c_K_squeeze_ok l D ca s0 a0 Z tz Zs d g sf k0 hk0 h b hsf L en tk rm k hk c0 hL hp0 n hn1 hn hcg _) (cwV 2 hts (gV g_283 g_284 g_285 g_30 g_286) rfl rfl rfl (by decide +kernel) ⟨Nat.le_of_ble_eq_true rfl, Nat.le_of_ble_eq_true rfl⟩) ⟨hp.1, n_recv C 0 2 rfl rfl, hp.2⟩ rfl rfl hl.1 rfl (lv_room (Nat.le_of_ble_eq_true rfl)) dL_squeeze_5 ⟨Nat.le_of_ble_eq_true rfl, Nat.le_of_ble_eq_true rfl⟩) (fun r u H locs hp C => ?_)
  replace C : Cx D ca s0 A s [(d, .inr (2, kF g)), (g 4, .inl (ca 4, 4, .inr (.inr (.inr (.inr sf))))), (h, .inr (1, [.ref (b), .int (nI k), .int (nI (wid k)), .int (nI (sqC (wid k) c0 n).2), .int (en), .int (tk), .int (b2i true), .int (lefI rm n)])), (b, .inl (ca 2, 25, .inr (.inl u))), (o, .inl (ca 2, 1, .inr (.inl (fo))))] H locs := C.re [1, 2, 3, 4, 0] rfl rfl
  obtain ⟨rfl, hp⟩ := hp
  refine n_last S C 4 rfl (i := 0) (by omega) (by decide) dL_squeeze_8 (fun H locs C => ?_)
  replace C : Cx D ca s0 A s [(d, .inr (2, kF g)), (g 4, .inl (ca 4, 4, .inr (.inr (.inr (.inr sf))))), (h, .inr (1, [.ref (b), .int (nI k), .int (nI (wid k)), .int (nI (sqC (wid k) c0 n).2), .int (en), .int (tk), .int (b2i true), .int (lefI rm n)])), (b, .inl (ca 2, 25, .inr (.inl u))), (o, .inl (ca 2, 1, .inr (.inl (vp_updL fo 0 (sqV (wid k) c0 n)))))] H locs := C
  refine lv_goto (tgt := 24) hx hb dL_squeeze_9 (by decide) ?_
  refine lv_iconst (v := nI 0) hx hb dL_squeeze_24 (by decide) ?_
  exact ret (nI 0) u _ _ _ _ _ _ (Nat.le_of_ble_eq_true rfl) (Nat.le_of_ble_eq_true rfl) (⟨rfl, hp⟩) C dL_squeeze_25
abbrev rm_L_left_no : Room := { frames := 8, cells := 1, slots := 6, locals := 132 }
set_option maxHeartbeats 4000000 in
set_option maxRecDepth 100000 in
theorem c_L_left_no (l : Launch) (D : va_G) (ca : Nat → ClassId) (s0 : State) (a0 : Array Value) (Z : Wd a0 s0) (hl0 : l.stackTraces = false) (sx : Nat → Nat) (Xs : XS sx s0) (d : Nat) (g : Nat → Nat) (k : Int32) (hno : ¬ (¬ k < 0 ∧ k < 4)) (Xn : XN s0) (o : Nat) (fo : Nat → Int64) : CtI l yL_left [.codeWith yL_left cL_left 4 (some .int) [(0, 9, 12, 23)]] rm_L_left_no 1 6 D ca s0 [.ref (d), .int (k), .ref (o)] [(d, .inr (2, kF g)), (o, .inl (ca 2, 1, .inr (.inl (fo))))] (S := Unit) (fun r _ => r = nI 1) (fun _ => [(d, .inr (2, kF g)), (o, .inl (ca 2, 1, .inr (.inl (fo))))]) := by
  refine ctH_of (cc := cL_left) (maxL := 4) (own := RL) (hh := [(0, 9, 12, 23)]) Z rfl (by decide) rfl (Nat.le_of_ble_eq_true rfl) ?_
  intro p e s m args below meth c A ls Q S htb ret C hl
  have hx := S.1
  have hb := S.2.1
  have hown := S.2.2.2.1
  have hts := S.2.2.2.2
  generalize s.heap = H at C ⊢
  generalize ([] : List Loc) = locs at C ⊢
  replace hl : lv_has ls 4 [(0, .ref (d)), (1, .int (k)), (2, .ref (o))] := hl
  refine lv_aload_n hx hb dL_left_0 rfl (lv_at hl 2 rfl) ?_
  refine lv_iconst (v := nI 0) hx hb dL_left_1 (by decide) ?_
  refine lv_aload_n hx hb dL_left_2 rfl (lv_at hl 0 rfl) ?_
  refine lv_iload_n hx hb dL_left_3 rfl (lv_at hl 1 rfl) ?_
  refine n_callX (wc := [(d, .inr (2, kF g))]) (wr := [(o, .inl (ca 2, 1, .inr (.inl (fo))))]) C [0] [1] rfl rfl rfl rfl (by decide) (fun hp => vx_runV (rest := [.int (nI 0), .ref (o)]) S (x_K_left l D ca s0 a0 Z hl0 sx Xs d g k hno _) (cwV 1 hts (gV g_302 g_303 g_304 g_30 g_305) rfl rfl rfl (by decide +kernel) ⟨Nat.le_of_ble_eq_true rfl, Nat.le_of_ble_eq_true rfl⟩) ⟨hp.1, n_recv C 0 2 rfl rfl, hp.2⟩ rfl rfl hl.1 rfl (lv_room (Nat.le_of_ble_eq_true rfl)) dL_left_4 ⟨Nat.le_of_ble_eq_true rfl, Nat.le_of_ble_eq_true rfl⟩) (fun q9 ce H locs C c1 c2 c3 => ?_)
  replace C : Cx D ca s0 A s [(d, .inr (2, kF g)), (o, .inl (ca 2, 1, .inr (.inl (fo))))] H locs := C.re [1, 0] rfl rfl
  refine n_catch S C Z htb 0 xc_0 [] ⟨0, 9, 12, 23⟩ [] rfl (fun z hz => nomatch hz) (by decide) (by decide) g_166 c1 c2 c3 ?_
  refine lv_astore_n hx hb dL_left_12 rfl hl (Nat.le_of_ble_eq_true rfl) rfl (fun ls hl => ?_)
  replace hl : lv_has ls 4 [(3, .ref (q9)), (0, .ref (d)), (1, .int (k)), (2, .ref (o))] := hl
  refine lv_iconst (v := nI 1) hx hb dL_left_13 (by decide) ?_
  exact ret (nI 1) (()) _ _ _ _ _ _ (Nat.le_of_ble_eq_true rfl) (Nat.le_of_ble_eq_true rfl) rfl C dL_left_14
abbrev rm_L_left_ok : Room := { frames := 2, cells := 0, slots := 0, locals := 42 }
set_option maxHeartbeats 4000000 in
set_option maxRecDepth 100000 in
theorem c_L_left_ok (l : Launch) (D : va_G) (ca : Nat → ClassId) (s0 : State) (a0 : Array Value) (Z : Wd a0 s0) (d : Nat) (g : Nat → Nat) (sf : Nat → Option Nat) (k0 : Nat) (hk0 : k0 < 4) (h b : Nat) (hsf : sf k0 = some h) (kd wd pl en tk dn rm : Int32) (o : Nat) (fo : Nat → Int64) : CtI l yL_left [.codeWith yL_left cL_left 4 (some .int) [(0, 9, 12, 23)]] rm_L_left_ok 0 0 D ca s0 [.ref (d), .int (nI k0), .ref (o)] [(d, .inr (2, kF g)), (g 4, .inl (ca 4, 4, .inr (.inr (.inr (.inr sf))))), (h, .inr (1, [.ref (b), .int (kd), .int (wd), .int (pl), .int (en), .int (tk), .int (dn), .int (rm)])), (o, .inl (ca 2, 1, .inr (.inl (fo))))] (S := Unit) (fun r _ => r = nI 0) (fun u => [(d, .inr (2, kF g)), (g 4, .inl (ca 4, 4, .inr (.inr (.inr (.inr sf))))), (h, .inr (1, [.ref (b), .int (kd), .int (wd), .int (pl), .int (en), .int (tk), .int (dn), .int (rm)])), (o, .inl (ca 2, 1, .inr (.inl (vp_updL fo 0 ((rm).toInt64)))))]) := by
  refine ctH_of (cc := cL_left) (maxL := 4) (own := RL) (hh := [(0, 9, 12, 23)]) Z rfl (by decide) rfl (Nat.le_of_ble_eq_true rfl) ?_
  intro p e s m args below meth c A ls Q S htb ret C hl
  have hx := S.1
  have hb := S.2.1
  have hown := S.2.2.2.1
  have hts := S.2.2.2.2
  generalize s.heap = H at C ⊢
  generalize ([] : List Loc) = locs at C ⊢
  replace hl : lv_has ls 4 [(0, .ref (d)), (1, .int (nI k0)), (2, .ref (o))] := hl
  refine lv_aload_n hx hb dL_left_0 rfl (lv_at hl 2 rfl) ?_
  refine lv_iconst (v := nI 0) hx hb dL_left_1 (by decide) ?_
  refine lv_aload_n hx hb dL_left_2 rfl (lv_at hl 0 rfl) ?_
  refine lv_iload_n hx hb dL_left_3 rfl (lv_at hl 1 rfl) ?_
  refine n_callI (wc := [(d, .inr (2, kF g)), (g 4, .inl (ca 4, 4, .inr (.inr (.inr (.inr sf))))), (h, .inr (1, [.ref (b), .int (kd), .int (wd), .int (pl), .int (en), .int (tk), .int (dn), .int (rm)]))]) (wr := [(o, .inl (ca 2, 1, .inr (.inl (fo))))]) C [0, 1, 2] [3] rfl rfl rfl rfl (by decide) (fun hp => va_runV (rest := [.int (nI 0), .ref (o)]) S (c_K_left_ok l D ca s0 a0 Z d g sf k0 hk0 h b hsf kd wd pl en tk dn rm _) (cwV 1 hts (gV g_302 g_303 g_304 g_30 g_305) rfl rfl rfl (by decide +kernel) ⟨Nat.le_of_ble_eq_true rfl, Nat.le_of_ble_eq_true rfl⟩) ⟨hp.1, n_recv C 0 2 rfl rfl, hp.2⟩ rfl rfl hl.1 rfl (lv_room (Nat.le_of_ble_eq_true rfl)) dL_left_4 ⟨Nat.le_of_ble_eq_true rfl, Nat.le_of_ble_eq_true rfl⟩) (fun r u H locs hp C => ?_)
  replace C : Cx D ca s0 A s [(d, .inr (2, kF g)), (g 4, .inl (ca 4, 4, .inr (.inr (.inr (.inr sf))))), (h, .inr (1, [.ref (b), .int (kd), .int (wd), .int (pl), .int (en), .int (tk), .int (dn), .int (rm)])), (o, .inl (ca 2, 1, .inr (.inl (fo))))] H locs := C.re [1, 2, 3, 0] rfl rfl
  subst r
  refine lv_i2l (v := rm.toInt64) hx hb dL_left_7 rfl ?_
  refine n_last S C 3 rfl (i := 0) (by omega) (by decide) dL_left_8 (fun H locs C => ?_)
  replace C : Cx D ca s0 A s [(d, .inr (2, kF g)), (g 4, .inl (ca 4, 4, .inr (.inr (.inr (.inr sf))))), (h, .inr (1, [.ref (b), .int (kd), .int (wd), .int (pl), .int (en), .int (tk), .int (dn), .int (rm)])), (o, .inl (ca 2, 1, .inr (.inl (vp_updL fo 0 rm.toInt64))))] H locs := C
  refine lv_goto (tgt := 15) hx hb dL_left_9 (by decide) ?_
  refine lv_iconst (v := nI 0) hx hb dL_left_15 (by decide) ?_
  exact ret (nI 0) (()) _ _ _ _ _ _ (Nat.le_of_ble_eq_true rfl) (Nat.le_of_ble_eq_true rfl) rfl C dL_left_16
abbrev rm_L_kind_no : Room := { frames := 8, cells := 1, slots := 6, locals := 133 }
set_option maxHeartbeats 4000000 in
set_option maxRecDepth 100000 in
theorem c_L_kind_no (l : Launch) (D : va_G) (ca : Nat → ClassId) (s0 : State) (a0 : Array Value) (Z : Wd a0 s0) (hl0 : l.stackTraces = false) (sx : Nat → Nat) (Xs : XS sx s0) (d : Nat) (g : Nat → Nat) (k : Int32) (hno : ¬ (¬ k < 0 ∧ k < 4)) (Xn : XN s0) (o : Nat) (fo : Nat → Int64) : CtI l yL_kind [.codeWith yL_kind cL_kind 4 (some .int) [(0, 9, 12, 23)]] rm_L_kind_no 1 6 D ca s0 [.ref (d), .int (k), .ref (o)] [(d, .inr (2, kF g)), (o, .inl (ca 2, 1, .inr (.inl (fo))))] (S := Unit) (fun r _ => r = nI 1) (fun _ => [(d, .inr (2, kF g)), (o, .inl (ca 2, 1, .inr (.inl (fo))))]) := by
  refine ctH_of (cc := cL_kind) (maxL := 4) (own := RL) (hh := [(0, 9, 12, 23)]) Z rfl (by decide) rfl (Nat.le_of_ble_eq_true rfl) ?_
  intro p e s m args below meth c A ls Q S htb ret C hl
  have hx := S.1
  have hb := S.2.1
  have hown := S.2.2.2.1
  have hts := S.2.2.2.2
  generalize s.heap = H at C ⊢
  generalize ([] : List Loc) = locs at C ⊢
  replace hl : lv_has ls 4 [(0, .ref (d)), (1, .int (k)), (2, .ref (o))] := hl
  refine lv_aload_n hx hb dL_kind_0 rfl (lv_at hl 2 rfl) ?_
  refine lv_iconst (v := nI 0) hx hb dL_kind_1 (by decide) ?_
  refine lv_aload_n hx hb dL_kind_2 rfl (lv_at hl 0 rfl) ?_
  refine lv_iload_n hx hb dL_kind_3 rfl (lv_at hl 1 rfl) ?_
  refine n_callX (wc := [(d, .inr (2, kF g))]) (wr := [(o, .inl (ca 2, 1, .inr (.inl (fo))))]) C [0] [1] rfl rfl rfl rfl (by decide) (fun hp => vx_runV (rest := [.int (nI 0), .ref (o)]) S (x_K_kind l D ca s0 a0 Z hl0 sx Xs d g k hno _) (cwV 1 hts (gV g_321 g_322 g_323 g_30 g_324) rfl rfl rfl (by decide +kernel) ⟨Nat.le_of_ble_eq_true rfl, Nat.le_of_ble_eq_true rfl⟩) ⟨hp.1, n_recv C 0 2 rfl rfl, hp.2⟩ rfl rfl hl.1 rfl (lv_room (Nat.le_of_ble_eq_true rfl)) dL_kind_4 ⟨Nat.le_of_ble_eq_true rfl, Nat.le_of_ble_eq_true rfl⟩) (fun q9 ce H locs C c1 c2 c3 => ?_)
  replace C : Cx D ca s0 A s [(d, .inr (2, kF g)), (o, .inl (ca 2, 1, .inr (.inl (fo))))] H locs := C.re [1, 0] rfl rfl
  refine n_catch S C Z htb 0 xc_0 [] ⟨0, 9, 12, 23⟩ [] rfl (fun z hz => nomatch hz) (by decide) (by decide) g_166 c1 c2 c3 ?_
  refine lv_astore_n hx hb dL_kind_12 rfl hl (Nat.le_of_ble_eq_true rfl) rfl (fun ls hl => ?_)
  replace hl : lv_has ls 4 [(3, .ref (q9)), (0, .ref (d)), (1, .int (k)), (2, .ref (o))] := hl
  refine lv_iconst (v := nI 1) hx hb dL_kind_13 (by decide) ?_
  exact ret (nI 1) (()) _ _ _ _ _ _ (Nat.le_of_ble_eq_true rfl) (Nat.le_of_ble_eq_true rfl) rfl C dL_kind_14
abbrev rm_L_kind_ok : Room := { frames := 2, cells := 0, slots := 0, locals := 43 }
set_option maxHeartbeats 4000000 in
set_option maxRecDepth 100000 in
theorem c_L_kind_ok (l : Launch) (D : va_G) (ca : Nat → ClassId) (s0 : State) (a0 : Array Value) (Z : Wd a0 s0) (d : Nat) (g : Nat → Nat) (sf : Nat → Option Nat) (k0 : Nat) (hk0 : k0 < 4) (h b : Nat) (hsf : sf k0 = some h) (wd pl en tk rm : Int32) (dn : Bool) (k : Nat) (o : Nat) (fo : Nat → Int64) : CtI l yL_kind [.codeWith yL_kind cL_kind 4 (some .int) [(0, 9, 12, 23)]] rm_L_kind_ok 0 0 D ca s0 [.ref (d), .int (nI k0), .ref (o)] [(d, .inr (2, kF g)), (g 4, .inl (ca 4, 4, .inr (.inr (.inr (.inr sf))))), (h, .inr (1, [.ref (b), .int (nI k), .int (wd), .int (pl), .int (en), .int (tk), .int (b2i dn), .int (rm)])), (o, .inl (ca 2, 1, .inr (.inl (fo))))] (S := Unit) (fun r _ => r = nI 0) (fun u => [(d, .inr (2, kF g)), (g 4, .inl (ca 4, 4, .inr (.inr (.inr (.inr sf))))), (h, .inr (1, [.ref (b), .int (nI k), .int (wd), .int (pl), .int (en), .int (tk), .int (b2i dn), .int (rm)])), (o, .inl (ca 2, 1, .inr (.inl (vp_updL fo 0 ((nI (if dn = true then k + 16 else k)).toInt64)))))]) := by
  refine ctH_of (cc := cL_kind) (maxL := 4) (own := RL) (hh := [(0, 9, 12, 23)]) Z rfl (by decide) rfl (Nat.le_of_ble_eq_true rfl) ?_
  intro p e s m args below meth c A ls Q S htb ret C hl
  have hx := S.1
  have hb := S.2.1
  have hown := S.2.2.2.1
  have hts := S.2.2.2.2
  generalize s.heap = H at C ⊢
  generalize ([] : List Loc) = locs at C ⊢
  replace hl : lv_has ls 4 [(0, .ref (d)), (1, .int (nI k0)), (2, .ref (o))] := hl
  refine lv_aload_n hx hb dL_kind_0 rfl (lv_at hl 2 rfl) ?_
  refine lv_iconst (v := nI 0) hx hb dL_kind_1 (by decide) ?_
  refine lv_aload_n hx hb dL_kind_2 rfl (lv_at hl 0 rfl) ?_
  refine lv_iload_n hx hb dL_kind_3 rfl (lv_at hl 1 rfl) ?_
  refine n_callI (wc := [(d, .inr (2, kF g)), (g 4, .inl (ca 4, 4, .inr (.inr (.inr (.inr sf))))), (h, .inr (1, [.ref (b), .int (nI k), .int (wd), .int (pl), .int (en), .int (tk), .int (b2i dn), .int (rm)]))]) (wr := [(o, .inl (ca 2, 1, .inr (.inl (fo))))]) C [0, 1, 2] [3] rfl rfl rfl rfl (by decide) (fun hp => va_runV (rest := [.int (nI 0), .ref (o)]) S (c_K_kind_ok l D ca s0 a0 Z d g sf k0 hk0 h b hsf wd pl en tk rm dn k _) (cwV 1 hts (gV g_321 g_322 g_323 g_30 g_324) rfl rfl rfl (by decide +kernel) ⟨Nat.le_of_ble_eq_true rfl, Nat.le_of_ble_eq_true rfl⟩) ⟨hp.1, n_recv C 0 2 rfl rfl, hp.2⟩ rfl rfl hl.1 rfl (lv_room (Nat.le_of_ble_eq_true rfl)) dL_kind_4 ⟨Nat.le_of_ble_eq_true rfl, Nat.le_of_ble_eq_true rfl⟩) (fun r u H locs hp C => ?_)
  replace C : Cx D ca s0 A s [(d, .inr (2, kF g)), (g 4, .inl (ca 4, 4, .inr (.inr (.inr (.inr sf))))), (h, .inr (1, [.ref (b), .int (nI k), .int (wd), .int (pl), .int (en), .int (tk), .int (b2i dn), .int (rm)])), (o, .inl (ca 2, 1, .inr (.inl (fo))))] H locs := C.re [1, 2, 3, 0] rfl rfl
  subst r
  refine lv_i2l (v := (nI (if dn = true then k + 16 else k)).toInt64) hx hb dL_kind_7 rfl ?_
  refine n_last S C 3 rfl (i := 0) (by omega) (by decide) dL_kind_8 (fun H locs C => ?_)
  replace C : Cx D ca s0 A s [(d, .inr (2, kF g)), (g 4, .inl (ca 4, 4, .inr (.inr (.inr (.inr sf))))), (h, .inr (1, [.ref (b), .int (nI k), .int (wd), .int (pl), .int (en), .int (tk), .int (b2i dn), .int (rm)])), (o, .inl (ca 2, 1, .inr (.inl (vp_updL fo 0 ((nI (if dn = true then k + 16 else k)).toInt64)))))] H locs := C
  refine lv_goto (tgt := 15) hx hb dL_kind_9 (by decide) ?_
  refine lv_iconst (v := nI 0) hx hb dL_kind_15 (by decide) ?_
  exact ret (nI 0) (()) _ _ _ _ _ _ (Nat.le_of_ble_eq_true rfl) (Nat.le_of_ble_eq_true rfl) rfl C dL_kind_16
abbrev rm_L_copy_no1 : Room := { frames := 8, cells := 1, slots := 6, locals := 134 }
set_option maxHeartbeats 4000000 in
set_option maxRecDepth 100000 in
theorem c_L_copy_no1 (l : Launch) (D : va_G) (ca : Nat → ClassId) (s0 : State) (a0 : Array Value) (Z : Wd a0 s0) (hl0 : l.stackTraces = false) (sx : Nat → Nat) (Xs : XS sx s0) (d : Nat) (g : Nat → Nat) (k : Int32) (hno : ¬ (¬ k < 0 ∧ k < 4)) (y : Int32) (Xn : XN s0) : CtI l yL_copy [.codeWith yL_copy cL_copy 4 (some .int) [(0, 6, 9, 23)]] rm_L_copy_no1 1 6 D ca s0 [.ref (d), .int (k), .int (y)] [(d, .inr (2, kF g))] (S := Unit) (fun r _ => r = nI 1) (fun _ => [(d, .inr (2, kF g))]) := by
  refine ctH_of (cc := cL_copy) (maxL := 4) (own := RL) (hh := [(0, 6, 9, 23)]) Z rfl (by decide) rfl (Nat.le_of_ble_eq_true rfl) ?_
  intro p e s m args below meth c A ls Q S htb ret C hl
  have hx := S.1
  have hb := S.2.1
  have hown := S.2.2.2.1
  have hts := S.2.2.2.2
  generalize s.heap = H at C ⊢
  generalize ([] : List Loc) = locs at C ⊢
  replace hl : lv_has ls 4 [(0, .ref (d)), (1, .int (k)), (2, .int (y))] := hl
  refine lv_aload_n hx hb dL_copy_0 rfl (lv_at hl 0 rfl) ?_
  refine lv_iload_n hx hb dL_copy_1 rfl (lv_at hl 1 rfl) ?_
  refine lv_iload_n hx hb dL_copy_2 rfl (lv_at hl 2 rfl) ?_
  refine n_callX (wc := [(d, .inr (2, kF g))]) (wr := []) C [0] [] rfl rfl rfl rfl (by decide) (fun hp => vx_runV (rest := []) S (x_K_copy1 l D ca s0 a0 Z hl0 sx Xs d g k hno y _) (cwV 2 hts (gV g_309 g_310 g_311 g_30 g_312) rfl rfl rfl (by decide +kernel) ⟨Nat.le_of_ble_eq_true rfl, Nat.le_of_ble_eq_true rfl⟩) ⟨hp.1, n_recv C 0 2 rfl rfl, hp.2⟩ rfl rfl hl.1 rfl (lv_room (Nat.le_of_ble_eq_true rfl)) dL_copy_3 ⟨Nat.le_of_ble_eq_true rfl, Nat.le_of_ble_eq_true rfl⟩) (fun q9 ce H locs C c1 c2 c3 => ?_)
  replace C : Cx D ca s0 A s [(d, .inr (2, kF g))] H locs := C.re [0] rfl rfl
  refine n_catch S C Z htb 0 xc_0 [] ⟨0, 6, 9, 23⟩ [] rfl (fun z hz => nomatch hz) (by decide) (by decide) g_166 c1 c2 c3 ?_
  refine lv_astore_n hx hb dL_copy_9 rfl hl (Nat.le_of_ble_eq_true rfl) rfl (fun ls hl => ?_)
  replace hl : lv_has ls 4 [(3, .ref (q9)), (0, .ref (d)), (1, .int (k)), (2, .int (y))] := hl
  refine lv_iconst (v := nI 1) hx hb dL_copy_10 (by decide) ?_
  exact ret (nI 1) (()) _ _ _ _ _ _ (Nat.le_of_ble_eq_true rfl) (Nat.le_of_ble_eq_true rfl) rfl C dL_copy_11
abbrev rm_L_copy_no2 : Room := { frames := 8, cells := 1, slots := 6, locals := 134 }
set_option maxHeartbeats 4000000 in
set_option maxRecDepth 100000 in
theorem c_L_copy_no2 (l : Launch) (D : va_G) (ca : Nat → ClassId) (s0 : State) (a0 : Array Value) (Z : Wd a0 s0) (hl0 : l.stackTraces = false) (sx : Nat → Nat) (Xs : XS sx s0) (d : Nat) (g : Nat → Nat) (sf : Nat → Option Nat) (k0 : Nat) (hk0 : k0 < 4) (h b : Nat) (hsf : sf k0 = some h) (k : Int32) (hno : ¬ (¬ k < 0 ∧ k < 4)) (Xn : XN s0) : CtI l yL_copy [.codeWith yL_copy cL_copy 4 (some .int) [(0, 6, 9, 23)]] rm_L_copy_no2 1 6 D ca s0 [.ref (d), .int (nI k0), .int (k)] [(d, .inr (2, kF g)), (g 4, .inl (ca 4, 4, .inr (.inr (.inr (.inr sf)))))] (S := Unit) (fun r _ => r = nI 1) (fun _ => [(d, .inr (2, kF g)), (g 4, .inl (ca 4, 4, .inr (.inr (.inr (.inr sf)))))]) := by
  refine ctH_of (cc := cL_copy) (maxL := 4) (own := RL) (hh := [(0, 6, 9, 23)]) Z rfl (by decide) rfl (Nat.le_of_ble_eq_true rfl) ?_
  intro p e s m args below meth c A ls Q S htb ret C hl
  have hx := S.1
  have hb := S.2.1
  have hown := S.2.2.2.1
  have hts := S.2.2.2.2
  generalize s.heap = H at C ⊢
  generalize ([] : List Loc) = locs at C ⊢
  replace hl : lv_has ls 4 [(0, .ref (d)), (1, .int (nI k0)), (2, .int (k))] := hl
  refine lv_aload_n hx hb dL_copy_0 rfl (lv_at hl 0 rfl) ?_
  refine lv_iload_n hx hb dL_copy_1 rfl (lv_at hl 1 rfl) ?_
  refine lv_iload_n hx hb dL_copy_2 rfl (lv_at hl 2 rfl) ?_
  refine n_callX (wc := [(d, .inr (2, kF g)), (g 4, .inl (ca 4, 4, .inr (.inr (.inr (.inr sf)))))]) (wr := []) C [0, 1] [] rfl rfl rfl rfl (by decide) (fun hp => vx_runV (rest := []) S (x_K_copy2 l D ca s0 a0 Z hl0 sx Xs d g sf k0 hk0 h b hsf k hno _) (cwV 2 hts (gV g_309 g_310 g_311 g_30 g_312) rfl rfl rfl (by decide +kernel) ⟨Nat.le_of_ble_eq_true rfl, Nat.le_of_ble_eq_true rfl⟩) ⟨hp.1, n_recv C 0 2 rfl rfl, hp.2⟩ rfl rfl hl.1 rfl (lv_room (Nat.le_of_ble_eq_true rfl)) dL_copy_3 ⟨Nat.le_of_ble_eq_true rfl, Nat.le_of_ble_eq_true rfl⟩) (fun q9 ce H locs C c1 c2 c3 => ?_)
  replace C : Cx D ca s0 A s [(d, .inr (2, kF g)), (g 4, .inl (ca 4, 4, .inr (.inr (.inr (.inr sf)))))] H locs := C.re [0, 1] rfl rfl
  refine n_catch S C Z htb 0 xc_0 [] ⟨0, 6, 9, 23⟩ [] rfl (fun z hz => nomatch hz) (by decide) (by decide) g_166 c1 c2 c3 ?_
  refine lv_astore_n hx hb dL_copy_9 rfl hl (Nat.le_of_ble_eq_true rfl) rfl (fun ls hl => ?_)
  replace hl : lv_has ls 4 [(3, .ref (q9)), (0, .ref (d)), (1, .int (nI k0)), (2, .int (k))] := hl
  refine lv_iconst (v := nI 1) hx hb dL_copy_10 (by decide) ?_
  exact ret (nI 1) (()) _ _ _ _ _ _ (Nat.le_of_ble_eq_true rfl) (Nat.le_of_ble_eq_true rfl) rfl C dL_copy_11
abbrev rm_L_copy_ok : Room := { frames := 3, cells := 0, slots := 0, locals := 104 }
set_option maxHeartbeats 4000000 in
set_option maxRecDepth 100000 in
theorem c_L_copy_ok (l : Launch) (D : va_G) (ca : Nat → ClassId) (s0 : State) (a0 : Array Value) (Z : Wd a0 s0) (d : Nat) (g : Nat → Nat) (sf : Nat → Option Nat) (k0 : Nat) (hk0 : k0 < 4) (h b : Nat) (hsf : sf k0 = some h) (k1 : Nat) (hk1 : k1 < 4) (h2 b2 : Nat) (hsf2 : sf k1 = some h2) (L : Nat → Int64) (kd wd pl en tk dn rm : Int32) (L2 : Nat → Int64) (kd2 wd2 pl2 en2 tk2 rm2 : Int32) (dn2 : Bool) : CtI l yL_copy [.codeWith yL_copy cL_copy 4 (some .int) [(0, 6, 9, 23)]] rm_L_copy_ok 0 0 D ca s0 [.ref (d), .int (nI k0), .int (nI k1)] [(d, .inr (2, kF g)), (g 4, .inl (ca 4, 4, .inr (.inr (.inr (.inr sf))))), (h, .inr (1, [.ref (b), .int (kd), .int (wd), .int (pl), .int (en), .int (tk), .int (dn), .int (rm)])), (b, .inl (ca 2, 25, .inr (.inl (L)))), (h2, .inr (1, [.ref (b2), .int (kd2), .int (wd2), .int (pl2), .int (en2), .int (tk2), .int (b2i dn2), .int (rm2)])), (b2, .inl (ca 2, 25, .inr (.inl (L2))))] (S := Nat → Int64) (fun r M => r = nI 0 ∧ kEq (lb M) (lb L2)) (fun u => [(d, .inr (2, kF g)), (g 4, .inl (ca 4, 4, .inr (.inr (.inr (.inr sf))))), (h, .inr (1, [.ref (b), .int (kd2), .int (wd2), .int (pl2), .int (en2), .int (tk2), .int (b2i dn2), .int (rm2)])), (b, .inl (ca 2, 25, .inr (.inl u))), (h2, .inr (1, [.ref (b2), .int (kd2), .int (wd2), .int (pl2), .int (en2), .int (tk2), .int (b2i dn2), .int (rm2)])), (b2, .inl (ca 2, 25, .inr (.inl (L2))))]) := by
  refine ctH_of (cc := cL_copy) (maxL := 4) (own := RL) (hh := [(0, 6, 9, 23)]) Z rfl (by decide) rfl (Nat.le_of_ble_eq_true rfl) ?_
  intro p e s m args below meth c A ls Q S htb ret C hl
  have hx := S.1
  have hb := S.2.1
  have hown := S.2.2.2.1
  have hts := S.2.2.2.2
  generalize s.heap = H at C ⊢
  generalize ([] : List Loc) = locs at C ⊢
  replace hl : lv_has ls 4 [(0, .ref (d)), (1, .int (nI k0)), (2, .int (nI k1))] := hl
  refine lv_aload_n hx hb dL_copy_0 rfl (lv_at hl 0 rfl) ?_
  refine lv_iload_n hx hb dL_copy_1 rfl (lv_at hl 1 rfl) ?_
  refine lv_iload_n hx hb dL_copy_2 rfl (lv_at hl 2 rfl) ?_
  refine n_callV (wc := [(d, .inr (2, kF g)), (g 4, .inl (ca 4, 4, .inr (.inr (.inr (.inr sf))))), (h, .inr (1, [.ref (b), .int (kd), .int (wd), .int (pl), .int (en), .int (tk), .int (dn), .int (rm)])), (b, .inl (ca 2, 25, .inr (.inl (L)))), (h2, .inr (1, [.ref (b2), .int (kd2), .int (wd2), .int (pl2), .int (en2), .int (tk2), .int (b2i dn2), .int (rm2)])), (b2, .inl (ca 2, 25, .inr (.inl (L2))))]) (wr := []) C [0, 1, 2, 3, 4, 5] [] rfl rfl rfl rfl (by decide) (fun hp => va_runV (rest := []) S (c_K_copy_ok l D ca s0 a0 Z d g sf k0 hk0 h b hsf k1 hk1 h2 b2 hsf2 L kd wd pl en tk dn rm L2 kd2 wd2 pl2 en2 tk2 rm2 dn2 _) (cwV 2 hts (gV g_309 g_310 g_311 g_30 g_312) rfl rfl rfl (by decide +kernel) ⟨Nat.le_of_ble_eq_true rfl, Nat.le_of_ble_eq_true rfl⟩) ⟨hp.1, n_recv C 0 2 rfl rfl, hp.2⟩ rfl rfl hl.1 rfl (lv_room (Nat.le_of_ble_eq_true rfl)) dL_copy_3 ⟨Nat.le_of_ble_eq_true rfl, Nat.le_of_ble_eq_true rfl⟩) (fun u H locs hp C => ?_)
  replace C : Cx D ca s0 A s [(d, .inr (2, kF g)), (g 4, .inl (ca 4, 4, .inr (.inr (.inr (.inr sf))))), (h, .inr (1, [.ref (b), .int (kd2), .int (wd2), .int (pl2), .int (en2), .int (tk2), .int (b2i dn2), .int (rm2)])), (b, .inl (ca 2, 25, .inr (.inl u))), (h2, .inr (1, [.ref (b2), .int (kd2), .int (wd2), .int (pl2), .int (en2), .int (tk2), .int (b2i dn2), .int (rm2)])), (b2, .inl (ca 2, 25, .inr (.inl (L2))))] H locs := C.re [0, 1, 2, 3, 4, 5] rfl rfl
  refine lv_goto (tgt := 12) hx hb dL_copy_6 (by decide) ?_
  refine lv_iconst (v := nI 0) hx hb dL_copy_12 (by decide) ?_
  exact ret (nI 0) u _ _ _ _ _ _ (Nat.le_of_ble_eq_true rfl) (Nat.le_of_ble_eq_true rfl) (⟨rfl, hp⟩) C dL_copy_13
abbrev rm_L_copy_self : Room := { frames := 3, cells := 0, slots := 0, locals := 104 }
set_option maxHeartbeats 4000000 in
set_option maxRecDepth 100000 in
theorem c_L_copy_self (l : Launch) (D : va_G) (ca : Nat → ClassId) (s0 : State) (a0 : Array Value) (Z : Wd a0 s0) (d : Nat) (g : Nat → Nat) (sf : Nat → Option Nat) (k0 : Nat) (hk0 : k0 < 4) (h b : Nat) (hsf : sf k0 = some h) (L : Nat → Int64) (kd wd pl en tk rm : Int32) (dn : Bool) : CtI l yL_copy [.codeWith yL_copy cL_copy 4 (some .int) [(0, 6, 9, 23)]] rm_L_copy_self 0 0 D ca s0 [.ref (d), .int (nI k0), .int (nI k0)] [(d, .inr (2, kF g)), (g 4, .inl (ca 4, 4, .inr (.inr (.inr (.inr sf))))), (h, .inr (1, [.ref (b), .int (kd), .int (wd), .int (pl), .int (en), .int (tk), .int (b2i dn), .int (rm)])), (b, .inl (ca 2, 25, .inr (.inl (L))))] (S := Nat → Int64) (fun r M => r = nI 0 ∧ kEq (lb M) (lb L)) (fun u => [(d, .inr (2, kF g)), (g 4, .inl (ca 4, 4, .inr (.inr (.inr (.inr sf))))), (h, .inr (1, [.ref (b), .int (kd), .int (wd), .int (pl), .int (en), .int (tk), .int (b2i dn), .int (rm)])), (b, .inl (ca 2, 25, .inr (.inl u)))]) := by
  refine ctH_of (cc := cL_copy) (maxL := 4) (own := RL) (hh := [(0, 6, 9, 23)]) Z rfl (by decide) rfl (Nat.le_of_ble_eq_true rfl) ?_
  intro p e s m args below meth c A ls Q S htb ret C hl
  have hx := S.1
  have hb := S.2.1
  have hown := S.2.2.2.1
  have hts := S.2.2.2.2
  generalize s.heap = H at C ⊢
  generalize ([] : List Loc) = locs at C ⊢
  replace hl : lv_has ls 4 [(0, .ref (d)), (1, .int (nI k0)), (2, .int (nI k0))] := hl
  refine lv_aload_n hx hb dL_copy_0 rfl (lv_at hl 0 rfl) ?_
  refine lv_iload_n hx hb dL_copy_1 rfl (lv_at hl 1 rfl) ?_
  refine lv_iload_n hx hb dL_copy_2 rfl (lv_at hl 2 rfl) ?_
  refine n_callV (wc := [(d, .inr (2, kF g)), (g 4, .inl (ca 4, 4, .inr (.inr (.inr (.inr sf))))), (h, .inr (1, [.ref (b), .int (kd), .int (wd), .int (pl), .int (en), .int (tk), .int (b2i dn), .int (rm)])), (b, .inl (ca 2, 25, .inr (.inl (L))))]) (wr := []) C [0, 1, 2, 3] [] rfl rfl rfl rfl (by decide) (fun hp => va_runV (rest := []) S (c_K_copy_self l D ca s0 a0 Z d g sf k0 hk0 h b hsf L kd wd pl en tk rm dn _) (cwV 2 hts (gV g_309 g_310 g_311 g_30 g_312) rfl rfl rfl (by decide +kernel) ⟨Nat.le_of_ble_eq_true rfl, Nat.le_of_ble_eq_true rfl⟩) ⟨hp.1, n_recv C 0 2 rfl rfl, hp.2⟩ rfl rfl hl.1 rfl (lv_room (Nat.le_of_ble_eq_true rfl)) dL_copy_3 ⟨Nat.le_of_ble_eq_true rfl, Nat.le_of_ble_eq_true rfl⟩) (fun u H locs hp C => ?_)
  replace C : Cx D ca s0 A s [(d, .inr (2, kF g)), (g 4, .inl (ca 4, 4, .inr (.inr (.inr (.inr sf))))), (h, .inr (1, [.ref (b), .int (kd), .int (wd), .int (pl), .int (en), .int (tk), .int (b2i dn), .int (rm)])), (b, .inl (ca 2, 25, .inr (.inl u)))] H locs := C.re [0, 1, 2, 3] rfl rfl
  refine lv_goto (tgt := 12) hx hb dL_copy_6 (by decide) ?_
  refine lv_iconst (v := nI 0) hx hb dL_copy_12 (by decide) ?_
  exact ret (nI 0) u _ _ _ _ _ _ (Nat.le_of_ble_eq_true rfl) (Nat.le_of_ble_eq_true rfl) (⟨rfl, hp⟩) C dL_copy_13
abbrev rm_L_same_no1 : Room := { frames := 8, cells := 1, slots := 6, locals := 136 }
set_option maxHeartbeats 4000000 in
set_option maxRecDepth 100000 in
theorem c_L_same_no1 (l : Launch) (D : va_G) (ca : Nat → ClassId) (s0 : State) (a0 : Array Value) (Z : Wd a0 s0) (hl0 : l.stackTraces = false) (sx : Nat → Nat) (Xs : XS sx s0) (d : Nat) (g : Nat → Nat) (k : Int32) (hno : ¬ (¬ k < 0 ∧ k < 4)) (y z : Int32) (Xn : XN s0) (o : Nat) (fo : Nat → Int64) : CtI l yL_same [.codeWith yL_same cL_same 6 (some .int) [(0, 19, 22, 23), (0, 19, 26, 13), (0, 19, 30, 28)]] rm_L_same_no1 1 6 D ca s0 [.ref (d), .int (k), .int (y), .int (z), .ref (o)] [(d, .inr (2, kF g)), (o, .inl (ca 2, 1, .inr (.inl (fo))))] (S := Unit) (fun r _ => r = nI 1) (fun _ => [(d, .inr (2, kF g)), (o, .inl (ca 2, 1, .inr (.inl (fo))))]) := by
  refine ctH_of (cc := cL_same) (maxL := 6) (own := RL) (hh := [(0, 19, 22, 23), (0, 19, 26, 13), (0, 19, 30, 28)]) Z rfl (by decide) rfl (Nat.le_of_ble_eq_true rfl) ?_
  intro p e s m args below meth c A ls Q S htb ret C hl
  have hx := S.1
  have hb := S.2.1
  have hown := S.2.2.2.1
  have hts := S.2.2.2.2
  generalize s.heap = H at C ⊢
  generalize ([] : List Loc) = locs at C ⊢
  replace hl : lv_has ls 6 [(0, .ref (d)), (1, .int (k)), (2, .int (y)), (3, .int (z)), (4, .ref (o))] := hl
  refine lv_aload hx hb dL_same_0 (lv_at hl 4 rfl) ?_
  refine lv_iconst (v := nI 0) hx hb dL_same_2 (by decide) ?_
  refine lv_aload_n hx hb dL_same_3 rfl (lv_at hl 0 rfl) ?_
  refine lv_iload_n hx hb dL_same_4 rfl (lv_at hl 1 rfl) ?_
  refine lv_iload_n hx hb dL_same_5 rfl (lv_at hl 2 rfl) ?_
  refine lv_iload_n hx hb dL_same_6 rfl (lv_at hl 3 rfl) ?_
  refine n_callX (wc := [(d, .inr (2, kF g))]) (wr := [(o, .inl (ca 2, 1, .inr (.inl (fo))))]) C [0] [1] rfl rfl rfl rfl (by decide) (fun hp => vx_runV (rest := [.int (nI 0), .ref (o)]) S (x_K_same1 l D ca s0 a0 Z hl0 sx Xs d g k hno y z _) (cwV 3 hts (gV g_328 g_329 g_330 g_30 g_331) rfl rfl rfl (by decide +kernel) ⟨Nat.le_of_ble_eq_true rfl, Nat.le_of_ble_eq_true rfl⟩) ⟨hp.1, n_recv C 0 2 rfl rfl, hp.2⟩ rfl rfl hl.1 rfl (lv_room (Nat.le_of_ble_eq_true rfl)) dL_same_7 ⟨Nat.le_of_ble_eq_true rfl, Nat.le_of_ble_eq_true rfl⟩) (fun q9 ce H locs C c1 c2 c3 => ?_)
  replace C : Cx D ca s0 A s [(d, .inr (2, kF g)), (o, .inl (ca 2, 1, .inr (.inl (fo))))] H locs := C.re [1, 0] rfl rfl
  refine n_catch S C Z htb 0 xc_0 [] ⟨0, 19, 22, 23⟩ [⟨0, 19, 26, 13⟩, ⟨0, 19, 30, 28⟩] rfl (fun z hz => nomatch hz) (by decide) (by decide) g_166 c1 c2 c3 ?_
  refine lv_astore hx hb dL_same_22 hl (Nat.le_of_ble_eq_true rfl) rfl (fun ls hl => ?_)
  replace hl : lv_has ls 6 [(5, .ref (q9)), (0, .ref (d)), (1, .int (k)), (2, .int (y)), (3, .int (z)), (4, .ref (o))] := hl
  refine lv_iconst (v := nI 1) hx hb dL_same_24 (by decide) ?_
  exact ret (nI 1) (()) _ _ _ _ _ _ (Nat.le_of_ble_eq_true rfl) (Nat.le_of_ble_eq_true rfl) rfl C dL_same_25
abbrev rm_L_same_no1b : Room := { frames := 8, cells := 1, slots := 6, locals := 136 }
set_option maxHeartbeats 4000000 in
set_option maxRecDepth 100000 in
theorem c_L_same_no1b (l : Launch) (D : va_G) (ca : Nat → ClassId) (s0 : State) (a0 : Array Value) (Z : Wd a0 s0) (hl0 : l.stackTraces = false) (sx : Nat → Nat) (Xs : XS sx s0) (d : Nat) (g : Nat → Nat) (sf : Nat → Option Nat) (k0 : Nat) (hk0 : k0 < 4) (h b : Nat) (hsf : sf k0 = some h) (k : Int32) (hno : ¬ (¬ k < 0 ∧ k < 4)) (z : Int32) (Xn : XN s0) (o : Nat) (fo : Nat → Int64) : CtI l yL_same [.codeWith yL_same cL_same 6 (some .int) [(0, 19, 22, 23), (0, 19, 26, 13), (0, 19, 30, 28)]] rm_L_same_no1b 1 6 D ca s0 [.ref (d), .int (nI k0), .int (k), .int (z), .ref (o)] [(d, .inr (2, kF g)), (g 4, .inl (ca 4, 4, .inr (.inr (.inr (.inr sf))))), (o, .inl (ca 2, 1, .inr (.inl (fo))))] (S := Unit) (fun r _ => r = nI 1) (fun _ => [(d, .inr (2, kF g)), (g 4, .inl (ca 4, 4, .inr (.inr (.inr (.inr sf))))), (o, .inl (ca 2, 1, .inr (.inl (fo))))]) := by
  refine ctH_of (cc := cL_same) (maxL := 6) (own := RL) (hh := [(0, 19, 22, 23), (0, 19, 26, 13), (0, 19, 30, 28)]) Z rfl (by decide) rfl (Nat.le_of_ble_eq_true rfl) ?_
  intro p e s m args below meth c A ls Q S htb ret C hl
  have hx := S.1
  have hb := S.2.1
  have hown := S.2.2.2.1
  have hts := S.2.2.2.2
  generalize s.heap = H at C ⊢
  generalize ([] : List Loc) = locs at C ⊢
  replace hl : lv_has ls 6 [(0, .ref (d)), (1, .int (nI k0)), (2, .int (k)), (3, .int (z)), (4, .ref (o))] := hl
  refine lv_aload hx hb dL_same_0 (lv_at hl 4 rfl) ?_
  refine lv_iconst (v := nI 0) hx hb dL_same_2 (by decide) ?_
  refine lv_aload_n hx hb dL_same_3 rfl (lv_at hl 0 rfl) ?_
  refine lv_iload_n hx hb dL_same_4 rfl (lv_at hl 1 rfl) ?_
  refine lv_iload_n hx hb dL_same_5 rfl (lv_at hl 2 rfl) ?_
  refine lv_iload_n hx hb dL_same_6 rfl (lv_at hl 3 rfl) ?_
  refine n_callX (wc := [(d, .inr (2, kF g)), (g 4, .inl (ca 4, 4, .inr (.inr (.inr (.inr sf)))))]) (wr := [(o, .inl (ca 2, 1, .inr (.inl (fo))))]) C [0, 1] [2] rfl rfl rfl rfl (by decide) (fun hp => vx_runV (rest := [.int (nI 0), .ref (o)]) S (x_K_same1b l D ca s0 a0 Z hl0 sx Xs d g sf k0 hk0 h b hsf k hno z _) (cwV 3 hts (gV g_328 g_329 g_330 g_30 g_331) rfl rfl rfl (by decide +kernel) ⟨Nat.le_of_ble_eq_true rfl, Nat.le_of_ble_eq_true rfl⟩) ⟨hp.1, n_recv C 0 2 rfl rfl, hp.2⟩ rfl rfl hl.1 rfl (lv_room (Nat.le_of_ble_eq_true rfl)) dL_same_7 ⟨Nat.le_of_ble_eq_true rfl, Nat.le_of_ble_eq_true rfl⟩) (fun q9 ce H locs C c1 c2 c3 => ?_)
  replace C : Cx D ca s0 A s [(d, .inr (2, kF g)), (g 4, .inl (ca 4, 4, .inr (.inr (.inr (.inr sf))))), (o, .inl (ca 2, 1, .inr (.inl (fo))))] H locs := C.re [1, 2, 0] rfl rfl
  refine n_catch S C Z htb 0 xc_0 [] ⟨0, 19, 22, 23⟩ [⟨0, 19, 26, 13⟩, ⟨0, 19, 30, 28⟩] rfl (fun z hz => nomatch hz) (by decide) (by decide) g_166 c1 c2 c3 ?_
  refine lv_astore hx hb dL_same_22 hl (Nat.le_of_ble_eq_true rfl) rfl (fun ls hl => ?_)
  replace hl : lv_has ls 6 [(5, .ref (q9)), (0, .ref (d)), (1, .int (nI k0)), (2, .int (k)), (3, .int (z)), (4, .ref (o))] := hl
  refine lv_iconst (v := nI 1) hx hb dL_same_24 (by decide) ?_
  exact ret (nI 1) (()) _ _ _ _ _ _ (Nat.le_of_ble_eq_true rfl) (Nat.le_of_ble_eq_true rfl) rfl C dL_same_25
abbrev rm_L_same_no2 : Room := { frames := 8, cells := 1, slots := 6, locals := 135 }
set_option maxHeartbeats 4000000 in
set_option maxRecDepth 100000 in
theorem c_L_same_no2 (l : Launch) (D : va_G) (ca : Nat → ClassId) (s0 : State) (a0 : Array Value) (Z : Wd a0 s0) (hl0 : l.stackTraces = false) (sx : Nat → Nat) (Xs : XS sx s0) (d : Nat) (g : Nat → Nat) (sf : Nat → Option Nat) (k0 : Nat) (hk0 : k0 < 4) (h b : Nat) (hsf : sf k0 = some h) (k1 : Nat) (hk1 : k1 < 4) (h2 b2 : Nat) (hsf2 : sf k1 = some h2) (y : Int32) (hr : y < nI 1 ∨ nI 64 < y) (Xn : XN s0) (o : Nat) (fo : Nat → Int64) : CtI l yL_same [.codeWith yL_same cL_same 6 (some .int) [(0, 19, 22, 23), (0, 19, 26, 13), (0, 19, 30, 28)]] rm_L_same_no2 1 6 D ca s0 [.ref (d), .int (nI k0), .int (nI k1), .int (y), .ref (o)] [(d, .inr (2, kF g)), (g 4, .inl (ca 4, 4, .inr (.inr (.inr (.inr sf))))), (o, .inl (ca 2, 1, .inr (.inl (fo))))] (S := Unit) (fun r _ => r = nI 2) (fun _ => [(d, .inr (2, kF g)), (g 4, .inl (ca 4, 4, .inr (.inr (.inr (.inr sf))))), (o, .inl (ca 2, 1, .inr (.inl (fo))))]) := by
  refine ctH_of (cc := cL_same) (maxL := 6) (own := RL) (hh := [(0, 19, 22, 23), (0, 19, 26, 13), (0, 19, 30, 28)]) Z rfl (by decide) rfl (Nat.le_of_ble_eq_true rfl) ?_
  intro p e s m args below meth c A ls Q S htb ret C hl
  have hx := S.1
  have hb := S.2.1
  have hown := S.2.2.2.1
  have hts := S.2.2.2.2
  generalize s.heap = H at C ⊢
  generalize ([] : List Loc) = locs at C ⊢
  replace hl : lv_has ls 6 [(0, .ref (d)), (1, .int (nI k0)), (2, .int (nI k1)), (3, .int (y)), (4, .ref (o))] := hl
  refine lv_aload hx hb dL_same_0 (lv_at hl 4 rfl) ?_
  refine lv_iconst (v := nI 0) hx hb dL_same_2 (by decide) ?_
  refine lv_aload_n hx hb dL_same_3 rfl (lv_at hl 0 rfl) ?_
  refine lv_iload_n hx hb dL_same_4 rfl (lv_at hl 1 rfl) ?_
  refine lv_iload_n hx hb dL_same_5 rfl (lv_at hl 2 rfl) ?_
  refine lv_iload_n hx hb dL_same_6 rfl (lv_at hl 3 rfl) ?_
  refine n_callX (wc := [(d, .inr (2, kF g)), (g 4, .inl (ca 4, 4, .inr (.inr (.inr (.inr sf)))))]) (wr := [(o, .inl (ca 2, 1, .inr (.inl (fo))))]) C [0, 1] [2] rfl rfl rfl rfl (by decide) (fun hp => vx_runV (rest := [.int (nI 0), .ref (o)]) S (x_K_same2 l D ca s0 a0 Z hl0 sx Xs d g sf k0 hk0 h b hsf k1 hk1 h2 b2 hsf2 y hr _) (cwV 3 hts (gV g_328 g_329 g_330 g_30 g_331) rfl rfl rfl (by decide +kernel) ⟨Nat.le_of_ble_eq_true rfl, Nat.le_of_ble_eq_true rfl⟩) ⟨hp.1, n_recv C 0 2 rfl rfl, hp.2⟩ rfl rfl hl.1 rfl (lv_room (Nat.le_of_ble_eq_true rfl)) dL_same_7 ⟨Nat.le_of_ble_eq_true rfl, Nat.le_of_ble_eq_true rfl⟩) (fun q9 ce H locs C c1 c2 c3 => ?_)
  replace C : Cx D ca s0 A s [(d, .inr (2, kF g)), (g 4, .inl (ca 4, 4, .inr (.inr (.inr (.inr sf))))), (o, .inl (ca 2, 1, .inr (.inl (fo))))] H locs := C.re [1, 2, 0] rfl rfl
  refine n_catch S C Z htb 1 xc_1 [⟨0, 19, 22, 23⟩] ⟨0, 19, 26, 13⟩ [⟨0, 19, 30, 28⟩] rfl (List.forall_mem_cons.mpr ⟨⟨by decide, _, g_166, Xn.1⟩, fun z hz => nomatch hz⟩) (by decide) (by decide) g_96 c1 c2 c3 ?_
  refine lv_astore hx hb dL_same_26 hl (Nat.le_of_ble_eq_true rfl) rfl (fun ls hl => ?_)
  replace hl : lv_has ls 6 [(5, .ref (q9)), (0, .ref (d)), (1, .int (nI k0)), (2, .int (nI k1)), (3, .int (y)), (4, .ref (o))] := hl
  refine lv_iconst (v := nI 2) hx hb dL_same_28 (by decide) ?_
  exact ret (nI 2) (()) _ _ _ _ _ _ (Nat.le_of_ble_eq_true rfl) (Nat.le_of_ble_eq_true rfl) rfl C dL_same_29
abbrev rm_L_same_no3 : Room := { frames := 8, cells := 1, slots := 6, locals := 135 }
set_option maxHeartbeats 4000000 in
set_option maxRecDepth 100000 in
theorem c_L_same_no3 (l : Launch) (D : va_G) (ca : Nat → ClassId) (s0 : State) (a0 : Array Value) (Z : Wd a0 s0) (hl0 : l.stackTraces = false) (sx : Nat → Nat) (Xs : XS sx s0) (d : Nat) (g : Nat → Nat) (sf : Nat → Option Nat) (k0 : Nat) (hk0 : k0 < 4) (h b : Nat) (hsf : sf k0 = some h) (k1 : Nat) (hk1 : k1 < 4) (h2 b2 : Nat) (hsf2 : sf k1 = some h2) (kd wd pl en tk rm : Int32) (dn : Bool) (kd2 wd2 pl2 en2 tk2 rm2 : Int32) (dn2 : Bool) (n : Nat) (hn1 : 1 ≤ n) (hn : n ≤ 64) (hcn : canG dn rm (nI n) = false ∨ canG dn2 rm2 (nI n) = false) (Xn : XN s0) (o : Nat) (fo : Nat → Int64) : CtI l yL_same [.codeWith yL_same cL_same 6 (some .int) [(0, 19, 22, 23), (0, 19, 26, 13), (0, 19, 30, 28)]] rm_L_same_no3 1 6 D ca s0 [.ref (d), .int (nI k0), .int (nI k1), .int (nI n), .ref (o)] [(d, .inr (2, kF g)), (g 4, .inl (ca 4, 4, .inr (.inr (.inr (.inr sf))))), (h, .inr (1, [.ref (b), .int (kd), .int (wd), .int (pl), .int (en), .int (tk), .int (b2i dn), .int (rm)])), (h2, .inr (1, [.ref (b2), .int (kd2), .int (wd2), .int (pl2), .int (en2), .int (tk2), .int (b2i dn2), .int (rm2)])), (o, .inl (ca 2, 1, .inr (.inl (fo))))] (S := Unit) (fun r _ => r = nI 3) (fun _ => [(d, .inr (2, kF g)), (g 4, .inl (ca 4, 4, .inr (.inr (.inr (.inr sf))))), (h, .inr (1, [.ref (b), .int (kd), .int (wd), .int (pl), .int (en), .int (tk), .int (b2i dn), .int (rm)])), (h2, .inr (1, [.ref (b2), .int (kd2), .int (wd2), .int (pl2), .int (en2), .int (tk2), .int (b2i dn2), .int (rm2)])), (o, .inl (ca 2, 1, .inr (.inl (fo))))]) := by
  refine ctH_of (cc := cL_same) (maxL := 6) (own := RL) (hh := [(0, 19, 22, 23), (0, 19, 26, 13), (0, 19, 30, 28)]) Z rfl (by decide) rfl (Nat.le_of_ble_eq_true rfl) ?_
  intro p e s m args below meth c A ls Q S htb ret C hl
  have hx := S.1
  have hb := S.2.1
  have hown := S.2.2.2.1
  have hts := S.2.2.2.2
  generalize s.heap = H at C ⊢
  generalize ([] : List Loc) = locs at C ⊢
  replace hl : lv_has ls 6 [(0, .ref (d)), (1, .int (nI k0)), (2, .int (nI k1)), (3, .int (nI n)), (4, .ref (o))] := hl
  refine lv_aload hx hb dL_same_0 (lv_at hl 4 rfl) ?_
  refine lv_iconst (v := nI 0) hx hb dL_same_2 (by decide) ?_
  refine lv_aload_n hx hb dL_same_3 rfl (lv_at hl 0 rfl) ?_
  refine lv_iload_n hx hb dL_same_4 rfl (lv_at hl 1 rfl) ?_
  refine lv_iload_n hx hb dL_same_5 rfl (lv_at hl 2 rfl) ?_
  refine lv_iload_n hx hb dL_same_6 rfl (lv_at hl 3 rfl) ?_
  refine n_callX (wc := [(d, .inr (2, kF g)), (g 4, .inl (ca 4, 4, .inr (.inr (.inr (.inr sf))))), (h, .inr (1, [.ref (b), .int (kd), .int (wd), .int (pl), .int (en), .int (tk), .int (b2i dn), .int (rm)])), (h2, .inr (1, [.ref (b2), .int (kd2), .int (wd2), .int (pl2), .int (en2), .int (tk2), .int (b2i dn2), .int (rm2)]))]) (wr := [(o, .inl (ca 2, 1, .inr (.inl (fo))))]) C [0, 1, 2, 3] [4] rfl rfl rfl rfl (by decide) (fun hp => vx_runV (rest := [.int (nI 0), .ref (o)]) S (x_K_same3 l D ca s0 a0 Z hl0 sx Xs d g sf k0 hk0 h b hsf k1 hk1 h2 b2 hsf2 kd wd pl en tk rm dn kd2 wd2 pl2 en2 tk2 rm2 dn2 n hn1 hn hcn _) (cwV 3 hts (gV g_328 g_329 g_330 g_30 g_331) rfl rfl rfl (by decide +kernel) ⟨Nat.le_of_ble_eq_true rfl, Nat.le_of_ble_eq_true rfl⟩) ⟨hp.1, n_recv C 0 2 rfl rfl, hp.2⟩ rfl rfl hl.1 rfl (lv_room (Nat.le_of_ble_eq_true rfl)) dL_same_7 ⟨Nat.le_of_ble_eq_true rfl, Nat.le_of_ble_eq_true rfl⟩) (fun q9 ce H locs C c1 c2 c3 => ?_)
  replace C : Cx D ca s0 A s [(d, .inr (2, kF g)), (g 4, .inl (ca 4, 4, .inr (.inr (.inr (.inr sf))))), (h, .inr (1, [.ref (b), .int (kd), .int (wd), .int (pl), .int (en), .int (tk), .int (b2i dn), .int (rm)])), (h2, .inr (1, [.ref (b2), .int (kd2), .int (wd2), .int (pl2), .int (en2), .int (tk2), .int (b2i dn2), .int (rm2)])), (o, .inl (ca 2, 1, .inr (.inl (fo))))] H locs := C.re [1, 2, 3, 4, 0] rfl rfl
  refine n_catch S C Z htb 2 xc_2 [⟨0, 19, 22, 23⟩, ⟨0, 19, 26, 13⟩] ⟨0, 19, 30, 28⟩ [] rfl (List.forall_mem_cons.mpr ⟨⟨by decide, _, g_166, Xn.2.1⟩, List.forall_mem_cons.mpr ⟨⟨by decide, _, g_96, Xn.2.2⟩, fun z hz => nomatch hz⟩⟩) (by decide) (by decide) g_232 c1 c2 c3 ?_
  refine lv_astore hx hb dL_same_30 hl (Nat.le_of_ble_eq_true rfl) rfl (fun ls hl => ?_)
  replace hl : lv_has ls 6 [(5, .ref (q9)), (0, .ref (d)), (1, .int (nI k0)), (2, .int (nI k1)), (3, .int (nI n)), (4, .ref (o))] := hl
  refine lv_iconst (v := nI 3) hx hb dL_same_32 (by decide) ?_
  exact ret (nI 3) (()) _ _ _ _ _ _ (Nat.le_of_ble_eq_true rfl) (Nat.le_of_ble_eq_true rfl) rfl C dL_same_33
abbrev rm_L_same_no3s : Room := { frames := 8, cells := 1, slots := 6, locals := 135 }
set_option maxHeartbeats 4000000 in
set_option maxRecDepth 100000 in
theorem c_L_same_no3s (l : Launch) (D : va_G) (ca : Nat → ClassId) (s0 : State) (a0 : Array Value) (Z : Wd a0 s0) (hl0 : l.stackTraces = false) (sx : Nat → Nat) (Xs : XS sx s0) (d : Nat) (g : Nat → Nat) (sf : Nat → Option Nat) (k0 : Nat) (hk0 : k0 < 4) (h b : Nat) (hsf : sf k0 = some h) (kd wd pl en tk rm : Int32) (dn : Bool) (n : Nat) (hn1 : 1 ≤ n) (hn : n ≤ 64) (hcn : canG dn rm (nI n) = false) (Xn : XN s0) (o : Nat) (fo : Nat → Int64) : CtI l yL_same [.codeWith yL_same cL_same 6 (some .int) [(0, 19, 22, 23), (0, 19, 26, 13), (0, 19, 30, 28)]] rm_L_same_no3s 1 6 D ca s0 [.ref (d), .int (nI k0), .int (nI k0), .int (nI n), .ref (o)] [(d, .inr (2, kF g)), (g 4, .inl (ca 4, 4, .inr (.inr (.inr (.inr sf))))), (h, .inr (1, [.ref (b), .int (kd), .int (wd), .int (pl), .int (en), .int (tk), .int (b2i dn), .int (rm)])), (o, .inl (ca 2, 1, .inr (.inl (fo))))] (S := Unit) (fun r _ => r = nI 3) (fun _ => [(d, .inr (2, kF g)), (g 4, .inl (ca 4, 4, .inr (.inr (.inr (.inr sf))))), (h, .inr (1, [.ref (b), .int (kd), .int (wd), .int (pl), .int (en), .int (tk), .int (b2i dn), .int (rm)])), (o, .inl (ca 2, 1, .inr (.inl (fo))))]) := by
  refine ctH_of (cc := cL_same) (maxL := 6) (own := RL) (hh := [(0, 19, 22, 23), (0, 19, 26, 13), (0, 19, 30, 28)]) Z rfl (by decide) rfl (Nat.le_of_ble_eq_true rfl) ?_
  intro p e s m args below meth c A ls Q S htb ret C hl
  have hx := S.1
  have hb := S.2.1
  have hown := S.2.2.2.1
  have hts := S.2.2.2.2
  generalize s.heap = H at C ⊢
  generalize ([] : List Loc) = locs at C ⊢
  replace hl : lv_has ls 6 [(0, .ref (d)), (1, .int (nI k0)), (2, .int (nI k0)), (3, .int (nI n)), (4, .ref (o))] := hl
  refine lv_aload hx hb dL_same_0 (lv_at hl 4 rfl) ?_
  refine lv_iconst (v := nI 0) hx hb dL_same_2 (by decide) ?_
  refine lv_aload_n hx hb dL_same_3 rfl (lv_at hl 0 rfl) ?_
  refine lv_iload_n hx hb dL_same_4 rfl (lv_at hl 1 rfl) ?_
  refine lv_iload_n hx hb dL_same_5 rfl (lv_at hl 2 rfl) ?_
  refine lv_iload_n hx hb dL_same_6 rfl (lv_at hl 3 rfl) ?_
  refine n_callX (wc := [(d, .inr (2, kF g)), (g 4, .inl (ca 4, 4, .inr (.inr (.inr (.inr sf))))), (h, .inr (1, [.ref (b), .int (kd), .int (wd), .int (pl), .int (en), .int (tk), .int (b2i dn), .int (rm)]))]) (wr := [(o, .inl (ca 2, 1, .inr (.inl (fo))))]) C [0, 1, 2] [3] rfl rfl rfl rfl (by decide) (fun hp => vx_runV (rest := [.int (nI 0), .ref (o)]) S (x_K_same3s l D ca s0 a0 Z hl0 sx Xs d g sf k0 hk0 h b hsf kd wd pl en tk rm dn n hn1 hn hcn _) (cwV 3 hts (gV g_328 g_329 g_330 g_30 g_331) rfl rfl rfl (by decide +kernel) ⟨Nat.le_of_ble_eq_true rfl, Nat.le_of_ble_eq_true rfl⟩) ⟨hp.1, n_recv C 0 2 rfl rfl, hp.2⟩ rfl rfl hl.1 rfl (lv_room (Nat.le_of_ble_eq_true rfl)) dL_same_7 ⟨Nat.le_of_ble_eq_true rfl, Nat.le_of_ble_eq_true rfl⟩) (fun q9 ce H locs C c1 c2 c3 => ?_)
  replace C : Cx D ca s0 A s [(d, .inr (2, kF g)), (g 4, .inl (ca 4, 4, .inr (.inr (.inr (.inr sf))))), (h, .inr (1, [.ref (b), .int (kd), .int (wd), .int (pl), .int (en), .int (tk), .int (b2i dn), .int (rm)])), (o, .inl (ca 2, 1, .inr (.inl (fo))))] H locs := C.re [1, 2, 3, 0] rfl rfl
  refine n_catch S C Z htb 2 xc_2 [⟨0, 19, 22, 23⟩, ⟨0, 19, 26, 13⟩] ⟨0, 19, 30, 28⟩ [] rfl (List.forall_mem_cons.mpr ⟨⟨by decide, _, g_166, Xn.2.1⟩, List.forall_mem_cons.mpr ⟨⟨by decide, _, g_96, Xn.2.2⟩, fun z hz => nomatch hz⟩⟩) (by decide) (by decide) g_232 c1 c2 c3 ?_
  refine lv_astore hx hb dL_same_30 hl (Nat.le_of_ble_eq_true rfl) rfl (fun ls hl => ?_)
  replace hl : lv_has ls 6 [(5, .ref (q9)), (0, .ref (d)), (1, .int (nI k0)), (2, .int (nI k0)), (3, .int (nI n)), (4, .ref (o))] := hl
  refine lv_iconst (v := nI 3) hx hb dL_same_32 (by decide) ?_
  exact ret (nI 3) (()) _ _ _ _ _ _ (Nat.le_of_ble_eq_true rfl) (Nat.le_of_ble_eq_true rfl) rfl C dL_same_33
abbrev rm_L_same_ok : Room := { frames := 5, cells := 0, slots := 0, locals := 131 }
set_option maxHeartbeats 4000000 in
set_option maxRecDepth 100000 in
theorem c_L_same_ok (l : Launch) (D : va_G) (ca : Nat → ClassId) (s0 : State) (a0 : Array Value) (Z : Wd a0 s0) (tz : Nat → Nat) (Zs : ZS tz s0) (d : Nat) (g : Nat → Nat) (sf : Nat → Option Nat) (k0 : Nat) (hk0 : k0 < 4) (h b : Nat) (hsf : sf k0 = some h) (L : Nat → Int64) (en tk rm : Int32) (k : Nat) (hk : k < 16) (c0 : Co) (hL : kEq (lb L) c0.1) (hp0 : c0.2 ≤ wid k) (n : Nat) (hn1 : 1 ≤ n) (hn : n ≤ 64) (hcg : canG true rm (nI n) = true) (k1 : Nat) (hk1 : k1 < 4) (h2 b2 : Nat) (hsf2 : sf k1 = some h2) (L2 : Nat → Int64) (en2 tk2 rm2 : Int32) (j0 : Nat) (hj0 : j0 < 16) (d0 : Co) (hL2 : kEq (lb L2) d0.1) (hq0 : d0.2 ≤ wid j0) (hcg2 : canG true rm2 (nI n) = true) (b5 b6 : Nat) (L5 L6 : Nat → Int64) (z0 z1 z2 z3 z4 z5 z6 y0 y1 y2 y3 y4 y5 y6 : Int32) (o : Nat) (fo : Nat → Int64) : CtI l yL_same [.codeWith yL_same cL_same 6 (some .int) [(0, 19, 22, 23), (0, 19, 26, 13), (0, 19, 30, 28)]] rm_L_same_ok 0 0 D ca s0 [.ref (d), .int (nI k0), .int (nI k1), .int (nI n), .ref (o)] [(d, .inr (2, kF g)), (g 4, .inl (ca 4, 4, .inr (.inr (.inr (.inr sf))))), (h, .inr (1, [.ref (b), .int (nI k), .int (nI (wid k)), .int (nI (c0.2)), .int (en), .int (tk), .int (b2i true), .int (rm)])), (b, .inl (ca 2, 25, .inr (.inl (L)))), (h2, .inr (1, [.ref (b2), .int (nI j0), .int (nI (wid j0)), .int (nI (d0.2)), .int (en2), .int (tk2), .int (b2i true), .int (rm2)])), (b2, .inl (ca 2, 25, .inr (.inl (L2)))), (g 5, .inr (1, [.ref (b5), .int (z0), .int (z1), .int (z2), .int (z3), .int (z4), .int (z5), .int (z6)])), (b5, .inl (ca 2, 25, .inr (.inl (L5)))), (g 6, .inr (1, [.ref (b6), .int (y0), .int (y1), .int (y2), .int (y3), .int (y4), .int (y5), .int (y6)])), (b6, .inl (ca 2, 25, .inr (.inl (L6)))), (o, .inl (ca 2, 1, .inr (.inl (fo))))] (S := (Nat → Int64) × (Nat → Int64) × Int32 × Int32) (fun r _ => r = nI 0) (fun u => [(d, .inr (2, kF g)), (g 4, .inl (ca 4, 4, .inr (.inr (.inr (.inr sf))))), (h, .inr (1, [.ref (b), .int (nI k), .int (nI (wid k)), .int (nI (c0.2)), .int (en), .int (tk), .int (b2i true), .int (rm)])), (b, .inl (ca 2, 25, .inr (.inl (L)))), (h2, .inr (1, [.ref (b2), .int (nI j0), .int (nI (wid j0)), .int (nI (d0.2)), .int (en2), .int (tk2), .int (b2i true), .int (rm2)])), (b2, .inl (ca 2, 25, .inr (.inl (L2)))), (g 5, .inr (1, [.ref (b5), .int (nI k), .int (nI (wid k)), .int (u.2.2.1), .int (en), .int (tk), .int (b2i true), .int (rm)])), (b5, .inl (ca 2, 25, .inr (.inl (u.1)))), (g 6, .inr (1, [.ref (b6), .int (nI j0), .int (nI (wid j0)), .int (u.2.2.2), .int (en2), .int (tk2), .int (b2i true), .int (rm2)])), (b6, .inl (ca 2, 25, .inr (.inl (u.2.1)))), (o, .inl (ca 2, 1, .inr (.inl (vp_updL fo 0 (bL (eqB (wid k) c0 (wid j0) d0 n))))))]) := by
  refine ctH_of (cc := cL_same) (maxL := 6) (own := RL) (hh := [(0, 19, 22, 23), (0, 19, 26, 13), (0, 19, 30, 28)]) Z rfl (by decide) rfl (Nat.le_of_ble_eq_true rfl) ?_
  intro p e s m args below meth c A ls Q S htb ret C hl
  have hx := S.1
  have hb := S.2.1
  have hown := S.2.2.2.1
  have hts := S.2.2.2.2
  generalize s.heap = H at C ⊢
  generalize ([] : List Loc) = locs at C ⊢
  replace hl : lv_has ls 6 [(0, .ref (d)), (1, .int (nI k0)), (2, .int (nI k1)), (3, .int (nI n)), (4, .ref (o))] := hl
  refine lv_aload hx hb dL_same_0 (lv_at hl 4 rfl) ?_
  refine lv_iconst (v := nI 0) hx hb dL_same_2 (by decide) ?_
  refine lv_aload_n hx hb dL_same_3 rfl (lv_at hl 0 rfl) ?_
  refine lv_iload_n hx hb dL_same_4 rfl (lv_at hl 1 rfl) ?_
  refine lv_iload_n hx hb dL_same_5 rfl (lv_at hl 2 rfl) ?_
  refine lv_iload_n hx hb dL_same_6 rfl (lv_at hl 3 rfl) ?_
  refine n_callI (wc := [(d, .inr (2, kF g)), (g 4, .inl (ca 4, 4, .inr (.inr (.inr (.inr sf))))), (h, .inr (1, [.ref (b), .int (nI k), .int (nI (wid k)), .int (nI (c0.2)), .int (en), .int (tk), .int (b2i true), .int (rm)])), (b, .inl (ca 2, 25, .inr (.inl (L)))), (h2, .inr (1, [.ref (b2), .int (nI j0), .int (nI (wid j0)), .int (nI (d0.2)), .int (en2), .int (tk2), .int (b2i true), .int (rm2)])), (b2, .inl (ca 2, 25, .inr (.inl (L2)))), (g 5, .inr (1, [.ref (b5), .int (z0), .int (z1), .int (z2), .int (z3), .int (z4), .int (z5), .int (z6)])), (b5, .inl (ca 2, 25, .inr (.inl (L5)))), (g 6, .inr (1, [.ref (b6), .int (y0), .int (y1), .int (y2), .int (y3), .int (y4), .int (y5), .int (y6)])), (b6, .inl (ca 2, 25, .inr (.inl (L6))))]) (wr := [(o, .inl (ca 2, 1, .inr (.inl (fo))))]) C [0, 1, 2, 3, 4, 5, 6, 7, 8, 9] [10] rfl rfl rfl rfl (by decide) (fun hp => va_runV (rest := [.int (nI 0), .ref (o)]) S (c_K_same_ok l D ca s0 a0 Z tz Zs d g sf k0 hk0 h b hsf L en tk rm k hk c0 hL hp0 n hn1 hn hcg k1 hk1 h2 b2 hsf2 L2 en2 tk2 rm2 j0 hj0 d0 hL2 hq0 hcg2 b5 b6 L5 L6 z0 z1 z2 z3 z4 z5 z6 y0 y1 y2 y3 y4 y5 y6 _) (cwV 3 hts (gV g_328 g_329 g_330 g_30 g_331) rfl rfl rfl (by decide +kernel) ⟨Nat.le_of_ble_eq_true rfl, Nat.le_of_ble_eq_true rfl⟩) ⟨hp.1, n_recv C 0 2 rfl rfl, hp.2⟩ rfl rfl hl.1 rfl (lv_room (Nat.le_of_ble_eq_true rfl)) dL_same_7 ⟨Nat.le_of_ble_eq_true rfl, Nat.le_of_ble_eq_true rfl⟩) (fun r u H locs hp C => ?_)
  replace C : Cx D ca s0 A s [(d, .inr (2, kF g)), (g 4, .inl (ca 4, 4, .inr (.inr (.inr (.inr sf))))), (h, .inr (1, [.ref (b), .int (nI k), .int (nI (wid k)), .int (nI (c0.2)), .int (en), .int (tk), .int (b2i true), .int (rm)])), (b, .inl (ca 2, 25, .inr (.inl (L)))), (h2, .inr (1, [.ref (b2), .int (nI j0), .int (nI (wid j0)), .int (nI (d0.2)), .int (en2), .int (tk2), .int (b2i true), .int (rm2)])), (b2, .inl (ca 2, 25, .inr (.inl (L2)))), (g 5, .inr (1, [.ref (b5), .int (nI k), .int (nI (wid k)), .int (u.2.2.1), .int (en), .int (tk), .int (b2i true), .int (rm)])), (b5, .inl (ca 2, 25, .inr (.inl (u.1)))), (g 6, .inr (1, [.ref (b6), .int (nI j0), .int (nI (wid j0)), .int (u.2.2.2), .int (en2), .int (tk2), .int (b2i true), .int (rm2)])), (b6, .inl (ca 2, 25, .inr (.inl (u.2.1)))), (o, .inl (ca 2, 1, .inr (.inl (fo))))] H locs := C.re [1, 2, 3, 4, 5, 6, 7, 8, 9, 10, 0] rfl rfl
  subst r
  refine lv_if_eq (tgt := 17) hx hb dL_same_10 (by decide) (fun hc10 => ?_) (fun hc10 => ?_)
  · skip
    refine lv_lconst (v := 0) hx hb dL_same_17 (by decide) ?_
    refine lv_topl (nm_r (e' := bL (eqB (wid k) c0 (wid j0) d0 n)) (by first | (rw [b2i_n0.mp hc10]; rfl) | (rw [b2i_0.mp hc10]; rfl)) ?_)
    refine n_last S C 10 rfl (i := 0) (by omega) (by decide) dL_same_18 (fun H locs C => ?_)
    replace C : Cx D ca s0 A s [(d, .inr (2, kF g)), (g 4, .inl (ca 4, 4, .inr (.inr (.inr (.inr sf))))), (h, .inr (1, [.ref (b), .int (nI k), .int (nI (wid k)), .int (nI (c0.2)), .int (en), .int (tk), .int (b2i true), .int (rm)])), (b, .inl (ca 2, 25, .inr (.inl (L)))), (h2, .inr (1, [.ref (b2), .int (nI j0), .int (nI (wid j0)), .int (nI (d0.2)), .int (en2), .int (tk2), .int (b2i true), .int (rm2)])), (b2, .inl (ca 2, 25, .inr (.inl (L2)))), (g 5, .inr (1, [.ref (b5), .int (nI k), .int (nI (wid k)), .int (u.2.2.1), .int (en), .int (tk), .int (b2i true), .int (rm)])), (b5, .inl (ca 2, 25, .inr (.inl (u.1)))), (g 6, .inr (1, [.ref (b6), .int (nI j0), .int (nI (wid j0)), .int (u.2.2.2), .int (en2), .int (tk2), .int (b2i true), .int (rm2)])), (b6, .inl (ca 2, 25, .inr (.inl (u.2.1)))), (o, .inl (ca 2, 1, .inr (.inl (vp_updL fo 0 (bL (eqB (wid k) c0 (wid j0) d0 n))))))] H locs := C
    refine lv_goto (tgt := 34) hx hb dL_same_19 (by decide) ?_
    refine lv_iconst (v := nI 0) hx hb dL_same_34 (by decide) ?_
    exact ret (nI 0) u _ _ _ _ _ _ (Nat.le_of_ble_eq_true rfl) (Nat.le_of_ble_eq_true rfl) rfl C dL_same_35
  · skip
    refine lv_lconst (v := 1) hx hb dL_same_13 (by decide) ?_
    refine lv_goto (tgt := 18) hx hb dL_same_14 (by decide) ?_
    refine lv_topl (nm_r (e' := bL (eqB (wid k) c0 (wid j0) d0 n)) (by first | (rw [b2i_n0.mp hc10]; rfl) | (rw [b2i_0.mp hc10]; rfl)) ?_)
    refine n_last S C 10 rfl (i := 0) (by omega) (by decide) dL_same_18 (fun H locs C => ?_)
    replace C : Cx D ca s0 A s [(d, .inr (2, kF g)), (g 4, .inl (ca 4, 4, .inr (.inr (.inr (.inr sf))))), (h, .inr (1, [.ref (b), .int (nI k), .int (nI (wid k)), .int (nI (c0.2)), .int (en), .int (tk), .int (b2i true), .int (rm)])), (b, .inl (ca 2, 25, .inr (.inl (L)))), (h2, .inr (1, [.ref (b2), .int (nI j0), .int (nI (wid j0)), .int (nI (d0.2)), .int (en2), .int (tk2), .int (b2i true), .int (rm2)])), (b2, .inl (ca 2, 25, .inr (.inl (L2)))), (g 5, .inr (1, [.ref (b5), .int (nI k), .int (nI (wid k)), .int (u.2.2.1), .int (en), .int (tk), .int (b2i true), .int (rm)])), (b5, .inl (ca 2, 25, .inr (.inl (u.1)))), (g 6, .inr (1, [.ref (b6), .int (nI j0), .int (nI (wid j0)), .int (u.2.2.2), .int (en2), .int (tk2), .int (b2i true), .int (rm2)])), (b6, .inl (ca 2, 25, .inr (.inl (u.2.1)))), (o, .inl (ca 2, 1, .inr (.inl (vp_updL fo 0 (bL (eqB (wid k) c0 (wid j0) d0 n))))))] H locs := C
    refine lv_goto (tgt := 34) hx hb dL_same_19 (by decide) ?_
    refine lv_iconst (v := nI 0) hx hb dL_same_34 (by decide) ?_
    exact ret (nI 0) u _ _ _ _ _ _ (Nat.le_of_ble_eq_true rfl) (Nat.le_of_ble_eq_true rfl) rfl C dL_same_35
abbrev rm_L_same_self : Room := { frames := 5, cells := 0, slots := 0, locals := 131 }
set_option maxHeartbeats 4000000 in
set_option maxRecDepth 100000 in
theorem c_L_same_self (l : Launch) (D : va_G) (ca : Nat → ClassId) (s0 : State) (a0 : Array Value) (Z : Wd a0 s0) (tz : Nat → Nat) (Zs : ZS tz s0) (d : Nat) (g : Nat → Nat) (sf : Nat → Option Nat) (k0 : Nat) (hk0 : k0 < 4) (h b : Nat) (hsf : sf k0 = some h) (L : Nat → Int64) (en tk rm : Int32) (k : Nat) (hk : k < 16) (c0 : Co) (hL : kEq (lb L) c0.1) (hp0 : c0.2 ≤ wid k) (n : Nat) (hn1 : 1 ≤ n) (hn : n ≤ 64) (hcg : canG true rm (nI n) = true) (b5 b6 : Nat) (L5 L6 : Nat → Int64) (z0 z1 z2 z3 z4 z5 z6 y0 y1 y2 y3 y4 y5 y6 : Int32) (o : Nat) (fo : Nat → Int64) : CtI l yL_same [.codeWith yL_same cL_same 6 (some .int) [(0, 19, 22, 23), (0, 19, 26, 13), (0, 19, 30, 28)]] rm_L_same_self 0 0 D ca s0 [.ref (d), .int (nI k0), .int (nI k0), .int (nI n), .ref (o)] [(d, .inr (2, kF g)), (g 4, .inl (ca 4, 4, .inr (.inr (.inr (.inr sf))))), (h, .inr (1, [.ref (b), .int (nI k), .int (nI (wid k)), .int (nI (c0.2)), .int (en), .int (tk), .int (b2i true), .int (rm)])), (b, .inl (ca 2, 25, .inr (.inl (L)))), (g 5, .inr (1, [.ref (b5), .int (z0), .int (z1), .int (z2), .int (z3), .int (z4), .int (z5), .int (z6)])), (b5, .inl (ca 2, 25, .inr (.inl (L5)))), (g 6, .inr (1, [.ref (b6), .int (y0), .int (y1), .int (y2), .int (y3), .int (y4), .int (y5), .int (y6)])), (b6, .inl (ca 2, 25, .inr (.inl (L6)))), (o, .inl (ca 2, 1, .inr (.inl (fo))))] (S := (Nat → Int64) × (Nat → Int64) × Int32 × Int32) (fun r _ => r = nI 0) (fun u => [(d, .inr (2, kF g)), (g 4, .inl (ca 4, 4, .inr (.inr (.inr (.inr sf))))), (h, .inr (1, [.ref (b), .int (nI k), .int (nI (wid k)), .int (nI (c0.2)), .int (en), .int (tk), .int (b2i true), .int (rm)])), (b, .inl (ca 2, 25, .inr (.inl (L)))), (g 5, .inr (1, [.ref (b5), .int (nI k), .int (nI (wid k)), .int (u.2.2.1), .int (en), .int (tk), .int (b2i true), .int (rm)])), (b5, .inl (ca 2, 25, .inr (.inl (u.1)))), (g 6, .inr (1, [.ref (b6), .int (nI k), .int (nI (wid k)), .int (u.2.2.2), .int (en), .int (tk), .int (b2i true), .int (rm)])), (b6, .inl (ca 2, 25, .inr (.inl (u.2.1)))), (o, .inl (ca 2, 1, .inr (.inl (vp_updL fo 0 (bL (eqB (wid k) c0 (wid k) c0 n))))))]) := by
  refine ctH_of (cc := cL_same) (maxL := 6) (own := RL) (hh := [(0, 19, 22, 23), (0, 19, 26, 13), (0, 19, 30, 28)]) Z rfl (by decide) rfl (Nat.le_of_ble_eq_true rfl) ?_
  intro p e s m args below meth c A ls Q S htb ret C hl
  have hx := S.1
  have hb := S.2.1
  have hown := S.2.2.2.1
  have hts := S.2.2.2.2
  generalize s.heap = H at C ⊢
  generalize ([] : List Loc) = locs at C ⊢
  replace hl : lv_has ls 6 [(0, .ref (d)), (1, .int (nI k0)), (2, .int (nI k0)), (3, .int (nI n)), (4, .ref (o))] := hl
  refine lv_aload hx hb dL_same_0 (lv_at hl 4 rfl) ?_
  refine lv_iconst (v := nI 0) hx hb dL_same_2 (by decide) ?_
  refine lv_aload_n hx hb dL_same_3 rfl (lv_at hl 0 rfl) ?_
  refine lv_iload_n hx hb dL_same_4 rfl (lv_at hl 1 rfl) ?_
  refine lv_iload_n hx hb dL_same_5 rfl (lv_at hl 2 rfl) ?_
  refine lv_iload_n hx hb dL_same_6 rfl (lv_at hl 3 rfl) ?_
  refine n_callI (wc := [(d, .inr (2, kF g)), (g 4, .inl (ca 4, 4, .inr (.inr (.inr (.inr sf))))), (h, .inr (1, [.ref (b), .int (nI k), .int (nI (wid k)), .int (nI (c0.2)), .int (en), .int (tk), .int (b2i true), .int (rm)])), (b, .inl (ca 2, 25, .inr (.inl (L)))), (g 5, .inr (1, [.ref (b5), .int (z0), .int (z1), .int (z2), .int (z3), .int (z4), .int (z5), .int (z6)])), (b5, .inl (ca 2, 25, .inr (.inl (L5)))), (g 6, .inr (1, [.ref (b6), .int (y0), .int (y1), .int (y2), .int (y3), .int (y4), .int (y5), .int (y6)])), (b6, .inl (ca 2, 25, .inr (.inl (L6))))]) (wr := [(o, .inl (ca 2, 1, .inr (.inl (fo))))]) C [0, 1, 2, 3, 4, 5, 6, 7] [8] rfl rfl rfl rfl (by decide) (fun hp => va_runV (rest := [.int (nI 0), .ref (o)]) S (c_K_same_self l D ca s0 a0 Z tz Zs d g sf k0 hk0 h b hsf L en tk rm k hk c0 hL hp0 n hn1 hn hcg b5 b6 L5 L6 z0 z1 z2 z3 z4 z5 z6 y0 y1 y2 y3 y4 y5 y6 _) (cwV 3 hts (gV g_328 g_329 g_330 g_30 g_331) rfl rfl rfl (by decide +kernel) ⟨Nat.le_of_ble_eq_true rfl, Nat.le_of_ble_eq_true rfl⟩) ⟨hp.1, n_recv C 0 2 rfl rfl, hp.2⟩ rfl rfl hl.1 rfl (lv_room (Nat.le_of_ble_eq_true rfl)) dL_same_7 ⟨Nat.le_of_ble_eq_true rfl, Nat.le_of_ble_eq_true rfl⟩) (fun r u H locs hp C => ?_)
  replace C : Cx D ca s0 A s [(d, .inr (2, kF g)), (g 4, .inl (ca 4, 4, .inr (.inr (.inr (.inr sf))))), (h, .inr (1, [.ref (b), .int (nI k), .int (nI (wid k)), .int (nI (c0.2)), .int (en), .int (tk), .int (b2i true), .int (rm)])), (b, .inl (ca 2, 25, .inr (.inl (L)))), (g 5, .inr (1, [.ref (b5), .int (nI k), .int (nI (wid k)), .int (u.2.2.1), .int (en), .int (tk), .int (b2i true), .int (rm)])), (b5, .inl (ca 2, 25, .inr (.inl (u.1)))), (g 6, .inr (1, [.ref (b6), .int (nI k), .int (nI (wid k)), .int (u.2.2.2), .int (en), .int (tk), .int (b2i true), .int (rm)])), (b6, .inl (ca 2, 25, .inr (.inl (u.2.1)))), (o, .inl (ca 2, 1, .inr (.inl (fo))))] H locs := C.re [1, 2, 3, 4, 5, 6, 7, 8, 0] rfl rfl
  subst r
  refine lv_if_eq (tgt := 17) hx hb dL_same_10 (by decide) (fun hc10 => ?_) (fun hc10 => ?_)
  · skip
    refine lv_lconst (v := 0) hx hb dL_same_17 (by decide) ?_
    refine lv_topl (nm_r (e' := bL (eqB (wid k) c0 (wid k) c0 n)) (by first | (rw [b2i_n0.mp hc10]; rfl) | (rw [b2i_0.mp hc10]; rfl)) ?_)
    refine n_last S C 8 rfl (i := 0) (by omega) (by decide) dL_same_18 (fun H locs C => ?_)
    replace C : Cx D ca s0 A s [(d, .inr (2, kF g)), (g 4, .inl (ca 4, 4, .inr (.inr (.inr (.inr sf))))), (h, .inr (1, [.ref (b), .int (nI k), .int (nI (wid k)), .int (nI (c0.2)), .int (en), .int (tk), .int (b2i true), .int (rm)])), (b, .inl (ca 2, 25, .inr (.inl (L)))), (g 5, .inr (1, [.ref (b5), .int (nI k), .int (nI (wid k)), .int (u.2.2.1), .int (en), .int (tk), .int (b2i true), .int (rm)])), (b5, .inl (ca 2, 25, .inr (.inl (u.1)))), (g 6, .inr (1, [.ref (b6), .int (nI k), .int (nI (wid k)), .int (u.2.2.2), .int (en), .int (tk), .int (b2i true), .int (rm)])), (b6, .inl (ca 2, 25, .inr (.inl (u.2.1)))), (o, .inl (ca 2, 1, .inr (.inl (vp_updL fo 0 (bL (eqB (wid k) c0 (wid k) c0 n))))))] H locs := C
    refine lv_goto (tgt := 34) hx hb dL_same_19 (by decide) ?_
    refine lv_iconst (v := nI 0) hx hb dL_same_34 (by decide) ?_
    exact ret (nI 0) u _ _ _ _ _ _ (Nat.le_of_ble_eq_true rfl) (Nat.le_of_ble_eq_true rfl) rfl C dL_same_35
  · skip
    refine lv_lconst (v := 1) hx hb dL_same_13 (by decide) ?_
    refine lv_goto (tgt := 18) hx hb dL_same_14 (by decide) ?_
    refine lv_topl (nm_r (e' := bL (eqB (wid k) c0 (wid k) c0 n)) (by first | (rw [b2i_n0.mp hc10]; rfl) | (rw [b2i_0.mp hc10]; rfl)) ?_)
    refine n_last S C 8 rfl (i := 0) (by omega) (by decide) dL_same_18 (fun H locs C => ?_)
    replace C : Cx D ca s0 A s [(d, .inr (2, kF g)), (g 4, .inl (ca 4, 4, .inr (.inr (.inr (.inr sf))))), (h, .inr (1, [.ref (b), .int (nI k), .int (nI (wid k)), .int (nI (c0.2)), .int (en), .int (tk), .int (b2i true), .int (rm)])), (b, .inl (ca 2, 25, .inr (.inl (L)))), (g 5, .inr (1, [.ref (b5), .int (nI k), .int (nI (wid k)), .int (u.2.2.1), .int (en), .int (tk), .int (b2i true), .int (rm)])), (b5, .inl (ca 2, 25, .inr (.inl (u.1)))), (g 6, .inr (1, [.ref (b6), .int (nI k), .int (nI (wid k)), .int (u.2.2.2), .int (en), .int (tk), .int (b2i true), .int (rm)])), (b6, .inl (ca 2, 25, .inr (.inl (u.2.1)))), (o, .inl (ca 2, 1, .inr (.inl (vp_updL fo 0 (bL (eqB (wid k) c0 (wid k) c0 n))))))] H locs := C
    refine lv_goto (tgt := 34) hx hb dL_same_19 (by decide) ?_
    refine lv_iconst (v := nI 0) hx hb dL_same_34 (by decide) ?_
    exact ret (nI 0) u _ _ _ _ _ _ (Nat.le_of_ble_eq_true rfl) (Nat.le_of_ble_eq_true rfl) rfl C dL_same_35
