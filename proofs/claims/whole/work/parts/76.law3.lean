set_option maxHeartbeats 4000000 in
set_option maxRecDepth 100000 in
theorem o_bytes_no1 (p : Program) (l : Launch) (e : Env) (s : State) (m : MethodId) (args : Array Value) (below : List Frame) (meth : Method) (c : Code) (Q : State → Prop) (D : va_G) (ca : Nat → ClassId) (s0 : State) (a0 : Array Value) (A : Nat → Prop) (S : CallFix p m c cL_law 8 s args lw_good RL) (Z : Wd a0 s0) (zt : Nat → Nat) (Zs : ZS zt s0) (hl0 : l.stackTraces = false) (sx : Nat → Nat) (Xs : XS sx s0) (Xn : XN s0) (b Ls : Nat) (xs : Nat → Int32) (hXX : va_X b Ls xs s s.heap) (hbl : b < s.heap.size) (hbA : ¬ A b) (hLs : Ls ≤ 2560) (t ce so : Nat) (ht5 : 5 * t + 5 ≤ Ls) (hce : ce ≤ 1000) (hso : so ≤ 30000) (d : Nat) (g : Nat → Nat) (sf : Nat → Option Nat) (rb : Nat → Nat) (R : Nat → Rw) (rf : Nat → Nat → Int32) (sa sl : Nat → Nat) (i0 i1 i2 i3 : Nat) (y0 y1 y2 y3 : Sp) (L0 L1 L2 L3 : Nat → Int64) (z4 z5 : Nat → Int32) (L4 L5 : Nat → Int64) (h0 : Nat) (q : Nat → Nat) (th : Int32) (F : MFn) (o : Nat) (fo : Nat → Int64) (hR : ∀ j, j < 4 → (R j).2 ≤ 300 ∧ sb_Lat (R j).1 (R j).2 (rf j)) (hMT : mTp (F 0) (R 0).1 (R 0).2) (hMR : ∀ r, r < 3 → mRo (F 1) (F 2) r (R (r + 1))) (hno : ¬ (¬ xs (5 * t + 1) < 0 ∧ xs (5 * t + 1) < 4)) (H : Heap) (locs : List Loc) (ls : Array Slot) (C : Cx D ca s0 A s (LA ca d g sf rb R rf sa sl i0 i1 i2 i3 y0 y1 y2 y3 L0 L1 L2 L3 z4 z5 L4 L5 h0 q th (nI (R 0).2) F o fo) H locs) (hl : lv_has ls 8 [(4, .int (nI (5 * t))), (0, .ref (b)), (1, .ref (d)), (2, .ref (h0)), (3, .ref (o))]) (kk : ∀  (H : Heap) (locs : List Loc) (ls : Array Slot), Cx D ca s0 A s (LA ca d g sf rb R rf sa sl i0 i1 i2 i3 y0 y1 y2 y3 L0 L1 L2 L3 z4 z5 L4 L5 h0 q (nI 1) (nI (R 0).2) F o fo) H locs → lv_has ls 8 [(4, .int (nI (5 * t))), (0, .ref (b)), (1, .ref (d)), (2, .ref (h0)), (3, .ref (o))] → W p l e room_1 s m args below meth c H locs (ce + 1) (so + 6) Q (F0 m 847 ls [])) : W p l e room_1 s m args below meth c H locs ce so Q (F0 m 373 ls []) := by
  have hx := S.1
  have hb := S.2.1
  have hown := S.2.2.2.1
  have hts := S.2.2.2.2
  have hR0 := (hR 0 (by decide)).1
  obtain ⟨rest, hrest⟩ : ∃ z : va_W, z = [(g 4, .inl (ca 4, 4, .inr (.inr (.inr (.inr sf))))), (g 0, .inr (0, [.ref (rb 0), .int (nI ((R 0).2))])), (rb 0, .inl (ca 3, 300, .inl (rf 0))), (g 1, .inr (0, [.ref (rb 1), .int (nI ((R 1).2))])), (rb 1, .inl (ca 3, 300, .inl (rf 1))), (g 2, .inr (0, [.ref (rb 2), .int (nI ((R 2).2))])), (rb 2, .inl (ca 3, 300, .inl (rf 2))), (g 3, .inr (0, [.ref (rb 3), .int (nI ((R 3).2))])), (rb 3, .inl (ca 3, 300, .inl (rf 3))), (sa i0, .inr (1, [.ref (sl i0), .int (nI (y0.2.1)), .int (nI (wid y0.2.1)), .int (nI (y0.1.2)), .int (nI (y0.2.2.1)), .int (y0.2.2.2.1), .int (b2i y0.2.2.2.2.1), .int (y0.2.2.2.2.2)])), (sl i0, .inl (ca 2, 25, .inr (.inl (L0)))), (sa i1, .inr (1, [.ref (sl i1), .int (nI (y1.2.1)), .int (nI (wid y1.2.1)), .int (nI (y1.1.2)), .int (nI (y1.2.2.1)), .int (y1.2.2.2.1), .int (b2i y1.2.2.2.2.1), .int (y1.2.2.2.2.2)])), (sl i1, .inl (ca 2, 25, .inr (.inl (L1)))), (sa i2, .inr (1, [.ref (sl i2), .int (nI (y2.2.1)), .int (nI (wid y2.2.1)), .int (nI (y2.1.2)), .int (nI (y2.2.2.1)), .int (y2.2.2.2.1), .int (b2i y2.2.2.2.2.1), .int (y2.2.2.2.2.2)])), (sl i2, .inl (ca 2, 25, .inr (.inl (L2)))), (sa i3, .inr (1, [.ref (sl i3), .int (nI (y3.2.1)), .int (nI (wid y3.2.1)), .int (nI (y3.1.2)), .int (nI (y3.2.2.1)), .int (y3.2.2.2.1), .int (b2i y3.2.2.2.2.1), .int (y3.2.2.2.2.2)])), (sl i3, .inl (ca 2, 25, .inr (.inl (L3)))), (g 5, .inr (1, [.ref (sl 4), .int (z4 0), .int (z4 1), .int (z4 2), .int (z4 3), .int (z4 4), .int (z4 5), .int (z4 6)])), (sl 4, .inl (ca 2, 25, .inr (.inl (L4)))), (g 6, .inr (1, [.ref (sl 5), .int (z5 0), .int (z5 1), .int (z5 2), .int (z5 3), .int (z5 4), .int (z5 5), .int (z5 6)])), (sl 5, .inl (ca 2, 25, .inr (.inl (L5)))), (q 0, .inl (ca 0, 300, .inl (F 0))), (q 1, .inl (ca 0, 3, .inl (F 1))), (q 2, .inl (ca 0, 900, .inl (F 2))), (q 3, .inl (ca 1, 9600, .inl (F 3))), (q 4, .inl (ca 0, 6, .inl (F 4))), (q 5, .inl (ca 0, 6, .inl (F 5))), (q 6, .inl (ca 0, 6, .inl (F 6))), (q 7, .inl (ca 1, 6, .inl (F 7))), (q 8, .inl (ca 0, 6, .inl (F 8))), (q 9, .inl (ca 0, 6, .inl (F 9))), (q 10, .inl (ca 1, 1600, .inl (F 10))), (q 11, .inl (ca 1, 1600, .inl (F 11)))] := ⟨_, rfl⟩
  replace C : Cx D ca s0 A s ([(d, .inr (2, kF g)), (h0, .inr (3, mF q (th) (nI (R 0).2))), (o, .inl (ca 2, 1, .inr (.inl (fo))))] ++ rest) H locs := by rw [hrest]; exact C.re [0, 22, 35, 1, 2, 3, 4, 5, 6, 7, 8, 9, 10, 11, 12, 13, 14, 15, 16, 17, 18, 19, 20, 21, 23, 24, 25, 26, 27, 28, 29, 30, 31, 32, 33, 34] rfl rfl
  refine lv_aload_n hx hb dL_law_373 rfl (lv_at hl 2 rfl) ?_
  refine lv_aload_n hx hb dL_law_374 rfl (lv_at hl 1 rfl) ?_
  refine lv_iload hx hb dL_law_375 (lv_at hl 0 rfl) ?_
  refine lv_iconst (v := nI 1) hx hb dL_law_377 (by decide) ?_
  refine n_add S dL_law_378 ?_
  refine n_sld S C hXX hbl hbA (i := (5 * t) + 1) (by omega) hLs dL_law_379 ?_
  refine lv_aload_n hx hb dL_law_380 rfl (lv_at hl 1 rfl) ?_
  refine lv_iload hx hb dL_law_381 (lv_at hl 0 rfl) ?_
  refine lv_iconst (v := nI 2) hx hb dL_law_383 (by decide) ?_
  refine n_add S dL_law_384 ?_
  refine n_sld S C hXX hbl hbA (i := (5 * t) + 2) (by omega) hLs dL_law_385 ?_
  refine lv_aload_n hx hb dL_law_386 rfl (lv_at hl 1 rfl) ?_
  refine lv_iload hx hb dL_law_387 (lv_at hl 0 rfl) ?_
  refine lv_iconst (v := nI 3) hx hb dL_law_389 (by decide) ?_
  refine n_add S dL_law_390 ?_
  refine n_sld S C hXX hbl hbA (i := (5 * t) + 3) (by omega) hLs dL_law_391 ?_
  refine lv_i2l (v := (xs (5 * t + 3)).toInt64) hx hb dL_law_392 rfl ?_
  refine lv_bipush (v := nI 32) hx hb dL_law_393 (by decide) ?_
  refine lv_lshl (v := lShl ((xs (5 * t + 3)).toInt64) 32) hx hb dL_law_395 rfl ?_
  refine lv_aload_n hx hb dL_law_396 rfl (lv_at hl 1 rfl) ?_
  refine lv_iload hx hb dL_law_397 (lv_at hl 0 rfl) ?_
  refine lv_iconst (v := nI 4) hx hb dL_law_399 (by decide) ?_
  refine n_add S dL_law_400 ?_
  refine n_sld S C hXX hbl hbA (i := (5 * t) + 4) (by omega) hLs dL_law_401 ?_
  refine lv_i2l (v := (xs (5 * t + 4)).toInt64) hx hb dL_law_402 rfl ?_
  refine lv_ldc2 (v := 4294967295) hx hb hown (hts _ g_488) dL_law_403 ?_
  refine lv_land hx hb dL_law_406 ?_
  refine lv_lor hx hb dL_law_407 ?_
  refine lv_topl (nm_r (e' := lv2 (xs (5 * t + 3)) (xs (5 * t + 4))) rfl ?_)
  refine lv_aload_n hx hb dL_law_408 rfl (lv_at hl 4 rfl) ?_
  refine n_callI5 (wc := [(d, .inr (2, kF g)), (o, .inl (ca 2, 1, .inr (.inl (fo))))]) (wr := [(h0, .inr (3, mF q (th) (nI (R 0).2)))]) C [0, 2] [1] rfl rfl rfl rfl (by decide) (fun hp => vx_runSW (rest := []) S (c_L_bytes_no1 l D ca s0 a0 Z hl0 sx Xs d g ((xs (5 * t + 1))) hno ((xs (5 * t + 2))) ((lv2 (xs (5 * t + 3)) (xs (5 * t + 4)))) Xn o fo _) (vx_cwSW 5 hts (gT g_251 g_252 g_29 g_253) rfl rfl rfl (by decide +kernel) ⟨Nat.le_of_ble_eq_true rfl, Nat.le_of_ble_eq_true rfl⟩) hp rfl rfl hl.1 rfl (lv_room (Nat.le_of_ble_eq_true rfl)) dL_law_409 ⟨by rw [rc_1]; omega, by rw [rs_1]; omega⟩) (fun r u H locs hp C => ?_)
  subst hp
  replace C : Cx D ca s0 A s ([(d, .inr (2, kF g)), (h0, .inr (3, mF q (th) (nI (R 0).2))), (o, .inl (ca 2, 1, .inr (.inl (fo))))] ++ rest) H locs := C.reA [1, 0, 2] rfl rfl
  refine lv_istore hx hb dL_law_412 hl (Nat.le_of_ble_eq_true rfl) rfl (fun ls hl => ?_)
  replace hl : lv_has ls 8 [(5, .int (nI 1)), (4, .int (nI (5 * t))), (0, .ref (b)), (1, .ref (d)), (2, .ref (h0)), (3, .ref (o))] := hl
  refine lv_aload_n hx hb dL_law_414 rfl (lv_at hl 4 rfl) ?_
  refine lv_aload_n hx hb dL_law_415 rfl (lv_at hl 2 rfl) ?_
  refine lv_iload hx hb dL_law_416 (lv_at hl 1 rfl) ?_
  refine lv_iconst (v := nI 1) hx hb dL_law_418 (by decide) ?_
  refine n_add S dL_law_419 ?_
  refine n_sld S C hXX hbl hbA (i := (5 * t) + 1) (by omega) hLs dL_law_420 ?_
  refine lv_aload_n hx hb dL_law_421 rfl (lv_at hl 2 rfl) ?_
  refine lv_iload hx hb dL_law_422 (lv_at hl 1 rfl) ?_
  refine lv_iconst (v := nI 2) hx hb dL_law_424 (by decide) ?_
  refine n_add S dL_law_425 ?_
  refine n_sld S C hXX hbl hbA (i := (5 * t) + 2) (by omega) hLs dL_law_426 ?_
  refine lv_aload_n hx hb dL_law_427 rfl (lv_at hl 2 rfl) ?_
  refine lv_iload hx hb dL_law_428 (lv_at hl 1 rfl) ?_
  refine lv_iconst (v := nI 3) hx hb dL_law_430 (by decide) ?_
  refine n_add S dL_law_431 ?_
  refine n_sld S C hXX hbl hbA (i := (5 * t) + 3) (by omega) hLs dL_law_432 ?_
  refine lv_i2l (v := (xs (5 * t + 3)).toInt64) hx hb dL_law_433 rfl ?_
  refine lv_bipush (v := nI 32) hx hb dL_law_434 (by decide) ?_
  refine lv_lshl (v := lShl ((xs (5 * t + 3)).toInt64) 32) hx hb dL_law_436 rfl ?_
  refine lv_aload_n hx hb dL_law_437 rfl (lv_at hl 2 rfl) ?_
  refine lv_iload hx hb dL_law_438 (lv_at hl 1 rfl) ?_
  refine lv_iconst (v := nI 4) hx hb dL_law_440 (by decide) ?_
  refine n_add S dL_law_441 ?_
  refine n_sld S C hXX hbl hbA (i := (5 * t) + 4) (by omega) hLs dL_law_442 ?_
  refine lv_i2l (v := (xs (5 * t + 4)).toInt64) hx hb dL_law_443 rfl ?_
  refine lv_ldc2 (v := 4294967295) hx hb hown (hts _ g_488) dL_law_444 ?_
  refine lv_land hx hb dL_law_447 ?_
  refine lv_lor hx hb dL_law_448 ?_
  refine lv_topl (nm_r (e' := lv2 (xs (5 * t + 3)) (xs (5 * t + 4))) rfl ?_)
  refine n_callI5 (wc := [(h0, .inr (3, mF q (th) (nI (R 0).2)))]) (wr := [(d, .inr (2, kF g)), (o, .inl (ca 2, 1, .inr (.inl (fo))))]) C [1] [0, 2] rfl rfl rfl rfl (by decide) (fun hp => va_runV (rest := []) S (c_M_bytes_no1 l D ca s0 a0 Z h0 q th ((nI (R 0).2)) ((xs (5 * t + 1))) hno ((xs (5 * t + 2))) ((lv2 (xs (5 * t + 3)) (xs (5 * t + 4)))) _) (cwV 3 hts (gV g_445 g_446 g_447 g_34 g_448) rfl rfl rfl (by decide +kernel) ⟨Nat.le_of_ble_eq_true rfl, Nat.le_of_ble_eq_true rfl⟩) ⟨hp.1, n_recv C 1 3 rfl rfl, hp.2⟩ rfl rfl hl.1 rfl (lv_room (Nat.le_of_ble_eq_true rfl)) dL_law_449 ⟨by rw [rc_1]; omega, by rw [rs_1]; omega⟩) (fun r u H locs hp C => ?_)
  replace C : Cx D ca s0 A s ([(d, .inr (2, kF g)), (h0, .inr (3, mF q (nI 1) (nI (R 0).2))), (o, .inl (ca 2, 1, .inr (.inl (fo))))] ++ rest) H locs := C.reA [0, 2, 1] rfl rfl
  refine lv_istore hx hb dL_law_452 hl (Nat.le_of_ble_eq_true rfl) rfl (fun ls hl => ?_)
  replace hl : lv_has ls 8 [(6, .int (r)), (5, .int (nI 1)), (4, .int (nI (5 * t))), (0, .ref (b)), (1, .ref (d)), (2, .ref (h0)), (3, .ref (o))] := hl
  refine lv_aload_n hx hb dL_law_454 rfl (lv_at hl 5 rfl) ?_
  refine n_callI5 (wc := [(h0, .inr (3, mF q (nI 1) (nI (R 0).2)))]) (wr := [(d, .inr (2, kF g)), (o, .inl (ca 2, 1, .inr (.inl (fo))))]) C [1] [0, 2] rfl rfl rfl rfl (by decide) (fun hp => va_runV (rest := []) S (c_M_thrown l D ca s0 a0 Z h0 q ((nI 1)) ((nI (R 0).2)) _) (cwV 0 hts (gV g_418 g_419 g_420 g_34 g_421) rfl rfl rfl (by decide +kernel) ⟨Nat.le_of_ble_eq_true rfl, Nat.le_of_ble_eq_true rfl⟩) ⟨hp.1, n_recv C 1 3 rfl rfl, hp.2⟩ rfl rfl hl.1 rfl (lv_room (Nat.le_of_ble_eq_true rfl)) dL_law_455 ⟨by rw [rc_1]; omega, by rw [rs_1]; omega⟩) (fun r u H locs hp C => ?_)
  subst hp
  replace C : Cx D ca s0 A s ([(d, .inr (2, kF g)), (h0, .inr (3, mF q (nI 1) (nI (R 0).2))), (o, .inl (ca 2, 1, .inr (.inl (fo))))] ++ rest) H locs := C.reA [0, 2, 1] rfl rfl
  refine lv_iload hx hb dL_law_458 (lv_at hl 1 rfl) ?_
  refine n_icmp_eq (tgt := 465) S (by decide) (by decide) dL_law_460 (by decide) (fun hc => ?_) (fun hc => False.elim (by omega))
  refine lv_iload hx hb dL_law_465 (lv_at hl 1 rfl) ?_
  refine n_if_ne (tgt := 482) S (by omega) dL_law_467 (by decide) (fun hc => ?_) (fun hc => False.elim (by omega))
  refine lv_goto (tgt := 847) hx hb dL_law_482 (by decide) ?_
  rw [hrest] at C
  replace C : Cx D ca s0 A s (LA ca d g sf rb R rf sa sl i0 i1 i2 i3 y0 y1 y2 y3 L0 L1 L2 L3 z4 z5 L4 L5 h0 q (nI 1) (nI (R 0).2) F o fo) H locs := C.re [0, 3, 4, 5, 6, 7, 8, 9, 10, 11, 12, 13, 14, 15, 16, 17, 18, 19, 20, 21, 22, 23, 1, 24, 25, 26, 27, 28, 29, 30, 31, 32, 33, 34, 35, 2] rfl rfl
  exact W.widen (by omega) (by omega) (kk  H locs ls  C (lv_sub hl [2, 3, 4, 5, 6] rfl))
set_option maxHeartbeats 4000000 in
set_option maxRecDepth 100000 in
theorem o_bytes_no2 (p : Program) (l : Launch) (e : Env) (s : State) (m : MethodId) (args : Array Value) (below : List Frame) (meth : Method) (c : Code) (Q : State → Prop) (D : va_G) (ca : Nat → ClassId) (s0 : State) (a0 : Array Value) (A : Nat → Prop) (S : CallFix p m c cL_law 8 s args lw_good RL) (Z : Wd a0 s0) (zt : Nat → Nat) (Zs : ZS zt s0) (hl0 : l.stackTraces = false) (sx : Nat → Nat) (Xs : XS sx s0) (Xn : XN s0) (b Ls : Nat) (xs : Nat → Int32) (hXX : va_X b Ls xs s s.heap) (hbl : b < s.heap.size) (hbA : ¬ A b) (hLs : Ls ≤ 2560) (t ce so : Nat) (ht5 : 5 * t + 5 ≤ Ls) (hce : ce ≤ 1000) (hso : so ≤ 30000) (d : Nat) (g : Nat → Nat) (sf : Nat → Option Nat) (rb : Nat → Nat) (R : Nat → Rw) (rf : Nat → Nat → Int32) (sa sl : Nat → Nat) (i0 i1 i2 i3 : Nat) (y1 y2 y3 : Sp) (L0 L1 L2 L3 : Nat → Int64) (z4 z5 : Nat → Int32) (L4 L5 : Nat → Int64) (h0 : Nat) (q : Nat → Nat) (th : Int32) (F : MFn) (o : Nat) (fo : Nat → Int64) (hR : ∀ j, j < 4 → (R j).2 ≤ 300 ∧ sb_Lat (R j).1 (R j).2 (rf j)) (hMT : mTp (F 0) (R 0).1 (R 0).2) (hMR : ∀ r, r < 3 → mRo (F 1) (F 2) r (R (r + 1))) (c0 : Co) (k en : Nat) (tk : Int32) (dn : Bool) (rm : Int32) (hi0 : i0 < 4) (hsf0 : sf i0 = some (sa i0)) (hL0 : kEq (lb L0) c0.1) (hS0 : mSg F i0 (c0, k, en, tk, dn, rm)) (hk : k < 16) (hen : en < 256) (hp0 : c0.2 ≤ wid k) (hro : rOk rm) (e1 : xs (5 * t + 1) = nI i0) (hr : xs (5 * t + 2) < nI 1 ∨ nI 8 < xs (5 * t + 2)) (H : Heap) (locs : List Loc) (ls : Array Slot) (C : Cx D ca s0 A s (LA ca d g sf rb R rf sa sl i0 i1 i2 i3 ((c0, k, en, tk, dn, rm)) y1 y2 y3 L0 L1 L2 L3 z4 z5 L4 L5 h0 q th (nI (R 0).2) F o fo) H locs) (hl : lv_has ls 8 [(4, .int (nI (5 * t))), (0, .ref (b)), (1, .ref (d)), (2, .ref (h0)), (3, .ref (o))]) (kk : ∀  (H : Heap) (locs : List Loc) (ls : Array Slot), Cx D ca s0 A s (LA ca d g sf rb R rf sa sl i0 i1 i2 i3 ((c0, k, en, tk, dn, rm)) y1 y2 y3 L0 L1 L2 L3 z4 z5 L4 L5 h0 q (nI 2) (nI (R 0).2) F o fo) H locs → lv_has ls 8 [(4, .int (nI (5 * t))), (0, .ref (b)), (1, .ref (d)), (2, .ref (h0)), (3, .ref (o))] → W p l e room_1 s m args below meth c H locs (ce + 1) (so + 6) Q (F0 m 847 ls [])) : W p l e room_1 s m args below meth c H locs ce so Q (F0 m 373 ls []) := by
  have hx := S.1
  have hb := S.2.1
  have hown := S.2.2.2.1
  have hts := S.2.2.2.2
  have hR0 := (hR 0 (by decide)).1
  obtain ⟨rest, hrest⟩ : ∃ z : va_W, z = [(g 0, .inr (0, [.ref (rb 0), .int (nI ((R 0).2))])), (rb 0, .inl (ca 3, 300, .inl (rf 0))), (g 1, .inr (0, [.ref (rb 1), .int (nI ((R 1).2))])), (rb 1, .inl (ca 3, 300, .inl (rf 1))), (g 2, .inr (0, [.ref (rb 2), .int (nI ((R 2).2))])), (rb 2, .inl (ca 3, 300, .inl (rf 2))), (g 3, .inr (0, [.ref (rb 3), .int (nI ((R 3).2))])), (rb 3, .inl (ca 3, 300, .inl (rf 3))), (sa i0, .inr (1, [.ref (sl i0), .int (nI k), .int (nI (wid k)), .int (nI (c0.2)), .int (nI en), .int (tk), .int (b2i dn), .int (rm)])), (sl i0, .inl (ca 2, 25, .inr (.inl (L0)))), (sa i1, .inr (1, [.ref (sl i1), .int (nI (y1.2.1)), .int (nI (wid y1.2.1)), .int (nI (y1.1.2)), .int (nI (y1.2.2.1)), .int (y1.2.2.2.1), .int (b2i y1.2.2.2.2.1), .int (y1.2.2.2.2.2)])), (sl i1, .inl (ca 2, 25, .inr (.inl (L1)))), (sa i2, .inr (1, [.ref (sl i2), .int (nI (y2.2.1)), .int (nI (wid y2.2.1)), .int (nI (y2.1.2)), .int (nI (y2.2.2.1)), .int (y2.2.2.2.1), .int (b2i y2.2.2.2.2.1), .int (y2.2.2.2.2.2)])), (sl i2, .inl (ca 2, 25, .inr (.inl (L2)))), (sa i3, .inr (1, [.ref (sl i3), .int (nI (y3.2.1)), .int (nI (wid y3.2.1)), .int (nI (y3.1.2)), .int (nI (y3.2.2.1)), .int (y3.2.2.2.1), .int (b2i y3.2.2.2.2.1), .int (y3.2.2.2.2.2)])), (sl i3, .inl (ca 2, 25, .inr (.inl (L3)))), (g 5, .inr (1, [.ref (sl 4), .int (z4 0), .int (z4 1), .int (z4 2), .int (z4 3), .int (z4 4), .int (z4 5), .int (z4 6)])), (sl 4, .inl (ca 2, 25, .inr (.inl (L4)))), (g 6, .inr (1, [.ref (sl 5), .int (z5 0), .int (z5 1), .int (z5 2), .int (z5 3), .int (z5 4), .int (z5 5), .int (z5 6)])), (sl 5, .inl (ca 2, 25, .inr (.inl (L5)))), (q 0, .inl (ca 0, 300, .inl (F 0))), (q 1, .inl (ca 0, 3, .inl (F 1))), (q 2, .inl (ca 0, 900, .inl (F 2))), (q 3, .inl (ca 1, 9600, .inl (F 3))), (q 4, .inl (ca 0, 6, .inl (F 4))), (q 5, .inl (ca 0, 6, .inl (F 5))), (q 6, .inl (ca 0, 6, .inl (F 6))), (q 7, .inl (ca 1, 6, .inl (F 7))), (q 8, .inl (ca 0, 6, .inl (F 8))), (q 9, .inl (ca 0, 6, .inl (F 9))), (q 10, .inl (ca 1, 1600, .inl (F 10))), (q 11, .inl (ca 1, 1600, .inl (F 11)))] := ⟨_, rfl⟩
  replace C : Cx D ca s0 A s ([(d, .inr (2, kF g)), (g 4, .inl (ca 4, 4, .inr (.inr (.inr (.inr sf))))), (h0, .inr (3, mF q (th) (nI (R 0).2))), (o, .inl (ca 2, 1, .inr (.inl (fo))))] ++ rest) H locs := by rw [hrest]; exact C.re [0, 1, 22, 35, 2, 3, 4, 5, 6, 7, 8, 9, 10, 11, 12, 13, 14, 15, 16, 17, 18, 19, 20, 21, 23, 24, 25, 26, 27, 28, 29, 30, 31, 32, 33, 34] rfl rfl
  refine lv_aload_n hx hb dL_law_373 rfl (lv_at hl 2 rfl) ?_
  refine lv_aload_n hx hb dL_law_374 rfl (lv_at hl 1 rfl) ?_
  refine lv_iload hx hb dL_law_375 (lv_at hl 0 rfl) ?_
  refine lv_iconst (v := nI 1) hx hb dL_law_377 (by decide) ?_
  refine n_add S dL_law_378 ?_
  refine n_sld S C hXX hbl hbA (i := (5 * t) + 1) (by omega) hLs dL_law_379 ?_
  refine lv_topi (nm_r (e' := nI i0) e1 ?_)
  refine lv_aload_n hx hb dL_law_380 rfl (lv_at hl 1 rfl) ?_
  refine lv_iload hx hb dL_law_381 (lv_at hl 0 rfl) ?_
  refine lv_iconst (v := nI 2) hx hb dL_law_383 (by decide) ?_
  refine n_add S dL_law_384 ?_
  refine n_sld S C hXX hbl hbA (i := (5 * t) + 2) (by omega) hLs dL_law_385 ?_
  refine lv_aload_n hx hb dL_law_386 rfl (lv_at hl 1 rfl) ?_
  refine lv_iload hx hb dL_law_387 (lv_at hl 0 rfl) ?_
  refine lv_iconst (v := nI 3) hx hb dL_law_389 (by decide) ?_
  refine n_add S dL_law_390 ?_
  refine n_sld S C hXX hbl hbA (i := (5 * t) + 3) (by omega) hLs dL_law_391 ?_
  refine lv_i2l (v := (xs (5 * t + 3)).toInt64) hx hb dL_law_392 rfl ?_
  refine lv_bipush (v := nI 32) hx hb dL_law_393 (by decide) ?_
  refine lv_lshl (v := lShl ((xs (5 * t + 3)).toInt64) 32) hx hb dL_law_395 rfl ?_
  refine lv_aload_n hx hb dL_law_396 rfl (lv_at hl 1 rfl) ?_
  refine lv_iload hx hb dL_law_397 (lv_at hl 0 rfl) ?_
  refine lv_iconst (v := nI 4) hx hb dL_law_399 (by decide) ?_
  refine n_add S dL_law_400 ?_
  refine n_sld S C hXX hbl hbA (i := (5 * t) + 4) (by omega) hLs dL_law_401 ?_
  refine lv_i2l (v := (xs (5 * t + 4)).toInt64) hx hb dL_law_402 rfl ?_
  refine lv_ldc2 (v := 4294967295) hx hb hown (hts _ g_488) dL_law_403 ?_
  refine lv_land hx hb dL_law_406 ?_
  refine lv_lor hx hb dL_law_407 ?_
  refine lv_topl (nm_r (e' := lv2 (xs (5 * t + 3)) (xs (5 * t + 4))) rfl ?_)
  refine lv_aload_n hx hb dL_law_408 rfl (lv_at hl 4 rfl) ?_
  refine n_callI5 (wc := [(d, .inr (2, kF g)), (g 4, .inl (ca 4, 4, .inr (.inr (.inr (.inr sf))))), (o, .inl (ca 2, 1, .inr (.inl (fo))))]) (wr := [(h0, .inr (3, mF q (th) (nI (R 0).2)))]) C [0, 1, 3] [2] rfl rfl rfl rfl (by decide) (fun hp => vx_runSW (rest := []) S (c_L_bytes_no2 l D ca s0 a0 Z hl0 sx Xs d g sf i0 hi0 ((sa i0)) ((sl i0)) hsf0 ((xs (5 * t + 2))) hr ((lv2 (xs (5 * t + 3)) (xs (5 * t + 4)))) Xn o fo _) (vx_cwSW 5 hts (gT g_251 g_252 g_29 g_253) rfl rfl rfl (by decide +kernel) ⟨Nat.le_of_ble_eq_true rfl, Nat.le_of_ble_eq_true rfl⟩) hp rfl rfl hl.1 rfl (lv_room (Nat.le_of_ble_eq_true rfl)) dL_law_409 ⟨by rw [rc_1]; omega, by rw [rs_1]; omega⟩) (fun r u H locs hp C => ?_)
  subst hp
  replace C : Cx D ca s0 A s ([(d, .inr (2, kF g)), (g 4, .inl (ca 4, 4, .inr (.inr (.inr (.inr sf))))), (h0, .inr (3, mF q (th) (nI (R 0).2))), (o, .inl (ca 2, 1, .inr (.inl (fo))))] ++ rest) H locs := C.reA [1, 2, 0, 3] rfl rfl
  refine lv_istore hx hb dL_law_412 hl (Nat.le_of_ble_eq_true rfl) rfl (fun ls hl => ?_)
  replace hl : lv_has ls 8 [(5, .int (nI 2)), (4, .int (nI (5 * t))), (0, .ref (b)), (1, .ref (d)), (2, .ref (h0)), (3, .ref (o))] := hl
  refine lv_aload_n hx hb dL_law_414 rfl (lv_at hl 4 rfl) ?_
  refine lv_aload_n hx hb dL_law_415 rfl (lv_at hl 2 rfl) ?_
  refine lv_iload hx hb dL_law_416 (lv_at hl 1 rfl) ?_
  refine lv_iconst (v := nI 1) hx hb dL_law_418 (by decide) ?_
  refine n_add S dL_law_419 ?_
  refine n_sld S C hXX hbl hbA (i := (5 * t) + 1) (by omega) hLs dL_law_420 ?_
  refine lv_topi (nm_r (e' := nI i0) e1 ?_)
  refine lv_aload_n hx hb dL_law_421 rfl (lv_at hl 2 rfl) ?_
  refine lv_iload hx hb dL_law_422 (lv_at hl 1 rfl) ?_
  refine lv_iconst (v := nI 2) hx hb dL_law_424 (by decide) ?_
  refine n_add S dL_law_425 ?_
  refine n_sld S C hXX hbl hbA (i := (5 * t) + 2) (by omega) hLs dL_law_426 ?_
  refine lv_aload_n hx hb dL_law_427 rfl (lv_at hl 2 rfl) ?_
  refine lv_iload hx hb dL_law_428 (lv_at hl 1 rfl) ?_
  refine lv_iconst (v := nI 3) hx hb dL_law_430 (by decide) ?_
  refine n_add S dL_law_431 ?_
  refine n_sld S C hXX hbl hbA (i := (5 * t) + 3) (by omega) hLs dL_law_432 ?_
  refine lv_i2l (v := (xs (5 * t + 3)).toInt64) hx hb dL_law_433 rfl ?_
  refine lv_bipush (v := nI 32) hx hb dL_law_434 (by decide) ?_
  refine lv_lshl (v := lShl ((xs (5 * t + 3)).toInt64) 32) hx hb dL_law_436 rfl ?_
  refine lv_aload_n hx hb dL_law_437 rfl (lv_at hl 2 rfl) ?_
  refine lv_iload hx hb dL_law_438 (lv_at hl 1 rfl) ?_
  refine lv_iconst (v := nI 4) hx hb dL_law_440 (by decide) ?_
  refine n_add S dL_law_441 ?_
  refine n_sld S C hXX hbl hbA (i := (5 * t) + 4) (by omega) hLs dL_law_442 ?_
  refine lv_i2l (v := (xs (5 * t + 4)).toInt64) hx hb dL_law_443 rfl ?_
  refine lv_ldc2 (v := 4294967295) hx hb hown (hts _ g_488) dL_law_444 ?_
  refine lv_land hx hb dL_law_447 ?_
  refine lv_lor hx hb dL_law_448 ?_
  refine lv_topl (nm_r (e' := lv2 (xs (5 * t + 3)) (xs (5 * t + 4))) rfl ?_)
  refine n_callI5 (wc := [(h0, .inr (3, mF q (th) (nI (R 0).2)))]) (wr := [(d, .inr (2, kF g)), (g 4, .inl (ca 4, 4, .inr (.inr (.inr (.inr sf))))), (o, .inl (ca 2, 1, .inr (.inl (fo))))]) C [2] [0, 1, 3] rfl rfl rfl rfl (by decide) (fun hp => va_runV (rest := []) S (c_M_bytes_no2 l D ca s0 a0 Z h0 q th ((nI (R 0).2)) i0 hi0 ((xs (5 * t + 2))) hr ((lv2 (xs (5 * t + 3)) (xs (5 * t + 4)))) _) (cwV 3 hts (gV g_445 g_446 g_447 g_34 g_448) rfl rfl rfl (by decide +kernel) ⟨Nat.le_of_ble_eq_true rfl, Nat.le_of_ble_eq_true rfl⟩) ⟨hp.1, n_recv C 2 3 rfl rfl, hp.2⟩ rfl rfl hl.1 rfl (lv_room (Nat.le_of_ble_eq_true rfl)) dL_law_449 ⟨by rw [rc_1]; omega, by rw [rs_1]; omega⟩) (fun r u H locs hp C => ?_)
  replace C : Cx D ca s0 A s ([(d, .inr (2, kF g)), (g 4, .inl (ca 4, 4, .inr (.inr (.inr (.inr sf))))), (h0, .inr (3, mF q (nI 2) (nI (R 0).2))), (o, .inl (ca 2, 1, .inr (.inl (fo))))] ++ rest) H locs := C.reA [0, 1, 3, 2] rfl rfl
  refine lv_istore hx hb dL_law_452 hl (Nat.le_of_ble_eq_true rfl) rfl (fun ls hl => ?_)
  replace hl : lv_has ls 8 [(6, .int (r)), (5, .int (nI 2)), (4, .int (nI (5 * t))), (0, .ref (b)), (1, .ref (d)), (2, .ref (h0)), (3, .ref (o))] := hl
  refine lv_aload_n hx hb dL_law_454 rfl (lv_at hl 5 rfl) ?_
  refine n_callI5 (wc := [(h0, .inr (3, mF q (nI 2) (nI (R 0).2)))]) (wr := [(d, .inr (2, kF g)), (g 4, .inl (ca 4, 4, .inr (.inr (.inr (.inr sf))))), (o, .inl (ca 2, 1, .inr (.inl (fo))))]) C [2] [0, 1, 3] rfl rfl rfl rfl (by decide) (fun hp => va_runV (rest := []) S (c_M_thrown l D ca s0 a0 Z h0 q ((nI 2)) ((nI (R 0).2)) _) (cwV 0 hts (gV g_418 g_419 g_420 g_34 g_421) rfl rfl rfl (by decide +kernel) ⟨Nat.le_of_ble_eq_true rfl, Nat.le_of_ble_eq_true rfl⟩) ⟨hp.1, n_recv C 2 3 rfl rfl, hp.2⟩ rfl rfl hl.1 rfl (lv_room (Nat.le_of_ble_eq_true rfl)) dL_law_455 ⟨by rw [rc_1]; omega, by rw [rs_1]; omega⟩) (fun r u H locs hp C => ?_)
  subst hp
  replace C : Cx D ca s0 A s ([(d, .inr (2, kF g)), (g 4, .inl (ca 4, 4, .inr (.inr (.inr (.inr sf))))), (h0, .inr (3, mF q (nI 2) (nI (R 0).2))), (o, .inl (ca 2, 1, .inr (.inl (fo))))] ++ rest) H locs := C.reA [0, 1, 3, 2] rfl rfl
  refine lv_iload hx hb dL_law_458 (lv_at hl 1 rfl) ?_
  refine n_icmp_eq (tgt := 465) S (by decide) (by decide) dL_law_460 (by decide) (fun hc => ?_) (fun hc => False.elim (by omega))
  refine lv_iload hx hb dL_law_465 (lv_at hl 1 rfl) ?_
  refine n_if_ne (tgt := 482) S (by omega) dL_law_467 (by decide) (fun hc => ?_) (fun hc => False.elim (by omega))
  refine lv_goto (tgt := 847) hx hb dL_law_482 (by decide) ?_
  rw [hrest] at C
  replace C : Cx D ca s0 A s (LA ca d g sf rb R rf sa sl i0 i1 i2 i3 ((c0, k, en, tk, dn, rm)) y1 y2 y3 L0 L1 L2 L3 z4 z5 L4 L5 h0 q (nI 2) (nI (R 0).2) F o fo) H locs := C.re [0, 1, 4, 5, 6, 7, 8, 9, 10, 11, 12, 13, 14, 15, 16, 17, 18, 19, 20, 21, 22, 23, 2, 24, 25, 26, 27, 28, 29, 30, 31, 32, 33, 34, 35, 3] rfl rfl
  exact W.widen (by omega) (by omega) (kk  H locs ls  C (lv_sub hl [2, 3, 4, 5, 6] rfl))
set_option maxHeartbeats 4000000 in
set_option maxRecDepth 100000 in
theorem o_bytes_no3 (p : Program) (l : Launch) (e : Env) (s : State) (m : MethodId) (args : Array Value) (below : List Frame) (meth : Method) (c : Code) (Q : State → Prop) (D : va_G) (ca : Nat → ClassId) (s0 : State) (a0 : Array Value) (A : Nat → Prop) (S : CallFix p m c cL_law 8 s args lw_good RL) (Z : Wd a0 s0) (zt : Nat → Nat) (Zs : ZS zt s0) (hl0 : l.stackTraces = false) (sx : Nat → Nat) (Xs : XS sx s0) (Xn : XN s0) (b Ls : Nat) (xs : Nat → Int32) (hXX : va_X b Ls xs s s.heap) (hbl : b < s.heap.size) (hbA : ¬ A b) (hLs : Ls ≤ 2560) (t ce so : Nat) (ht5 : 5 * t + 5 ≤ Ls) (hce : ce ≤ 1000) (hso : so ≤ 30000) (d : Nat) (g : Nat → Nat) (sf : Nat → Option Nat) (rb : Nat → Nat) (R : Nat → Rw) (rf : Nat → Nat → Int32) (sa sl : Nat → Nat) (i0 i1 i2 i3 : Nat) (y1 y2 y3 : Sp) (L0 L1 L2 L3 : Nat → Int64) (z4 z5 : Nat → Int32) (L4 L5 : Nat → Int64) (h0 : Nat) (q : Nat → Nat) (th : Int32) (F : MFn) (o : Nat) (fo : Nat → Int64) (hR : ∀ j, j < 4 → (R j).2 ≤ 300 ∧ sb_Lat (R j).1 (R j).2 (rf j)) (hMT : mTp (F 0) (R 0).1 (R 0).2) (hMR : ∀ r, r < 3 → mRo (F 1) (F 2) r (R (r + 1))) (c0 : Co) (k en : Nat) (tk : Int32) (dn : Bool) (rm : Int32) (hi0 : i0 < 4) (hsf0 : sf i0 = some (sa i0)) (hL0 : kEq (lb L0) c0.1) (hS0 : mSg F i0 (c0, k, en, tk, dn, rm)) (hk : k < 16) (hen : en < 256) (hp0 : c0.2 ≤ wid k) (hro : rOk rm) (e1 : xs (5 * t + 1) = nI i0) (n : Nat) (hn1 : 1 ≤ n) (hn8 : n ≤ 8) (e2 : xs (5 * t + 2) = nI n) (hr : dn = true ∨ 11 < k) (H : Heap) (locs : List Loc) (ls : Array Slot) (C : Cx D ca s0 A s (LA ca d g sf rb R rf sa sl i0 i1 i2 i3 ((c0, k, en, tk, dn, rm)) y1 y2 y3 L0 L1 L2 L3 z4 z5 L4 L5 h0 q th (nI (R 0).2) F o fo) H locs) (hl : lv_has ls 8 [(4, .int (nI (5 * t))), (0, .ref (b)), (1, .ref (d)), (2, .ref (h0)), (3, .ref (o))]) (kk : ∀  (H : Heap) (locs : List Loc) (ls : Array Slot), Cx D ca s0 A s (LA ca d g sf rb R rf sa sl i0 i1 i2 i3 ((c0, k, en, tk, dn, rm)) y1 y2 y3 L0 L1 L2 L3 z4 z5 L4 L5 h0 q (nI 3) (nI (R 0).2) F o fo) H locs → lv_has ls 8 [(4, .int (nI (5 * t))), (0, .ref (b)), (1, .ref (d)), (2, .ref (h0)), (3, .ref (o))] → W p l e room_1 s m args below meth c H locs (ce + 1) (so + 6) Q (F0 m 847 ls [])) : W p l e room_1 s m args below meth c H locs ce so Q (F0 m 373 ls []) := by
  have hx := S.1
  have hb := S.2.1
  have hown := S.2.2.2.1
  have hts := S.2.2.2.2
  have hR0 := (hR 0 (by decide)).1
  obtain ⟨rest, hrest⟩ : ∃ z : va_W, z = [(g 0, .inr (0, [.ref (rb 0), .int (nI ((R 0).2))])), (rb 0, .inl (ca 3, 300, .inl (rf 0))), (g 1, .inr (0, [.ref (rb 1), .int (nI ((R 1).2))])), (rb 1, .inl (ca 3, 300, .inl (rf 1))), (g 2, .inr (0, [.ref (rb 2), .int (nI ((R 2).2))])), (rb 2, .inl (ca 3, 300, .inl (rf 2))), (g 3, .inr (0, [.ref (rb 3), .int (nI ((R 3).2))])), (rb 3, .inl (ca 3, 300, .inl (rf 3))), (sl i0, .inl (ca 2, 25, .inr (.inl (L0)))), (sa i1, .inr (1, [.ref (sl i1), .int (nI (y1.2.1)), .int (nI (wid y1.2.1)), .int (nI (y1.1.2)), .int (nI (y1.2.2.1)), .int (y1.2.2.2.1), .int (b2i y1.2.2.2.2.1), .int (y1.2.2.2.2.2)])), (sl i1, .inl (ca 2, 25, .inr (.inl (L1)))), (sa i2, .inr (1, [.ref (sl i2), .int (nI (y2.2.1)), .int (nI (wid y2.2.1)), .int (nI (y2.1.2)), .int (nI (y2.2.2.1)), .int (y2.2.2.2.1), .int (b2i y2.2.2.2.2.1), .int (y2.2.2.2.2.2)])), (sl i2, .inl (ca 2, 25, .inr (.inl (L2)))), (sa i3, .inr (1, [.ref (sl i3), .int (nI (y3.2.1)), .int (nI (wid y3.2.1)), .int (nI (y3.1.2)), .int (nI (y3.2.2.1)), .int (y3.2.2.2.1), .int (b2i y3.2.2.2.2.1), .int (y3.2.2.2.2.2)])), (sl i3, .inl (ca 2, 25, .inr (.inl (L3)))), (g 5, .inr (1, [.ref (sl 4), .int (z4 0), .int (z4 1), .int (z4 2), .int (z4 3), .int (z4 4), .int (z4 5), .int (z4 6)])), (sl 4, .inl (ca 2, 25, .inr (.inl (L4)))), (g 6, .inr (1, [.ref (sl 5), .int (z5 0), .int (z5 1), .int (z5 2), .int (z5 3), .int (z5 4), .int (z5 5), .int (z5 6)])), (sl 5, .inl (ca 2, 25, .inr (.inl (L5)))), (q 0, .inl (ca 0, 300, .inl (F 0))), (q 1, .inl (ca 0, 3, .inl (F 1))), (q 2, .inl (ca 0, 900, .inl (F 2))), (q 3, .inl (ca 1, 9600, .inl (F 3))), (q 5, .inl (ca 0, 6, .inl (F 5))), (q 6, .inl (ca 0, 6, .inl (F 6))), (q 8, .inl (ca 0, 6, .inl (F 8))), (q 9, .inl (ca 0, 6, .inl (F 9))), (q 10, .inl (ca 1, 1600, .inl (F 10))), (q 11, .inl (ca 1, 1600, .inl (F 11)))] := ⟨_, rfl⟩
  replace C : Cx D ca s0 A s ([(d, .inr (2, kF g)), (g 4, .inl (ca 4, 4, .inr (.inr (.inr (.inr sf))))), (sa i0, .inr (1, [.ref (sl i0), .int (nI k), .int (nI (wid k)), .int (nI (c0.2)), .int (nI en), .int (tk), .int (b2i dn), .int (rm)])), (h0, .inr (3, mF q (th) (nI (R 0).2))), (q 4, .inl (ca 0, 6, .inl (F 4))), (q 7, .inl (ca 1, 6, .inl (F 7))), (o, .inl (ca 2, 1, .inr (.inl (fo))))] ++ rest) H locs := by rw [hrest]; exact C.re [0, 1, 10, 22, 27, 30, 35, 2, 3, 4, 5, 6, 7, 8, 9, 11, 12, 13, 14, 15, 16, 17, 18, 19, 20, 21, 23, 24, 25, 26, 28, 29, 31, 32, 33, 34] rfl rfl
  refine lv_aload_n hx hb dL_law_373 rfl (lv_at hl 2 rfl) ?_
  refine lv_aload_n hx hb dL_law_374 rfl (lv_at hl 1 rfl) ?_
  refine lv_iload hx hb dL_law_375 (lv_at hl 0 rfl) ?_
  refine lv_iconst (v := nI 1) hx hb dL_law_377 (by decide) ?_
  refine n_add S dL_law_378 ?_
  refine n_sld S C hXX hbl hbA (i := (5 * t) + 1) (by omega) hLs dL_law_379 ?_
  refine lv_topi (nm_r (e' := nI i0) e1 ?_)
  refine lv_aload_n hx hb dL_law_380 rfl (lv_at hl 1 rfl) ?_
  refine lv_iload hx hb dL_law_381 (lv_at hl 0 rfl) ?_
  refine lv_iconst (v := nI 2) hx hb dL_law_383 (by decide) ?_
  refine n_add S dL_law_384 ?_
  refine n_sld S C hXX hbl hbA (i := (5 * t) + 2) (by omega) hLs dL_law_385 ?_
  refine lv_topi (nm_r (e' := nI n) e2 ?_)
  refine lv_aload_n hx hb dL_law_386 rfl (lv_at hl 1 rfl) ?_
  refine lv_iload hx hb dL_law_387 (lv_at hl 0 rfl) ?_
  refine lv_iconst (v := nI 3) hx hb dL_law_389 (by decide) ?_
  refine n_add S dL_law_390 ?_
  refine n_sld S C hXX hbl hbA (i := (5 * t) + 3) (by omega) hLs dL_law_391 ?_
  refine lv_i2l (v := (xs (5 * t + 3)).toInt64) hx hb dL_law_392 rfl ?_
  refine lv_bipush (v := nI 32) hx hb dL_law_393 (by decide) ?_
  refine lv_lshl (v := lShl ((xs (5 * t + 3)).toInt64) 32) hx hb dL_law_395 rfl ?_
  refine lv_aload_n hx hb dL_law_396 rfl (lv_at hl 1 rfl) ?_
  refine lv_iload hx hb dL_law_397 (lv_at hl 0 rfl) ?_
  refine lv_iconst (v := nI 4) hx hb dL_law_399 (by decide) ?_
  refine n_add S dL_law_400 ?_
  refine n_sld S C hXX hbl hbA (i := (5 * t) + 4) (by omega) hLs dL_law_401 ?_
  refine lv_i2l (v := (xs (5 * t + 4)).toInt64) hx hb dL_law_402 rfl ?_
  refine lv_ldc2 (v := 4294967295) hx hb hown (hts _ g_488) dL_law_403 ?_
  refine lv_land hx hb dL_law_406 ?_
  refine lv_lor hx hb dL_law_407 ?_
  refine lv_topl (nm_r (e' := lv2 (xs (5 * t + 3)) (xs (5 * t + 4))) rfl ?_)
  refine lv_aload_n hx hb dL_law_408 rfl (lv_at hl 4 rfl) ?_
  refine n_callI5 (wc := [(d, .inr (2, kF g)), (g 4, .inl (ca 4, 4, .inr (.inr (.inr (.inr sf))))), (sa i0, .inr (1, [.ref (sl i0), .int (nI k), .int (nI (wid k)), .int (nI (c0.2)), .int (nI en), .int (tk), .int (b2i dn), .int (rm)])), (o, .inl (ca 2, 1, .inr (.inl (fo))))]) (wr := [(h0, .inr (3, mF q (th) (nI (R 0).2))), (q 4, .inl (ca 0, 6, .inl (F 4))), (q 7, .inl (ca 1, 6, .inl (F 7)))]) C [0, 1, 2, 6] [3, 4, 5] rfl rfl rfl rfl (by decide) (fun hp => vx_runSW (rest := []) S (c_L_bytes_no3 l D ca s0 a0 Z hl0 sx Xs d g sf i0 hi0 ((sa i0)) ((sl i0)) hsf0 ((nI (wid k))) ((nI c0.2)) ((nI en)) tk rm dn k hk n hn1 hn8 ((lv2 (xs (5 * t + 3)) (xs (5 * t + 4)))) hr Xn o fo _) (vx_cwSW 5 hts (gT g_251 g_252 g_29 g_253) rfl rfl rfl (by decide +kernel) ⟨Nat.le_of_ble_eq_true rfl, Nat.le_of_ble_eq_true rfl⟩) hp rfl rfl hl.1 rfl (lv_room (Nat.le_of_ble_eq_true rfl)) dL_law_409 ⟨by rw [rc_1]; omega, by rw [rs_1]; omega⟩) (fun r u H locs hp C => ?_)
  subst hp
  replace C : Cx D ca s0 A s ([(d, .inr (2, kF g)), (g 4, .inl (ca 4, 4, .inr (.inr (.inr (.inr sf))))), (sa i0, .inr (1, [.ref (sl i0), .int (nI k), .int (nI (wid k)), .int (nI (c0.2)), .int (nI en), .int (tk), .int (b2i dn), .int (rm)])), (h0, .inr (3, mF q (th) (nI (R 0).2))), (q 4, .inl (ca 0, 6, .inl (F 4))), (q 7, .inl (ca 1, 6, .inl (F 7))), (o, .inl (ca 2, 1, .inr (.inl (fo))))] ++ rest) H locs := C.reA [3, 4, 5, 0, 1, 2, 6] rfl rfl
  refine lv_istore hx hb dL_law_412 hl (Nat.le_of_ble_eq_true rfl) rfl (fun ls hl => ?_)
  replace hl : lv_has ls 8 [(5, .int (nI 3)), (4, .int (nI (5 * t))), (0, .ref (b)), (1, .ref (d)), (2, .ref (h0)), (3, .ref (o))] := hl
  refine lv_aload_n hx hb dL_law_414 rfl (lv_at hl 4 rfl) ?_
  refine lv_aload_n hx hb dL_law_415 rfl (lv_at hl 2 rfl) ?_
  refine lv_iload hx hb dL_law_416 (lv_at hl 1 rfl) ?_
  refine lv_iconst (v := nI 1) hx hb dL_law_418 (by decide) ?_
  refine n_add S dL_law_419 ?_
  refine n_sld S C hXX hbl hbA (i := (5 * t) + 1) (by omega) hLs dL_law_420 ?_
  refine lv_topi (nm_r (e' := nI i0) e1 ?_)
  refine lv_aload_n hx hb dL_law_421 rfl (lv_at hl 2 rfl) ?_
  refine lv_iload hx hb dL_law_422 (lv_at hl 1 rfl) ?_
  refine lv_iconst (v := nI 2) hx hb dL_law_424 (by decide) ?_
  refine n_add S dL_law_425 ?_
  refine n_sld S C hXX hbl hbA (i := (5 * t) + 2) (by omega) hLs dL_law_426 ?_
  refine lv_topi (nm_r (e' := nI n) e2 ?_)
  refine lv_aload_n hx hb dL_law_427 rfl (lv_at hl 2 rfl) ?_
  refine lv_iload hx hb dL_law_428 (lv_at hl 1 rfl) ?_
  refine lv_iconst (v := nI 3) hx hb dL_law_430 (by decide) ?_
  refine n_add S dL_law_431 ?_
  refine n_sld S C hXX hbl hbA (i := (5 * t) + 3) (by omega) hLs dL_law_432 ?_
  refine lv_i2l (v := (xs (5 * t + 3)).toInt64) hx hb dL_law_433 rfl ?_
  refine lv_bipush (v := nI 32) hx hb dL_law_434 (by decide) ?_
  refine lv_lshl (v := lShl ((xs (5 * t + 3)).toInt64) 32) hx hb dL_law_436 rfl ?_
  refine lv_aload_n hx hb dL_law_437 rfl (lv_at hl 2 rfl) ?_
  refine lv_iload hx hb dL_law_438 (lv_at hl 1 rfl) ?_
  refine lv_iconst (v := nI 4) hx hb dL_law_440 (by decide) ?_
  refine n_add S dL_law_441 ?_
  refine n_sld S C hXX hbl hbA (i := (5 * t) + 4) (by omega) hLs dL_law_442 ?_
  refine lv_i2l (v := (xs (5 * t + 4)).toInt64) hx hb dL_law_443 rfl ?_
  refine lv_ldc2 (v := 4294967295) hx hb hown (hts _ g_488) dL_law_444 ?_
  refine lv_land hx hb dL_law_447 ?_
  refine lv_lor hx hb dL_law_448 ?_
  refine lv_topl (nm_r (e' := lv2 (xs (5 * t + 3)) (xs (5 * t + 4))) rfl ?_)
  refine n_callI5 (wc := [(h0, .inr (3, mF q (th) (nI (R 0).2))), (q 7, .inl (ca 1, 6, .inl (F 7))), (q 4, .inl (ca 0, 6, .inl (F 4)))]) (wr := [(d, .inr (2, kF g)), (g 4, .inl (ca 4, 4, .inr (.inr (.inr (.inr sf))))), (sa i0, .inr (1, [.ref (sl i0), .int (nI k), .int (nI (wid k)), .int (nI (c0.2)), .int (nI en), .int (tk), .int (b2i dn), .int (rm)])), (o, .inl (ca 2, 1, .inr (.inl (fo))))]) C [3, 5, 4] [0, 1, 2, 6] rfl rfl rfl rfl (by decide) (fun hp => va_runV (rest := []) S (c_M_bytes_no3 l D ca s0 a0 Z h0 q th ((nI (R 0).2)) i0 hi0 n hn1 hn8 ((lv2 (xs (5 * t + 3)) (xs (5 * t + 4)))) F dn k hS0.2.2.2.2.1 hS0.2.1 hk hr _) (cwV 3 hts (gV g_445 g_446 g_447 g_34 g_448) rfl rfl rfl (by decide +kernel) ⟨Nat.le_of_ble_eq_true rfl, Nat.le_of_ble_eq_true rfl⟩) ⟨hp.1, n_recv C 3 3 rfl rfl, hp.2⟩ rfl rfl hl.1 rfl (lv_room (Nat.le_of_ble_eq_true rfl)) dL_law_449 ⟨by rw [rc_1]; omega, by rw [rs_1]; omega⟩) (fun r u H locs hp C => ?_)
  replace C : Cx D ca s0 A s ([(d, .inr (2, kF g)), (g 4, .inl (ca 4, 4, .inr (.inr (.inr (.inr sf))))), (sa i0, .inr (1, [.ref (sl i0), .int (nI k), .int (nI (wid k)), .int (nI (c0.2)), .int (nI en), .int (tk), .int (b2i dn), .int (rm)])), (h0, .inr (3, mF q (nI 3) (nI (R 0).2))), (q 4, .inl (ca 0, 6, .inl (F 4))), (q 7, .inl (ca 1, 6, .inl (F 7))), (o, .inl (ca 2, 1, .inr (.inl (fo))))] ++ rest) H locs := C.reA [0, 1, 2, 4, 6, 5, 3] rfl rfl
  refine lv_istore hx hb dL_law_452 hl (Nat.le_of_ble_eq_true rfl) rfl (fun ls hl => ?_)
  replace hl : lv_has ls 8 [(6, .int (r)), (5, .int (nI 3)), (4, .int (nI (5 * t))), (0, .ref (b)), (1, .ref (d)), (2, .ref (h0)), (3, .ref (o))] := hl
  refine lv_aload_n hx hb dL_law_454 rfl (lv_at hl 5 rfl) ?_
  refine n_callI5 (wc := [(h0, .inr (3, mF q (nI 3) (nI (R 0).2)))]) (wr := [(d, .inr (2, kF g)), (g 4, .inl (ca 4, 4, .inr (.inr (.inr (.inr sf))))), (sa i0, .inr (1, [.ref (sl i0), .int (nI k), .int (nI (wid k)), .int (nI (c0.2)), .int (nI en), .int (tk), .int (b2i dn), .int (rm)])), (q 4, .inl (ca 0, 6, .inl (F 4))), (q 7, .inl (ca 1, 6, .inl (F 7))), (o, .inl (ca 2, 1, .inr (.inl (fo))))]) C [3] [0, 1, 2, 4, 5, 6] rfl rfl rfl rfl (by decide) (fun hp => va_runV (rest := []) S (c_M_thrown l D ca s0 a0 Z h0 q ((nI 3)) ((nI (R 0).2)) _) (cwV 0 hts (gV g_418 g_419 g_420 g_34 g_421) rfl rfl rfl (by decide +kernel) ⟨Nat.le_of_ble_eq_true rfl, Nat.le_of_ble_eq_true rfl⟩) ⟨hp.1, n_recv C 3 3 rfl rfl, hp.2⟩ rfl rfl hl.1 rfl (lv_room (Nat.le_of_ble_eq_true rfl)) dL_law_455 ⟨by rw [rc_1]; omega, by rw [rs_1]; omega⟩) (fun r u H locs hp C => ?_)
  subst hp
  replace C : Cx D ca s0 A s ([(d, .inr (2, kF g)), (g 4, .inl (ca 4, 4, .inr (.inr (.inr (.inr sf))))), (sa i0, .inr (1, [.ref (sl i0), .int (nI k), .int (nI (wid k)), .int (nI (c0.2)), .int (nI en), .int (tk), .int (b2i dn), .int (rm)])), (h0, .inr (3, mF q (nI 3) (nI (R 0).2))), (q 4, .inl (ca 0, 6, .inl (F 4))), (q 7, .inl (ca 1, 6, .inl (F 7))), (o, .inl (ca 2, 1, .inr (.inl (fo))))] ++ rest) H locs := C.reA [0, 1, 2, 6, 3, 4, 5] rfl rfl
  refine lv_iload hx hb dL_law_458 (lv_at hl 1 rfl) ?_
  refine n_icmp_eq (tgt := 465) S (by decide) (by decide) dL_law_460 (by decide) (fun hc => ?_) (fun hc => False.elim (by omega))
  refine lv_iload hx hb dL_law_465 (lv_at hl 1 rfl) ?_
  refine n_if_ne (tgt := 482) S (by omega) dL_law_467 (by decide) (fun hc => ?_) (fun hc => False.elim (by omega))
  refine lv_goto (tgt := 847) hx hb dL_law_482 (by decide) ?_
  rw [hrest] at C
  replace C : Cx D ca s0 A s (LA ca d g sf rb R rf sa sl i0 i1 i2 i3 ((c0, k, en, tk, dn, rm)) y1 y2 y3 L0 L1 L2 L3 z4 z5 L4 L5 h0 q (nI 3) (nI (R 0).2) F o fo) H locs := C.re [0, 1, 7, 8, 9, 10, 11, 12, 13, 14, 2, 15, 16, 17, 18, 19, 20, 21, 22, 23, 24, 25, 3, 26, 27, 28, 29, 4, 30, 31, 5, 32, 33, 34, 35, 6] rfl rfl
  exact W.widen (by omega) (by omega) (kk  H locs ls  C (lv_sub hl [2, 3, 4, 5, 6] rfl))
set_option maxHeartbeats 4000000 in
set_option maxRecDepth 100000 in
theorem o_bytes_ok (p : Program) (l : Launch) (e : Env) (s : State) (m : MethodId) (args : Array Value) (below : List Frame) (meth : Method) (c : Code) (Q : State → Prop) (D : va_G) (ca : Nat → ClassId) (s0 : State) (a0 : Array Value) (A : Nat → Prop) (S : CallFix p m c cL_law 8 s args lw_good RL) (Z : Wd a0 s0) (zt : Nat → Nat) (Zs : ZS zt s0) (hl0 : l.stackTraces = false) (sx : Nat → Nat) (Xs : XS sx s0) (Xn : XN s0) (b Ls : Nat) (xs : Nat → Int32) (hXX : va_X b Ls xs s s.heap) (hbl : b < s.heap.size) (hbA : ¬ A b) (hLs : Ls ≤ 2560) (t ce so : Nat) (ht5 : 5 * t + 5 ≤ Ls) (hce : ce ≤ 1000) (hso : so ≤ 30000) (d : Nat) (g : Nat → Nat) (sf : Nat → Option Nat) (rb : Nat → Nat) (R : Nat → Rw) (rf : Nat → Nat → Int32) (sa sl : Nat → Nat) (i0 i1 i2 i3 : Nat) (y1 y2 y3 : Sp) (L0 L1 L2 L3 : Nat → Int64) (z4 z5 : Nat → Int32) (L4 L5 : Nat → Int64) (h0 : Nat) (q : Nat → Nat) (th : Int32) (F : MFn) (o : Nat) (fo : Nat → Int64) (hR : ∀ j, j < 4 → (R j).2 ≤ 300 ∧ sb_Lat (R j).1 (R j).2 (rf j)) (hMT : mTp (F 0) (R 0).1 (R 0).2) (hMR : ∀ r, r < 3 → mRo (F 1) (F 2) r (R (r + 1))) (c0 : Co) (k en : Nat) (tk : Int32) (rm : Int32) (hi0 : i0 < 4) (hsf0 : sf i0 = some (sa i0)) (hL0 : kEq (lb L0) c0.1) (hS0 : mSg F i0 (c0, k, en, tk, false, rm)) (hk : k < 16) (hen : en < 256) (hp0 : c0.2 ≤ wid k) (hro : rOk rm) (e1 : xs (5 * t + 1) = nI i0) (hp1 : c0.2 < wid k) (hk12 : k < 12) (n : Nat) (hn1 : 1 ≤ n) (hn8 : n ≤ 8) (e2 : xs (5 * t + 2) = nI n) (H : Heap) (locs : List Loc) (ls : Array Slot) (C : Cx D ca s0 A s (LA ca d g sf rb R rf sa sl i0 i1 i2 i3 ((c0, k, en, tk, false, rm)) y1 y2 y3 L0 L1 L2 L3 z4 z5 L4 L5 h0 q th (nI (R 0).2) F o fo) H locs) (hl : lv_has ls 8 [(4, .int (nI (5 * t))), (0, .ref (b)), (1, .ref (d)), (2, .ref (h0)), (3, .ref (o))]) (kk : ∀ (M1 : Nat → Int64) (u1 : MFn) (H : Heap) (locs : List Loc) (ls : Array Slot), kEq (lb M1) (takeR (wid k) c0 (byAt (lv2 (xs (5 * t + 3)) (xs (5 * t + 4)))) n).1 → mU F u1 i0 (takeR (wid k) c0 (byAt (lv2 (xs (5 * t + 3)) (xs (5 * t + 4)))) n, k, en, tk + nI n, false, rm) → Cx D ca s0 A s (LA ca d g sf rb R rf sa sl i0 i1 i2 i3 ((takeR (wid k) c0 (byAt (lv2 (xs (5 * t + 3)) (xs (5 * t + 4)))) n, k, en, tk + nI n, false, rm)) y1 y2 y3 M1 L1 L2 L3 z4 z5 L4 L5 h0 q (nI 0) (nI (R 0).2) (hiF F u1) o (vp_updL fo 0 ((tk + nI n).toInt64))) H locs → lv_has ls 8 [(4, .int (nI (5 * t))), (0, .ref (b)), (1, .ref (d)), (2, .ref (h0)), (3, .ref (o))] → W p l e room_1 s m args below meth c H locs (ce + 1) (so + 6) Q (F0 m 847 ls [])) : W p l e room_1 s m args below meth c H locs ce so Q (F0 m 373 ls []) := by
  have hx := S.1
  have hb := S.2.1
  have hown := S.2.2.2.1
  have hts := S.2.2.2.2
  have hR0 := (hR 0 (by decide)).1
  obtain ⟨rest, hrest⟩ : ∃ z : va_W, z = [(g 0, .inr (0, [.ref (rb 0), .int (nI ((R 0).2))])), (rb 0, .inl (ca 3, 300, .inl (rf 0))), (g 1, .inr (0, [.ref (rb 1), .int (nI ((R 1).2))])), (rb 1, .inl (ca 3, 300, .inl (rf 1))), (g 2, .inr (0, [.ref (rb 2), .int (nI ((R 2).2))])), (rb 2, .inl (ca 3, 300, .inl (rf 2))), (g 3, .inr (0, [.ref (rb 3), .int (nI ((R 3).2))])), (rb 3, .inl (ca 3, 300, .inl (rf 3))), (sa i1, .inr (1, [.ref (sl i1), .int (nI (y1.2.1)), .int (nI (wid y1.2.1)), .int (nI (y1.1.2)), .int (nI (y1.2.2.1)), .int (y1.2.2.2.1), .int (b2i y1.2.2.2.2.1), .int (y1.2.2.2.2.2)])), (sl i1, .inl (ca 2, 25, .inr (.inl (L1)))), (sa i2, .inr (1, [.ref (sl i2), .int (nI (y2.2.1)), .int (nI (wid y2.2.1)), .int (nI (y2.1.2)), .int (nI (y2.2.2.1)), .int (y2.2.2.2.1), .int (b2i y2.2.2.2.2.1), .int (y2.2.2.2.2.2)])), (sl i2, .inl (ca 2, 25, .inr (.inl (L2)))), (sa i3, .inr (1, [.ref (sl i3), .int (nI (y3.2.1)), .int (nI (wid y3.2.1)), .int (nI (y3.1.2)), .int (nI (y3.2.2.1)), .int (y3.2.2.2.1), .int (b2i y3.2.2.2.2.1), .int (y3.2.2.2.2.2)])), (sl i3, .inl (ca 2, 25, .inr (.inl (L3)))), (g 5, .inr (1, [.ref (sl 4), .int (z4 0), .int (z4 1), .int (z4 2), .int (z4 3), .int (z4 4), .int (z4 5), .int (z4 6)])), (sl 4, .inl (ca 2, 25, .inr (.inl (L4)))), (g 6, .inr (1, [.ref (sl 5), .int (z5 0), .int (z5 1), .int (z5 2), .int (z5 3), .int (z5 4), .int (z5 5), .int (z5 6)])), (sl 5, .inl (ca 2, 25, .inr (.inl (L5)))), (q 0, .inl (ca 0, 300, .inl (F 0))), (q 1, .inl (ca 0, 3, .inl (F 1))), (q 2, .inl (ca 0, 900, .inl (F 2)))] := ⟨_, rfl⟩
  replace C : Cx D ca s0 A s ([(d, .inr (2, kF g)), (g 4, .inl (ca 4, 4, .inr (.inr (.inr (.inr sf))))), (sa i0, .inr (1, [.ref (sl i0), .int (nI k), .int (nI (wid k)), .int (nI (c0.2)), .int (nI en), .int (tk), .int (b2i false), .int (rm)])), (sl i0, .inl (ca 2, 25, .inr (.inl (L0)))), (h0, .inr (3, mF q (th) (nI (R 0).2))), (q 3, .inl (ca 1, 9600, .inl (F 3))), (q 4, .inl (ca 0, 6, .inl (F 4))), (q 5, .inl (ca 0, 6, .inl (F 5))), (q 6, .inl (ca 0, 6, .inl (F 6))), (q 7, .inl (ca 1, 6, .inl (F 7))), (q 8, .inl (ca 0, 6, .inl (F 8))), (q 9, .inl (ca 0, 6, .inl (F 9))), (q 10, .inl (ca 1, 1600, .inl (F 10))), (q 11, .inl (ca 1, 1600, .inl (F 11))), (o, .inl (ca 2, 1, .inr (.inl (fo))))] ++ rest) H locs := by rw [hrest]; exact C.re [0, 1, 10, 11, 22, 26, 27, 28, 29, 30, 31, 32, 33, 34, 35, 2, 3, 4, 5, 6, 7, 8, 9, 12, 13, 14, 15, 16, 17, 18, 19, 20, 21, 23, 24, 25] rfl rfl
  refine lv_aload_n hx hb dL_law_373 rfl (lv_at hl 2 rfl) ?_
  refine lv_aload_n hx hb dL_law_374 rfl (lv_at hl 1 rfl) ?_
  refine lv_iload hx hb dL_law_375 (lv_at hl 0 rfl) ?_
  refine lv_iconst (v := nI 1) hx hb dL_law_377 (by decide) ?_
  refine n_add S dL_law_378 ?_
  refine n_sld S C hXX hbl hbA (i := (5 * t) + 1) (by omega) hLs dL_law_379 ?_
  refine lv_topi (nm_r (e' := nI i0) e1 ?_)
  refine lv_aload_n hx hb dL_law_380 rfl (lv_at hl 1 rfl) ?_
  refine lv_iload hx hb dL_law_381 (lv_at hl 0 rfl) ?_
  refine lv_iconst (v := nI 2) hx hb dL_law_383 (by decide) ?_
  refine n_add S dL_law_384 ?_
  refine n_sld S C hXX hbl hbA (i := (5 * t) + 2) (by omega) hLs dL_law_385 ?_
  refine lv_topi (nm_r (e' := nI n) e2 ?_)
  refine lv_aload_n hx hb dL_law_386 rfl (lv_at hl 1 rfl) ?_
  refine lv_iload hx hb dL_law_387 (lv_at hl 0 rfl) ?_
  refine lv_iconst (v := nI 3) hx hb dL_law_389 (by decide) ?_
  refine n_add S dL_law_390 ?_
  refine n_sld S C hXX hbl hbA (i := (5 * t) + 3) (by omega) hLs dL_law_391 ?_
  refine lv_i2l (v := (xs (5 * t + 3)).toInt64) hx hb dL_law_392 rfl ?_
  refine lv_bipush (v := nI 32) hx hb dL_law_393 (by decide) ?_
  refine lv_lshl (v := lShl ((xs (5 * t + 3)).toInt64) 32) hx hb dL_law_395 rfl ?_
  refine lv_aload_n hx hb dL_law_396 rfl (lv_at hl 1 rfl) ?_
  refine lv_iload hx hb dL_law_397 (lv_at hl 0 rfl) ?_
  refine lv_iconst (v := nI 4) hx hb dL_law_399 (by decide) ?_
  refine n_add S dL_law_400 ?_
  refine n_sld S C hXX hbl hbA (i := (5 * t) + 4) (by omega) hLs dL_law_401 ?_
  refine lv_i2l (v := (xs (5 * t + 4)).toInt64) hx hb dL_law_402 rfl ?_
  refine lv_ldc2 (v := 4294967295) hx hb hown (hts _ g_488) dL_law_403 ?_
  refine lv_land hx hb dL_law_406 ?_
  refine lv_lor hx hb dL_law_407 ?_
  refine lv_topl (nm_r (e' := lv2 (xs (5 * t + 3)) (xs (5 * t + 4))) rfl ?_)
  refine lv_aload_n hx hb dL_law_408 rfl (lv_at hl 4 rfl) ?_
  refine n_callI5 (wc := [(d, .inr (2, kF g)), (g 4, .inl (ca 4, 4, .inr (.inr (.inr (.inr sf))))), (sa i0, .inr (1, [.ref (sl i0), .int (nI k), .int (nI (wid k)), .int (nI (c0.2)), .int (nI en), .int (tk), .int (b2i false), .int (rm)])), (sl i0, .inl (ca 2, 25, .inr (.inl (L0)))), (o, .inl (ca 2, 1, .inr (.inl (fo))))]) (wr := [(h0, .inr (3, mF q (th) (nI (R 0).2))), (q 3, .inl (ca 1, 9600, .inl (F 3))), (q 4, .inl (ca 0, 6, .inl (F 4))), (q 5, .inl (ca 0, 6, .inl (F 5))), (q 6, .inl (ca 0, 6, .inl (F 6))), (q 7, .inl (ca 1, 6, .inl (F 7))), (q 8, .inl (ca 0, 6, .inl (F 8))), (q 9, .inl (ca 0, 6, .inl (F 9))), (q 10, .inl (ca 1, 1600, .inl (F 10))), (q 11, .inl (ca 1, 1600, .inl (F 11)))]) C [0, 1, 2, 3, 14] [4, 5, 6, 7, 8, 9, 10, 11, 12, 13] rfl rfl rfl rfl (by decide) (fun hp => vx_runSW (rest := []) S (c_L_bytes_ok l D ca s0 a0 Z zt Zs d g sf i0 hi0 ((sa i0)) ((sl i0)) hsf0 L0 ((nI en)) tk rm k hk c0 hL0 hp1 hk12 n hn1 hn8 ((lv2 (xs (5 * t + 3)) (xs (5 * t + 4)))) o fo _) (vx_cwSW 5 hts (gT g_251 g_252 g_29 g_253) rfl rfl rfl (by decide +kernel) ⟨Nat.le_of_ble_eq_true rfl, Nat.le_of_ble_eq_true rfl⟩) hp rfl rfl hl.1 rfl (lv_room (Nat.le_of_ble_eq_true rfl)) dL_law_409 ⟨by rw [rc_1]; omega, by rw [rs_1]; omega⟩) (fun r u H locs hp C => ?_)
  obtain ⟨rfl, hw1⟩ := hp
  obtain ⟨M1, rfl⟩ : ∃ z, z = u := ⟨_, rfl⟩
  replace C : Cx D ca s0 A s ([(d, .inr (2, kF g)), (g 4, .inl (ca 4, 4, .inr (.inr (.inr (.inr sf))))), (sa i0, .inr (1, [.ref (sl i0), .int (nI k), .int (nI (wid k)), .int (nI ((takeR (wid k) c0 (byAt (lv2 (xs (5 * t + 3)) (xs (5 * t + 4)))) n).2)), .int (nI en), .int (tk + nI n), .int (b2i false), .int (rm)])), (sl i0, .inl (ca 2, 25, .inr (.inl (M1)))), (h0, .inr (3, mF q (th) (nI (R 0).2))), (q 3, .inl (ca 1, 9600, .inl (F 3))), (q 4, .inl (ca 0, 6, .inl (F 4))), (q 5, .inl (ca 0, 6, .inl (F 5))), (q 6, .inl (ca 0, 6, .inl (F 6))), (q 7, .inl (ca 1, 6, .inl (F 7))), (q 8, .inl (ca 0, 6, .inl (F 8))), (q 9, .inl (ca 0, 6, .inl (F 9))), (q 10, .inl (ca 1, 1600, .inl (F 10))), (q 11, .inl (ca 1, 1600, .inl (F 11))), (o, .inl (ca 2, 1, .inr (.inl (vp_updL fo 0 ((tk + nI n).toInt64)))))] ++ rest) H locs := C.reA [10, 11, 12, 13, 0, 1, 2, 3, 4, 5, 6, 7, 8, 9, 14] rfl rfl
  refine lv_istore hx hb dL_law_412 hl (Nat.le_of_ble_eq_true rfl) rfl (fun ls hl => ?_)
  replace hl : lv_has ls 8 [(5, .int (nI 0)), (4, .int (nI (5 * t))), (0, .ref (b)), (1, .ref (d)), (2, .ref (h0)), (3, .ref (o))] := hl
  refine lv_aload_n hx hb dL_law_414 rfl (lv_at hl 4 rfl) ?_
  refine lv_aload_n hx hb dL_law_415 rfl (lv_at hl 2 rfl) ?_
  refine lv_iload hx hb dL_law_416 (lv_at hl 1 rfl) ?_
  refine lv_iconst (v := nI 1) hx hb dL_law_418 (by decide) ?_
  refine n_add S dL_law_419 ?_
  refine n_sld S C hXX hbl hbA (i := (5 * t) + 1) (by omega) hLs dL_law_420 ?_
  refine lv_topi (nm_r (e' := nI i0) e1 ?_)
  refine lv_aload_n hx hb dL_law_421 rfl (lv_at hl 2 rfl) ?_
  refine lv_iload hx hb dL_law_422 (lv_at hl 1 rfl) ?_
  refine lv_iconst (v := nI 2) hx hb dL_law_424 (by decide) ?_
  refine n_add S dL_law_425 ?_
  refine n_sld S C hXX hbl hbA (i := (5 * t) + 2) (by omega) hLs dL_law_426 ?_
  refine lv_topi (nm_r (e' := nI n) e2 ?_)
  refine lv_aload_n hx hb dL_law_427 rfl (lv_at hl 2 rfl) ?_
  refine lv_iload hx hb dL_law_428 (lv_at hl 1 rfl) ?_
  refine lv_iconst (v := nI 3) hx hb dL_law_430 (by decide) ?_
  refine n_add S dL_law_431 ?_
  refine n_sld S C hXX hbl hbA (i := (5 * t) + 3) (by omega) hLs dL_law_432 ?_
  refine lv_i2l (v := (xs (5 * t + 3)).toInt64) hx hb dL_law_433 rfl ?_
  refine lv_bipush (v := nI 32) hx hb dL_law_434 (by decide) ?_
  refine lv_lshl (v := lShl ((xs (5 * t + 3)).toInt64) 32) hx hb dL_law_436 rfl ?_
  refine lv_aload_n hx hb dL_law_437 rfl (lv_at hl 2 rfl) ?_
  refine lv_iload hx hb dL_law_438 (lv_at hl 1 rfl) ?_
  refine lv_iconst (v := nI 4) hx hb dL_law_440 (by decide) ?_
  refine n_add S dL_law_441 ?_
  refine n_sld S C hXX hbl hbA (i := (5 * t) + 4) (by omega) hLs dL_law_442 ?_
  refine lv_i2l (v := (xs (5 * t + 4)).toInt64) hx hb dL_law_443 rfl ?_
  refine lv_ldc2 (v := 4294967295) hx hb hown (hts _ g_488) dL_law_444 ?_
  refine lv_land hx hb dL_law_447 ?_
  refine lv_lor hx hb dL_law_448 ?_
  refine lv_topl (nm_r (e' := lv2 (xs (5 * t + 3)) (xs (5 * t + 4))) rfl ?_)
  refine n_callI5 (wc := [(h0, .inr (3, mF q (th) (nI (R 0).2))), (q 3, .inl (ca 1, 9600, .inl (F 3))), (q 4, .inl (ca 0, 6, .inl (F 4))), (q 5, .inl (ca 0, 6, .inl (F 5))), (q 6, .inl (ca 0, 6, .inl (F 6))), (q 7, .inl (ca 1, 6, .inl (F 7))), (q 8, .inl (ca 0, 6, .inl (F 8))), (q 9, .inl (ca 0, 6, .inl (F 9))), (q 10, .inl (ca 1, 1600, .inl (F 10))), (q 11, .inl (ca 1, 1600, .inl (F 11)))]) (wr := [(d, .inr (2, kF g)), (g 4, .inl (ca 4, 4, .inr (.inr (.inr (.inr sf))))), (sa i0, .inr (1, [.ref (sl i0), .int (nI k), .int (nI (wid k)), .int (nI ((takeR (wid k) c0 (byAt (lv2 (xs (5 * t + 3)) (xs (5 * t + 4)))) n).2)), .int (nI en), .int (tk + nI n), .int (b2i false), .int (rm)])), (sl i0, .inl (ca 2, 25, .inr (.inl (M1)))), (o, .inl (ca 2, 1, .inr (.inl (vp_updL fo 0 ((tk + nI n).toInt64)))))]) C [4, 5, 6, 7, 8, 9, 10, 11, 12, 13] [0, 1, 2, 3, 14] rfl rfl rfl rfl (by decide) (fun hp => va_runV (rest := []) S (c_M_bytes_ok l D ca s0 a0 Z h0 q th ((nI (R 0).2)) F i0 hi0 c0 k en tk rm hk hS0 hp1 hk12 n hn1 hn8 ((lv2 (xs (5 * t + 3)) (xs (5 * t + 4)))) _) (cwV 3 hts (gV g_445 g_446 g_447 g_34 g_448) rfl rfl rfl (by decide +kernel) ⟨Nat.le_of_ble_eq_true rfl, Nat.le_of_ble_eq_true rfl⟩) ⟨hp.1, n_recv C 4 3 rfl rfl, hp.2⟩ rfl rfl hl.1 rfl (lv_room (Nat.le_of_ble_eq_true rfl)) dL_law_449 ⟨by rw [rc_1]; omega, by rw [rs_1]; omega⟩) (fun r u H locs hp C => ?_)
  obtain ⟨rfl, hm1⟩ := hp
  obtain ⟨u1, rfl⟩ : ∃ z, z = u := ⟨_, rfl⟩
  replace C : Cx D ca s0 A s ([(d, .inr (2, kF g)), (g 4, .inl (ca 4, 4, .inr (.inr (.inr (.inr sf))))), (sa i0, .inr (1, [.ref (sl i0), .int (nI k), .int (nI (wid k)), .int (nI ((takeR (wid k) c0 (byAt (lv2 (xs (5 * t + 3)) (xs (5 * t + 4)))) n).2)), .int (nI en), .int (tk + nI n), .int (b2i false), .int (rm)])), (sl i0, .inl (ca 2, 25, .inr (.inl (M1)))), (h0, .inr (3, mF q (nI 0) (nI (R 0).2))), (q 3, .inl (ca 1, 9600, .inl ((hiF F u1) 3))), (q 4, .inl (ca 0, 6, .inl ((hiF F u1) 4))), (q 5, .inl (ca 0, 6, .inl ((hiF F u1) 5))), (q 6, .inl (ca 0, 6, .inl ((hiF F u1) 6))), (q 7, .inl (ca 1, 6, .inl ((hiF F u1) 7))), (q 8, .inl (ca 0, 6, .inl ((hiF F u1) 8))), (q 9, .inl (ca 0, 6, .inl ((hiF F u1) 9))), (q 10, .inl (ca 1, 1600, .inl ((hiF F u1) 10))), (q 11, .inl (ca 1, 1600, .inl ((hiF F u1) 11))), (o, .inl (ca 2, 1, .inr (.inl (vp_updL fo 0 ((tk + nI n).toInt64)))))] ++ rest) H locs := C.reA [0, 1, 2, 3, 5, 6, 7, 8, 9, 10, 11, 12, 13, 14, 4] rfl rfl
  refine lv_istore hx hb dL_law_452 hl (Nat.le_of_ble_eq_true rfl) rfl (fun ls hl => ?_)
  replace hl : lv_has ls 8 [(6, .int (tk + nI n)), (5, .int (nI 0)), (4, .int (nI (5 * t))), (0, .ref (b)), (1, .ref (d)), (2, .ref (h0)), (3, .ref (o))] := hl
  refine lv_aload_n hx hb dL_law_454 rfl (lv_at hl 5 rfl) ?_
  refine n_callI5 (wc := [(h0, .inr (3, mF q (nI 0) (nI (R 0).2)))]) (wr := [(d, .inr (2, kF g)), (g 4, .inl (ca 4, 4, .inr (.inr (.inr (.inr sf))))), (sa i0, .inr (1, [.ref (sl i0), .int (nI k), .int (nI (wid k)), .int (nI ((takeR (wid k) c0 (byAt (lv2 (xs (5 * t + 3)) (xs (5 * t + 4)))) n).2)), .int (nI en), .int (tk + nI n), .int (b2i false), .int (rm)])), (sl i0, .inl (ca 2, 25, .inr (.inl (M1)))), (q 3, .inl (ca 1, 9600, .inl ((hiF F u1) 3))), (q 4, .inl (ca 0, 6, .inl ((hiF F u1) 4))), (q 5, .inl (ca 0, 6, .inl ((hiF F u1) 5))), (q 6, .inl (ca 0, 6, .inl ((hiF F u1) 6))), (q 7, .inl (ca 1, 6, .inl ((hiF F u1) 7))), (q 8, .inl (ca 0, 6, .inl ((hiF F u1) 8))), (q 9, .inl (ca 0, 6, .inl ((hiF F u1) 9))), (q 10, .inl (ca 1, 1600, .inl ((hiF F u1) 10))), (q 11, .inl (ca 1, 1600, .inl ((hiF F u1) 11))), (o, .inl (ca 2, 1, .inr (.inl (vp_updL fo 0 ((tk + nI n).toInt64)))))]) C [4] [0, 1, 2, 3, 5, 6, 7, 8, 9, 10, 11, 12, 13, 14] rfl rfl rfl rfl (by decide) (fun hp => va_runV (rest := []) S (c_M_thrown l D ca s0 a0 Z h0 q ((nI 0)) ((nI (R 0).2)) _) (cwV 0 hts (gV g_418 g_419 g_420 g_34 g_421) rfl rfl rfl (by decide +kernel) ⟨Nat.le_of_ble_eq_true rfl, Nat.le_of_ble_eq_true rfl⟩) ⟨hp.1, n_recv C 4 3 rfl rfl, hp.2⟩ rfl rfl hl.1 rfl (lv_room (Nat.le_of_ble_eq_true rfl)) dL_law_455 ⟨by rw [rc_1]; omega, by rw [rs_1]; omega⟩) (fun r u H locs hp C => ?_)
  subst hp
  replace C : Cx D ca s0 A s ([(d, .inr (2, kF g)), (g 4, .inl (ca 4, 4, .inr (.inr (.inr (.inr sf))))), (sa i0, .inr (1, [.ref (sl i0), .int (nI k), .int (nI (wid k)), .int (nI ((takeR (wid k) c0 (byAt (lv2 (xs (5 * t + 3)) (xs (5 * t + 4)))) n).2)), .int (nI en), .int (tk + nI n), .int (b2i false), .int (rm)])), (sl i0, .inl (ca 2, 25, .inr (.inl (M1)))), (h0, .inr (3, mF q (nI 0) (nI (R 0).2))), (q 3, .inl (ca 1, 9600, .inl ((hiF F u1) 3))), (q 4, .inl (ca 0, 6, .inl ((hiF F u1) 4))), (q 5, .inl (ca 0, 6, .inl ((hiF F u1) 5))), (q 6, .inl (ca 0, 6, .inl ((hiF F u1) 6))), (q 7, .inl (ca 1, 6, .inl ((hiF F u1) 7))), (q 8, .inl (ca 0, 6, .inl ((hiF F u1) 8))), (q 9, .inl (ca 0, 6, .inl ((hiF F u1) 9))), (q 10, .inl (ca 1, 1600, .inl ((hiF F u1) 10))), (q 11, .inl (ca 1, 1600, .inl ((hiF F u1) 11))), (o, .inl (ca 2, 1, .inr (.inl (vp_updL fo 0 ((tk + nI n).toInt64)))))] ++ rest) H locs := C.reA [0, 1, 2, 3, 14, 4, 5, 6, 7, 8, 9, 10, 11, 12, 13] rfl rfl
  refine lv_iload hx hb dL_law_458 (lv_at hl 1 rfl) ?_
  refine n_icmp_eq (tgt := 465) S (by decide) (by decide) dL_law_460 (by decide) (fun hc => ?_) (fun hc => False.elim (by omega))
  refine lv_iload hx hb dL_law_465 (lv_at hl 1 rfl) ?_
  refine n_if_ne (tgt := 482) S (by omega) dL_law_467 (by decide) (fun hc => False.elim (by omega)) (fun hc => ?_)
  refine lv_aload_n hx hb dL_law_470 rfl (lv_at hl 6 rfl) ?_
  refine lv_iconst (v := nI 0) hx hb dL_law_471 (by decide) ?_
  refine n_lald S C 14 rfl (i := 0) (by decide) (by decide) dL_law_472 ?_
  refine lv_topl (nm_r (e' := (tk + nI n).toInt64) pk_uLs ?_)
  refine lv_iload hx hb dL_law_473 (lv_at hl 0 rfl) ?_
  refine lv_i2l (v := (tk + nI n).toInt64) hx hb dL_law_475 rfl ?_
  refine W.lcmp hx hb dL_law_476 ?_
  refine lv_topi (nm_r (e' := nI 0) (lcmp_0.mpr rfl) ?_)
  refine n_if_eq (tgt := 482) S (by omega) dL_law_477 (by decide) (fun hc => ?_) (fun hc => False.elim (by omega))
  refine lv_goto (tgt := 847) hx hb dL_law_482 (by decide) ?_
  rw [hrest] at C
  replace C : Cx D ca s0 A s (LA ca d g sf rb R rf sa sl i0 i1 i2 i3 ((takeR (wid k) c0 (byAt (lv2 (xs (5 * t + 3)) (xs (5 * t + 4)))) n, k, en, tk + nI n, false, rm)) y1 y2 y3 M1 L1 L2 L3 z4 z5 L4 L5 h0 q (nI 0) (nI (R 0).2) (hiF F u1) o (vp_updL fo 0 ((tk + nI n).toInt64))) H locs := C.re [0, 1, 15, 16, 17, 18, 19, 20, 21, 22, 2, 3, 23, 24, 25, 26, 27, 28, 29, 30, 31, 32, 4, 33, 34, 35, 5, 6, 7, 8, 9, 10, 11, 12, 13, 14] rfl rfl
  exact W.widen (by omega) (by omega) (kk M1 u1 H locs ls hw1 hm1 C (lv_sub hl [2, 3, 4, 5, 6] rfl))
set_option maxHeartbeats 4000000 in
set_option maxRecDepth 100000 in
theorem o_end_no1 (p : Program) (l : Launch) (e : Env) (s : State) (m : MethodId) (args : Array Value) (below : List Frame) (meth : Method) (c : Code) (Q : State → Prop) (D : va_G) (ca : Nat → ClassId) (s0 : State) (a0 : Array Value) (A : Nat → Prop) (S : CallFix p m c cL_law 8 s args lw_good RL) (Z : Wd a0 s0) (zt : Nat → Nat) (Zs : ZS zt s0) (hl0 : l.stackTraces = false) (sx : Nat → Nat) (Xs : XS sx s0) (Xn : XN s0) (b Ls : Nat) (xs : Nat → Int32) (hXX : va_X b Ls xs s s.heap) (hbl : b < s.heap.size) (hbA : ¬ A b) (hLs : Ls ≤ 2560) (t ce so : Nat) (ht5 : 5 * t + 5 ≤ Ls) (hce : ce ≤ 1000) (hso : so ≤ 30000) (d : Nat) (g : Nat → Nat) (sf : Nat → Option Nat) (rb : Nat → Nat) (R : Nat → Rw) (rf : Nat → Nat → Int32) (sa sl : Nat → Nat) (i0 i1 i2 i3 : Nat) (y0 y1 y2 y3 : Sp) (L0 L1 L2 L3 : Nat → Int64) (z4 z5 : Nat → Int32) (L4 L5 : Nat → Int64) (h0 : Nat) (q : Nat → Nat) (th : Int32) (F : MFn) (o : Nat) (fo : Nat → Int64) (hR : ∀ j, j < 4 → (R j).2 ≤ 300 ∧ sb_Lat (R j).1 (R j).2 (rf j)) (hMT : mTp (F 0) (R 0).1 (R 0).2) (hMR : ∀ r, r < 3 → mRo (F 1) (F 2) r (R (r + 1))) (hno : ¬ (¬ xs (5 * t + 1) < 0 ∧ xs (5 * t + 1) < 4)) (H : Heap) (locs : List Loc) (ls : Array Slot) (C : Cx D ca s0 A s (LA ca d g sf rb R rf sa sl i0 i1 i2 i3 y0 y1 y2 y3 L0 L1 L2 L3 z4 z5 L4 L5 h0 q th (nI (R 0).2) F o fo) H locs) (hl : lv_has ls 8 [(4, .int (nI (5 * t))), (0, .ref (b)), (1, .ref (d)), (2, .ref (h0)), (3, .ref (o))]) (kk : ∀  (H : Heap) (locs : List Loc) (ls : Array Slot), Cx D ca s0 A s (LA ca d g sf rb R rf sa sl i0 i1 i2 i3 y0 y1 y2 y3 L0 L1 L2 L3 z4 z5 L4 L5 h0 q (nI 1) (nI (R 0).2) F o fo) H locs → lv_has ls 8 [(4, .int (nI (5 * t))), (0, .ref (b)), (1, .ref (d)), (2, .ref (h0)), (3, .ref (o))] → W p l e room_1 s m args below meth c H locs (ce + 1) (so + 6) Q (F0 m 847 ls [])) : W p l e room_1 s m args below meth c H locs ce so Q (F0 m 485 ls []) := by
  have hx := S.1
  have hb := S.2.1
  have hown := S.2.2.2.1
  have hts := S.2.2.2.2
  have hR0 := (hR 0 (by decide)).1
  obtain ⟨rest, hrest⟩ : ∃ z : va_W, z = [(g 4, .inl (ca 4, 4, .inr (.inr (.inr (.inr sf))))), (g 0, .inr (0, [.ref (rb 0), .int (nI ((R 0).2))])), (rb 0, .inl (ca 3, 300, .inl (rf 0))), (g 1, .inr (0, [.ref (rb 1), .int (nI ((R 1).2))])), (rb 1, .inl (ca 3, 300, .inl (rf 1))), (g 2, .inr (0, [.ref (rb 2), .int (nI ((R 2).2))])), (rb 2, .inl (ca 3, 300, .inl (rf 2))), (g 3, .inr (0, [.ref (rb 3), .int (nI ((R 3).2))])), (rb 3, .inl (ca 3, 300, .inl (rf 3))), (sa i0, .inr (1, [.ref (sl i0), .int (nI (y0.2.1)), .int (nI (wid y0.2.1)), .int (nI (y0.1.2)), .int (nI (y0.2.2.1)), .int (y0.2.2.2.1), .int (b2i y0.2.2.2.2.1), .int (y0.2.2.2.2.2)])), (sl i0, .inl (ca 2, 25, .inr (.inl (L0)))), (sa i1, .inr (1, [.ref (sl i1), .int (nI (y1.2.1)), .int (nI (wid y1.2.1)), .int (nI (y1.1.2)), .int (nI (y1.2.2.1)), .int (y1.2.2.2.1), .int (b2i y1.2.2.2.2.1), .int (y1.2.2.2.2.2)])), (sl i1, .inl (ca 2, 25, .inr (.inl (L1)))), (sa i2, .inr (1, [.ref (sl i2), .int (nI (y2.2.1)), .int (nI (wid y2.2.1)), .int (nI (y2.1.2)), .int (nI (y2.2.2.1)), .int (y2.2.2.2.1), .int (b2i y2.2.2.2.2.1), .int (y2.2.2.2.2.2)])), (sl i2, .inl (ca 2, 25, .inr (.inl (L2)))), (sa i3, .inr (1, [.ref (sl i3), .int (nI (y3.2.1)), .int (nI (wid y3.2.1)), .int (nI (y3.1.2)), .int (nI (y3.2.2.1)), .int (y3.2.2.2.1), .int (b2i y3.2.2.2.2.1), .int (y3.2.2.2.2.2)])), (sl i3, .inl (ca 2, 25, .inr (.inl (L3)))), (g 5, .inr (1, [.ref (sl 4), .int (z4 0), .int (z4 1), .int (z4 2), .int (z4 3), .int (z4 4), .int (z4 5), .int (z4 6)])), (sl 4, .inl (ca 2, 25, .inr (.inl (L4)))), (g 6, .inr (1, [.ref (sl 5), .int (z5 0), .int (z5 1), .int (z5 2), .int (z5 3), .int (z5 4), .int (z5 5), .int (z5 6)])), (sl 5, .inl (ca 2, 25, .inr (.inl (L5)))), (q 0, .inl (ca 0, 300, .inl (F 0))), (q 1, .inl (ca 0, 3, .inl (F 1))), (q 2, .inl (ca 0, 900, .inl (F 2))), (q 3, .inl (ca 1, 9600, .inl (F 3))), (q 4, .inl (ca 0, 6, .inl (F 4))), (q 5, .inl (ca 0, 6, .inl (F 5))), (q 6, .inl (ca 0, 6, .inl (F 6))), (q 7, .inl (ca 1, 6, .inl (F 7))), (q 8, .inl (ca 0, 6, .inl (F 8))), (q 9, .inl (ca 0, 6, .inl (F 9))), (q 10, .inl (ca 1, 1600, .inl (F 10))), (q 11, .inl (ca 1, 1600, .inl (F 11))), (o, .inl (ca 2, 1, .inr (.inl (fo))))] := ⟨_, rfl⟩
  replace C : Cx D ca s0 A s ([(d, .inr (2, kF g)), (h0, .inr (3, mF q (th) (nI (R 0).2)))] ++ rest) H locs := by rw [hrest]; exact C.re [0, 22, 1, 2, 3, 4, 5, 6, 7, 8, 9, 10, 11, 12, 13, 14, 15, 16, 17, 18, 19, 20, 21, 23, 24, 25, 26, 27, 28, 29, 30, 31, 32, 33, 34, 35] rfl rfl
  refine lv_aload_n hx hb dL_law_485 rfl (lv_at hl 2 rfl) ?_
  refine lv_aload_n hx hb dL_law_486 rfl (lv_at hl 1 rfl) ?_
  refine lv_iload hx hb dL_law_487 (lv_at hl 0 rfl) ?_
  refine lv_iconst (v := nI 1) hx hb dL_law_489 (by decide) ?_
  refine n_add S dL_law_490 ?_
  refine n_sld S C hXX hbl hbA (i := (5 * t) + 1) (by omega) hLs dL_law_491 ?_
  refine lv_aload_n hx hb dL_law_492 rfl (lv_at hl 1 rfl) ?_
  refine lv_iload hx hb dL_law_493 (lv_at hl 0 rfl) ?_
  refine lv_iconst (v := nI 2) hx hb dL_law_495 (by decide) ?_
  refine n_add S dL_law_496 ?_
  refine n_sld S C hXX hbl hbA (i := (5 * t) + 2) (by omega) hLs dL_law_497 ?_
  refine n_callI5 (wc := [(d, .inr (2, kF g))]) (wr := [(h0, .inr (3, mF q (th) (nI (R 0).2)))]) C [0] [1] rfl rfl rfl rfl (by decide) (fun hp => vx_runSW (rest := []) S (c_L_end_no1 l D ca s0 a0 Z hl0 sx Xs d g ((xs (5 * t + 1))) hno ((xs (5 * t + 2))) Xn _) (vx_cwSW 3 hts (gT g_262 g_263 g_29 g_264) rfl rfl rfl (by decide +kernel) ⟨Nat.le_of_ble_eq_true rfl, Nat.le_of_ble_eq_true rfl⟩) hp rfl rfl hl.1 rfl (lv_room (Nat.le_of_ble_eq_true rfl)) dL_law_498 ⟨by rw [rc_1]; omega, by rw [rs_1]; omega⟩) (fun r u H locs hp C => ?_)
  subst hp
  replace C : Cx D ca s0 A s ([(d, .inr (2, kF g)), (h0, .inr (3, mF q (th) (nI (R 0).2)))] ++ rest) H locs := C.reA [1, 0] rfl rfl
  refine lv_istore hx hb dL_law_501 hl (Nat.le_of_ble_eq_true rfl) rfl (fun ls hl => ?_)
  replace hl : lv_has ls 8 [(5, .int (nI 1)), (4, .int (nI (5 * t))), (0, .ref (b)), (1, .ref (d)), (2, .ref (h0)), (3, .ref (o))] := hl
  refine lv_aload_n hx hb dL_law_503 rfl (lv_at hl 4 rfl) ?_
  refine lv_aload_n hx hb dL_law_504 rfl (lv_at hl 2 rfl) ?_
  refine lv_iload hx hb dL_law_505 (lv_at hl 1 rfl) ?_
  refine lv_iconst (v := nI 1) hx hb dL_law_507 (by decide) ?_
  refine n_add S dL_law_508 ?_
  refine n_sld S C hXX hbl hbA (i := (5 * t) + 1) (by omega) hLs dL_law_509 ?_
  refine lv_aload_n hx hb dL_law_510 rfl (lv_at hl 2 rfl) ?_
  refine lv_iload hx hb dL_law_511 (lv_at hl 1 rfl) ?_
  refine lv_iconst (v := nI 2) hx hb dL_law_513 (by decide) ?_
  refine n_add S dL_law_514 ?_
  refine n_sld S C hXX hbl hbA (i := (5 * t) + 2) (by omega) hLs dL_law_515 ?_
  refine n_callV5 (wc := [(h0, .inr (3, mF q (th) (nI (R 0).2)))]) (wr := [(d, .inr (2, kF g))]) C [1] [0] rfl rfl rfl rfl (by decide) (fun hp => va_runV (rest := []) S (c_M_end_no1 l D ca s0 a0 Z h0 q th ((nI (R 0).2)) ((xs (5 * t + 1))) hno ((xs (5 * t + 2))) _) (cwV 2 hts (gV g_449 g_450 g_451 g_34 g_452) rfl rfl rfl (by decide +kernel) ⟨Nat.le_of_ble_eq_true rfl, Nat.le_of_ble_eq_true rfl⟩) ⟨hp.1, n_recv C 1 3 rfl rfl, hp.2⟩ rfl rfl hl.1 rfl (lv_room (Nat.le_of_ble_eq_true rfl)) dL_law_516 ⟨by rw [rc_1]; omega, by rw [rs_1]; omega⟩) (fun u H locs hp C => ?_)
  replace C : Cx D ca s0 A s ([(d, .inr (2, kF g)), (h0, .inr (3, mF q (nI 1) (nI (R 0).2)))] ++ rest) H locs := C.reA [0, 1] rfl rfl
  refine lv_aload_n hx hb dL_law_519 rfl (lv_at hl 4 rfl) ?_
  refine n_callI5 (wc := [(h0, .inr (3, mF q (nI 1) (nI (R 0).2)))]) (wr := [(d, .inr (2, kF g))]) C [1] [0] rfl rfl rfl rfl (by decide) (fun hp => va_runV (rest := []) S (c_M_thrown l D ca s0 a0 Z h0 q ((nI 1)) ((nI (R 0).2)) _) (cwV 0 hts (gV g_418 g_419 g_420 g_34 g_421) rfl rfl rfl (by decide +kernel) ⟨Nat.le_of_ble_eq_true rfl, Nat.le_of_ble_eq_true rfl⟩) ⟨hp.1, n_recv C 1 3 rfl rfl, hp.2⟩ rfl rfl hl.1 rfl (lv_room (Nat.le_of_ble_eq_true rfl)) dL_law_520 ⟨by rw [rc_1]; omega, by rw [rs_1]; omega⟩) (fun r u H locs hp C => ?_)
  subst hp
  replace C : Cx D ca s0 A s ([(d, .inr (2, kF g)), (h0, .inr (3, mF q (nI 1) (nI (R 0).2)))] ++ rest) H locs := C.reA [0, 1] rfl rfl
  refine lv_iload hx hb dL_law_523 (lv_at hl 0 rfl) ?_
  refine n_icmp_eq (tgt := 530) S (by decide) (by decide) dL_law_525 (by decide) (fun hc => ?_) (fun hc => False.elim (by omega))
  refine lv_goto (tgt := 847) hx hb dL_law_530 (by decide) ?_
  rw [hrest] at C
  replace C : Cx D ca s0 A s (LA ca d g sf rb R rf sa sl i0 i1 i2 i3 y0 y1 y2 y3 L0 L1 L2 L3 z4 z5 L4 L5 h0 q (nI 1) (nI (R 0).2) F o fo) H locs := C.re [0, 2, 3, 4, 5, 6, 7, 8, 9, 10, 11, 12, 13, 14, 15, 16, 17, 18, 19, 20, 21, 22, 1, 23, 24, 25, 26, 27, 28, 29, 30, 31, 32, 33, 34, 35] rfl rfl
  exact W.widen (by omega) (by omega) (kk  H locs ls  C (lv_sub hl [1, 2, 3, 4, 5] rfl))
set_option maxHeartbeats 4000000 in
set_option maxRecDepth 100000 in
theorem o_end_no2 (p : Program) (l : Launch) (e : Env) (s : State) (m : MethodId) (args : Array Value) (below : List Frame) (meth : Method) (c : Code) (Q : State → Prop) (D : va_G) (ca : Nat → ClassId) (s0 : State) (a0 : Array Value) (A : Nat → Prop) (S : CallFix p m c cL_law 8 s args lw_good RL) (Z : Wd a0 s0) (zt : Nat → Nat) (Zs : ZS zt s0) (hl0 : l.stackTraces = false) (sx : Nat → Nat) (Xs : XS sx s0) (Xn : XN s0) (b Ls : Nat) (xs : Nat → Int32) (hXX : va_X b Ls xs s s.heap) (hbl : b < s.heap.size) (hbA : ¬ A b) (hLs : Ls ≤ 2560) (t ce so : Nat) (ht5 : 5 * t + 5 ≤ Ls) (hce : ce ≤ 1000) (hso : so ≤ 30000) (d : Nat) (g : Nat → Nat) (sf : Nat → Option Nat) (rb : Nat → Nat) (R : Nat → Rw) (rf : Nat → Nat → Int32) (sa sl : Nat → Nat) (i0 i1 i2 i3 : Nat) (y1 y2 y3 : Sp) (L0 L1 L2 L3 : Nat → Int64) (z4 z5 : Nat → Int32) (L4 L5 : Nat → Int64) (h0 : Nat) (q : Nat → Nat) (th : Int32) (F : MFn) (o : Nat) (fo : Nat → Int64) (hR : ∀ j, j < 4 → (R j).2 ≤ 300 ∧ sb_Lat (R j).1 (R j).2 (rf j)) (hMT : mTp (F 0) (R 0).1 (R 0).2) (hMR : ∀ r, r < 3 → mRo (F 1) (F 2) r (R (r + 1))) (c0 : Co) (k en : Nat) (tk : Int32) (dn : Bool) (rm : Int32) (hi0 : i0 < 4) (hsf0 : sf i0 = some (sa i0)) (hL0 : kEq (lb L0) c0.1) (hS0 : mSg F i0 (c0, k, en, tk, dn, rm)) (hk : k < 16) (hen : en < 256) (hp0 : c0.2 ≤ wid k) (hro : rOk rm) (e1 : xs (5 * t + 1) = nI i0) (hq : (hasL k = true ∧ (xs (5 * t + 2) < nI 1 ∨ nI 1000 < xs (5 * t + 2))) ∨ (hasL k = false ∧ xs (5 * t + 2) ≠ nI (lenM k))) (H : Heap) (locs : List Loc) (ls : Array Slot) (C : Cx D ca s0 A s (LA ca d g sf rb R rf sa sl i0 i1 i2 i3 ((c0, k, en, tk, dn, rm)) y1 y2 y3 L0 L1 L2 L3 z4 z5 L4 L5 h0 q th (nI (R 0).2) F o fo) H locs) (hl : lv_has ls 8 [(4, .int (nI (5 * t))), (0, .ref (b)), (1, .ref (d)), (2, .ref (h0)), (3, .ref (o))]) (kk : ∀  (H : Heap) (locs : List Loc) (ls : Array Slot), Cx D ca s0 A s (LA ca d g sf rb R rf sa sl i0 i1 i2 i3 ((c0, k, en, tk, dn, rm)) y1 y2 y3 L0 L1 L2 L3 z4 z5 L4 L5 h0 q (nI 2) (nI (R 0).2) F o fo) H locs → lv_has ls 8 [(4, .int (nI (5 * t))), (0, .ref (b)), (1, .ref (d)), (2, .ref (h0)), (3, .ref (o))] → W p l e room_1 s m args below meth c H locs (ce + 1) (so + 6) Q (F0 m 847 ls [])) : W p l e room_1 s m args below meth c H locs ce so Q (F0 m 485 ls []) := by
  have hx := S.1
  have hb := S.2.1
  have hown := S.2.2.2.1
  have hts := S.2.2.2.2
  have hR0 := (hR 0 (by decide)).1
  obtain ⟨rest, hrest⟩ : ∃ z : va_W, z = [(g 0, .inr (0, [.ref (rb 0), .int (nI ((R 0).2))])), (rb 0, .inl (ca 3, 300, .inl (rf 0))), (g 1, .inr (0, [.ref (rb 1), .int (nI ((R 1).2))])), (rb 1, .inl (ca 3, 300, .inl (rf 1))), (g 2, .inr (0, [.ref (rb 2), .int (nI ((R 2).2))])), (rb 2, .inl (ca 3, 300, .inl (rf 2))), (g 3, .inr (0, [.ref (rb 3), .int (nI ((R 3).2))])), (rb 3, .inl (ca 3, 300, .inl (rf 3))), (sl i0, .inl (ca 2, 25, .inr (.inl (L0)))), (sa i1, .inr (1, [.ref (sl i1), .int (nI (y1.2.1)), .int (nI (wid y1.2.1)), .int (nI (y1.1.2)), .int (nI (y1.2.2.1)), .int (y1.2.2.2.1), .int (b2i y1.2.2.2.2.1), .int (y1.2.2.2.2.2)])), (sl i1, .inl (ca 2, 25, .inr (.inl (L1)))), (sa i2, .inr (1, [.ref (sl i2), .int (nI (y2.2.1)), .int (nI (wid y2.2.1)), .int (nI (y2.1.2)), .int (nI (y2.2.2.1)), .int (y2.2.2.2.1), .int (b2i y2.2.2.2.2.1), .int (y2.2.2.2.2.2)])), (sl i2, .inl (ca 2, 25, .inr (.inl (L2)))), (sa i3, .inr (1, [.ref (sl i3), .int (nI (y3.2.1)), .int (nI (wid y3.2.1)), .int (nI (y3.1.2)), .int (nI (y3.2.2.1)), .int (y3.2.2.2.1), .int (b2i y3.2.2.2.2.1), .int (y3.2.2.2.2.2)])), (sl i3, .inl (ca 2, 25, .inr (.inl (L3)))), (g 5, .inr (1, [.ref (sl 4), .int (z4 0), .int (z4 1), .int (z4 2), .int (z4 3), .int (z4 4), .int (z4 5), .int (z4 6)])), (sl 4, .inl (ca 2, 25, .inr (.inl (L4)))), (g 6, .inr (1, [.ref (sl 5), .int (z5 0), .int (z5 1), .int (z5 2), .int (z5 3), .int (z5 4), .int (z5 5), .int (z5 6)])), (sl 5, .inl (ca 2, 25, .inr (.inl (L5)))), (q 0, .inl (ca 0, 300, .inl (F 0))), (q 1, .inl (ca 0, 3, .inl (F 1))), (q 2, .inl (ca 0, 900, .inl (F 2))), (q 3, .inl (ca 1, 9600, .inl (F 3))), (q 5, .inl (ca 0, 6, .inl (F 5))), (q 6, .inl (ca 0, 6, .inl (F 6))), (q 7, .inl (ca 1, 6, .inl (F 7))), (q 8, .inl (ca 0, 6, .inl (F 8))), (q 9, .inl (ca 0, 6, .inl (F 9))), (q 10, .inl (ca 1, 1600, .inl (F 10))), (q 11, .inl (ca 1, 1600, .inl (F 11))), (o, .inl (ca 2, 1, .inr (.inl (fo))))] := ⟨_, rfl⟩
  replace C : Cx D ca s0 A s ([(d, .inr (2, kF g)), (g 4, .inl (ca 4, 4, .inr (.inr (.inr (.inr sf))))), (sa i0, .inr (1, [.ref (sl i0), .int (nI k), .int (nI (wid k)), .int (nI (c0.2)), .int (nI en), .int (tk), .int (b2i dn), .int (rm)])), (h0, .inr (3, mF q (th) (nI (R 0).2))), (q 4, .inl (ca 0, 6, .inl (F 4)))] ++ rest) H locs := by rw [hrest]; exact C.re [0, 1, 10, 22, 27, 2, 3, 4, 5, 6, 7, 8, 9, 11, 12, 13, 14, 15, 16, 17, 18, 19, 20, 21, 23, 24, 25, 26, 28, 29, 30, 31, 32, 33, 34, 35] rfl rfl
  refine lv_aload_n hx hb dL_law_485 rfl (lv_at hl 2 rfl) ?_
  refine lv_aload_n hx hb dL_law_486 rfl (lv_at hl 1 rfl) ?_
  refine lv_iload hx hb dL_law_487 (lv_at hl 0 rfl) ?_
  refine lv_iconst (v := nI 1) hx hb dL_law_489 (by decide) ?_
  refine n_add S dL_law_490 ?_
  refine n_sld S C hXX hbl hbA (i := (5 * t) + 1) (by omega) hLs dL_law_491 ?_
  refine lv_topi (nm_r (e' := nI i0) e1 ?_)
  refine lv_aload_n hx hb dL_law_492 rfl (lv_at hl 1 rfl) ?_
  refine lv_iload hx hb dL_law_493 (lv_at hl 0 rfl) ?_
  refine lv_iconst (v := nI 2) hx hb dL_law_495 (by decide) ?_
  refine n_add S dL_law_496 ?_
  refine n_sld S C hXX hbl hbA (i := (5 * t) + 2) (by omega) hLs dL_law_497 ?_
  refine n_callI5 (wc := [(d, .inr (2, kF g)), (g 4, .inl (ca 4, 4, .inr (.inr (.inr (.inr sf))))), (sa i0, .inr (1, [.ref (sl i0), .int (nI k), .int (nI (wid k)), .int (nI (c0.2)), .int (nI en), .int (tk), .int (b2i dn), .int (rm)]))]) (wr := [(h0, .inr (3, mF q (th) (nI (R 0).2))), (q 4, .inl (ca 0, 6, .inl (F 4)))]) C [0, 1, 2] [3, 4] rfl rfl rfl rfl (by decide) (fun hp => vx_runSW (rest := []) S (c_L_end_no2 l D ca s0 a0 Z hl0 sx Xs zt Zs d g sf i0 hi0 ((sa i0)) ((sl i0)) hsf0 ((nI (wid k))) ((nI c0.2)) ((nI en)) tk ((b2i dn)) rm k hk ((xs (5 * t + 2))) hq Xn _) (vx_cwSW 3 hts (gT g_262 g_263 g_29 g_264) rfl rfl rfl (by decide +kernel) ⟨Nat.le_of_ble_eq_true rfl, Nat.le_of_ble_eq_true rfl⟩) hp rfl rfl hl.1 rfl (lv_room (Nat.le_of_ble_eq_true rfl)) dL_law_498 ⟨by rw [rc_1]; omega, by rw [rs_1]; omega⟩) (fun r u H locs hp C => ?_)
  subst hp
  replace C : Cx D ca s0 A s ([(d, .inr (2, kF g)), (g 4, .inl (ca 4, 4, .inr (.inr (.inr (.inr sf))))), (sa i0, .inr (1, [.ref (sl i0), .int (nI k), .int (nI (wid k)), .int (nI (c0.2)), .int (nI en), .int (tk), .int (b2i dn), .int (rm)])), (h0, .inr (3, mF q (th) (nI (R 0).2))), (q 4, .inl (ca 0, 6, .inl (F 4)))] ++ rest) H locs := C.reA [2, 3, 4, 0, 1] rfl rfl
  refine lv_istore hx hb dL_law_501 hl (Nat.le_of_ble_eq_true rfl) rfl (fun ls hl => ?_)
  replace hl : lv_has ls 8 [(5, .int (nI 2)), (4, .int (nI (5 * t))), (0, .ref (b)), (1, .ref (d)), (2, .ref (h0)), (3, .ref (o))] := hl
  refine lv_aload_n hx hb dL_law_503 rfl (lv_at hl 4 rfl) ?_
  refine lv_aload_n hx hb dL_law_504 rfl (lv_at hl 2 rfl) ?_
  refine lv_iload hx hb dL_law_505 (lv_at hl 1 rfl) ?_
  refine lv_iconst (v := nI 1) hx hb dL_law_507 (by decide) ?_
  refine n_add S dL_law_508 ?_
  refine n_sld S C hXX hbl hbA (i := (5 * t) + 1) (by omega) hLs dL_law_509 ?_
  refine lv_topi (nm_r (e' := nI i0) e1 ?_)
  refine lv_aload_n hx hb dL_law_510 rfl (lv_at hl 2 rfl) ?_
  refine lv_iload hx hb dL_law_511 (lv_at hl 1 rfl) ?_
  refine lv_iconst (v := nI 2) hx hb dL_law_513 (by decide) ?_
  refine n_add S dL_law_514 ?_
  refine n_sld S C hXX hbl hbA (i := (5 * t) + 2) (by omega) hLs dL_law_515 ?_
  refine n_callV5 (wc := [(h0, .inr (3, mF q (th) (nI (R 0).2))), (q 4, .inl (ca 0, 6, .inl (F 4)))]) (wr := [(d, .inr (2, kF g)), (g 4, .inl (ca 4, 4, .inr (.inr (.inr (.inr sf))))), (sa i0, .inr (1, [.ref (sl i0), .int (nI k), .int (nI (wid k)), .int (nI (c0.2)), .int (nI en), .int (tk), .int (b2i dn), .int (rm)]))]) C [3, 4] [0, 1, 2] rfl rfl rfl rfl (by decide) (fun hp => va_runV (rest := []) S (c_M_end_no2 l D ca s0 a0 Z h0 q th ((nI (R 0).2)) i0 hi0 F k hk hS0.2.1 ((xs (5 * t + 2))) hq _) (cwV 2 hts (gV g_449 g_450 g_451 g_34 g_452) rfl rfl rfl (by decide +kernel) ⟨Nat.le_of_ble_eq_true rfl, Nat.le_of_ble_eq_true rfl⟩) ⟨hp.1, n_recv C 3 3 rfl rfl, hp.2⟩ rfl rfl hl.1 rfl (lv_room (Nat.le_of_ble_eq_true rfl)) dL_law_516 ⟨by rw [rc_1]; omega, by rw [rs_1]; omega⟩) (fun u H locs hp C => ?_)
  replace C : Cx D ca s0 A s ([(d, .inr (2, kF g)), (g 4, .inl (ca 4, 4, .inr (.inr (.inr (.inr sf))))), (sa i0, .inr (1, [.ref (sl i0), .int (nI k), .int (nI (wid k)), .int (nI (c0.2)), .int (nI en), .int (tk), .int (b2i dn), .int (rm)])), (h0, .inr (3, mF q (nI 2) (nI (R 0).2))), (q 4, .inl (ca 0, 6, .inl (F 4)))] ++ rest) H locs := C.reA [0, 1, 2, 3, 4] rfl rfl
  refine lv_aload_n hx hb dL_law_519 rfl (lv_at hl 4 rfl) ?_
  refine n_callI5 (wc := [(h0, .inr (3, mF q (nI 2) (nI (R 0).2)))]) (wr := [(d, .inr (2, kF g)), (g 4, .inl (ca 4, 4, .inr (.inr (.inr (.inr sf))))), (sa i0, .inr (1, [.ref (sl i0), .int (nI k), .int (nI (wid k)), .int (nI (c0.2)), .int (nI en), .int (tk), .int (b2i dn), .int (rm)])), (q 4, .inl (ca 0, 6, .inl (F 4)))]) C [3] [0, 1, 2, 4] rfl rfl rfl rfl (by decide) (fun hp => va_runV (rest := []) S (c_M_thrown l D ca s0 a0 Z h0 q ((nI 2)) ((nI (R 0).2)) _) (cwV 0 hts (gV g_418 g_419 g_420 g_34 g_421) rfl rfl rfl (by decide +kernel) ⟨Nat.le_of_ble_eq_true rfl, Nat.le_of_ble_eq_true rfl⟩) ⟨hp.1, n_recv C 3 3 rfl rfl, hp.2⟩ rfl rfl hl.1 rfl (lv_room (Nat.le_of_ble_eq_true rfl)) dL_law_520 ⟨by rw [rc_1]; omega, by rw [rs_1]; omega⟩) (fun r u H locs hp C => ?_)
  subst hp
  replace C : Cx D ca s0 A s ([(d, .inr (2, kF g)), (g 4, .inl (ca 4, 4, .inr (.inr (.inr (.inr sf))))), (sa i0, .inr (1, [.ref (sl i0), .int (nI k), .int (nI (wid k)), .int (nI (c0.2)), .int (nI en), .int (tk), .int (b2i dn), .int (rm)])), (h0, .inr (3, mF q (nI 2) (nI (R 0).2))), (q 4, .inl (ca 0, 6, .inl (F 4)))] ++ rest) H locs := C.reA [0, 1, 2, 4, 3] rfl rfl
  refine lv_iload hx hb dL_law_523 (lv_at hl 0 rfl) ?_
  refine n_icmp_eq (tgt := 530) S (by decide) (by decide) dL_law_525 (by decide) (fun hc => ?_) (fun hc => False.elim (by omega))
  refine lv_goto (tgt := 847) hx hb dL_law_530 (by decide) ?_
  rw [hrest] at C
  replace C : Cx D ca s0 A s (LA ca d g sf rb R rf sa sl i0 i1 i2 i3 ((c0, k, en, tk, dn, rm)) y1 y2 y3 L0 L1 L2 L3 z4 z5 L4 L5 h0 q (nI 2) (nI (R 0).2) F o fo) H locs := C.re [0, 1, 5, 6, 7, 8, 9, 10, 11, 12, 2, 13, 14, 15, 16, 17, 18, 19, 20, 21, 22, 23, 3, 24, 25, 26, 27, 4, 28, 29, 30, 31, 32, 33, 34, 35] rfl rfl
  exact W.widen (by omega) (by omega) (kk  H locs ls  C (lv_sub hl [1, 2, 3, 4, 5] rfl))
set_option maxHeartbeats 4000000 in
set_option maxRecDepth 100000 in
theorem o_end_no3 (p : Program) (l : Launch) (e : Env) (s : State) (m : MethodId) (args : Array Value) (below : List Frame) (meth : Method) (c : Code) (Q : State → Prop) (D : va_G) (ca : Nat → ClassId) (s0 : State) (a0 : Array Value) (A : Nat → Prop) (S : CallFix p m c cL_law 8 s args lw_good RL) (Z : Wd a0 s0) (zt : Nat → Nat) (Zs : ZS zt s0) (hl0 : l.stackTraces = false) (sx : Nat → Nat) (Xs : XS sx s0) (Xn : XN s0) (b Ls : Nat) (xs : Nat → Int32) (hXX : va_X b Ls xs s s.heap) (hbl : b < s.heap.size) (hbA : ¬ A b) (hLs : Ls ≤ 2560) (t ce so : Nat) (ht5 : 5 * t + 5 ≤ Ls) (hce : ce ≤ 1000) (hso : so ≤ 30000) (d : Nat) (g : Nat → Nat) (sf : Nat → Option Nat) (rb : Nat → Nat) (R : Nat → Rw) (rf : Nat → Nat → Int32) (sa sl : Nat → Nat) (i0 i1 i2 i3 : Nat) (y1 y2 y3 : Sp) (L0 L1 L2 L3 : Nat → Int64) (z4 z5 : Nat → Int32) (L4 L5 : Nat → Int64) (h0 : Nat) (q : Nat → Nat) (th : Int32) (F : MFn) (o : Nat) (fo : Nat → Int64) (hR : ∀ j, j < 4 → (R j).2 ≤ 300 ∧ sb_Lat (R j).1 (R j).2 (rf j)) (hMT : mTp (F 0) (R 0).1 (R 0).2) (hMR : ∀ r, r < 3 → mRo (F 1) (F 2) r (R (r + 1))) (c0 : Co) (k en : Nat) (tk : Int32) (rm : Int32) (hi0 : i0 < 4) (hsf0 : sf i0 = some (sa i0)) (hL0 : kEq (lb L0) c0.1) (hS0 : mSg F i0 (c0, k, en, tk, true, rm)) (hk : k < 16) (hen : en < 256) (hp0 : c0.2 ≤ wid k) (hro : rOk rm) (e1 : xs (5 * t + 1) = nI i0) (len : Nat) (hlen : len ≤ 1000) (hq : (hasL k = true ∧ 1 ≤ len) ∨ (hasL k = false ∧ len = lenM k)) (e2 : xs (5 * t + 2) = nI len) (H : Heap) (locs : List Loc) (ls : Array Slot) (C : Cx D ca s0 A s (LA ca d g sf rb R rf sa sl i0 i1 i2 i3 ((c0, k, en, tk, true, rm)) y1 y2 y3 L0 L1 L2 L3 z4 z5 L4 L5 h0 q th (nI (R 0).2) F o fo) H locs) (hl : lv_has ls 8 [(4, .int (nI (5 * t))), (0, .ref (b)), (1, .ref (d)), (2, .ref (h0)), (3, .ref (o))]) (kk : ∀  (H : Heap) (locs : List Loc) (ls : Array Slot), Cx D ca s0 A s (LA ca d g sf rb R rf sa sl i0 i1 i2 i3 ((c0, k, en, tk, true, rm)) y1 y2 y3 L0 L1 L2 L3 z4 z5 L4 L5 h0 q (nI 3) (nI (R 0).2) F o fo) H locs → lv_has ls 8 [(4, .int (nI (5 * t))), (0, .ref (b)), (1, .ref (d)), (2, .ref (h0)), (3, .ref (o))] → W p l e room_1 s m args below meth c H locs (ce + 1) (so + 6) Q (F0 m 847 ls [])) : W p l e room_1 s m args below meth c H locs ce so Q (F0 m 485 ls []) := by
  have hx := S.1
  have hb := S.2.1
  have hown := S.2.2.2.1
  have hts := S.2.2.2.2
  have hR0 := (hR 0 (by decide)).1
  obtain ⟨rest, hrest⟩ : ∃ z : va_W, z = [(g 0, .inr (0, [.ref (rb 0), .int (nI ((R 0).2))])), (rb 0, .inl (ca 3, 300, .inl (rf 0))), (g 1, .inr (0, [.ref (rb 1), .int (nI ((R 1).2))])), (rb 1, .inl (ca 3, 300, .inl (rf 1))), (g 2, .inr (0, [.ref (rb 2), .int (nI ((R 2).2))])), (rb 2, .inl (ca 3, 300, .inl (rf 2))), (g 3, .inr (0, [.ref (rb 3), .int (nI ((R 3).2))])), (rb 3, .inl (ca 3, 300, .inl (rf 3))), (sl i0, .inl (ca 2, 25, .inr (.inl (L0)))), (sa i1, .inr (1, [.ref (sl i1), .int (nI (y1.2.1)), .int (nI (wid y1.2.1)), .int (nI (y1.1.2)), .int (nI (y1.2.2.1)), .int (y1.2.2.2.1), .int (b2i y1.2.2.2.2.1), .int (y1.2.2.2.2.2)])), (sl i1, .inl (ca 2, 25, .inr (.inl (L1)))), (sa i2, .inr (1, [.ref (sl i2), .int (nI (y2.2.1)), .int (nI (wid y2.2.1)), .int (nI (y2.1.2)), .int (nI (y2.2.2.1)), .int (y2.2.2.2.1), .int (b2i y2.2.2.2.2.1), .int (y2.2.2.2.2.2)])), (sl i2, .inl (ca 2, 25, .inr (.inl (L2)))), (sa i3, .inr (1, [.ref (sl i3), .int (nI (y3.2.1)), .int (nI (wid y3.2.1)), .int (nI (y3.1.2)), .int (nI (y3.2.2.1)), .int (y3.2.2.2.1), .int (b2i y3.2.2.2.2.1), .int (y3.2.2.2.2.2)])), (sl i3, .inl (ca 2, 25, .inr (.inl (L3)))), (g 5, .inr (1, [.ref (sl 4), .int (z4 0), .int (z4 1), .int (z4 2), .int (z4 3), .int (z4 4), .int (z4 5), .int (z4 6)])), (sl 4, .inl (ca 2, 25, .inr (.inl (L4)))), (g 6, .inr (1, [.ref (sl 5), .int (z5 0), .int (z5 1), .int (z5 2), .int (z5 3), .int (z5 4), .int (z5 5), .int (z5 6)])), (sl 5, .inl (ca 2, 25, .inr (.inl (L5)))), (q 0, .inl (ca 0, 300, .inl (F 0))), (q 1, .inl (ca 0, 3, .inl (F 1))), (q 2, .inl (ca 0, 900, .inl (F 2))), (q 3, .inl (ca 1, 9600, .inl (F 3))), (q 5, .inl (ca 0, 6, .inl (F 5))), (q 6, .inl (ca 0, 6, .inl (F 6))), (q 8, .inl (ca 0, 6, .inl (F 8))), (q 9, .inl (ca 0, 6, .inl (F 9))), (q 10, .inl (ca 1, 1600, .inl (F 10))), (q 11, .inl (ca 1, 1600, .inl (F 11))), (o, .inl (ca 2, 1, .inr (.inl (fo))))] := ⟨_, rfl⟩
  replace C : Cx D ca s0 A s ([(d, .inr (2, kF g)), (g 4, .inl (ca 4, 4, .inr (.inr (.inr (.inr sf))))), (sa i0, .inr (1, [.ref (sl i0), .int (nI k), .int (nI (wid k)), .int (nI (c0.2)), .int (nI en), .int (tk), .int (b2i true), .int (rm)])), (h0, .inr (3, mF q (th) (nI (R 0).2))), (q 4, .inl (ca 0, 6, .inl (F 4))), (q 7, .inl (ca 1, 6, .inl (F 7)))] ++ rest) H locs := by rw [hrest]; exact C.re [0, 1, 10, 22, 27, 30, 2, 3, 4, 5, 6, 7, 8, 9, 11, 12, 13, 14, 15, 16, 17, 18, 19, 20, 21, 23, 24, 25, 26, 28, 29, 31, 32, 33, 34, 35] rfl rfl
  refine lv_aload_n hx hb dL_law_485 rfl (lv_at hl 2 rfl) ?_
  refine lv_aload_n hx hb dL_law_486 rfl (lv_at hl 1 rfl) ?_
  refine lv_iload hx hb dL_law_487 (lv_at hl 0 rfl) ?_
  refine lv_iconst (v := nI 1) hx hb dL_law_489 (by decide) ?_
  refine n_add S dL_law_490 ?_
  refine n_sld S C hXX hbl hbA (i := (5 * t) + 1) (by omega) hLs dL_law_491 ?_
  refine lv_topi (nm_r (e' := nI i0) e1 ?_)
  refine lv_aload_n hx hb dL_law_492 rfl (lv_at hl 1 rfl) ?_
  refine lv_iload hx hb dL_law_493 (lv_at hl 0 rfl) ?_
  refine lv_iconst (v := nI 2) hx hb dL_law_495 (by decide) ?_
  refine n_add S dL_law_496 ?_
  refine n_sld S C hXX hbl hbA (i := (5 * t) + 2) (by omega) hLs dL_law_497 ?_
  refine lv_topi (nm_r (e' := nI len) e2 ?_)
  refine n_callI5 (wc := [(d, .inr (2, kF g)), (g 4, .inl (ca 4, 4, .inr (.inr (.inr (.inr sf))))), (sa i0, .inr (1, [.ref (sl i0), .int (nI k), .int (nI (wid k)), .int (nI (c0.2)), .int (nI en), .int (tk), .int (b2i true), .int (rm)]))]) (wr := [(h0, .inr (3, mF q (th) (nI (R 0).2))), (q 4, .inl (ca 0, 6, .inl (F 4))), (q 7, .inl (ca 1, 6, .inl (F 7)))]) C [0, 1, 2] [3, 4, 5] rfl rfl rfl rfl (by decide) (fun hp => vx_runSW (rest := []) S (c_L_end_no3 l D ca s0 a0 Z hl0 sx Xs zt Zs d g sf i0 hi0 ((sa i0)) ((sl i0)) hsf0 ((nI (wid k))) ((nI c0.2)) ((nI en)) tk rm k hk len hlen hq Xn _) (vx_cwSW 3 hts (gT g_262 g_263 g_29 g_264) rfl rfl rfl (by decide +kernel) ⟨Nat.le_of_ble_eq_true rfl, Nat.le_of_ble_eq_true rfl⟩) hp rfl rfl hl.1 rfl (lv_room (Nat.le_of_ble_eq_true rfl)) dL_law_498 ⟨by rw [rc_1]; omega, by rw [rs_1]; omega⟩) (fun r u H locs hp C => ?_)
  subst hp
  replace C : Cx D ca s0 A s ([(d, .inr (2, kF g)), (g 4, .inl (ca 4, 4, .inr (.inr (.inr (.inr sf))))), (sa i0, .inr (1, [.ref (sl i0), .int (nI k), .int (nI (wid k)), .int (nI (c0.2)), .int (nI en), .int (tk), .int (b2i true), .int (rm)])), (h0, .inr (3, mF q (th) (nI (R 0).2))), (q 4, .inl (ca 0, 6, .inl (F 4))), (q 7, .inl (ca 1, 6, .inl (F 7)))] ++ rest) H locs := C.reA [3, 4, 5, 0, 1, 2] rfl rfl
  refine lv_istore hx hb dL_law_501 hl (Nat.le_of_ble_eq_true rfl) rfl (fun ls hl => ?_)
  replace hl : lv_has ls 8 [(5, .int (nI 3)), (4, .int (nI (5 * t))), (0, .ref (b)), (1, .ref (d)), (2, .ref (h0)), (3, .ref (o))] := hl
  refine lv_aload_n hx hb dL_law_503 rfl (lv_at hl 4 rfl) ?_
  refine lv_aload_n hx hb dL_law_504 rfl (lv_at hl 2 rfl) ?_
  refine lv_iload hx hb dL_law_505 (lv_at hl 1 rfl) ?_
  refine lv_iconst (v := nI 1) hx hb dL_law_507 (by decide) ?_
  refine n_add S dL_law_508 ?_
  refine n_sld S C hXX hbl hbA (i := (5 * t) + 1) (by omega) hLs dL_law_509 ?_
  refine lv_topi (nm_r (e' := nI i0) e1 ?_)
  refine lv_aload_n hx hb dL_law_510 rfl (lv_at hl 2 rfl) ?_
  refine lv_iload hx hb dL_law_511 (lv_at hl 1 rfl) ?_
  refine lv_iconst (v := nI 2) hx hb dL_law_513 (by decide) ?_
  refine n_add S dL_law_514 ?_
  refine n_sld S C hXX hbl hbA (i := (5 * t) + 2) (by omega) hLs dL_law_515 ?_
  refine lv_topi (nm_r (e' := nI len) e2 ?_)
  refine n_callV5 (wc := [(h0, .inr (3, mF q (th) (nI (R 0).2))), (q 4, .inl (ca 0, 6, .inl (F 4))), (q 7, .inl (ca 1, 6, .inl (F 7)))]) (wr := [(d, .inr (2, kF g)), (g 4, .inl (ca 4, 4, .inr (.inr (.inr (.inr sf))))), (sa i0, .inr (1, [.ref (sl i0), .int (nI k), .int (nI (wid k)), .int (nI (c0.2)), .int (nI en), .int (tk), .int (b2i true), .int (rm)]))]) C [3, 4, 5] [0, 1, 2] rfl rfl rfl rfl (by decide) (fun hp => va_runV (rest := []) S (c_M_end_no3 l D ca s0 a0 Z h0 q th ((nI (R 0).2)) i0 hi0 F k hk hS0.2.1 hS0.2.2.2.2.1 len hlen hq _) (cwV 2 hts (gV g_449 g_450 g_451 g_34 g_452) rfl rfl rfl (by decide +kernel) ⟨Nat.le_of_ble_eq_true rfl, Nat.le_of_ble_eq_true rfl⟩) ⟨hp.1, n_recv C 3 3 rfl rfl, hp.2⟩ rfl rfl hl.1 rfl (lv_room (Nat.le_of_ble_eq_true rfl)) dL_law_516 ⟨by rw [rc_1]; omega, by rw [rs_1]; omega⟩) (fun u H locs hp C => ?_)
  replace C : Cx D ca s0 A s ([(d, .inr (2, kF g)), (g 4, .inl (ca 4, 4, .inr (.inr (.inr (.inr sf))))), (sa i0, .inr (1, [.ref (sl i0), .int (nI k), .int (nI (wid k)), .int (nI (c0.2)), .int (nI en), .int (tk), .int (b2i true), .int (rm)])), (h0, .inr (3, mF q (nI 3) (nI (R 0).2))), (q 4, .inl (ca 0, 6, .inl (F 4))), (q 7, .inl (ca 1, 6, .inl (F 7)))] ++ rest) H locs := C.reA [0, 1, 2, 3, 4, 5] rfl rfl
  refine lv_aload_n hx hb dL_law_519 rfl (lv_at hl 4 rfl) ?_
  refine n_callI5 (wc := [(h0, .inr (3, mF q (nI 3) (nI (R 0).2)))]) (wr := [(d, .inr (2, kF g)), (g 4, .inl (ca 4, 4, .inr (.inr (.inr (.inr sf))))), (sa i0, .inr (1, [.ref (sl i0), .int (nI k), .int (nI (wid k)), .int (nI (c0.2)), .int (nI en), .int (tk), .int (b2i true), .int (rm)])), (q 4, .inl (ca 0, 6, .inl (F 4))), (q 7, .inl (ca 1, 6, .inl (F 7)))]) C [3] [0, 1, 2, 4, 5] rfl rfl rfl rfl (by decide) (fun hp => va_runV (rest := []) S (c_M_thrown l D ca s0 a0 Z h0 q ((nI 3)) ((nI (R 0).2)) _) (cwV 0 hts (gV g_418 g_419 g_420 g_34 g_421) rfl rfl rfl (by decide +kernel) ⟨Nat.le_of_ble_eq_true rfl, Nat.le_of_ble_eq_true rfl⟩) ⟨hp.1, n_recv C 3 3 rfl rfl, hp.2⟩ rfl rfl hl.1 rfl (lv_room (Nat.le_of_ble_eq_true rfl)) dL_law_520 ⟨by rw [rc_1]; omega, by rw [rs_1]; omega⟩) (fun r u H locs hp C => ?_)
  subst hp
  replace C : Cx D ca s0 A s ([(d, .inr (2, kF g)), (g 4, .inl (ca 4, 4, .inr (.inr (.inr (.inr sf))))), (sa i0, .inr (1, [.ref (sl i0), .int (nI k), .int (nI (wid k)), .int (nI (c0.2)), .int (nI en), .int (tk), .int (b2i true), .int (rm)])), (h0, .inr (3, mF q (nI 3) (nI (R 0).2))), (q 4, .inl (ca 0, 6, .inl (F 4))), (q 7, .inl (ca 1, 6, .inl (F 7)))] ++ rest) H locs := C.reA [0, 1, 2, 5, 3, 4] rfl rfl
  refine lv_iload hx hb dL_law_523 (lv_at hl 0 rfl) ?_
  refine n_icmp_eq (tgt := 530) S (by decide) (by decide) dL_law_525 (by decide) (fun hc => ?_) (fun hc => False.elim (by omega))
  refine lv_goto (tgt := 847) hx hb dL_law_530 (by decide) ?_
  rw [hrest] at C
  replace C : Cx D ca s0 A s (LA ca d g sf rb R rf sa sl i0 i1 i2 i3 ((c0, k, en, tk, true, rm)) y1 y2 y3 L0 L1 L2 L3 z4 z5 L4 L5 h0 q (nI 3) (nI (R 0).2) F o fo) H locs := C.re [0, 1, 6, 7, 8, 9, 10, 11, 12, 13, 2, 14, 15, 16, 17, 18, 19, 20, 21, 22, 23, 24, 3, 25, 26, 27, 28, 4, 29, 30, 5, 31, 32, 33, 34, 35] rfl rfl
  exact W.widen (by omega) (by omega) (kk  H locs ls  C (lv_sub hl [1, 2, 3, 4, 5] rfl))
set_option maxHeartbeats 4000000 in
set_option maxRecDepth 100000 in
theorem o_end_ok (p : Program) (l : Launch) (e : Env) (s : State) (m : MethodId) (args : Array Value) (below : List Frame) (meth : Method) (c : Code) (Q : State → Prop) (D : va_G) (ca : Nat → ClassId) (s0 : State) (a0 : Array Value) (A : Nat → Prop) (S : CallFix p m c cL_law 8 s args lw_good RL) (Z : Wd a0 s0) (zt : Nat → Nat) (Zs : ZS zt s0) (hl0 : l.stackTraces = false) (sx : Nat → Nat) (Xs : XS sx s0) (Xn : XN s0) (b Ls : Nat) (xs : Nat → Int32) (hXX : va_X b Ls xs s s.heap) (hbl : b < s.heap.size) (hbA : ¬ A b) (hLs : Ls ≤ 2560) (t ce so : Nat) (ht5 : 5 * t + 5 ≤ Ls) (hce : ce ≤ 1000) (hso : so ≤ 30000) (d : Nat) (g : Nat → Nat) (sf : Nat → Option Nat) (rb : Nat → Nat) (R : Nat → Rw) (rf : Nat → Nat → Int32) (sa sl : Nat → Nat) (i0 i1 i2 i3 : Nat) (y1 y2 y3 : Sp) (L0 L1 L2 L3 : Nat → Int64) (z4 z5 : Nat → Int32) (L4 L5 : Nat → Int64) (h0 : Nat) (q : Nat → Nat) (th : Int32) (F : MFn) (o : Nat) (fo : Nat → Int64) (hR : ∀ j, j < 4 → (R j).2 ≤ 300 ∧ sb_Lat (R j).1 (R j).2 (rf j)) (hMT : mTp (F 0) (R 0).1 (R 0).2) (hMR : ∀ r, r < 3 → mRo (F 1) (F 2) r (R (r + 1))) (c0 : Co) (k en : Nat) (tk : Int32) (rm : Int32) (hi0 : i0 < 4) (hsf0 : sf i0 = some (sa i0)) (hL0 : kEq (lb L0) c0.1) (hS0 : mSg F i0 (c0, k, en, tk, false, rm)) (hk : k < 16) (hen : en < 256) (hp0 : c0.2 ≤ wid k) (hro : rOk rm) (e1 : xs (5 * t + 1) = nI i0) (hp1 : c0.2 < wid k) (len : Nat) (hlen : len ≤ 1000) (hq : (hasL k = true ∧ 1 ≤ len) ∨ (hasL k = false ∧ len = lenM k)) (e2 : xs (5 * t + 2) = nI len) (H : Heap) (locs : List Loc) (ls : Array Slot) (C : Cx D ca s0 A s (LA ca d g sf rb R rf sa sl i0 i1 i2 i3 ((c0, k, en, tk, false, rm)) y1 y2 y3 L0 L1 L2 L3 z4 z5 L4 L5 h0 q th (nI (R 0).2) F o fo) H locs) (hl : lv_has ls 8 [(4, .int (nI (5 * t))), (0, .ref (b)), (1, .ref (d)), (2, .ref (h0)), (3, .ref (o))]) (kk : ∀ (M1 : Nat → Int64) (u1 : MFn) (H : Heap) (locs : List Loc) (ls : Array Slot), kEq (lb M1) ((finA (wid k) k c0 len en, 0)).1 → mU F u1 i0 ((finA (wid k) k c0 len en, 0), k, en, tk, true, (if len = 0 then -1 else nI len)) → Cx D ca s0 A s (LA ca d g sf rb R rf sa sl i0 i1 i2 i3 (((finA (wid k) k c0 len en, 0), k, en, tk, true, (if len = 0 then -1 else nI len))) y1 y2 y3 M1 L1 L2 L3 z4 z5 L4 L5 h0 q (nI 0) (nI (R 0).2) (hiF F u1) o fo) H locs → lv_has ls 8 [(4, .int (nI (5 * t))), (0, .ref (b)), (1, .ref (d)), (2, .ref (h0)), (3, .ref (o))] → W p l e room_1 s m args below meth c H locs (ce + 1) (so + 6) Q (F0 m 847 ls [])) : W p l e room_1 s m args below meth c H locs ce so Q (F0 m 485 ls []) := by
  have hx := S.1
  have hb := S.2.1
  have hown := S.2.2.2.1
  have hts := S.2.2.2.2
  have hR0 := (hR 0 (by decide)).1
  obtain ⟨rest, hrest⟩ : ∃ z : va_W, z = [(g 0, .inr (0, [.ref (rb 0), .int (nI ((R 0).2))])), (rb 0, .inl (ca 3, 300, .inl (rf 0))), (g 1, .inr (0, [.ref (rb 1), .int (nI ((R 1).2))])), (rb 1, .inl (ca 3, 300, .inl (rf 1))), (g 2, .inr (0, [.ref (rb 2), .int (nI ((R 2).2))])), (rb 2, .inl (ca 3, 300, .inl (rf 2))), (g 3, .inr (0, [.ref (rb 3), .int (nI ((R 3).2))])), (rb 3, .inl (ca 3, 300, .inl (rf 3))), (sa i1, .inr (1, [.ref (sl i1), .int (nI (y1.2.1)), .int (nI (wid y1.2.1)), .int (nI (y1.1.2)), .int (nI (y1.2.2.1)), .int (y1.2.2.2.1), .int (b2i y1.2.2.2.2.1), .int (y1.2.2.2.2.2)])), (sl i1, .inl (ca 2, 25, .inr (.inl (L1)))), (sa i2, .inr (1, [.ref (sl i2), .int (nI (y2.2.1)), .int (nI (wid y2.2.1)), .int (nI (y2.1.2)), .int (nI (y2.2.2.1)), .int (y2.2.2.2.1), .int (b2i y2.2.2.2.2.1), .int (y2.2.2.2.2.2)])), (sl i2, .inl (ca 2, 25, .inr (.inl (L2)))), (sa i3, .inr (1, [.ref (sl i3), .int (nI (y3.2.1)), .int (nI (wid y3.2.1)), .int (nI (y3.1.2)), .int (nI (y3.2.2.1)), .int (y3.2.2.2.1), .int (b2i y3.2.2.2.2.1), .int (y3.2.2.2.2.2)])), (sl i3, .inl (ca 2, 25, .inr (.inl (L3)))), (g 5, .inr (1, [.ref (sl 4), .int (z4 0), .int (z4 1), .int (z4 2), .int (z4 3), .int (z4 4), .int (z4 5), .int (z4 6)])), (sl 4, .inl (ca 2, 25, .inr (.inl (L4)))), (g 6, .inr (1, [.ref (sl 5), .int (z5 0), .int (z5 1), .int (z5 2), .int (z5 3), .int (z5 4), .int (z5 5), .int (z5 6)])), (sl 5, .inl (ca 2, 25, .inr (.inl (L5)))), (q 0, .inl (ca 0, 300, .inl (F 0))), (q 1, .inl (ca 0, 3, .inl (F 1))), (q 2, .inl (ca 0, 900, .inl (F 2))), (o, .inl (ca 2, 1, .inr (.inl (fo))))] := ⟨_, rfl⟩
  replace C : Cx D ca s0 A s ([(d, .inr (2, kF g)), (g 4, .inl (ca 4, 4, .inr (.inr (.inr (.inr sf))))), (sa i0, .inr (1, [.ref (sl i0), .int (nI k), .int (nI (wid k)), .int (nI (c0.2)), .int (nI en), .int (tk), .int (b2i false), .int (rm)])), (sl i0, .inl (ca 2, 25, .inr (.inl (L0)))), (h0, .inr (3, mF q (th) (nI (R 0).2))), (q 3, .inl (ca 1, 9600, .inl (F 3))), (q 4, .inl (ca 0, 6, .inl (F 4))), (q 5, .inl (ca 0, 6, .inl (F 5))), (q 6, .inl (ca 0, 6, .inl (F 6))), (q 7, .inl (ca 1, 6, .inl (F 7))), (q 8, .inl (ca 0, 6, .inl (F 8))), (q 9, .inl (ca 0, 6, .inl (F 9))), (q 10, .inl (ca 1, 1600, .inl (F 10))), (q 11, .inl (ca 1, 1600, .inl (F 11)))] ++ rest) H locs := by rw [hrest]; exact C.re [0, 1, 10, 11, 22, 26, 27, 28, 29, 30, 31, 32, 33, 34, 2, 3, 4, 5, 6, 7, 8, 9, 12, 13, 14, 15, 16, 17, 18, 19, 20, 21, 23, 24, 25, 35] rfl rfl
  refine lv_aload_n hx hb dL_law_485 rfl (lv_at hl 2 rfl) ?_
  refine lv_aload_n hx hb dL_law_486 rfl (lv_at hl 1 rfl) ?_
  refine lv_iload hx hb dL_law_487 (lv_at hl 0 rfl) ?_
  refine lv_iconst (v := nI 1) hx hb dL_law_489 (by decide) ?_
  refine n_add S dL_law_490 ?_
  refine n_sld S C hXX hbl hbA (i := (5 * t) + 1) (by omega) hLs dL_law_491 ?_
  refine lv_topi (nm_r (e' := nI i0) e1 ?_)
  refine lv_aload_n hx hb dL_law_492 rfl (lv_at hl 1 rfl) ?_
  refine lv_iload hx hb dL_law_493 (lv_at hl 0 rfl) ?_
  refine lv_iconst (v := nI 2) hx hb dL_law_495 (by decide) ?_
  refine n_add S dL_law_496 ?_
  refine n_sld S C hXX hbl hbA (i := (5 * t) + 2) (by omega) hLs dL_law_497 ?_
  refine lv_topi (nm_r (e' := nI len) e2 ?_)
  refine n_callI5 (wc := [(d, .inr (2, kF g)), (g 4, .inl (ca 4, 4, .inr (.inr (.inr (.inr sf))))), (sa i0, .inr (1, [.ref (sl i0), .int (nI k), .int (nI (wid k)), .int (nI (c0.2)), .int (nI en), .int (tk), .int (b2i false), .int (rm)])), (sl i0, .inl (ca 2, 25, .inr (.inl (L0))))]) (wr := [(h0, .inr (3, mF q (th) (nI (R 0).2))), (q 3, .inl (ca 1, 9600, .inl (F 3))), (q 4, .inl (ca 0, 6, .inl (F 4))), (q 5, .inl (ca 0, 6, .inl (F 5))), (q 6, .inl (ca 0, 6, .inl (F 6))), (q 7, .inl (ca 1, 6, .inl (F 7))), (q 8, .inl (ca 0, 6, .inl (F 8))), (q 9, .inl (ca 0, 6, .inl (F 9))), (q 10, .inl (ca 1, 1600, .inl (F 10))), (q 11, .inl (ca 1, 1600, .inl (F 11)))]) C [0, 1, 2, 3] [4, 5, 6, 7, 8, 9, 10, 11, 12, 13] rfl rfl rfl rfl (by decide) (fun hp => vx_runSW (rest := []) S (c_L_end_ok l D ca s0 a0 Z zt Zs d g sf i0 hi0 ((sa i0)) ((sl i0)) hsf0 L0 tk rm k en hk hen c0 hL0 hp1 len hlen hq _) (vx_cwSW 3 hts (gT g_262 g_263 g_29 g_264) rfl rfl rfl (by decide +kernel) ⟨Nat.le_of_ble_eq_true rfl, Nat.le_of_ble_eq_true rfl⟩) hp rfl rfl hl.1 rfl (lv_room (Nat.le_of_ble_eq_true rfl)) dL_law_498 ⟨by rw [rc_1]; omega, by rw [rs_1]; omega⟩) (fun r u H locs hp C => ?_)
  obtain ⟨rfl, hw1⟩ := hp
  obtain ⟨M1, rfl⟩ : ∃ z, z = u := ⟨_, rfl⟩
  replace C : Cx D ca s0 A s ([(d, .inr (2, kF g)), (g 4, .inl (ca 4, 4, .inr (.inr (.inr (.inr sf))))), (sa i0, .inr (1, [.ref (sl i0), .int (nI k), .int (nI (wid k)), .int (nI (((finA (wid k) k c0 len en, 0)).2)), .int (nI en), .int (tk), .int (b2i true), .int ((if len = 0 then -1 else nI len))])), (sl i0, .inl (ca 2, 25, .inr (.inl (M1)))), (h0, .inr (3, mF q (th) (nI (R 0).2))), (q 3, .inl (ca 1, 9600, .inl (F 3))), (q 4, .inl (ca 0, 6, .inl (F 4))), (q 5, .inl (ca 0, 6, .inl (F 5))), (q 6, .inl (ca 0, 6, .inl (F 6))), (q 7, .inl (ca 1, 6, .inl (F 7))), (q 8, .inl (ca 0, 6, .inl (F 8))), (q 9, .inl (ca 0, 6, .inl (F 9))), (q 10, .inl (ca 1, 1600, .inl (F 10))), (q 11, .inl (ca 1, 1600, .inl (F 11)))] ++ rest) H locs := C.reA [10, 11, 12, 13, 0, 1, 2, 3, 4, 5, 6, 7, 8, 9] rfl rfl
  refine lv_istore hx hb dL_law_501 hl (Nat.le_of_ble_eq_true rfl) rfl (fun ls hl => ?_)
  replace hl : lv_has ls 8 [(5, .int (nI 0)), (4, .int (nI (5 * t))), (0, .ref (b)), (1, .ref (d)), (2, .ref (h0)), (3, .ref (o))] := hl
  refine lv_aload_n hx hb dL_law_503 rfl (lv_at hl 4 rfl) ?_
  refine lv_aload_n hx hb dL_law_504 rfl (lv_at hl 2 rfl) ?_
  refine lv_iload hx hb dL_law_505 (lv_at hl 1 rfl) ?_
  refine lv_iconst (v := nI 1) hx hb dL_law_507 (by decide) ?_
  refine n_add S dL_law_508 ?_
  refine n_sld S C hXX hbl hbA (i := (5 * t) + 1) (by omega) hLs dL_law_509 ?_
  refine lv_topi (nm_r (e' := nI i0) e1 ?_)
  refine lv_aload_n hx hb dL_law_510 rfl (lv_at hl 2 rfl) ?_
  refine lv_iload hx hb dL_law_511 (lv_at hl 1 rfl) ?_
  refine lv_iconst (v := nI 2) hx hb dL_law_513 (by decide) ?_
  refine n_add S dL_law_514 ?_
  refine n_sld S C hXX hbl hbA (i := (5 * t) + 2) (by omega) hLs dL_law_515 ?_
  refine lv_topi (nm_r (e' := nI len) e2 ?_)
  refine n_callV5 (wc := [(h0, .inr (3, mF q (th) (nI (R 0).2))), (q 3, .inl (ca 1, 9600, .inl (F 3))), (q 4, .inl (ca 0, 6, .inl (F 4))), (q 5, .inl (ca 0, 6, .inl (F 5))), (q 6, .inl (ca 0, 6, .inl (F 6))), (q 7, .inl (ca 1, 6, .inl (F 7))), (q 8, .inl (ca 0, 6, .inl (F 8))), (q 9, .inl (ca 0, 6, .inl (F 9))), (q 10, .inl (ca 1, 1600, .inl (F 10))), (q 11, .inl (ca 1, 1600, .inl (F 11)))]) (wr := [(d, .inr (2, kF g)), (g 4, .inl (ca 4, 4, .inr (.inr (.inr (.inr sf))))), (sa i0, .inr (1, [.ref (sl i0), .int (nI k), .int (nI (wid k)), .int (nI (((finA (wid k) k c0 len en, 0)).2)), .int (nI en), .int (tk), .int (b2i true), .int ((if len = 0 then -1 else nI len))])), (sl i0, .inl (ca 2, 25, .inr (.inl (M1))))]) C [4, 5, 6, 7, 8, 9, 10, 11, 12, 13] [0, 1, 2, 3] rfl rfl rfl rfl (by decide) (fun hp => va_runV (rest := []) S (c_M_end_ok l D ca s0 a0 Z h0 q th ((nI (R 0).2)) F i0 hi0 c0 k en tk rm hk hS0 hp1 hen len hlen hq _) (cwV 2 hts (gV g_449 g_450 g_451 g_34 g_452) rfl rfl rfl (by decide +kernel) ⟨Nat.le_of_ble_eq_true rfl, Nat.le_of_ble_eq_true rfl⟩) ⟨hp.1, n_recv C 4 3 rfl rfl, hp.2⟩ rfl rfl hl.1 rfl (lv_room (Nat.le_of_ble_eq_true rfl)) dL_law_516 ⟨by rw [rc_1]; omega, by rw [rs_1]; omega⟩) (fun u H locs hp C => ?_)
  have hm1 := hp
  obtain ⟨u1, rfl⟩ : ∃ z, z = u := ⟨_, rfl⟩
  replace C : Cx D ca s0 A s ([(d, .inr (2, kF g)), (g 4, .inl (ca 4, 4, .inr (.inr (.inr (.inr sf))))), (sa i0, .inr (1, [.ref (sl i0), .int (nI k), .int (nI (wid k)), .int (nI (((finA (wid k) k c0 len en, 0)).2)), .int (nI en), .int (tk), .int (b2i true), .int ((if len = 0 then -1 else nI len))])), (sl i0, .inl (ca 2, 25, .inr (.inl (M1)))), (h0, .inr (3, mF q (nI 0) (nI (R 0).2))), (q 3, .inl (ca 1, 9600, .inl ((hiF F u1) 3))), (q 4, .inl (ca 0, 6, .inl ((hiF F u1) 4))), (q 5, .inl (ca 0, 6, .inl ((hiF F u1) 5))), (q 6, .inl (ca 0, 6, .inl ((hiF F u1) 6))), (q 7, .inl (ca 1, 6, .inl ((hiF F u1) 7))), (q 8, .inl (ca 0, 6, .inl ((hiF F u1) 8))), (q 9, .inl (ca 0, 6, .inl ((hiF F u1) 9))), (q 10, .inl (ca 1, 1600, .inl ((hiF F u1) 10))), (q 11, .inl (ca 1, 1600, .inl ((hiF F u1) 11)))] ++ rest) H locs := C.reA [0, 1, 2, 3, 4, 5, 6, 7, 8, 9, 10, 11, 12, 13] rfl rfl
  refine lv_aload_n hx hb dL_law_519 rfl (lv_at hl 4 rfl) ?_
  refine n_callI5 (wc := [(h0, .inr (3, mF q (nI 0) (nI (R 0).2)))]) (wr := [(d, .inr (2, kF g)), (g 4, .inl (ca 4, 4, .inr (.inr (.inr (.inr sf))))), (sa i0, .inr (1, [.ref (sl i0), .int (nI k), .int (nI (wid k)), .int (nI (((finA (wid k) k c0 len en, 0)).2)), .int (nI en), .int (tk), .int (b2i true), .int ((if len = 0 then -1 else nI len))])), (sl i0, .inl (ca 2, 25, .inr (.inl (M1)))), (q 3, .inl (ca 1, 9600, .inl ((hiF F u1) 3))), (q 4, .inl (ca 0, 6, .inl ((hiF F u1) 4))), (q 5, .inl (ca 0, 6, .inl ((hiF F u1) 5))), (q 6, .inl (ca 0, 6, .inl ((hiF F u1) 6))), (q 7, .inl (ca 1, 6, .inl ((hiF F u1) 7))), (q 8, .inl (ca 0, 6, .inl ((hiF F u1) 8))), (q 9, .inl (ca 0, 6, .inl ((hiF F u1) 9))), (q 10, .inl (ca 1, 1600, .inl ((hiF F u1) 10))), (q 11, .inl (ca 1, 1600, .inl ((hiF F u1) 11)))]) C [4] [0, 1, 2, 3, 5, 6, 7, 8, 9, 10, 11, 12, 13] rfl rfl rfl rfl (by decide) (fun hp => va_runV (rest := []) S (c_M_thrown l D ca s0 a0 Z h0 q ((nI 0)) ((nI (R 0).2)) _) (cwV 0 hts (gV g_418 g_419 g_420 g_34 g_421) rfl rfl rfl (by decide +kernel) ⟨Nat.le_of_ble_eq_true rfl, Nat.le_of_ble_eq_true rfl⟩) ⟨hp.1, n_recv C 4 3 rfl rfl, hp.2⟩ rfl rfl hl.1 rfl (lv_room (Nat.le_of_ble_eq_true rfl)) dL_law_520 ⟨by rw [rc_1]; omega, by rw [rs_1]; omega⟩) (fun r u H locs hp C => ?_)
  subst hp
  replace C : Cx D ca s0 A s ([(d, .inr (2, kF g)), (g 4, .inl (ca 4, 4, .inr (.inr (.inr (.inr sf))))), (sa i0, .inr (1, [.ref (sl i0), .int (nI k), .int (nI (wid k)), .int (nI (((finA (wid k) k c0 len en, 0)).2)), .int (nI en), .int (tk), .int (b2i true), .int ((if len = 0 then -1 else nI len))])), (sl i0, .inl (ca 2, 25, .inr (.inl (M1)))), (h0, .inr (3, mF q (nI 0) (nI (R 0).2))), (q 3, .inl (ca 1, 9600, .inl ((hiF F u1) 3))), (q 4, .inl (ca 0, 6, .inl ((hiF F u1) 4))), (q 5, .inl (ca 0, 6, .inl ((hiF F u1) 5))), (q 6, .inl (ca 0, 6, .inl ((hiF F u1) 6))), (q 7, .inl (ca 1, 6, .inl ((hiF F u1) 7))), (q 8, .inl (ca 0, 6, .inl ((hiF F u1) 8))), (q 9, .inl (ca 0, 6, .inl ((hiF F u1) 9))), (q 10, .inl (ca 1, 1600, .inl ((hiF F u1) 10))), (q 11, .inl (ca 1, 1600, .inl ((hiF F u1) 11)))] ++ rest) H locs := C.reA [0, 1, 2, 3, 13, 4, 5, 6, 7, 8, 9, 10, 11, 12] rfl rfl
  refine lv_iload hx hb dL_law_523 (lv_at hl 0 rfl) ?_
  refine n_icmp_eq (tgt := 530) S (by decide) (by decide) dL_law_525 (by decide) (fun hc => ?_) (fun hc => False.elim (by omega))
  refine lv_goto (tgt := 847) hx hb dL_law_530 (by decide) ?_
  rw [hrest] at C
  replace C : Cx D ca s0 A s (LA ca d g sf rb R rf sa sl i0 i1 i2 i3 (((finA (wid k) k c0 len en, 0), k, en, tk, true, (if len = 0 then -1 else nI len))) y1 y2 y3 M1 L1 L2 L3 z4 z5 L4 L5 h0 q (nI 0) (nI (R 0).2) (hiF F u1) o fo) H locs := C.re [0, 1, 14, 15, 16, 17, 18, 19, 20, 21, 2, 3, 22, 23, 24, 25, 26, 27, 28, 29, 30, 31, 4, 32, 33, 34, 5, 6, 7, 8, 9, 10, 11, 12, 13, 35] rfl rfl
  exact W.widen (by omega) (by omega) (kk M1 u1 H locs ls hw1 hm1 C (lv_sub hl [1, 2, 3, 4, 5] rfl))
