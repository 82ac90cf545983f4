set_option maxHeartbeats 4000000 in
set_option maxRecDepth 100000 in
theorem o_copy_no1 (p : Program) (l : Launch) (e : Env) (s : State) (m : MethodId) (args : Array Value) (below : List Frame) (meth : Method) (c : Code) (Q : State → Prop) (D : va_G) (ca : Nat → ClassId) (s0 : State) (a0 : Array Value) (A : Nat → Prop) (S : CallFix p m c cL_law 8 s args lw_good RL) (Z : Wd a0 s0) (zt : Nat → Nat) (Zs : ZS zt s0) (hl0 : l.stackTraces = false) (sx : Nat → Nat) (Xs : XS sx s0) (Xn : XN s0) (b Ls : Nat) (xs : Nat → Int32) (hXX : va_X b Ls xs s s.heap) (hbl : b < s.heap.size) (hbA : ¬ A b) (hLs : Ls ≤ 2560) (t ce so : Nat) (ht5 : 5 * t + 5 ≤ Ls) (hce : ce ≤ 1000) (hso : so ≤ 30000) (d : Nat) (g : Nat → Nat) (sf : Nat → Option Nat) (rb : Nat → Nat) (R : Nat → Rw) (rf : Nat → Nat → Int32) (sa sl : Nat → Nat) (i0 i1 i2 i3 : Nat) (y0 y1 y2 y3 : Sp) (L0 L1 L2 L3 : Nat → Int64) (z4 z5 : Nat → Int32) (L4 L5 : Nat → Int64) (h0 : Nat) (q : Nat → Nat) (th : Int32) (F : MFn) (o : Nat) (fo : Nat → Int64) (hR : ∀ j, j < 4 → (R j).2 ≤ 300 ∧ sb_Lat (R j).1 (R j).2 (rf j)) (hMT : mTp (F 0) (R 0).1 (R 0).2) (hMR : ∀ r, r < 3 → mRo (F 1) (F 2) r (R (r + 1))) (hno : ¬ (¬ xs (5 * t + 1) < 0 ∧ xs (5 * t + 1) < 4)) (H : Heap) (locs : List Loc) (ls : Array Slot) (C : Cx D ca s0 A s (LA ca d g sf rb R rf sa sl i0 i1 i2 i3 y0 y1 y2 y3 L0 L1 L2 L3 z4 z5 L4 L5 h0 q th (nI (R 0).2) F o fo) H locs) (hl : lv_has ls 8 [(4, .int (nI (5 * t))), (0, .ref (b)), (1, .ref (d)), (2, .ref (h0)), (3, .ref (o))]) (kk : ∀  (H : Heap) (locs : List Loc) (ls : Array Slot), Cx D ca s0 A s (LA ca d g sf rb R rf sa sl i0 i1 i2 i3 y0 y1 y2 y3 L0 L1 L2 L3 z4 z5 L4 L5 h0 q (nI 1) (nI (R 0).2) F o fo) H locs → lv_has ls 8 [(4, .int (nI (5 * t))), (0, .ref (b)), (1, .ref (d)), (2, .ref (h0)), (3, .ref (o))] → W p l e room_1 s m args below meth c H locs (ce + 1) (so + 6) Q (F0 m 847 ls [])) : W p l e room_1 s m args below meth c H locs ce so Q (F0 m 656 ls []) := by
  have hx := S.1
  have hb := S.2.1
  have hown := S.2.2.2.1
  have hts := S.2.2.2.2
  have hR0 := (hR 0 (by decide)).1
  obtain ⟨rest, hrest⟩ : ∃ z : va_W, z = [(g 4, .inl (ca 4, 4, .inr (.inr (.inr (.inr sf))))), (g 0, .inr (0, [.ref (rb 0), .int (nI ((R 0).2))])), (rb 0, .inl (ca 3, 300, .inl (rf 0))), (g 1, .inr (0, [.ref (rb 1), .int (nI ((R 1).2))])), (rb 1, .inl (ca 3, 300, .inl (rf 1))), (g 2, .inr (0, [.ref (rb 2), .int (nI ((R 2).2))])), (rb 2, .inl (ca 3, 300, .inl (rf 2))), (g 3, .inr (0, [.ref (rb 3), .int (nI ((R 3).2))])), (rb 3, .inl (ca 3, 300, .inl (rf 3))), (sa i0, .inr (1, [.ref (sl i0), .int (nI (y0.2.1)), .int (nI (wid y0.2.1)), .int (nI (y0.1.2)), .int (nI (y0.2.2.1)), .int (y0.2.2.2.1), .int (b2i y0.2.2.2.2.1), .int (y0.2.2.2.2.2)])), (sl i0, .inl (ca 2, 25, .inr (.inl (L0)))), (sa i1, .inr (1, [.ref (sl i1), .int (nI (y1.2.1)), .int (nI (wid y1.2.1)), .int (nI (y1.1.2)), .int (nI (y1.2.2.1)), .int (y1.2.2.2.1), .int (b2i y1.2.2.2.2.1), .int (y1.2.2.2.2.2)])), (sl i1, .inl (ca 2, 25, .inr (.inl (L1)))), (sa i2, .inr (1, [.ref (sl i2), .int (nI (y2.2.1)), .int (nI (wid y2.2.1)), .int (nI (y2.1.2)), .int (nI (y2.2.2.1)), .int (y2.2.2.2.1), .int (b2i y2.2.2.2.2.1), .int (y2.2.2.2.2.2)])), (sl i2, .inl (ca 2, 25, .inr (.inl (L2)))), (sa i3, .inr (1, [.ref (sl i3), .int (nI (y3.2.1)), .int (nI (wid y3.2.1)), .int (nI (y3.1.2)), .int (nI (y3.2.2.1)), .int (y3.2.2.2.1), .int (b2i y3.2.2.2.2.1), .int (y3.2.2.2.2.2)])), (sl i3, .inl (ca 2, 25, .inr (.inl (L3)))), (g 5, .inr (1, [.ref (sl 4), .int (z4 0), .int (z4 1), .int (z4 2), .int (z4 3), .int (z4 4), .int (z4 5), .int (z4 6)])), (sl 4, .inl (ca 2, 25, .inr (.inl (L4)))), (g 6, .inr (1, [.ref (sl 5), .int (z5 0), .int (z5 1), .int (z5 2), .int (z5 3), .int (z5 4), .int (z5 5), .int (z5 6)])), (sl 5, .inl (ca 2, 25, .inr (.inl (L5)))), (q 0, .inl (ca 0, 300, .inl (F 0))), (q 1, .inl (ca 0, 3, .inl (F 1))), (q 2, .inl (ca 0, 900, .inl (F 2))), (q 3, .inl (ca 1, 9600, .inl (F 3))), (q 4, .inl (ca 0, 6, .inl (F 4))), (q 5, .inl (ca 0, 6, .inl (F 5))), (q 6, .inl (ca 0, 6, .inl (F 6))), (q 7, .inl (ca 1, 6, .inl (F 7))), (q 8, .inl (ca 0, 6, .inl (F 8))), (q 9, .inl (ca 0, 6, .inl (F 9))), (q 10, .inl (ca 1, 1600, .inl (F 10))), (q 11, .inl (ca 1, 1600, .inl (F 11))), (o, .inl (ca 2, 1, .inr (.inl (fo))))] := ⟨_, rfl⟩
  replace C : Cx D ca s0 A s ([(d, .inr (2, kF g)), (h0, .inr (3, mF q (th) (nI (R 0).2)))] ++ rest) H locs := by rw [hrest]; exact C.re [0, 22, 1, 2, 3, 4, 5, 6, 7, 8, 9, 10, 11, 12, 13, 14, 15, 16, 17, 18, 19, 20, 21, 23, 24, 25, 26, 27, 28, 29, 30, 31, 32, 33, 34, 35] rfl rfl
  refine lv_aload_n hx hb dL_law_656 rfl (lv_at hl 2 rfl) ?_
  refine lv_aload_n hx hb dL_law_657 rfl (lv_at hl 1 rfl) ?_
  refine lv_iload hx hb dL_law_658 (lv_at hl 0 rfl) ?_
  refine lv_iconst (v := nI 1) hx hb dL_law_660 (by decide) ?_
  refine n_add S dL_law_661 ?_
  refine n_sld S C hXX hbl hbA (i := (5 * t) + 1) (by omega) hLs dL_law_662 ?_
  refine lv_aload_n hx hb dL_law_663 rfl (lv_at hl 1 rfl) ?_
  refine lv_iload hx hb dL_law_664 (lv_at hl 0 rfl) ?_
  refine lv_iconst (v := nI 2) hx hb dL_law_666 (by decide) ?_
  refine n_add S dL_law_667 ?_
  refine n_sld S C hXX hbl hbA (i := (5 * t) + 2) (by omega) hLs dL_law_668 ?_
  refine n_callI5 (wc := [(d, .inr (2, kF g))]) (wr := [(h0, .inr (3, mF q (th) (nI (R 0).2)))]) C [0] [1] rfl rfl rfl rfl (by decide) (fun hp => vx_runSW (rest := []) S (c_L_copy_no1 l D ca s0 a0 Z hl0 sx Xs d g ((xs (5 * t + 1))) hno ((xs (5 * t + 2))) Xn _) (vx_cwSW 3 hts (gT g_306 g_307 g_29 g_308) rfl rfl rfl (by decide +kernel) ⟨Nat.le_of_ble_eq_true rfl, Nat.le_of_ble_eq_true rfl⟩) hp rfl rfl hl.1 rfl (lv_room (Nat.le_of_ble_eq_true rfl)) dL_law_669 ⟨by rw [rc_1]; omega, by rw [rs_1]; omega⟩) (fun r u H locs hp C => ?_)
  subst hp
  replace C : Cx D ca s0 A s ([(d, .inr (2, kF g)), (h0, .inr (3, mF q (th) (nI (R 0).2)))] ++ rest) H locs := C.reA [1, 0] rfl rfl
  refine lv_istore hx hb dL_law_672 hl (Nat.le_of_ble_eq_true rfl) rfl (fun ls hl => ?_)
  replace hl : lv_has ls 8 [(5, .int (nI 1)), (4, .int (nI (5 * t))), (0, .ref (b)), (1, .ref (d)), (2, .ref (h0)), (3, .ref (o))] := hl
  refine lv_aload_n hx hb dL_law_674 rfl (lv_at hl 4 rfl) ?_
  refine lv_aload_n hx hb dL_law_675 rfl (lv_at hl 2 rfl) ?_
  refine lv_iload hx hb dL_law_676 (lv_at hl 1 rfl) ?_
  refine lv_iconst (v := nI 1) hx hb dL_law_678 (by decide) ?_
  refine n_add S dL_law_679 ?_
  refine n_sld S C hXX hbl hbA (i := (5 * t) + 1) (by omega) hLs dL_law_680 ?_
  refine lv_aload_n hx hb dL_law_681 rfl (lv_at hl 2 rfl) ?_
  refine lv_iload hx hb dL_law_682 (lv_at hl 1 rfl) ?_
  refine lv_iconst (v := nI 2) hx hb dL_law_684 (by decide) ?_
  refine n_add S dL_law_685 ?_
  refine n_sld S C hXX hbl hbA (i := (5 * t) + 2) (by omega) hLs dL_law_686 ?_
  refine n_callV5 (wc := [(h0, .inr (3, mF q (th) (nI (R 0).2)))]) (wr := [(d, .inr (2, kF g))]) C [1] [0] rfl rfl rfl rfl (by decide) (fun hp => va_runV (rest := []) S (c_M_copy_no l D ca s0 a0 Z h0 q th ((nI (R 0).2)) ((xs (5 * t + 1))) ((xs (5 * t + 2))) ((Or.inl hno)) _) (cwV 2 hts (gV g_473 g_474 g_475 g_34 g_476) rfl rfl rfl (by decide +kernel) ⟨Nat.le_of_ble_eq_true rfl, Nat.le_of_ble_eq_true rfl⟩) ⟨hp.1, n_recv C 1 3 rfl rfl, hp.2⟩ rfl rfl hl.1 rfl (lv_room (Nat.le_of_ble_eq_true rfl)) dL_law_687 ⟨by rw [rc_1]; omega, by rw [rs_1]; omega⟩) (fun u H locs hp C => ?_)
  replace C : Cx D ca s0 A s ([(d, .inr (2, kF g)), (h0, .inr (3, mF q (nI 1) (nI (R 0).2)))] ++ rest) H locs := C.reA [0, 1] rfl rfl
  refine lv_aload_n hx hb dL_law_690 rfl (lv_at hl 4 rfl) ?_
  refine n_callI5 (wc := [(h0, .inr (3, mF q (nI 1) (nI (R 0).2)))]) (wr := [(d, .inr (2, kF g))]) C [1] [0] rfl rfl rfl rfl (by decide) (fun hp => va_runV (rest := []) S (c_M_thrown l D ca s0 a0 Z h0 q ((nI 1)) ((nI (R 0).2)) _) (cwV 0 hts (gV g_418 g_419 g_420 g_34 g_421) rfl rfl rfl (by decide +kernel) ⟨Nat.le_of_ble_eq_true rfl, Nat.le_of_ble_eq_true rfl⟩) ⟨hp.1, n_recv C 1 3 rfl rfl, hp.2⟩ rfl rfl hl.1 rfl (lv_room (Nat.le_of_ble_eq_true rfl)) dL_law_691 ⟨by rw [rc_1]; omega, by rw [rs_1]; omega⟩) (fun r u H locs hp C => ?_)
  subst hp
  replace C : Cx D ca s0 A s ([(d, .inr (2, kF g)), (h0, .inr (3, mF q (nI 1) (nI (R 0).2)))] ++ rest) H locs := C.reA [0, 1] rfl rfl
  refine lv_iload hx hb dL_law_694 (lv_at hl 0 rfl) ?_
  refine n_icmp_eq (tgt := 701) S (by decide) (by decide) dL_law_696 (by decide) (fun hc => ?_) (fun hc => False.elim (by omega))
  refine lv_goto (tgt := 847) hx hb dL_law_701 (by decide) ?_
  rw [hrest] at C
  replace C : Cx D ca s0 A s (LA ca d g sf rb R rf sa sl i0 i1 i2 i3 y0 y1 y2 y3 L0 L1 L2 L3 z4 z5 L4 L5 h0 q (nI 1) (nI (R 0).2) F o fo) H locs := C.re [0, 2, 3, 4, 5, 6, 7, 8, 9, 10, 11, 12, 13, 14, 15, 16, 17, 18, 19, 20, 21, 22, 1, 23, 24, 25, 26, 27, 28, 29, 30, 31, 32, 33, 34, 35] rfl rfl
  exact W.widen (by omega) (by omega) (kk  H locs ls  C (lv_sub hl [1, 2, 3, 4, 5] rfl))
set_option maxHeartbeats 4000000 in
set_option maxRecDepth 100000 in
theorem o_copy_no2 (p : Program) (l : Launch) (e : Env) (s : State) (m : MethodId) (args : Array Value) (below : List Frame) (meth : Method) (c : Code) (Q : State → Prop) (D : va_G) (ca : Nat → ClassId) (s0 : State) (a0 : Array Value) (A : Nat → Prop) (S : CallFix p m c cL_law 8 s args lw_good RL) (Z : Wd a0 s0) (zt : Nat → Nat) (Zs : ZS zt s0) (hl0 : l.stackTraces = false) (sx : Nat → Nat) (Xs : XS sx s0) (Xn : XN s0) (b Ls : Nat) (xs : Nat → Int32) (hXX : va_X b Ls xs s s.heap) (hbl : b < s.heap.size) (hbA : ¬ A b) (hLs : Ls ≤ 2560) (t ce so : Nat) (ht5 : 5 * t + 5 ≤ Ls) (hce : ce ≤ 1000) (hso : so ≤ 30000) (d : Nat) (g : Nat → Nat) (sf : Nat → Option Nat) (rb : Nat → Nat) (R : Nat → Rw) (rf : Nat → Nat → Int32) (sa sl : Nat → Nat) (i0 i1 i2 i3 : Nat) (y1 y2 y3 : Sp) (L0 L1 L2 L3 : Nat → Int64) (z4 z5 : Nat → Int32) (L4 L5 : Nat → Int64) (h0 : Nat) (q : Nat → Nat) (th : Int32) (F : MFn) (o : Nat) (fo : Nat → Int64) (hR : ∀ j, j < 4 → (R j).2 ≤ 300 ∧ sb_Lat (R j).1 (R j).2 (rf j)) (hMT : mTp (F 0) (R 0).1 (R 0).2) (hMR : ∀ r, r < 3 → mRo (F 1) (F 2) r (R (r + 1))) (c0 : Co) (k en : Nat) (tk : Int32) (dn : Bool) (rm : Int32) (hi0 : i0 < 4) (hsf0 : sf i0 = some (sa i0)) (hL0 : kEq (lb L0) c0.1) (hS0 : mSg F i0 (c0, k, en, tk, dn, rm)) (hk : k < 16) (hen : en < 256) (hp0 : c0.2 ≤ wid k) (hro : rOk rm) (e1 : xs (5 * t + 1) = nI i0) (hno : ¬ (¬ xs (5 * t + 2) < 0 ∧ xs (5 * t + 2) < 4)) (H : Heap) (locs : List Loc) (ls : Array Slot) (C : Cx D ca s0 A s (LA ca d g sf rb R rf sa sl i0 i1 i2 i3 ((c0, k, en, tk, dn, rm)) y1 y2 y3 L0 L1 L2 L3 z4 z5 L4 L5 h0 q th (nI (R 0).2) F o fo) H locs) (hl : lv_has ls 8 [(4, .int (nI (5 * t))), (0, .ref (b)), (1, .ref (d)), (2, .ref (h0)), (3, .ref (o))]) (kk : ∀  (H : Heap) (locs : List Loc) (ls : Array Slot), Cx D ca s0 A s (LA ca d g sf rb R rf sa sl i0 i1 i2 i3 ((c0, k, en, tk, dn, rm)) y1 y2 y3 L0 L1 L2 L3 z4 z5 L4 L5 h0 q (nI 1) (nI (R 0).2) F o fo) H locs → lv_has ls 8 [(4, .int (nI (5 * t))), (0, .ref (b)), (1, .ref (d)), (2, .ref (h0)), (3, .ref (o))] → W p l e room_1 s m args below meth c H locs (ce + 1) (so + 6) Q (F0 m 847 ls [])) : W p l e room_1 s m args below meth c H locs ce so Q (F0 m 656 ls []) := by
  have hx := S.1
  have hb := S.2.1
  have hown := S.2.2.2.1
  have hts := S.2.2.2.2
  have hR0 := (hR 0 (by decide)).1
  obtain ⟨rest, hrest⟩ : ∃ z : va_W, z = [(g 0, .inr (0, [.ref (rb 0), .int (nI ((R 0).2))])), (rb 0, .inl (ca 3, 300, .inl (rf 0))), (g 1, .inr (0, [.ref (rb 1), .int (nI ((R 1).2))])), (rb 1, .inl (ca 3, 300, .inl (rf 1))), (g 2, .inr (0, [.ref (rb 2), .int (nI ((R 2).2))])), (rb 2, .inl (ca 3, 300, .inl (rf 2))), (g 3, .inr (0, [.ref (rb 3), .int (nI ((R 3).2))])), (rb 3, .inl (ca 3, 300, .inl (rf 3))), (sa i0, .inr (1, [.ref (sl i0), .int (nI k), .int (nI (wid k)), .int (nI (c0.2)), .int (nI en), .int (tk), .int (b2i dn), .int (rm)])), (sl i0, .inl (ca 2, 25, .inr (.inl (L0)))), (sa i1, .inr (1, [.ref (sl i1), .int (nI (y1.2.1)), .int (nI (wid y1.2.1)), .int (nI (y1.1.2)), .int (nI (y1.2.2.1)), .int (y1.2.2.2.1), .int (b2i y1.2.2.2.2.1), .int (y1.2.2.2.2.2)])), (sl i1, .inl (ca 2, 25, .inr (.inl (L1)))), (sa i2, .inr (1, [.ref (sl i2), .int (nI (y2.2.1)), .int (nI (wid y2.2.1)), .int (nI (y2.1.2)), .int (nI (y2.2.2.1)), .int (y2.2.2.2.1), .int (b2i y2.2.2.2.2.1), .int (y2.2.2.2.2.2)])), (sl i2, .inl (ca 2, 25, .inr (.inl (L2)))), (sa i3, .inr (1, [.ref (sl i3), .int (nI (y3.2.1)), .int (nI (wid y3.2.1)), .int (nI (y3.1.2)), .int (nI (y3.2.2.1)), .int (y3.2.2.2.1), .int (b2i y3.2.2.2.2.1), .int (y3.2.2.2.2.2)])), (sl i3, .inl (ca 2, 25, .inr (.inl (L3)))), (g 5, .inr (1, [.ref (sl 4), .int (z4 0), .int (z4 1), .int (z4 2), .int (z4 3), .int (z4 4), .int (z4 5), .int (z4 6)])), (sl 4, .inl (ca 2, 25, .inr (.inl (L4)))), (g 6, .inr (1, [.ref (sl 5), .int (z5 0), .int (z5 1), .int (z5 2), .int (z5 3), .int (z5 4), .int (z5 5), .int (z5 6)])), (sl 5, .inl (ca 2, 25, .inr (.inl (L5)))), (q 0, .inl (ca 0, 300, .inl (F 0))), (q 1, .inl (ca 0, 3, .inl (F 1))), (q 2, .inl (ca 0, 900, .inl (F 2))), (q 3, .inl (ca 1, 9600, .inl (F 3))), (q 4, .inl (ca 0, 6, .inl (F 4))), (q 5, .inl (ca 0, 6, .inl (F 5))), (q 6, .inl (ca 0, 6, .inl (F 6))), (q 7, .inl (ca 1, 6, .inl (F 7))), (q 8, .inl (ca 0, 6, .inl (F 8))), (q 9, .inl (ca 0, 6, .inl (F 9))), (q 10, .inl (ca 1, 1600, .inl (F 10))), (q 11, .inl (ca 1, 1600, .inl (F 11))), (o, .inl (ca 2, 1, .inr (.inl (fo))))] := ⟨_, rfl⟩
  replace C : Cx D ca s0 A s ([(d, .inr (2, kF g)), (g 4, .inl (ca 4, 4, .inr (.inr (.inr (.inr sf))))), (h0, .inr (3, mF q (th) (nI (R 0).2)))] ++ rest) H locs := by rw [hrest]; exact C.re [0, 1, 22, 2, 3, 4, 5, 6, 7, 8, 9, 10, 11, 12, 13, 14, 15, 16, 17, 18, 19, 20, 21, 23, 24, 25, 26, 27, 28, 29, 30, 31, 32, 33, 34, 35] rfl rfl
  refine lv_aload_n hx hb dL_law_656 rfl (lv_at hl 2 rfl) ?_
  refine lv_aload_n hx hb dL_law_657 rfl (lv_at hl 1 rfl) ?_
  refine lv_iload hx hb dL_law_658 (lv_at hl 0 rfl) ?_
  refine lv_iconst (v := nI 1) hx hb dL_law_660 (by decide) ?_
  refine n_add S dL_law_661 ?_
  refine n_sld S C hXX hbl hbA (i := (5 * t) + 1) (by omega) hLs dL_law_662 ?_
  refine lv_topi (nm_r (e' := nI i0) e1 ?_)
  refine lv_aload_n hx hb dL_law_663 rfl (lv_at hl 1 rfl) ?_
  refine lv_iload hx hb dL_law_664 (lv_at hl 0 rfl) ?_
  refine lv_iconst (v := nI 2) hx hb dL_law_666 (by decide) ?_
  refine n_add S dL_law_667 ?_
  refine n_sld S C hXX hbl hbA (i := (5 * t) + 2) (by omega) hLs dL_law_668 ?_
  refine n_callI5 (wc := [(d, .inr (2, kF g)), (g 4, .inl (ca 4, 4, .inr (.inr (.inr (.inr sf)))))]) (wr := [(h0, .inr (3, mF q (th) (nI (R 0).2)))]) C [0, 1] [2] rfl rfl rfl rfl (by decide) (fun hp => vx_runSW (rest := []) S (c_L_copy_no2 l D ca s0 a0 Z hl0 sx Xs d g sf i0 hi0 ((sa i0)) ((sl i0)) hsf0 ((xs (5 * t + 2))) hno Xn _) (vx_cwSW 3 hts (gT g_306 g_307 g_29 g_308) rfl rfl rfl (by decide +kernel) ⟨Nat.le_of_ble_eq_true rfl, Nat.le_of_ble_eq_true rfl⟩) hp rfl rfl hl.1 rfl (lv_room (Nat.le_of_ble_eq_true rfl)) dL_law_669 ⟨by rw [rc_1]; omega, by rw [rs_1]; omega⟩) (fun r u H locs hp C => ?_)
  subst hp
  replace C : Cx D ca s0 A s ([(d, .inr (2, kF g)), (g 4, .inl (ca 4, 4, .inr (.inr (.inr (.inr sf))))), (h0, .inr (3, mF q (th) (nI (R 0).2)))] ++ rest) H locs := C.reA [1, 2, 0] rfl rfl
  refine lv_istore hx hb dL_law_672 hl (Nat.le_of_ble_eq_true rfl) rfl (fun ls hl => ?_)
  replace hl : lv_has ls 8 [(5, .int (nI 1)), (4, .int (nI (5 * t))), (0, .ref (b)), (1, .ref (d)), (2, .ref (h0)), (3, .ref (o))] := hl
  refine lv_aload_n hx hb dL_law_674 rfl (lv_at hl 4 rfl) ?_
  refine lv_aload_n hx hb dL_law_675 rfl (lv_at hl 2 rfl) ?_
  refine lv_iload hx hb dL_law_676 (lv_at hl 1 rfl) ?_
  refine lv_iconst (v := nI 1) hx hb dL_law_678 (by decide) ?_
  refine n_add S dL_law_679 ?_
  refine n_sld S C hXX hbl hbA (i := (5 * t) + 1) (by omega) hLs dL_law_680 ?_
  refine lv_topi (nm_r (e' := nI i0) e1 ?_)
  refine lv_aload_n hx hb dL_law_681 rfl (lv_at hl 2 rfl) ?_
  refine lv_iload hx hb dL_law_682 (lv_at hl 1 rfl) ?_
  refine lv_iconst (v := nI 2) hx hb dL_law_684 (by decide) ?_
  refine n_add S dL_law_685 ?_
  refine n_sld S C hXX hbl hbA (i := (5 * t) + 2) (by omega) hLs dL_law_686 ?_
  refine n_callV5 (wc := [(h0, .inr (3, mF q (th) (nI (R 0).2)))]) (wr := [(d, .inr (2, kF g)), (g 4, .inl (ca 4, 4, .inr (.inr (.inr (.inr sf)))))]) C [2] [0, 1] rfl rfl rfl rfl (by decide) (fun hp => va_runV (rest := []) S (c_M_copy_no l D ca s0 a0 Z h0 q th ((nI (R 0).2)) ((nI i0)) ((xs (5 * t + 2))) ((Or.inr hno)) _) (cwV 2 hts (gV g_473 g_474 g_475 g_34 g_476) rfl rfl rfl (by decide +kernel) ⟨Nat.le_of_ble_eq_true rfl, Nat.le_of_ble_eq_true rfl⟩) ⟨hp.1, n_recv C 2 3 rfl rfl, hp.2⟩ rfl rfl hl.1 rfl (lv_room (Nat.le_of_ble_eq_true rfl)) dL_law_687 ⟨by rw [rc_1]; omega, by rw [rs_1]; omega⟩) (fun u H locs hp C => ?_)
  replace C : Cx D ca s0 A s ([(d, .inr (2, kF g)), (g 4, .inl (ca 4, 4, .inr (.inr (.inr (.inr sf))))), (h0, .inr (3, mF q (nI 1) (nI (R 0).2)))] ++ rest) H locs := C.reA [0, 1, 2] rfl rfl
  refine lv_aload_n hx hb dL_law_690 rfl (lv_at hl 4 rfl) ?_
  refine n_callI5 (wc := [(h0, .inr (3, mF q (nI 1) (nI (R 0).2)))]) (wr := [(d, .inr (2, kF g)), (g 4, .inl (ca 4, 4, .inr (.inr (.inr (.inr sf)))))]) C [2] [0, 1] rfl rfl rfl rfl (by decide) (fun hp => va_runV (rest := []) S (c_M_thrown l D ca s0 a0 Z h0 q ((nI 1)) ((nI (R 0).2)) _) (cwV 0 hts (gV g_418 g_419 g_420 g_34 g_421) rfl rfl rfl (by decide +kernel) ⟨Nat.le_of_ble_eq_true rfl, Nat.le_of_ble_eq_true rfl⟩) ⟨hp.1, n_recv C 2 3 rfl rfl, hp.2⟩ rfl rfl hl.1 rfl (lv_room (Nat.le_of_ble_eq_true rfl)) dL_law_691 ⟨by rw [rc_1]; omega, by rw [rs_1]; omega⟩) (fun r u H locs hp C => ?_)
  subst hp
  replace C : Cx D ca s0 A s ([(d, .inr (2, kF g)), (g 4, .inl (ca 4, 4, .inr (.inr (.inr (.inr sf))))), (h0, .inr (3, mF q (nI 1) (nI (R 0).2)))] ++ rest) H locs := C.reA [0, 1, 2] rfl rfl
  refine lv_iload hx hb dL_law_694 (lv_at hl 0 rfl) ?_
  refine n_icmp_eq (tgt := 701) S (by decide) (by decide) dL_law_696 (by decide) (fun hc => ?_) (fun hc => False.elim (by omega))
  refine lv_goto (tgt := 847) hx hb dL_law_701 (by decide) ?_
  rw [hrest] at C
  replace C : Cx D ca s0 A s (LA ca d g sf rb R rf sa sl i0 i1 i2 i3 ((c0, k, en, tk, dn, rm)) y1 y2 y3 L0 L1 L2 L3 z4 z5 L4 L5 h0 q (nI 1) (nI (R 0).2) F o fo) H locs := C.re [0, 1, 3, 4, 5, 6, 7, 8, 9, 10, 11, 12, 13, 14, 15, 16, 17, 18, 19, 20, 21, 22, 2, 23, 24, 25, 26, 27, 28, 29, 30, 31, 32, 33, 34, 35] rfl rfl
  exact W.widen (by omega) (by omega) (kk  H locs ls  C (lv_sub hl [1, 2, 3, 4, 5] rfl))
set_option maxHeartbeats 4000000 in
set_option maxRecDepth 100000 in
theorem o_copy_ok (p : Program) (l : Launch) (e : Env) (s : State) (m : MethodId) (args : Array Value) (below : List Frame) (meth : Method) (c : Code) (Q : State → Prop) (D : va_G) (ca : Nat → ClassId) (s0 : State) (a0 : Array Value) (A : Nat → Prop) (S : CallFix p m c cL_law 8 s args lw_good RL) (Z : Wd a0 s0) (zt : Nat → Nat) (Zs : ZS zt s0) (hl0 : l.stackTraces = false) (sx : Nat → Nat) (Xs : XS sx s0) (Xn : XN s0) (b Ls : Nat) (xs : Nat → Int32) (hXX : va_X b Ls xs s s.heap) (hbl : b < s.heap.size) (hbA : ¬ A b) (hLs : Ls ≤ 2560) (t ce so : Nat) (ht5 : 5 * t + 5 ≤ Ls) (hce : ce ≤ 1000) (hso : so ≤ 30000) (d : Nat) (g : Nat → Nat) (sf : Nat → Option Nat) (rb : Nat → Nat) (R : Nat → Rw) (rf : Nat → Nat → Int32) (sa sl : Nat → Nat) (i0 i1 i2 i3 : Nat) (y2 y3 : Sp) (L0 L1 L2 L3 : Nat → Int64) (z4 z5 : Nat → Int32) (L4 L5 : Nat → Int64) (h0 : Nat) (q : Nat → Nat) (th : Int32) (F : MFn) (o : Nat) (fo : Nat → Int64) (hR : ∀ j, j < 4 → (R j).2 ≤ 300 ∧ sb_Lat (R j).1 (R j).2 (rf j)) (hMT : mTp (F 0) (R 0).1 (R 0).2) (hMR : ∀ r, r < 3 → mRo (F 1) (F 2) r (R (r + 1))) (c0 : Co) (k en : Nat) (tk : Int32) (dn : Bool) (rm : Int32) (hi0 : i0 < 4) (hsf0 : sf i0 = some (sa i0)) (hL0 : kEq (lb L0) c0.1) (hS0 : mSg F i0 (c0, k, en, tk, dn, rm)) (hk : k < 16) (hen : en < 256) (hp0 : c0.2 ≤ wid k) (hro : rOk rm) (d0 : Co) (j0 en2 : Nat) (tk2 : Int32) (dn2 : Bool) (rm2 : Int32) (hi1 : i1 < 4) (hsf1 : sf i1 = some (sa i1)) (hL1 : kEq (lb L1) d0.1) (hS1 : mSg F i1 (d0, j0, en2, tk2, dn2, rm2)) (hj0 : j0 < 16) (hen2 : en2 < 256) (hq0 : d0.2 ≤ wid j0) (hro2 : rOk rm2) (e1 : xs (5 * t + 1) = nI i0) (e2 : xs (5 * t + 2) = nI i1) (H : Heap) (locs : List Loc) (ls : Array Slot) (C : Cx D ca s0 A s (LA ca d g sf rb R rf sa sl i0 i1 i2 i3 ((c0, k, en, tk, dn, rm)) ((d0, j0, en2, tk2, dn2, rm2)) y2 y3 L0 L1 L2 L3 z4 z5 L4 L5 h0 q th (nI (R 0).2) F o fo) H locs) (hl : lv_has ls 8 [(4, .int (nI (5 * t))), (0, .ref (b)), (1, .ref (d)), (2, .ref (h0)), (3, .ref (o))]) (kk : ∀ (M1 : Nat → Int64) (u1 : MFn) (H : Heap) (locs : List Loc) (ls : Array Slot), kEq (lb M1) (lb L1) → mU F u1 i0 (d0, j0, en2, tk2, dn2, rm2) → Cx D ca s0 A s (LA ca d g sf rb R rf sa sl i0 i1 i2 i3 ((d0, j0, en2, tk2, dn2, rm2)) ((d0, j0, en2, tk2, dn2, rm2)) y2 y3 M1 L1 L2 L3 z4 z5 L4 L5 h0 q (nI 0) (nI (R 0).2) (miF F u1) o fo) H locs → lv_has ls 8 [(4, .int (nI (5 * t))), (0, .ref (b)), (1, .ref (d)), (2, .ref (h0)), (3, .ref (o))] → W p l e room_1 s m args below meth c H locs (ce + 1) (so + 6) Q (F0 m 847 ls [])) : W p l e room_1 s m args below meth c H locs ce so Q (F0 m 656 ls []) := by
  have hx := S.1
  have hb := S.2.1
  have hown := S.2.2.2.1
  have hts := S.2.2.2.2
  have hR0 := (hR 0 (by decide)).1
  obtain ⟨rest, hrest⟩ : ∃ z : va_W, z = [(g 0, .inr (0, [.ref (rb 0), .int (nI ((R 0).2))])), (rb 0, .inl (ca 3, 300, .inl (rf 0))), (g 1, .inr (0, [.ref (rb 1), .int (nI ((R 1).2))])), (rb 1, .inl (ca 3, 300, .inl (rf 1))), (g 2, .inr (0, [.ref (rb 2), .int (nI ((R 2).2))])), (rb 2, .inl (ca 3, 300, .inl (rf 2))), (g 3, .inr (0, [.ref (rb 3), .int (nI ((R 3).2))])), (rb 3, .inl (ca 3, 300, .inl (rf 3))), (sa i2, .inr (1, [.ref (sl i2), .int (nI (y2.2.1)), .int (nI (wid y2.2.1)), .int (nI (y2.1.2)), .int (nI (y2.2.2.1)), .int (y2.2.2.2.1), .int (b2i y2.2.2.2.2.1), .int (y2.2.2.2.2.2)])), (sl i2, .inl (ca 2, 25, .inr (.inl (L2)))), (sa i3, .inr (1, [.ref (sl i3), .int (nI (y3.2.1)), .int (nI (wid y3.2.1)), .int (nI (y3.1.2)), .int (nI (y3.2.2.1)), .int (y3.2.2.2.1), .int (b2i y3.2.2.2.2.1), .int (y3.2.2.2.2.2)])), (sl i3, .inl (ca 2, 25, .inr (.inl (L3)))), (g 5, .inr (1, [.ref (sl 4), .int (z4 0), .int (z4 1), .int (z4 2), .int (z4 3), .int (z4 4), .int (z4 5), .int (z4 6)])), (sl 4, .inl (ca 2, 25, .inr (.inl (L4)))), (g 6, .inr (1, [.ref (sl 5), .int (z5 0), .int (z5 1), .int (z5 2), .int (z5 3), .int (z5 4), .int (z5 5), .int (z5 6)])), (sl 5, .inl (ca 2, 25, .inr (.inl (L5)))), (q 0, .inl (ca 0, 300, .inl (F 0))), (q 1, .inl (ca 0, 3, .inl (F 1))), (q 2, .inl (ca 0, 900, .inl (F 2))), (q 10, .inl (ca 1, 1600, .inl (F 10))), (q 11, .inl (ca 1, 1600, .inl (F 11))), (o, .inl (ca 2, 1, .inr (.inl (fo))))] := ⟨_, rfl⟩
  replace C : Cx D ca s0 A s ([(d, .inr (2, kF g)), (g 4, .inl (ca 4, 4, .inr (.inr (.inr (.inr sf))))), (sa i0, .inr (1, [.ref (sl i0), .int (nI k), .int (nI (wid k)), .int (nI (c0.2)), .int (nI en), .int (tk), .int (b2i dn), .int (rm)])), (sl i0, .inl (ca 2, 25, .inr (.inl (L0)))), (sa i1, .inr (1, [.ref (sl i1), .int (nI j0), .int (nI (wid j0)), .int (nI (d0.2)), .int (nI en2), .int (tk2), .int (b2i dn2), .int (rm2)])), (sl i1, .inl (ca 2, 25, .inr (.inl (L1)))), (h0, .inr (3, mF q (th) (nI (R 0).2))), (q 3, .inl (ca 1, 9600, .inl (F 3))), (q 4, .inl (ca 0, 6, .inl (F 4))), (q 5, .inl (ca 0, 6, .inl (F 5))), (q 6, .inl (ca 0, 6, .inl (F 6))), (q 7, .inl (ca 1, 6, .inl (F 7))), (q 8, .inl (ca 0, 6, .inl (F 8))), (q 9, .inl (ca 0, 6, .inl (F 9)))] ++ rest) H locs := by rw [hrest]; exact C.re [0, 1, 10, 11, 12, 13, 22, 26, 27, 28, 29, 30, 31, 32, 2, 3, 4, 5, 6, 7, 8, 9, 14, 15, 16, 17, 18, 19, 20, 21, 23, 24, 25, 33, 34, 35] rfl rfl
  refine lv_aload_n hx hb dL_law_656 rfl (lv_at hl 2 rfl) ?_
  refine lv_aload_n hx hb dL_law_657 rfl (lv_at hl 1 rfl) ?_
  refine lv_iload hx hb dL_law_658 (lv_at hl 0 rfl) ?_
  refine lv_iconst (v := nI 1) hx hb dL_law_660 (by decide) ?_
  refine n_add S dL_law_661 ?_
  refine n_sld S C hXX hbl hbA (i := (5 * t) + 1) (by omega) hLs dL_law_662 ?_
  refine lv_topi (nm_r (e' := nI i0) e1 ?_)
  refine lv_aload_n hx hb dL_law_663 rfl (lv_at hl 1 rfl) ?_
  refine lv_iload hx hb dL_law_664 (lv_at hl 0 rfl) ?_
  refine lv_iconst (v := nI 2) hx hb dL_law_666 (by decide) ?_
  refine n_add S dL_law_667 ?_
  refine n_sld S C hXX hbl hbA (i := (5 * t) + 2) (by omega) hLs dL_law_668 ?_
  refine lv_topi (nm_r (e' := nI i1) e2 ?_)
  refine n_callI5 (wc := [(d, .inr (2, kF g)), (g 4, .inl (ca 4, 4, .inr (.inr (.inr (.inr sf))))), (sa i0, .inr (1, [.ref (sl i0), .int (nI k), .int (nI (wid k)), .int (nI (c0.2)), .int (nI en), .int (tk), .int (b2i dn), .int (rm)])), (sl i0, .inl (ca 2, 25, .inr (.inl (L0)))), (sa i1, .inr (1, [.ref (sl i1), .int (nI j0), .int (nI (wid j0)), .int (nI (d0.2)), .int (nI en2), .int (tk2), .int (b2i dn2), .int (rm2)])), (sl i1, .inl (ca 2, 25, .inr (.inl (L1))))]) (wr := [(h0, .inr (3, mF q (th) (nI (R 0).2))), (q 3, .inl (ca 1, 9600, .inl (F 3))), (q 4, .inl (ca 0, 6, .inl (F 4))), (q 5, .inl (ca 0, 6, .inl (F 5))), (q 6, .inl (ca 0, 6, .inl (F 6))), (q 7, .inl (ca 1, 6, .inl (F 7))), (q 8, .inl (ca 0, 6, .inl (F 8))), (q 9, .inl (ca 0, 6, .inl (F 9)))]) C [0, 1, 2, 3, 4, 5] [6, 7, 8, 9, 10, 11, 12, 13] rfl rfl rfl rfl (by decide) (fun hp => vx_runSW (rest := []) S (c_L_copy_ok l D ca s0 a0 Z d g sf i0 hi0 ((sa i0)) ((sl i0)) hsf0 i1 hi1 ((sa i1)) ((sl i1)) hsf1 L0 ((nI k)) ((nI (wid k))) ((nI c0.2)) ((nI en)) tk ((b2i dn)) rm L1 ((nI j0)) ((nI (wid j0))) ((nI d0.2)) ((nI en2)) tk2 rm2 dn2 _) (vx_cwSW 3 hts (gT g_306 g_307 g_29 g_308) rfl rfl rfl (by decide +kernel) ⟨Nat.le_of_ble_eq_true rfl, Nat.le_of_ble_eq_true rfl⟩) hp rfl rfl hl.1 rfl (lv_room (Nat.le_of_ble_eq_true rfl)) dL_law_669 ⟨by rw [rc_1]; omega, by rw [rs_1]; omega⟩) (fun r u H locs hp C => ?_)
  obtain ⟨rfl, hw1⟩ := hp
  obtain ⟨M1, rfl⟩ : ∃ z, z = u := ⟨_, rfl⟩
  replace C : Cx D ca s0 A s ([(d, .inr (2, kF g)), (g 4, .inl (ca 4, 4, .inr (.inr (.inr (.inr sf))))), (sa i0, .inr (1, [.ref (sl i0), .int (nI j0), .int (nI (wid j0)), .int (nI (d0.2)), .int (nI en2), .int (tk2), .int (b2i dn2), .int (rm2)])), (sl i0, .inl (ca 2, 25, .inr (.inl (M1)))), (sa i1, .inr (1, [.ref (sl i1), .int (nI j0), .int (nI (wid j0)), .int (nI (d0.2)), .int (nI en2), .int (tk2), .int (b2i dn2), .int (rm2)])), (sl i1, .inl (ca 2, 25, .inr (.inl (L1)))), (h0, .inr (3, mF q (th) (nI (R 0).2))), (q 3, .inl (ca 1, 9600, .inl (F 3))), (q 4, .inl (ca 0, 6, .inl (F 4))), (q 5, .inl (ca 0, 6, .inl (F 5))), (q 6, .inl (ca 0, 6, .inl (F 6))), (q 7, .inl (ca 1, 6, .inl (F 7))), (q 8, .inl (ca 0, 6, .inl (F 8))), (q 9, .inl (ca 0, 6, .inl (F 9)))] ++ rest) H locs := C.reA [8, 9, 10, 11, 12, 13, 0, 1, 2, 3, 4, 5, 6, 7] rfl rfl
  refine lv_istore hx hb dL_law_672 hl (Nat.le_of_ble_eq_true rfl) rfl (fun ls hl => ?_)
  replace hl : lv_has ls 8 [(5, .int (nI 0)), (4, .int (nI (5 * t))), (0, .ref (b)), (1, .ref (d)), (2, .ref (h0)), (3, .ref (o))] := hl
  refine lv_aload_n hx hb dL_law_674 rfl (lv_at hl 4 rfl) ?_
  refine lv_aload_n hx hb dL_law_675 rfl (lv_at hl 2 rfl) ?_
  refine lv_iload hx hb dL_law_676 (lv_at hl 1 rfl) ?_
  refine lv_iconst (v := nI 1) hx hb dL_law_678 (by decide) ?_
  refine n_add S dL_law_679 ?_
  refine n_sld S C hXX hbl hbA (i := (5 * t) + 1) (by omega) hLs dL_law_680 ?_
  refine lv_topi (nm_r (e' := nI i0) e1 ?_)
  refine lv_aload_n hx hb dL_law_681 rfl (lv_at hl 2 rfl) ?_
  refine lv_iload hx hb dL_law_682 (lv_at hl 1 rfl) ?_
  refine lv_iconst (v := nI 2) hx hb dL_law_684 (by decide) ?_
  refine n_add S dL_law_685 ?_
  refine n_sld S C hXX hbl hbA (i := (5 * t) + 2) (by omega) hLs dL_law_686 ?_
  refine lv_topi (nm_r (e' := nI i1) e2 ?_)
  refine n_callV5 (wc := [(h0, .inr (3, mF q (th) (nI (R 0).2))), (q 3, .inl (ca 1, 9600, .inl (F 3))), (q 4, .inl (ca 0, 6, .inl (F 4))), (q 5, .inl (ca 0, 6, .inl (F 5))), (q 6, .inl (ca 0, 6, .inl (F 6))), (q 7, .inl (ca 1, 6, .inl (F 7))), (q 8, .inl (ca 0, 6, .inl (F 8))), (q 9, .inl (ca 0, 6, .inl (F 9)))]) (wr := [(d, .inr (2, kF g)), (g 4, .inl (ca 4, 4, .inr (.inr (.inr (.inr sf))))), (sa i0, .inr (1, [.ref (sl i0), .int (nI j0), .int (nI (wid j0)), .int (nI (d0.2)), .int (nI en2), .int (tk2), .int (b2i dn2), .int (rm2)])), (sl i0, .inl (ca 2, 25, .inr (.inl (M1)))), (sa i1, .inr (1, [.ref (sl i1), .int (nI j0), .int (nI (wid j0)), .int (nI (d0.2)), .int (nI en2), .int (tk2), .int (b2i dn2), .int (rm2)])), (sl i1, .inl (ca 2, 25, .inr (.inl (L1))))]) C [6, 7, 8, 9, 10, 11, 12, 13] [0, 1, 2, 3, 4, 5] rfl rfl rfl rfl (by decide) (fun hp => va_runV (rest := []) S (c_M_copy_ok l D ca s0 a0 Z h0 q th ((nI (R 0).2)) F i0 i1 hi0 hi1 d0 j0 en2 tk2 dn2 rm2 hS1 _) (cwV 2 hts (gV g_473 g_474 g_475 g_34 g_476) rfl rfl rfl (by decide +kernel) ⟨Nat.le_of_ble_eq_true rfl, Nat.le_of_ble_eq_true rfl⟩) ⟨hp.1, n_recv C 6 3 rfl rfl, hp.2⟩ rfl rfl hl.1 rfl (lv_room (Nat.le_of_ble_eq_true rfl)) dL_law_687 ⟨by rw [rc_1]; omega, by rw [rs_1]; omega⟩) (fun u H locs hp C => ?_)
  have hm1 := hp
  obtain ⟨u1, rfl⟩ : ∃ z, z = u := ⟨_, rfl⟩
  replace C : Cx D ca s0 A s ([(d, .inr (2, kF g)), (g 4, .inl (ca 4, 4, .inr (.inr (.inr (.inr sf))))), (sa i0, .inr (1, [.ref (sl i0), .int (nI j0), .int (nI (wid j0)), .int (nI (d0.2)), .int (nI en2), .int (tk2), .int (b2i dn2), .int (rm2)])), (sl i0, .inl (ca 2, 25, .inr (.inl (M1)))), (sa i1, .inr (1, [.ref (sl i1), .int (nI j0), .int (nI (wid j0)), .int (nI (d0.2)), .int (nI en2), .int (tk2), .int (b2i dn2), .int (rm2)])), (sl i1, .inl (ca 2, 25, .inr (.inl (L1)))), (h0, .inr (3, mF q (nI 0) (nI (R 0).2))), (q 3, .inl (ca 1, 9600, .inl ((miF F u1) 3))), (q 4, .inl (ca 0, 6, .inl ((miF F u1) 4))), (q 5, .inl (ca 0, 6, .inl ((miF F u1) 5))), (q 6, .inl (ca 0, 6, .inl ((miF F u1) 6))), (q 7, .inl (ca 1, 6, .inl ((miF F u1) 7))), (q 8, .inl (ca 0, 6, .inl ((miF F u1) 8))), (q 9, .inl (ca 0, 6, .inl ((miF F u1) 9)))] ++ rest) H locs := C.reA [0, 1, 2, 3, 4, 5, 6, 7, 8, 9, 10, 11, 12, 13] rfl rfl
  refine lv_aload_n hx hb dL_law_690 rfl (lv_at hl 4 rfl) ?_
  refine n_callI5 (wc := [(h0, .inr (3, mF q (nI 0) (nI (R 0).2)))]) (wr := [(d, .inr (2, kF g)), (g 4, .inl (ca 4, 4, .inr (.inr (.inr (.inr sf))))), (sa i0, .inr (1, [.ref (sl i0), .int (nI j0), .int (nI (wid j0)), .int (nI (d0.2)), .int (nI en2), .int (tk2), .int (b2i dn2), .int (rm2)])), (sl i0, .inl (ca 2, 25, .inr (.inl (M1)))), (sa i1, .inr (1, [.ref (sl i1), .int (nI j0), .int (nI (wid j0)), .int (nI (d0.2)), .int (nI en2), .int (tk2), .int (b2i dn2), .int (rm2)])), (sl i1, .inl (ca 2, 25, .inr (.inl (L1)))), (q 3, .inl (ca 1, 9600, .inl ((miF F u1) 3))), (q 4, .inl (ca 0, 6, .inl ((miF F u1) 4))), (q 5, .inl (ca 0, 6, .inl ((miF F u1) 5))), (q 6, .inl (ca 0, 6, .inl ((miF F u1) 6))), (q 7, .inl (ca 1, 6, .inl ((miF F u1) 7))), (q 8, .inl (ca 0, 6, .inl ((miF F u1) 8))), (q 9, .inl (ca 0, 6, .inl ((miF F u1) 9)))]) C [6] [0, 1, 2, 3, 4, 5, 7, 8, 9, 10, 11, 12, 13] rfl rfl rfl rfl (by decide) (fun hp => va_runV (rest := []) S (c_M_thrown l D ca s0 a0 Z h0 q ((nI 0)) ((nI (R 0).2)) _) (cwV 0 hts (gV g_418 g_419 g_420 g_34 g_421) rfl rfl rfl (by decide +kernel) ⟨Nat.le_of_ble_eq_true rfl, Nat.le_of_ble_eq_true rfl⟩) ⟨hp.1, n_recv C 6 3 rfl rfl, hp.2⟩ rfl rfl hl.1 rfl (lv_room (Nat.le_of_ble_eq_true rfl)) dL_law_691 ⟨by rw [rc_1]; omega, by rw [rs_1]; omega⟩) (fun r u H locs hp C => ?_)
  subst hp
  replace C : Cx D ca s0 A s ([(d, .inr (2, kF g)), (g 4, .inl (ca 4, 4, .inr (.inr (.inr (.inr sf))))), (sa i0, .inr (1, [.ref (sl i0), .int (nI j0), .int (nI (wid j0)), .int (nI (d0.2)), .int (nI en2), .int (tk2), .int (b2i dn2), .int (rm2)])), (sl i0, .inl (ca 2, 25, .inr (.inl (M1)))), (sa i1, .inr (1, [.ref (sl i1), .int (nI j0), .int (nI (wid j0)), .int (nI (d0.2)), .int (nI en2), .int (tk2), .int (b2i dn2), .int (rm2)])), (sl i1, .inl (ca 2, 25, .inr (.inl (L1)))), (h0, .inr (3, mF q (nI 0) (nI (R 0).2))), (q 3, .inl (ca 1, 9600, .inl ((miF F u1) 3))), (q 4, .inl (ca 0, 6, .inl ((miF F u1) 4))), (q 5, .inl (ca 0, 6, .inl ((miF F u1) 5))), (q 6, .inl (ca 0, 6, .inl ((miF F u1) 6))), (q 7, .inl (ca 1, 6, .inl ((miF F u1) 7))), (q 8, .inl (ca 0, 6, .inl ((miF F u1) 8))), (q 9, .inl (ca 0, 6, .inl ((miF F u1) 9)))] ++ rest) H locs := C.reA [0, 1, 2, 3, 4, 5, 13, 6, 7, 8, 9, 10, 11, 12] rfl rfl
  refine lv_iload hx hb dL_law_694 (lv_at hl 0 rfl) ?_
  refine n_icmp_eq (tgt := 701) S (by decide) (by decide) dL_law_696 (by decide) (fun hc => ?_) (fun hc => False.elim (by omega))
  refine lv_goto (tgt := 847) hx hb dL_law_701 (by decide) ?_
  rw [hrest] at C
  replace C : Cx D ca s0 A s (LA ca d g sf rb R rf sa sl i0 i1 i2 i3 ((d0, j0, en2, tk2, dn2, rm2)) ((d0, j0, en2, tk2, dn2, rm2)) y2 y3 M1 L1 L2 L3 z4 z5 L4 L5 h0 q (nI 0) (nI (R 0).2) (miF F u1) o fo) H locs := C.re [0, 1, 14, 15, 16, 17, 18, 19, 20, 21, 2, 3, 4, 5, 22, 23, 24, 25, 26, 27, 28, 29, 6, 30, 31, 32, 7, 8, 9, 10, 11, 12, 13, 33, 34, 35] rfl rfl
  exact W.widen (by omega) (by omega) (kk M1 u1 H locs ls hw1 hm1 C (lv_sub hl [1, 2, 3, 4, 5] rfl))
set_option maxHeartbeats 4000000 in
set_option maxRecDepth 100000 in
theorem o_copy_self (p : Program) (l : Launch) (e : Env) (s : State) (m : MethodId) (args : Array Value) (below : List Frame) (meth : Method) (c : Code) (Q : State → Prop) (D : va_G) (ca : Nat → ClassId) (s0 : State) (a0 : Array Value) (A : Nat → Prop) (S : CallFix p m c cL_law 8 s args lw_good RL) (Z : Wd a0 s0) (zt : Nat → Nat) (Zs : ZS zt s0) (hl0 : l.stackTraces = false) (sx : Nat → Nat) (Xs : XS sx s0) (Xn : XN s0) (b Ls : Nat) (xs : Nat → Int32) (hXX : va_X b Ls xs s s.heap) (hbl : b < s.heap.size) (hbA : ¬ A b) (hLs : Ls ≤ 2560) (t ce so : Nat) (ht5 : 5 * t + 5 ≤ Ls) (hce : ce ≤ 1000) (hso : so ≤ 30000) (d : Nat) (g : Nat → Nat) (sf : Nat → Option Nat) (rb : Nat → Nat) (R : Nat → Rw) (rf : Nat → Nat → Int32) (sa sl : Nat → Nat) (i0 i1 i2 i3 : Nat) (y1 y2 y3 : Sp) (L0 L1 L2 L3 : Nat → Int64) (z4 z5 : Nat → Int32) (L4 L5 : Nat → Int64) (h0 : Nat) (q : Nat → Nat) (th : Int32) (F : MFn) (o : Nat) (fo : Nat → Int64) (hR : ∀ j, j < 4 → (R j).2 ≤ 300 ∧ sb_Lat (R j).1 (R j).2 (rf j)) (hMT : mTp (F 0) (R 0).1 (R 0).2) (hMR : ∀ r, r < 3 → mRo (F 1) (F 2) r (R (r + 1))) (c0 : Co) (k en : Nat) (tk : Int32) (dn : Bool) (rm : Int32) (hi0 : i0 < 4) (hsf0 : sf i0 = some (sa i0)) (hL0 : kEq (lb L0) c0.1) (hS0 : mSg F i0 (c0, k, en, tk, dn, rm)) (hk : k < 16) (hen : en < 256) (hp0 : c0.2 ≤ wid k) (hro : rOk rm) (e1 : xs (5 * t + 1) = nI i0) (e2 : xs (5 * t + 2) = nI i0) (H : Heap) (locs : List Loc) (ls : Array Slot) (C : Cx D ca s0 A s (LA ca d g sf rb R rf sa sl i0 i1 i2 i3 ((c0, k, en, tk, dn, rm)) y1 y2 y3 L0 L1 L2 L3 z4 z5 L4 L5 h0 q th (nI (R 0).2) F o fo) H locs) (hl : lv_has ls 8 [(4, .int (nI (5 * t))), (0, .ref (b)), (1, .ref (d)), (2, .ref (h0)), (3, .ref (o))]) (kk : ∀ (M1 : Nat → Int64) (u1 : MFn) (H : Heap) (locs : List Loc) (ls : Array Slot), kEq (lb M1) (lb L0) → mU F u1 i0 (c0, k, en, tk, dn, rm) → Cx D ca s0 A s (LA ca d g sf rb R rf sa sl i0 i1 i2 i3 ((c0, k, en, tk, dn, rm)) y1 y2 y3 M1 L1 L2 L3 z4 z5 L4 L5 h0 q (nI 0) (nI (R 0).2) (miF F u1) o fo) H locs → lv_has ls 8 [(4, .int (nI (5 * t))), (0, .ref (b)), (1, .ref (d)), (2, .ref (h0)), (3, .ref (o))] → W p l e room_1 s m args below meth c H locs (ce + 1) (so + 6) Q (F0 m 847 ls [])) : W p l e room_1 s m args below meth c H locs ce so Q (F0 m 656 ls []) := by
  have hx := S.1
  have hb := S.2.1
  have hown := S.2.2.2.1
  have hts := S.2.2.2.2
  have hR0 := (hR 0 (by decide)).1
  obtain ⟨rest, hrest⟩ : ∃ z : va_W, z = [(g 0, .inr (0, [.ref (rb 0), .int (nI ((R 0).2))])), (rb 0, .inl (ca 3, 300, .inl (rf 0))), (g 1, .inr (0, [.ref (rb 1), .int (nI ((R 1).2))])), (rb 1, .inl (ca 3, 300, .inl (rf 1))), (g 2, .inr (0, [.ref (rb 2), .int (nI ((R 2).2))])), (rb 2, .inl (ca 3, 300, .inl (rf 2))), (g 3, .inr (0, [.ref (rb 3), .int (nI ((R 3).2))])), (rb 3, .inl (ca 3, 300, .inl (rf 3))), (sa i1, .inr (1, [.ref (sl i1), .int (nI (y1.2.1)), .int (nI (wid y1.2.1)), .int (nI (y1.1.2)), .int (nI (y1.2.2.1)), .int (y1.2.2.2.1), .int (b2i y1.2.2.2.2.1), .int (y1.2.2.2.2.2)])), (sl i1, .inl (ca 2, 25, .inr (.inl (L1)))), (sa i2, .inr (1, [.ref (sl i2), .int (nI (y2.2.1)), .int (nI (wid y2.2.1)), .int (nI (y2.1.2)), .int (nI (y2.2.2.1)), .int (y2.2.2.2.1), .int (b2i y2.2.2.2.2.1), .int (y2.2.2.2.2.2)])), (sl i2, .inl (ca 2, 25, .inr (.inl (L2)))), (sa i3, .inr (1, [.ref (sl i3), .int (nI (y3.2.1)), .int (nI (wid y3.2.1)), .int (nI (y3.1.2)), .int (nI (y3.2.2.1)), .int (y3.2.2.2.1), .int (b2i y3.2.2.2.2.1), .int (y3.2.2.2.2.2)])), (sl i3, .inl (ca 2, 25, .inr (.inl (L3)))), (g 5, .inr (1, [.ref (sl 4), .int (z4 0), .int (z4 1), .int (z4 2), .int (z4 3), .int (z4 4), .int (z4 5), .int (z4 6)])), (sl 4, .inl (ca 2, 25, .inr (.inl (L4)))), (g 6, .inr (1, [.ref (sl 5), .int (z5 0), .int (z5 1), .int (z5 2), .int (z5 3), .int (z5 4), .int (z5 5), .int (z5 6)])), (sl 5, .inl (ca 2, 25, .inr (.inl (L5)))), (q 0, .inl (ca 0, 300, .inl (F 0))), (q 1, .inl (ca 0, 3, .inl (F 1))), (q 2, .inl (ca 0, 900, .inl (F 2))), (q 10, .inl (ca 1, 1600, .inl (F 10))), (q 11, .inl (ca 1, 1600, .inl (F 11))), (o, .inl (ca 2, 1, .inr (.inl (fo))))] := ⟨_, rfl⟩
  replace C : Cx D ca s0 A s ([(d, .inr (2, kF g)), (g 4, .inl (ca 4, 4, .inr (.inr (.inr (.inr sf))))), (sa i0, .inr (1, [.ref (sl i0), .int (nI k), .int (nI (wid k)), .int (nI (c0.2)), .int (nI en), .int (tk), .int (b2i dn), .int (rm)])), (sl i0, .inl (ca 2, 25, .inr (.inl (L0)))), (h0, .inr (3, mF q (th) (nI (R 0).2))), (q 3, .inl (ca 1, 9600, .inl (F 3))), (q 4, .inl (ca 0, 6, .inl (F 4))), (q 5, .inl (ca 0, 6, .inl (F 5))), (q 6, .inl (ca 0, 6, .inl (F 6))), (q 7, .inl (ca 1, 6, .inl (F 7))), (q 8, .inl (ca 0, 6, .inl (F 8))), (q 9, .inl (ca 0, 6, .inl (F 9)))] ++ rest) H locs := by rw [hrest]; exact C.re [0, 1, 10, 11, 22, 26, 27, 28, 29, 30, 31, 32, 2, 3, 4, 5, 6, 7, 8, 9, 12, 13, 14, 15, 16, 17, 18, 19, 20, 21, 23, 24, 25, 33, 34, 35] rfl rfl
  refine lv_aload_n hx hb dL_law_656 rfl (lv_at hl 2 rfl) ?_
  refine lv_aload_n hx hb dL_law_657 rfl (lv_at hl 1 rfl) ?_
  refine lv_iload hx hb dL_law_658 (lv_at hl 0 rfl) ?_
  refine lv_iconst (v := nI 1) hx hb dL_law_660 (by decide) ?_
  refine n_add S dL_law_661 ?_
  refine n_sld S C hXX hbl hbA (i := (5 * t) + 1) (by omega) hLs dL_law_662 ?_
  refine lv_topi (nm_r (e' := nI i0) e1 ?_)
  refine lv_aload_n hx hb dL_law_663 rfl (lv_at hl 1 rfl) ?_
  refine lv_iload hx hb dL_law_664 (lv_at hl 0 rfl) ?_
  refine lv_iconst (v := nI 2) hx hb dL_law_666 (by decide) ?_
  refine n_add S dL_law_667 ?_
  refine n_sld S C hXX hbl hbA (i := (5 * t) + 2) (by omega) hLs dL_law_668 ?_
  refine lv_topi (nm_r (e' := nI i0) e2 ?_)
  refine n_callI5 (wc := [(d, .inr (2, kF g)), (g 4, .inl (ca 4, 4, .inr (.inr (.inr (.inr sf))))), (sa i0, .inr (1, [.ref (sl i0), .int (nI k), .int (nI (wid k)), .int (nI (c0.2)), .int (nI en), .int (tk), .int (b2i dn), .int (rm)])), (sl i0, .inl (ca 2, 25, .inr (.inl (L0))))]) (wr := [(h0, .inr (3, mF q (th) (nI (R 0).2))), (q 3, .inl (ca 1, 9600, .inl (F 3))), (q 4, .inl (ca 0, 6, .inl (F 4))), (q 5, .inl (ca 0, 6, .inl (F 5))), (q 6, .inl (ca 0, 6, .inl (F 6))), (q 7, .inl (ca 1, 6, .inl (F 7))), (q 8, .inl (ca 0, 6, .inl (F 8))), (q 9, .inl (ca 0, 6, .inl (F 9)))]) C [0, 1, 2, 3] [4, 5, 6, 7, 8, 9, 10, 11] rfl rfl rfl rfl (by decide) (fun hp => vx_runSW (rest := []) S (c_L_copy_self l D ca s0 a0 Z d g sf i0 hi0 ((sa i0)) ((sl i0)) hsf0 L0 ((nI k)) ((nI (wid k))) ((nI c0.2)) ((nI en)) tk rm dn _) (vx_cwSW 3 hts (gT g_306 g_307 g_29 g_308) rfl rfl rfl (by decide +kernel) ⟨Nat.le_of_ble_eq_true rfl, Nat.le_of_ble_eq_true rfl⟩) hp rfl rfl hl.1 rfl (lv_room (Nat.le_of_ble_eq_true rfl)) dL_law_669 ⟨by rw [rc_1]; omega, by rw [rs_1]; omega⟩) (fun r u H locs hp C => ?_)
  obtain ⟨rfl, hw1⟩ := hp
  obtain ⟨M1, rfl⟩ : ∃ z, z = u := ⟨_, rfl⟩
  replace C : Cx D ca s0 A s ([(d, .inr (2, kF g)), (g 4, .inl (ca 4, 4, .inr (.inr (.inr (.inr sf))))), (sa i0, .inr (1, [.ref (sl i0), .int (nI k), .int (nI (wid k)), .int (nI (c0.2)), .int (nI en), .int (tk), .int (b2i dn), .int (rm)])), (sl i0, .inl (ca 2, 25, .inr (.inl (M1)))), (h0, .inr (3, mF q (th) (nI (R 0).2))), (q 3, .inl (ca 1, 9600, .inl (F 3))), (q 4, .inl (ca 0, 6, .inl (F 4))), (q 5, .inl (ca 0, 6, .inl (F 5))), (q 6, .inl (ca 0, 6, .inl (F 6))), (q 7, .inl (ca 1, 6, .inl (F 7))), (q 8, .inl (ca 0, 6, .inl (F 8))), (q 9, .inl (ca 0, 6, .inl (F 9)))] ++ rest) H locs := C.reA [8, 9, 10, 11, 0, 1, 2, 3, 4, 5, 6, 7] rfl rfl
  refine lv_istore hx hb dL_law_672 hl (Nat.le_of_ble_eq_true rfl) rfl (fun ls hl => ?_)
  replace hl : lv_has ls 8 [(5, .int (nI 0)), (4, .int (nI (5 * t))), (0, .ref (b)), (1, .ref (d)), (2, .ref (h0)), (3, .ref (o))] := hl
  refine lv_aload_n hx hb dL_law_674 rfl (lv_at hl 4 rfl) ?_
  refine lv_aload_n hx hb dL_law_675 rfl (lv_at hl 2 rfl) ?_
  refine lv_iload hx hb dL_law_676 (lv_at hl 1 rfl) ?_
  refine lv_iconst (v := nI 1) hx hb dL_law_678 (by decide) ?_
  refine n_add S dL_law_679 ?_
  refine n_sld S C hXX hbl hbA (i := (5 * t) + 1) (by omega) hLs dL_law_680 ?_
  refine lv_topi (nm_r (e' := nI i0) e1 ?_)
  refine lv_aload_n hx hb dL_law_681 rfl (lv_at hl 2 rfl) ?_
  refine lv_iload hx hb dL_law_682 (lv_at hl 1 rfl) ?_
  refine lv_iconst (v := nI 2) hx hb dL_law_684 (by decide) ?_
  refine n_add S dL_law_685 ?_
  refine n_sld S C hXX hbl hbA (i := (5 * t) + 2) (by omega) hLs dL_law_686 ?_
  refine lv_topi (nm_r (e' := nI i0) e2 ?_)
  refine n_callV5 (wc := [(h0, .inr (3, mF q (th) (nI (R 0).2))), (q 3, .inl (ca 1, 9600, .inl (F 3))), (q 4, .inl (ca 0, 6, .inl (F 4))), (q 5, .inl (ca 0, 6, .inl (F 5))), (q 6, .inl (ca 0, 6, .inl (F 6))), (q 7, .inl (ca 1, 6, .inl (F 7))), (q 8, .inl (ca 0, 6, .inl (F 8))), (q 9, .inl (ca 0, 6, .inl (F 9)))]) (wr := [(d, .inr (2, kF g)), (g 4, .inl (ca 4, 4, .inr (.inr (.inr (.inr sf))))), (sa i0, .inr (1, [.ref (sl i0), .int (nI k), .int (nI (wid k)), .int (nI (c0.2)), .int (nI en), .int (tk), .int (b2i dn), .int (rm)])), (sl i0, .inl (ca 2, 25, .inr (.inl (M1))))]) C [4, 5, 6, 7, 8, 9, 10, 11] [0, 1, 2, 3] rfl rfl rfl rfl (by decide) (fun hp => va_runV (rest := []) S (c_M_copy_ok l D ca s0 a0 Z h0 q th ((nI (R 0).2)) F i0 i0 hi0 hi0 c0 k en tk dn rm hS0 _) (cwV 2 hts (gV g_473 g_474 g_475 g_34 g_476) rfl rfl rfl (by decide +kernel) ⟨Nat.le_of_ble_eq_true rfl, Nat.le_of_ble_eq_true rfl⟩) ⟨hp.1, n_recv C 4 3 rfl rfl, hp.2⟩ rfl rfl hl.1 rfl (lv_room (Nat.le_of_ble_eq_true rfl)) dL_law_687 ⟨by rw [rc_1]; omega, by rw [rs_1]; omega⟩) (fun u H locs hp C => ?_)
  have hm1 := hp
  obtain ⟨u1, rfl⟩ : ∃ z, z = u := ⟨_, rfl⟩
  replace C : Cx D ca s0 A s ([(d, .inr (2, kF g)), (g 4, .inl (ca 4, 4, .inr (.inr (.inr (.inr sf))))), (sa i0, .inr (1, [.ref (sl i0), .int (nI k), .int (nI (wid k)), .int (nI (c0.2)), .int (nI en), .int (tk), .int (b2i dn), .int (rm)])), (sl i0, .inl (ca 2, 25, .inr (.inl (M1)))), (h0, .inr (3, mF q (nI 0) (nI (R 0).2))), (q 3, .inl (ca 1, 9600, .inl ((miF F u1) 3))), (q 4, .inl (ca 0, 6, .inl ((miF F u1) 4))), (q 5, .inl (ca 0, 6, .inl ((miF F u1) 5))), (q 6, .inl (ca 0, 6, .inl ((miF F u1) 6))), (q 7, .inl (ca 1, 6, .inl ((miF F u1) 7))), (q 8, .inl (ca 0, 6, .inl ((miF F u1) 8))), (q 9, .inl (ca 0, 6, .inl ((miF F u1) 9)))] ++ rest) H locs := C.reA [0, 1, 2, 3, 4, 5, 6, 7, 8, 9, 10, 11] rfl rfl
  refine lv_aload_n hx hb dL_law_690 rfl (lv_at hl 4 rfl) ?_
  refine n_callI5 (wc := [(h0, .inr (3, mF q (nI 0) (nI (R 0).2)))]) (wr := [(d, .inr (2, kF g)), (g 4, .inl (ca 4, 4, .inr (.inr (.inr (.inr sf))))), (sa i0, .inr (1, [.ref (sl i0), .int (nI k), .int (nI (wid k)), .int (nI (c0.2)), .int (nI en), .int (tk), .int (b2i dn), .int (rm)])), (sl i0, .inl (ca 2, 25, .inr (.inl (M1)))), (q 3, .inl (ca 1, 9600, .inl ((miF F u1) 3))), (q 4, .inl (ca 0, 6, .inl ((miF F u1) 4))), (q 5, .inl (ca 0, 6, .inl ((miF F u1) 5))), (q 6, .inl (ca 0, 6, .inl ((miF F u1) 6))), (q 7, .inl (ca 1, 6, .inl ((miF F u1) 7))), (q 8, .inl (ca 0, 6, .inl ((miF F u1) 8))), (q 9, .inl (ca 0, 6, .inl ((miF F u1) 9)))]) C [4] [0, 1, 2, 3, 5, 6, 7, 8, 9, 10, 11] rfl rfl rfl rfl (by decide) (fun hp => va_runV (rest := []) S (c_M_thrown l D ca s0 a0 Z h0 q ((nI 0)) ((nI (R 0).2)) _) (cwV 0 hts (gV g_418 g_419 g_420 g_34 g_421) rfl rfl rfl (by decide +kernel) ⟨Nat.le_of_ble_eq_true rfl, Nat.le_of_ble_eq_true rfl⟩) ⟨hp.1, n_recv C 4 3 rfl rfl, hp.2⟩ rfl rfl hl.1 rfl (lv_room (Nat.le_of_ble_eq_true rfl)) dL_law_691 ⟨by rw [rc_1]; omega, by rw [rs_1]; omega⟩) (fun r u H locs hp C => ?_)
  subst hp
  replace C : Cx D ca s0 A s ([(d, .inr (2, kF g)), (g 4, .inl (ca 4, 4, .inr (.inr (.inr (.inr sf))))), (sa i0, .inr (1, [.ref (sl i0), .int (nI k), .int (nI (wid k)), .int (nI (c0.2)), .int (nI en), .int (tk), .int (b2i dn), .int (rm)])), (sl i0, .inl (ca 2, 25, .inr (.inl (M1)))), (h0, .inr (3, mF q (nI 0) (nI (R 0).2))), (q 3, .inl (ca 1, 9600, .inl ((miF F u1) 3))), (q 4, .inl (ca 0, 6, .inl ((miF F u1) 4))), (q 5, .inl (ca 0, 6, .inl ((miF F u1) 5))), (q 6, .inl (ca 0, 6, .inl ((miF F u1) 6))), (q 7, .inl (ca 1, 6, .inl ((miF F u1) 7))), (q 8, .inl (ca 0, 6, .inl ((miF F u1) 8))), (q 9, .inl (ca 0, 6, .inl ((miF F u1) 9)))] ++ rest) H locs := C.reA [0, 1, 2, 3, 11, 4, 5, 6, 7, 8, 9, 10] rfl rfl
  refine lv_iload hx hb dL_law_694 (lv_at hl 0 rfl) ?_
  refine n_icmp_eq (tgt := 701) S (by decide) (by decide) dL_law_696 (by decide) (fun hc => ?_) (fun hc => False.elim (by omega))
  refine lv_goto (tgt := 847) hx hb dL_law_701 (by decide) ?_
  rw [hrest] at C
  replace C : Cx D ca s0 A s (LA ca d g sf rb R rf sa sl i0 i1 i2 i3 ((c0, k, en, tk, dn, rm)) y1 y2 y3 M1 L1 L2 L3 z4 z5 L4 L5 h0 q (nI 0) (nI (R 0).2) (miF F u1) o fo) H locs := C.re [0, 1, 12, 13, 14, 15, 16, 17, 18, 19, 2, 3, 20, 21, 22, 23, 24, 25, 26, 27, 28, 29, 4, 30, 31, 32, 5, 6, 7, 8, 9, 10, 11, 33, 34, 35] rfl rfl
  exact W.widen (by omega) (by omega) (kk M1 u1 H locs ls hw1 hm1 C (lv_sub hl [1, 2, 3, 4, 5] rfl))
set_option maxHeartbeats 4000000 in
set_option maxRecDepth 100000 in
theorem o_same_no1 (p : Program) (l : Launch) (e : Env) (s : State) (m : MethodId) (args : Array Value) (below : List Frame) (meth : Method) (c : Code) (Q : State → Prop) (D : va_G) (ca : Nat → ClassId) (s0 : State) (a0 : Array Value) (A : Nat → Prop) (S : CallFix p m c cL_law 8 s args lw_good RL) (Z : Wd a0 s0) (zt : Nat → Nat) (Zs : ZS zt s0) (hl0 : l.stackTraces = false) (sx : Nat → Nat) (Xs : XS sx s0) (Xn : XN s0) (b Ls : Nat) (xs : Nat → Int32) (hXX : va_X b Ls xs s s.heap) (hbl : b < s.heap.size) (hbA : ¬ A b) (hLs : Ls ≤ 2560) (t ce so : Nat) (ht5 : 5 * t + 5 ≤ Ls) (hce : ce ≤ 1000) (hso : so ≤ 30000) (d : Nat) (g : Nat → Nat) (sf : Nat → Option Nat) (rb : Nat → Nat) (R : Nat → Rw) (rf : Nat → Nat → Int32) (sa sl : Nat → Nat) (i0 i1 i2 i3 : Nat) (y0 y1 y2 y3 : Sp) (L0 L1 L2 L3 : Nat → Int64) (z4 z5 : Nat → Int32) (L4 L5 : Nat → Int64) (h0 : Nat) (q : Nat → Nat) (th : Int32) (F : MFn) (o : Nat) (fo : Nat → Int64) (hR : ∀ j, j < 4 → (R j).2 ≤ 300 ∧ sb_Lat (R j).1 (R j).2 (rf j)) (hMT : mTp (F 0) (R 0).1 (R 0).2) (hMR : ∀ r, r < 3 → mRo (F 1) (F 2) r (R (r + 1))) (hno : ¬ (¬ xs (5 * t + 1) < 0 ∧ xs (5 * t + 1) < 4)) (H : Heap) (locs : List Loc) (ls : Array Slot) (C : Cx D ca s0 A s (LA ca d g sf rb R rf sa sl i0 i1 i2 i3 y0 y1 y2 y3 L0 L1 L2 L3 z4 z5 L4 L5 h0 q th (nI (R 0).2) F o fo) H locs) (hl : lv_has ls 8 [(4, .int (nI (5 * t))), (0, .ref (b)), (1, .ref (d)), (2, .ref (h0)), (3, .ref (o))]) (kk : ∀  (H : Heap) (locs : List Loc) (ls : Array Slot), Cx D ca s0 A s (LA ca d g sf rb R rf sa sl i0 i1 i2 i3 y0 y1 y2 y3 L0 L1 L2 L3 z4 z5 L4 L5 h0 q (nI 1) (nI (R 0).2) F o fo) H locs → lv_has ls 8 [(4, .int (nI (5 * t))), (0, .ref (b)), (1, .ref (d)), (2, .ref (h0)), (3, .ref (o))] → W p l e room_1 s m args below meth c H locs (ce + 1) (so + 6) Q (F0 m 847 ls [])) : W p l e room_1 s m args below meth c H locs ce so Q (F0 m 760 ls []) := by
  have hx := S.1
  have hb := S.2.1
  have hown := S.2.2.2.1
  have hts := S.2.2.2.2
  have hR0 := (hR 0 (by decide)).1
  obtain ⟨rest, hrest⟩ : ∃ z : va_W, z = [(g 4, .inl (ca 4, 4, .inr (.inr (.inr (.inr sf))))), (g 0, .inr (0, [.ref (rb 0), .int (nI ((R 0).2))])), (rb 0, .inl (ca 3, 300, .inl (rf 0))), (g 1, .inr (0, [.ref (rb 1), .int (nI ((R 1).2))])), (rb 1, .inl (ca 3, 300, .inl (rf 1))), (g 2, .inr (0, [.ref (rb 2), .int (nI ((R 2).2))])), (rb 2, .inl (ca 3, 300, .inl (rf 2))), (g 3, .inr (0, [.ref (rb 3), .int (nI ((R 3).2))])), (rb 3, .inl (ca 3, 300, .inl (rf 3))), (sa i0, .inr (1, [.ref (sl i0), .int (nI (y0.2.1)), .int (nI (wid y0.2.1)), .int (nI (y0.1.2)), .int (nI (y0.2.2.1)), .int (y0.2.2.2.1), .int (b2i y0.2.2.2.2.1), .int (y0.2.2.2.2.2)])), (sl i0, .inl (ca 2, 25, .inr (.inl (L0)))), (sa i1, .inr (1, [.ref (sl i1), .int (nI (y1.2.1)), .int (nI (wid y1.2.1)), .int (nI (y1.1.2)), .int (nI (y1.2.2.1)), .int (y1.2.2.2.1), .int (b2i y1.2.2.2.2.1), .int (y1.2.2.2.2.2)])), (sl i1, .inl (ca 2, 25, .inr (.inl (L1)))), (sa i2, .inr (1, [.ref (sl i2), .int (nI (y2.2.1)), .int (nI (wid y2.2.1)), .int (nI (y2.1.2)), .int (nI (y2.2.2.1)), .int (y2.2.2.2.1), .int (b2i y2.2.2.2.2.1), .int (y2.2.2.2.2.2)])), (sl i2, .inl (ca 2, 25, .inr (.inl (L2)))), (sa i3, .inr (1, [.ref (sl i3), .int (nI (y3.2.1)), .int (nI (wid y3.2.1)), .int (nI (y3.1.2)), .int (nI (y3.2.2.1)), .int (y3.2.2.2.1), .int (b2i y3.2.2.2.2.1), .int (y3.2.2.2.2.2)])), (sl i3, .inl (ca 2, 25, .inr (.inl (L3)))), (g 5, .inr (1, [.ref (sl 4), .int (z4 0), .int (z4 1), .int (z4 2), .int (z4 3), .int (z4 4), .int (z4 5), .int (z4 6)])), (sl 4, .inl (ca 2, 25, .inr (.inl (L4)))), (g 6, .inr (1, [.ref (sl 5), .int (z5 0), .int (z5 1), .int (z5 2), .int (z5 3), .int (z5 4), .int (z5 5), .int (z5 6)])), (sl 5, .inl (ca 2, 25, .inr (.inl (L5)))), (q 0, .inl (ca 0, 300, .inl (F 0))), (q 1, .inl (ca 0, 3, .inl (F 1))), (q 2, .inl (ca 0, 900, .inl (F 2))), (q 3, .inl (ca 1, 9600, .inl (F 3))), (q 4, .inl (ca 0, 6, .inl (F 4))), (q 5, .inl (ca 0, 6, .inl (F 5))), (q 6, .inl (ca 0, 6, .inl (F 6))), (q 7, .inl (ca 1, 6, .inl (F 7))), (q 8, .inl (ca 0, 6, .inl (F 8))), (q 9, .inl (ca 0, 6, .inl (F 9))), (q 10, .inl (ca 1, 1600, .inl (F 10))), (q 11, .inl (ca 1, 1600, .inl (F 11)))] := ⟨_, rfl⟩
  replace C : Cx D ca s0 A s ([(d, .inr (2, kF g)), (h0, .inr (3, mF q (th) (nI (R 0).2))), (o, .inl (ca 2, 1, .inr (.inl (fo))))] ++ rest) H locs := by rw [hrest]; exact C.re [0, 22, 35, 1, 2, 3, 4, 5, 6, 7, 8, 9, 10, 11, 12, 13, 14, 15, 16, 17, 18, 19, 20, 21, 23, 24, 25, 26, 27, 28, 29, 30, 31, 32, 33, 34] rfl rfl
  refine lv_aload_n hx hb dL_law_760 rfl (lv_at hl 2 rfl) ?_
  refine lv_aload_n hx hb dL_law_761 rfl (lv_at hl 1 rfl) ?_
  refine lv_iload hx hb dL_law_762 (lv_at hl 0 rfl) ?_
  refine lv_iconst (v := nI 1) hx hb dL_law_764 (by decide) ?_
  refine n_add S dL_law_765 ?_
  refine n_sld S C hXX hbl hbA (i := (5 * t) + 1) (by omega) hLs dL_law_766 ?_
  refine lv_aload_n hx hb dL_law_767 rfl (lv_at hl 1 rfl) ?_
  refine lv_iload hx hb dL_law_768 (lv_at hl 0 rfl) ?_
  refine lv_iconst (v := nI 2) hx hb dL_law_770 (by decide) ?_
  refine n_add S dL_law_771 ?_
  refine n_sld S C hXX hbl hbA (i := (5 * t) + 2) (by omega) hLs dL_law_772 ?_
  refine lv_aload_n hx hb dL_law_773 rfl (lv_at hl 1 rfl) ?_
  refine lv_iload hx hb dL_law_774 (lv_at hl 0 rfl) ?_
  refine lv_iconst (v := nI 3) hx hb dL_law_776 (by decide) ?_
  refine n_add S dL_law_777 ?_
  refine n_sld S C hXX hbl hbA (i := (5 * t) + 3) (by omega) hLs dL_law_778 ?_
  refine lv_aload_n hx hb dL_law_779 rfl (lv_at hl 4 rfl) ?_
  refine n_callI5 (wc := [(d, .inr (2, kF g)), (o, .inl (ca 2, 1, .inr (.inl (fo))))]) (wr := [(h0, .inr (3, mF q (th) (nI (R 0).2)))]) C [0, 2] [1] rfl rfl rfl rfl (by decide) (fun hp => vx_runSW (rest := []) S (c_L_same_no1 l D ca s0 a0 Z hl0 sx Xs d g ((xs (5 * t + 1))) hno ((xs (5 * t + 2))) ((xs (5 * t + 3))) Xn o fo _) (vx_cwSW 5 hts (gT g_325 g_326 g_29 g_327) rfl rfl rfl (by decide +kernel) ⟨Nat.le_of_ble_eq_true rfl, Nat.le_of_ble_eq_true rfl⟩) hp rfl rfl hl.1 rfl (lv_room (Nat.le_of_ble_eq_true rfl)) dL_law_780 ⟨by rw [rc_1]; omega, by rw [rs_1]; omega⟩) (fun r u H locs hp C => ?_)
  subst hp
  replace C : Cx D ca s0 A s ([(d, .inr (2, kF g)), (h0, .inr (3, mF q (th) (nI (R 0).2))), (o, .inl (ca 2, 1, .inr (.inl (fo))))] ++ rest) H locs := C.reA [1, 0, 2] rfl rfl
  refine lv_istore hx hb dL_law_783 hl (Nat.le_of_ble_eq_true rfl) rfl (fun ls hl => ?_)
  replace hl : lv_has ls 8 [(5, .int (nI 1)), (4, .int (nI (5 * t))), (0, .ref (b)), (1, .ref (d)), (2, .ref (h0)), (3, .ref (o))] := hl
  refine lv_aload_n hx hb dL_law_785 rfl (lv_at hl 4 rfl) ?_
  refine lv_aload_n hx hb dL_law_786 rfl (lv_at hl 2 rfl) ?_
  refine lv_iload hx hb dL_law_787 (lv_at hl 1 rfl) ?_
  refine lv_iconst (v := nI 1) hx hb dL_law_789 (by decide) ?_
  refine n_add S dL_law_790 ?_
  refine n_sld S C hXX hbl hbA (i := (5 * t) + 1) (by omega) hLs dL_law_791 ?_
  refine lv_aload_n hx hb dL_law_792 rfl (lv_at hl 2 rfl) ?_
  refine lv_iload hx hb dL_law_793 (lv_at hl 1 rfl) ?_
  refine lv_iconst (v := nI 2) hx hb dL_law_795 (by decide) ?_
  refine n_add S dL_law_796 ?_
  refine n_sld S C hXX hbl hbA (i := (5 * t) + 2) (by omega) hLs dL_law_797 ?_
  refine lv_aload_n hx hb dL_law_798 rfl (lv_at hl 2 rfl) ?_
  refine lv_iload hx hb dL_law_799 (lv_at hl 1 rfl) ?_
  refine lv_iconst (v := nI 3) hx hb dL_law_801 (by decide) ?_
  refine n_add S dL_law_802 ?_
  refine n_sld S C hXX hbl hbA (i := (5 * t) + 3) (by omega) hLs dL_law_803 ?_
  refine n_callI5 (wc := [(h0, .inr (3, mF q (th) (nI (R 0).2)))]) (wr := [(d, .inr (2, kF g)), (o, .inl (ca 2, 1, .inr (.inl (fo))))]) C [1] [0, 2] rfl rfl rfl rfl (by decide) (fun hp => va_runV (rest := []) S (c_M_same_no1 l D ca s0 a0 Z h0 q th ((nI (R 0).2)) ((xs (5 * t + 1))) ((xs (5 * t + 2))) ((xs (5 * t + 3))) ((Or.inl hno)) _) (cwV 3 hts (gV g_484 g_485 g_486 g_34 g_487) rfl rfl rfl (by decide +kernel) ⟨Nat.le_of_ble_eq_true rfl, Nat.le_of_ble_eq_true rfl⟩) ⟨hp.1, n_recv C 1 3 rfl rfl, hp.2⟩ rfl rfl hl.1 rfl (lv_room (Nat.le_of_ble_eq_true rfl)) dL_law_804 ⟨by rw [rc_1]; omega, by rw [rs_1]; omega⟩) (fun r u H locs hp C => ?_)
  replace C : Cx D ca s0 A s ([(d, .inr (2, kF g)), (h0, .inr (3, mF q (nI 1) (nI (R 0).2))), (o, .inl (ca 2, 1, .inr (.inl (fo))))] ++ rest) H locs := C.reA [0, 2, 1] rfl rfl
  refine lv_istore hx hb dL_law_807 hl (Nat.le_of_ble_eq_true rfl) rfl (fun ls hl => ?_)
  replace hl : lv_has ls 8 [(6, .int (r)), (5, .int (nI 1)), (4, .int (nI (5 * t))), (0, .ref (b)), (1, .ref (d)), (2, .ref (h0)), (3, .ref (o))] := hl
  refine lv_aload_n hx hb dL_law_809 rfl (lv_at hl 5 rfl) ?_
  refine n_callI5 (wc := [(h0, .inr (3, mF q (nI 1) (nI (R 0).2)))]) (wr := [(d, .inr (2, kF g)), (o, .inl (ca 2, 1, .inr (.inl (fo))))]) C [1] [0, 2] rfl rfl rfl rfl (by decide) (fun hp => va_runV (rest := []) S (c_M_thrown l D ca s0 a0 Z h0 q ((nI 1)) ((nI (R 0).2)) _) (cwV 0 hts (gV g_418 g_419 g_420 g_34 g_421) rfl rfl rfl (by decide +kernel) ⟨Nat.le_of_ble_eq_true rfl, Nat.le_of_ble_eq_true rfl⟩) ⟨hp.1, n_recv C 1 3 rfl rfl, hp.2⟩ rfl rfl hl.1 rfl (lv_room (Nat.le_of_ble_eq_true rfl)) dL_law_810 ⟨by rw [rc_1]; omega, by rw [rs_1]; omega⟩) (fun r u H locs hp C => ?_)
  subst hp
  replace C : Cx D ca s0 A s ([(d, .inr (2, kF g)), (h0, .inr (3, mF q (nI 1) (nI (R 0).2))), (o, .inl (ca 2, 1, .inr (.inl (fo))))] ++ rest) H locs := C.reA [0, 2, 1] rfl rfl
  refine lv_iload hx hb dL_law_813 (lv_at hl 1 rfl) ?_
  refine n_icmp_eq (tgt := 820) S (by decide) (by decide) dL_law_815 (by decide) (fun hc => ?_) (fun hc => False.elim (by omega))
  refine lv_iload hx hb dL_law_820 (lv_at hl 1 rfl) ?_
  refine n_if_ne (tgt := 844) S (by omega) dL_law_822 (by decide) (fun hc => ?_) (fun hc => False.elim (by omega))
  refine lv_goto (tgt := 847) hx hb dL_law_844 (by decide) ?_
  rw [hrest] at C
  replace C : Cx D ca s0 A s (LA ca d g sf rb R rf sa sl i0 i1 i2 i3 y0 y1 y2 y3 L0 L1 L2 L3 z4 z5 L4 L5 h0 q (nI 1) (nI (R 0).2) F o fo) H locs := C.re [0, 3, 4, 5, 6, 7, 8, 9, 10, 11, 12, 13, 14, 15, 16, 17, 18, 19, 20, 21, 22, 23, 1, 24, 25, 26, 27, 28, 29, 30, 31, 32, 33, 34, 35, 2] rfl rfl
  exact W.widen (by omega) (by omega) (kk  H locs ls  C (lv_sub hl [2, 3, 4, 5, 6] rfl))
set_option maxHeartbeats 4000000 in
set_option maxRecDepth 100000 in
theorem o_same_no1b (p : Program) (l : Launch) (e : Env) (s : State) (m : MethodId) (args : Array Value) (below : List Frame) (meth : Method) (c : Code) (Q : State → Prop) (D : va_G) (ca : Nat → ClassId) (s0 : State) (a0 : Array Value) (A : Nat → Prop) (S : CallFix p m c cL_law 8 s args lw_good RL) (Z : Wd a0 s0) (zt : Nat → Nat) (Zs : ZS zt s0) (hl0 : l.stackTraces = false) (sx : Nat → Nat) (Xs : XS sx s0) (Xn : XN s0) (b Ls : Nat) (xs : Nat → Int32) (hXX : va_X b Ls xs s s.heap) (hbl : b < s.heap.size) (hbA : ¬ A b) (hLs : Ls ≤ 2560) (t ce so : Nat) (ht5 : 5 * t + 5 ≤ Ls) (hce : ce ≤ 1000) (hso : so ≤ 30000) (d : Nat) (g : Nat → Nat) (sf : Nat → Option Nat) (rb : Nat → Nat) (R : Nat → Rw) (rf : Nat → Nat → Int32) (sa sl : Nat → Nat) (i0 i1 i2 i3 : Nat) (y1 y2 y3 : Sp) (L0 L1 L2 L3 : Nat → Int64) (z4 z5 : Nat → Int32) (L4 L5 : Nat → Int64) (h0 : Nat) (q : Nat → Nat) (th : Int32) (F : MFn) (o : Nat) (fo : Nat → Int64) (hR : ∀ j, j < 4 → (R j).2 ≤ 300 ∧ sb_Lat (R j).1 (R j).2 (rf j)) (hMT : mTp (F 0) (R 0).1 (R 0).2) (hMR : ∀ r, r < 3 → mRo (F 1) (F 2) r (R (r + 1))) (c0 : Co) (k en : Nat) (tk : Int32) (dn : Bool) (rm : Int32) (hi0 : i0 < 4) (hsf0 : sf i0 = some (sa i0)) (hL0 : kEq (lb L0) c0.1) (hS0 : mSg F i0 (c0, k, en, tk, dn, rm)) (hk : k < 16) (hen : en < 256) (hp0 : c0.2 ≤ wid k) (hro : rOk rm) (e1 : xs (5 * t + 1) = nI i0) (hno : ¬ (¬ xs (5 * t + 2) < 0 ∧ xs (5 * t + 2) < 4)) (H : Heap) (locs : List Loc) (ls : Array Slot) (C : Cx D ca s0 A s (LA ca d g sf rb R rf sa sl i0 i1 i2 i3 ((c0, k, en, tk, dn, rm)) y1 y2 y3 L0 L1 L2 L3 z4 z5 L4 L5 h0 q th (nI (R 0).2) F o fo) H locs) (hl : lv_has ls 8 [(4, .int (nI (5 * t))), (0, .ref (b)), (1, .ref (d)), (2, .ref (h0)), (3, .ref (o))]) (kk : ∀  (H : Heap) (locs : List Loc) (ls : Array Slot), Cx D ca s0 A s (LA ca d g sf rb R rf sa sl i0 i1 i2 i3 ((c0, k, en, tk, dn, rm)) y1 y2 y3 L0 L1 L2 L3 z4 z5 L4 L5 h0 q (nI 1) (nI (R 0).2) F o fo) H locs → lv_has ls 8 [(4, .int (nI (5 * t))), (0, .ref (b)), (1, .ref (d)), (2, .ref (h0)), (3, .ref (o))] → W p l e room_1 s m args below meth c H locs (ce + 1) (so + 6) Q (F0 m 847 ls [])) : W p l e room_1 s m args below meth c H locs ce so Q (F0 m 760 ls []) := by
  have hx := S.1
  have hb := S.2.1
  have hown := S.2.2.2.1
  have hts := S.2.2.2.2
  have hR0 := (hR 0 (by decide)).1
  obtain ⟨rest, hrest⟩ : ∃ z : va_W, z = [(g 0, .inr (0, [.ref (rb 0), .int (nI ((R 0).2))])), (rb 0, .inl (ca 3, 300, .inl (rf 0))), (g 1, .inr (0, [.ref (rb 1), .int (nI ((R 1).2))])), (rb 1, .inl (ca 3, 300, .inl (rf 1))), (g 2, .inr (0, [.ref (rb 2), .int (nI ((R 2).2))])), (rb 2, .inl (ca 3, 300, .inl (rf 2))), (g 3, .inr (0, [.ref (rb 3), .int (nI ((R 3).2))])), (rb 3, .inl (ca 3, 300, .inl (rf 3))), (sa i0, .inr (1, [.ref (sl i0), .int (nI k), .int (nI (wid k)), .int (nI (c0.2)), .int (nI en), .int (tk), .int (b2i dn), .int (rm)])), (sl i0, .inl (ca 2, 25, .inr (.inl (L0)))), (sa i1, .inr (1, [.ref (sl i1), .int (nI (y1.2.1)), .int (nI (wid y1.2.1)), .int (nI (y1.1.2)), .int (nI (y1.2.2.1)), .int (y1.2.2.2.1), .int (b2i y1.2.2.2.2.1), .int (y1.2.2.2.2.2)])), (sl i1, .inl (ca 2, 25, .inr (.inl (L1)))), (sa i2, .inr (1, [.ref (sl i2), .int (nI (y2.2.1)), .int (nI (wid y2.2.1)), .int (nI (y2.1.2)), .int (nI (y2.2.2.1)), .int (y2.2.2.2.1), .int (b2i y2.2.2.2.2.1), .int (y2.2.2.2.2.2)])), (sl i2, .inl (ca 2, 25, .inr (.inl (L2)))), (sa i3, .inr (1, [.ref (sl i3), .int (nI (y3.2.1)), .int (nI (wid y3.2.1)), .int (nI (y3.1.2)), .int (nI (y3.2.2.1)), .int (y3.2.2.2.1), .int (b2i y3.2.2.2.2.1), .int (y3.2.2.2.2.2)])), (sl i3, .inl (ca 2, 25, .inr (.inl (L3)))), (g 5, .inr (1, [.ref (sl 4), .int (z4 0), .int (z4 1), .int (z4 2), .int (z4 3), .int (z4 4), .int (z4 5), .int (z4 6)])), (sl 4, .inl (ca 2, 25, .inr (.inl (L4)))), (g 6, .inr (1, [.ref (sl 5), .int (z5 0), .int (z5 1), .int (z5 2), .int (z5 3), .int (z5 4), .int (z5 5), .int (z5 6)])), (sl 5, .inl (ca 2, 25, .inr (.inl (L5)))), (q 0, .inl (ca 0, 300, .inl (F 0))), (q 1, .inl (ca 0, 3, .inl (F 1))), (q 2, .inl (ca 0, 900, .inl (F 2))), (q 3, .inl (ca 1, 9600, .inl (F 3))), (q 4, .inl (ca 0, 6, .inl (F 4))), (q 5, .inl (ca 0, 6, .inl (F 5))), (q 6, .inl (ca 0, 6, .inl (F 6))), (q 7, .inl (ca 1, 6, .inl (F 7))), (q 8, .inl (ca 0, 6, .inl (F 8))), (q 9, .inl (ca 0, 6, .inl (F 9))), (q 10, .inl (ca 1, 1600, .inl (F 10))), (q 11, .inl (ca 1, 1600, .inl (F 11)))] := ⟨_, rfl⟩
  replace C : Cx D ca s0 A s ([(d, .inr (2, kF g)), (g 4, .inl (ca 4, 4, .inr (.inr (.inr (.inr sf))))), (h0, .inr (3, mF q (th) (nI (R 0).2))), (o, .inl (ca 2, 1, .inr (.inl (fo))))] ++ rest) H locs := by rw [hrest]; exact C.re [0, 1, 22, 35, 2, 3, 4, 5, 6, 7, 8, 9, 10, 11, 12, 13, 14, 15, 16, 17, 18, 19, 20, 21, 23, 24, 25, 26, 27, 28, 29, 30, 31, 32, 33, 34] rfl rfl
  refine lv_aload_n hx hb dL_law_760 rfl (lv_at hl 2 rfl) ?_
  refine lv_aload_n hx hb dL_law_761 rfl (lv_at hl 1 rfl) ?_
  refine lv_iload hx hb dL_law_762 (lv_at hl 0 rfl) ?_
  refine lv_iconst (v := nI 1) hx hb dL_law_764 (by decide) ?_
  refine n_add S dL_law_765 ?_
  refine n_sld S C hXX hbl hbA (i := (5 * t) + 1) (by omega) hLs dL_law_766 ?_
  refine lv_topi (nm_r (e' := nI i0) e1 ?_)
  refine lv_aload_n hx hb dL_law_767 rfl (lv_at hl 1 rfl) ?_
  refine lv_iload hx hb dL_law_768 (lv_at hl 0 rfl) ?_
  refine lv_iconst (v := nI 2) hx hb dL_law_770 (by decide) ?_
  refine n_add S dL_law_771 ?_
  refine n_sld S C hXX hbl hbA (i := (5 * t) + 2) (by omega) hLs dL_law_772 ?_
  refine lv_aload_n hx hb dL_law_773 rfl (lv_at hl 1 rfl) ?_
  refine lv_iload hx hb dL_law_774 (lv_at hl 0 rfl) ?_
  refine lv_iconst (v := nI 3) hx hb dL_law_776 (by decide) ?_
  refine n_add S dL_law_777 ?_
  refine n_sld S C hXX hbl hbA (i := (5 * t) + 3) (by omega) hLs dL_law_778 ?_
  refine lv_aload_n hx hb dL_law_779 rfl (lv_at hl 4 rfl) ?_
  refine n_callI5 (wc := [(d, .inr (2, kF g)), (g 4, .inl (ca 4, 4, .inr (.inr (.inr (.inr sf))))), (o, .inl (ca 2, 1, .inr (.inl (fo))))]) (wr := [(h0, .inr (3, mF q (th) (nI (R 0).2)))]) C [0, 1, 3] [2] rfl rfl rfl rfl (by decide) (fun hp => vx_runSW (rest := []) S (c_L_same_no1b l D ca s0 a0 Z hl0 sx Xs d g sf i0 hi0 ((sa i0)) ((sl i0)) hsf0 ((xs (5 * t + 2))) hno ((xs (5 * t + 3))) Xn o fo _) (vx_cwSW 5 hts (gT g_325 g_326 g_29 g_327) rfl rfl rfl (by decide +kernel) ⟨Nat.le_of_ble_eq_true rfl, Nat.le_of_ble_eq_true rfl⟩) hp rfl rfl hl.1 rfl (lv_room (Nat.le_of_ble_eq_true rfl)) dL_law_780 ⟨by rw [rc_1]; omega, by rw [rs_1]; omega⟩) (fun r u H locs hp C => ?_)
  subst hp
  replace C : Cx D ca s0 A s ([(d, .inr (2, kF g)), (g 4, .inl (ca 4, 4, .inr (.inr (.inr (.inr sf))))), (h0, .inr (3, mF q (th) (nI (R 0).2))), (o, .inl (ca 2, 1, .inr (.inl (fo))))] ++ rest) H locs := C.reA [1, 2, 0, 3] rfl rfl
  refine lv_istore hx hb dL_law_783 hl (Nat.le_of_ble_eq_true rfl) rfl (fun ls hl => ?_)
  replace hl : lv_has ls 8 [(5, .int (nI 1)), (4, .int (nI (5 * t))), (0, .ref (b)), (1, .ref (d)), (2, .ref (h0)), (3, .ref (o))] := hl
  refine lv_aload_n hx hb dL_law_785 rfl (lv_at hl 4 rfl) ?_
  refine lv_aload_n hx hb dL_law_786 rfl (lv_at hl 2 rfl) ?_
  refine lv_iload hx hb dL_law_787 (lv_at hl 1 rfl) ?_
  refine lv_iconst (v := nI 1) hx hb dL_law_789 (by decide) ?_
  refine n_add S dL_law_790 ?_
  refine n_sld S C hXX hbl hbA (i := (5 * t) + 1) (by omega) hLs dL_law_791 ?_
  refine lv_topi (nm_r (e' := nI i0) e1 ?_)
  refine lv_aload_n hx hb dL_law_792 rfl (lv_at hl 2 rfl) ?_
  refine lv_iload hx hb dL_law_793 (lv_at hl 1 rfl) ?_
  refine lv_iconst (v := nI 2) hx hb dL_law_795 (by decide) ?_
  refine n_add S dL_law_796 ?_
  refine n_sld S C hXX hbl hbA (i := (5 * t) + 2) (by omega) hLs dL_law_797 ?_
  refine lv_aload_n hx hb dL_law_798 rfl (lv_at hl 2 rfl) ?_
  refine lv_iload hx hb dL_law_799 (lv_at hl 1 rfl) ?_
  refine lv_iconst (v := nI 3) hx hb dL_law_801 (by decide) ?_
  refine n_add S dL_law_802 ?_
  refine n_sld S C hXX hbl hbA (i := (5 * t) + 3) (by omega) hLs dL_law_803 ?_
  refine n_callI5 (wc := [(h0, .inr (3, mF q (th) (nI (R 0).2)))]) (wr := [(d, .inr (2, kF g)), (g 4, .inl (ca 4, 4, .inr (.inr (.inr (.inr sf))))), (o, .inl (ca 2, 1, .inr (.inl (fo))))]) C [2] [0, 1, 3] rfl rfl rfl rfl (by decide) (fun hp => va_runV (rest := []) S (c_M_same_no1 l D ca s0 a0 Z h0 q th ((nI (R 0).2)) ((nI i0)) ((xs (5 * t + 2))) ((xs (5 * t + 3))) ((Or.inr hno)) _) (cwV 3 hts (gV g_484 g_485 g_486 g_34 g_487) rfl rfl rfl (by decide +kernel) ⟨Nat.le_of_ble_eq_true rfl, Nat.le_of_ble_eq_true rfl⟩) ⟨hp.1, n_recv C 2 3 rfl rfl, hp.2⟩ rfl rfl hl.1 rfl (lv_room (Nat.le_of_ble_eq_true rfl)) dL_law_804 ⟨by rw [rc_1]; omega, by rw [rs_1]; omega⟩) (fun r u H locs hp C => ?_)
  replace C : Cx D ca s0 A s ([(d, .inr (2, kF g)), (g 4, .inl (ca 4, 4, .inr (.inr (.inr (.inr sf))))), (h0, .inr (3, mF q (nI 1) (nI (R 0).2))), (o, .inl (ca 2, 1, .inr (.inl (fo))))] ++ rest) H locs := C.reA [0, 1, 3, 2] rfl rfl
  refine lv_istore hx hb dL_law_807 hl (Nat.le_of_ble_eq_true rfl) rfl (fun ls hl => ?_)
  replace hl : lv_has ls 8 [(6, .int (r)), (5, .int (nI 1)), (4, .int (nI (5 * t))), (0, .ref (b)), (1, .ref (d)), (2, .ref (h0)), (3, .ref (o))] := hl
  refine lv_aload_n hx hb dL_law_809 rfl (lv_at hl 5 rfl) ?_
  refine n_callI5 (wc := [(h0, .inr (3, mF q (nI 1) (nI (R 0).2)))]) (wr := [(d, .inr (2, kF g)), (g 4, .inl (ca 4, 4, .inr (.inr (.inr (.inr sf))))), (o, .inl (ca 2, 1, .inr (.inl (fo))))]) C [2] [0, 1, 3] rfl rfl rfl rfl (by decide) (fun hp => va_runV (rest := []) S (c_M_thrown l D ca s0 a0 Z h0 q ((nI 1)) ((nI (R 0).2)) _) (cwV 0 hts (gV g_418 g_419 g_420 g_34 g_421) rfl rfl rfl (by decide +kernel) ⟨Nat.le_of_ble_eq_true rfl, Nat.le_of_ble_eq_true rfl⟩) ⟨hp.1, n_recv C 2 3 rfl rfl, hp.2⟩ rfl rfl hl.1 rfl (lv_room (Nat.le_of_ble_eq_true rfl)) dL_law_810 ⟨by rw [rc_1]; omega, by rw [rs_1]; omega⟩) (fun r u H locs hp C => ?_)
  subst hp
  replace C : Cx D ca s0 A s ([(d, .inr (2, kF g)), (g 4, .inl (ca 4, 4, .inr (.inr (.inr (.inr sf))))), (h0, .inr (3, mF q (nI 1) (nI (R 0).2))), (o, .inl (ca 2, 1, .inr (.inl (fo))))] ++ rest) H locs := C.reA [0, 1, 3, 2] rfl rfl
  refine lv_iload hx hb dL_law_813 (lv_at hl 1 rfl) ?_
  refine n_icmp_eq (tgt := 820) S (by decide) (by decide) dL_law_815 (by decide) (fun hc => ?_) (fun hc => False.elim (by omega))
  refine lv_iload hx hb dL_law_820 (lv_at hl 1 rfl) ?_
  refine n_if_ne (tgt := 844) S (by omega) dL_law_822 (by decide) (fun hc => ?_) (fun hc => False.elim (by omega))
  refine lv_goto (tgt := 847) hx hb dL_law_844 (by decide) ?_
  rw [hrest] at C
  replace C : Cx D ca s0 A s (LA ca d g sf rb R rf sa sl i0 i1 i2 i3 ((c0, k, en, tk, dn, rm)) y1 y2 y3 L0 L1 L2 L3 z4 z5 L4 L5 h0 q (nI 1) (nI (R 0).2) F o fo) H locs := C.re [0, 1, 4, 5, 6, 7, 8, 9, 10, 11, 12, 13, 14, 15, 16, 17, 18, 19, 20, 21, 22, 23, 2, 24, 25, 26, 27, 28, 29, 30, 31, 32, 33, 34, 35, 3] rfl rfl
  exact W.widen (by omega) (by omega) (kk  H locs ls  C (lv_sub hl [2, 3, 4, 5, 6] rfl))
set_option maxHeartbeats 4000000 in
set_option maxRecDepth 100000 in
theorem o_same_no2 (p : Program) (l : Launch) (e : Env) (s : State) (m : MethodId) (args : Array Value) (below : List Frame) (meth : Method) (c : Code) (Q : State → Prop) (D : va_G) (ca : Nat → ClassId) (s0 : State) (a0 : Array Value) (A : Nat → Prop) (S : CallFix p m c cL_law 8 s args lw_good RL) (Z : Wd a0 s0) (zt : Nat → Nat) (Zs : ZS zt s0) (hl0 : l.stackTraces = false) (sx : Nat → Nat) (Xs : XS sx s0) (Xn : XN s0) (b Ls : Nat) (xs : Nat → Int32) (hXX : va_X b Ls xs s s.heap) (hbl : b < s.heap.size) (hbA : ¬ A b) (hLs : Ls ≤ 2560) (t ce so : Nat) (ht5 : 5 * t + 5 ≤ Ls) (hce : ce ≤ 1000) (hso : so ≤ 30000) (d : Nat) (g : Nat → Nat) (sf : Nat → Option Nat) (rb : Nat → Nat) (R : Nat → Rw) (rf : Nat → Nat → Int32) (sa sl : Nat → Nat) (i0 i1 i2 i3 : Nat) (y1 y2 y3 : Sp) (L0 L1 L2 L3 : Nat → Int64) (z4 z5 : Nat → Int32) (L4 L5 : Nat → Int64) (h0 : Nat) (q : Nat → Nat) (th : Int32) (F : MFn) (o : Nat) (fo : Nat → Int64) (hR : ∀ j, j < 4 → (R j).2 ≤ 300 ∧ sb_Lat (R j).1 (R j).2 (rf j)) (hMT : mTp (F 0) (R 0).1 (R 0).2) (hMR : ∀ r, r < 3 → mRo (F 1) (F 2) r (R (r + 1))) (c0 : Co) (k en : Nat) (tk : Int32) (dn : Bool) (rm : Int32) (hi0 : i0 < 4) (hsf0 : sf i0 = some (sa i0)) (hL0 : kEq (lb L0) c0.1) (hS0 : mSg F i0 (c0, k, en, tk, dn, rm)) (hk : k < 16) (hen : en < 256) (hp0 : c0.2 ≤ wid k) (hro : rOk rm) (e1 : xs (5 * t + 1) = nI i0) (j1 : Nat) (hj1 : j1 < 4) (hsj : sf j1 = some (sa j1)) (e2 : xs (5 * t + 2) = nI j1) (hr : xs (5 * t + 3) < nI 1 ∨ nI 64 < xs (5 * t + 3)) (H : Heap) (locs : List Loc) (ls : Array Slot) (C : Cx D ca s0 A s (LA ca d g sf rb R rf sa sl i0 i1 i2 i3 ((c0, k, en, tk, dn, rm)) y1 y2 y3 L0 L1 L2 L3 z4 z5 L4 L5 h0 q th (nI (R 0).2) F o fo) H locs) (hl : lv_has ls 8 [(4, .int (nI (5 * t))), (0, .ref (b)), (1, .ref (d)), (2, .ref (h0)), (3, .ref (o))]) (kk : ∀  (H : Heap) (locs : List Loc) (ls : Array Slot), Cx D ca s0 A s (LA ca d g sf rb R rf sa sl i0 i1 i2 i3 ((c0, k, en, tk, dn, rm)) y1 y2 y3 L0 L1 L2 L3 z4 z5 L4 L5 h0 q (nI 2) (nI (R 0).2) F o fo) H locs → lv_has ls 8 [(4, .int (nI (5 * t))), (0, .ref (b)), (1, .ref (d)), (2, .ref (h0)), (3, .ref (o))] → W p l e room_1 s m args below meth c H locs (ce + 1) (so + 6) Q (F0 m 847 ls [])) : W p l e room_1 s m args below meth c H locs ce so Q (F0 m 760 ls []) := by
  have hx := S.1
  have hb := S.2.1
  have hown := S.2.2.2.1
  have hts := S.2.2.2.2
  have hR0 := (hR 0 (by decide)).1
  obtain ⟨rest, hrest⟩ : ∃ z : va_W, z = [(g 0, .inr (0, [.ref (rb 0), .int (nI ((R 0).2))])), (rb 0, .inl (ca 3, 300, .inl (rf 0))), (g 1, .inr (0, [.ref (rb 1), .int (nI ((R 1).2))])), (rb 1, .inl (ca 3, 300, .inl (rf 1))), (g 2, .inr (0, [.ref (rb 2), .int (nI ((R 2).2))])), (rb 2, .inl (ca 3, 300, .inl (rf 2))), (g 3, .inr (0, [.ref (rb 3), .int (nI ((R 3).2))])), (rb 3, .inl (ca 3, 300, .inl (rf 3))), (sa i0, .inr (1, [.ref (sl i0), .int (nI k), .int (nI (wid k)), .int (nI (c0.2)), .int (nI en), .int (tk), .int (b2i dn), .int (rm)])), (sl i0, .inl (ca 2, 25, .inr (.inl (L0)))), (sa i1, .inr (1, [.ref (sl i1), .int (nI (y1.2.1)), .int (nI (wid y1.2.1)), .int (nI (y1.1.2)), .int (nI (y1.2.2.1)), .int (y1.2.2.2.1), .int (b2i y1.2.2.2.2.1), .int (y1.2.2.2.2.2)])), (sl i1, .inl (ca 2, 25, .inr (.inl (L1)))), (sa i2, .inr (1, [.ref (sl i2), .int (nI (y2.2.1)), .int (nI (wid y2.2.1)), .int (nI (y2.1.2)), .int (nI (y2.2.2.1)), .int (y2.2.2.2.1), .int (b2i y2.2.2.2.2.1), .int (y2.2.2.2.2.2)])), (sl i2, .inl (ca 2, 25, .inr (.inl (L2)))), (sa i3, .inr (1, [.ref (sl i3), .int (nI (y3.2.1)), .int (nI (wid y3.2.1)), .int (nI (y3.1.2)), .int (nI (y3.2.2.1)), .int (y3.2.2.2.1), .int (b2i y3.2.2.2.2.1), .int (y3.2.2.2.2.2)])), (sl i3, .inl (ca 2, 25, .inr (.inl (L3)))), (g 5, .inr (1, [.ref (sl 4), .int (z4 0), .int (z4 1), .int (z4 2), .int (z4 3), .int (z4 4), .int (z4 5), .int (z4 6)])), (sl 4, .inl (ca 2, 25, .inr (.inl (L4)))), (g 6, .inr (1, [.ref (sl 5), .int (z5 0), .int (z5 1), .int (z5 2), .int (z5 3), .int (z5 4), .int (z5 5), .int (z5 6)])), (sl 5, .inl (ca 2, 25, .inr (.inl (L5)))), (q 0, .inl (ca 0, 300, .inl (F 0))), (q 1, .inl (ca 0, 3, .inl (F 1))), (q 2, .inl (ca 0, 900, .inl (F 2))), (q 3, .inl (ca 1, 9600, .inl (F 3))), (q 4, .inl (ca 0, 6, .inl (F 4))), (q 5, .inl (ca 0, 6, .inl (F 5))), (q 6, .inl (ca 0, 6, .inl (F 6))), (q 7, .inl (ca 1, 6, .inl (F 7))), (q 8, .inl (ca 0, 6, .inl (F 8))), (q 9, .inl (ca 0, 6, .inl (F 9))), (q 10, .inl (ca 1, 1600, .inl (F 10))), (q 11, .inl (ca 1, 1600, .inl (F 11)))] := ⟨_, rfl⟩
  replace C : Cx D ca s0 A s ([(d, .inr (2, kF g)), (g 4, .inl (ca 4, 4, .inr (.inr (.inr (.inr sf))))), (h0, .inr (3, mF q (th) (nI (R 0).2))), (o, .inl (ca 2, 1, .inr (.inl (fo))))] ++ rest) H locs := by rw [hrest]; exact C.re [0, 1, 22, 35, 2, 3, 4, 5, 6, 7, 8, 9, 10, 11, 12, 13, 14, 15, 16, 17, 18, 19, 20, 21, 23, 24, 25, 26, 27, 28, 29, 30, 31, 32, 33, 34] rfl rfl
  refine lv_aload_n hx hb dL_law_760 rfl (lv_at hl 2 rfl) ?_
  refine lv_aload_n hx hb dL_law_761 rfl (lv_at hl 1 rfl) ?_
  refine lv_iload hx hb dL_law_762 (lv_at hl 0 rfl) ?_
  refine lv_iconst (v := nI 1) hx hb dL_law_764 (by decide) ?_
  refine n_add S dL_law_765 ?_
  refine n_sld S C hXX hbl hbA (i := (5 * t) + 1) (by omega) hLs dL_law_766 ?_
  refine lv_topi (nm_r (e' := nI i0) e1 ?_)
  refine lv_aload_n hx hb dL_law_767 rfl (lv_at hl 1 rfl) ?_
  refine lv_iload hx hb dL_law_768 (lv_at hl 0 rfl) ?_
  refine lv_iconst (v := nI 2) hx hb dL_law_770 (by decide) ?_
  refine n_add S dL_law_771 ?_
  refine n_sld S C hXX hbl hbA (i := (5 * t) + 2) (by omega) hLs dL_law_772 ?_
  refine lv_topi (nm_r (e' := nI j1) e2 ?_)
  refine lv_aload_n hx hb dL_law_773 rfl (lv_at hl 1 rfl) ?_
  refine lv_iload hx hb dL_law_774 (lv_at hl 0 rfl) ?_
  refine lv_iconst (v := nI 3) hx hb dL_law_776 (by decide) ?_
  refine n_add S dL_law_777 ?_
  refine n_sld S C hXX hbl hbA (i := (5 * t) + 3) (by omega) hLs dL_law_778 ?_
  refine lv_aload_n hx hb dL_law_779 rfl (lv_at hl 4 rfl) ?_
  refine n_callI5 (wc := [(d, .inr (2, kF g)), (g 4, .inl (ca 4, 4, .inr (.inr (.inr (.inr sf))))), (o, .inl (ca 2, 1, .inr (.inl (fo))))]) (wr := [(h0, .inr (3, mF q (th) (nI (R 0).2)))]) C [0, 1, 3] [2] rfl rfl rfl rfl (by decide) (fun hp => vx_runSW (rest := []) S (c_L_same_no2 l D ca s0 a0 Z hl0 sx Xs d g sf i0 hi0 ((sa i0)) ((sl i0)) hsf0 j1 hj1 ((sa j1)) ((sl j1)) hsj ((xs (5 * t + 3))) hr Xn o fo _) (vx_cwSW 5 hts (gT g_325 g_326 g_29 g_327) rfl rfl rfl (by decide +kernel) ⟨Nat.le_of_ble_eq_true rfl, Nat.le_of_ble_eq_true rfl⟩) hp rfl rfl hl.1 rfl (lv_room (Nat.le_of_ble_eq_true rfl)) dL_law_780 ⟨by rw [rc_1]; omega, by rw [rs_1]; omega⟩) (fun r u H locs hp C => ?_)
  subst hp
  replace C : Cx D ca s0 A s ([(d, .inr (2, kF g)), (g 4, .inl (ca 4, 4, .inr (.inr (.inr (.inr sf))))), (h0, .inr (3, mF q (th) (nI (R 0).2))), (o, .inl (ca 2, 1, .inr (.inl (fo))))] ++ rest) H locs := C.reA [1, 2, 0, 3] rfl rfl
  refine lv_istore hx hb dL_law_783 hl (Nat.le_of_ble_eq_true rfl) rfl (fun ls hl => ?_)
  replace hl : lv_has ls 8 [(5, .int (nI 2)), (4, .int (nI (5 * t))), (0, .ref (b)), (1, .ref (d)), (2, .ref (h0)), (3, .ref (o))] := hl
  refine lv_aload_n hx hb dL_law_785 rfl (lv_at hl 4 rfl) ?_
  refine lv_aload_n hx hb dL_law_786 rfl (lv_at hl 2 rfl) ?_
  refine lv_iload hx hb dL_law_787 (lv_at hl 1 rfl) ?_
  refine lv_iconst (v := nI 1) hx hb dL_law_789 (by decide) ?_
  refine n_add S dL_law_790 ?_
  refine n_sld S C hXX hbl hbA (i := (5 * t) + 1) (by omega) hLs dL_law_791 ?_
  refine lv_topi (nm_r (e' := nI i0) e1 ?_)
  refine lv_aload_n hx hb dL_law_792 rfl (lv_at hl 2 rfl) ?_
  refine lv_iload hx hb dL_law_793 (lv_at hl 1 rfl) ?_
  refine lv_iconst (v := nI 2) hx hb dL_law_795 (by decide) ?_
  refine n_add S dL_law_796 ?_
  refine n_sld S C hXX hbl hbA (i := (5 * t) + 2) (by omega) hLs dL_law_797 ?_
  refine lv_topi (nm_r (e' := nI j1) e2 ?_)
  refine lv_aload_n hx hb dL_law_798 rfl (lv_at hl 2 rfl) ?_
  refine lv_iload hx hb dL_law_799 (lv_at hl 1 rfl) ?_
  refine lv_iconst (v := nI 3) hx hb dL_law_801 (by decide) ?_
  refine n_add S dL_law_802 ?_
  refine n_sld S C hXX hbl hbA (i := (5 * t) + 3) (by omega) hLs dL_law_803 ?_
  refine n_callI5 (wc := [(h0, .inr (3, mF q (th) (nI (R 0).2)))]) (wr := [(d, .inr (2, kF g)), (g 4, .inl (ca 4, 4, .inr (.inr (.inr (.inr sf))))), (o, .inl (ca 2, 1, .inr (.inl (fo))))]) C [2] [0, 1, 3] rfl rfl rfl rfl (by decide) (fun hp => va_runV (rest := []) S (c_M_same_no2 l D ca s0 a0 Z h0 q th ((nI (R 0).2)) i0 j1 hi0 hj1 ((xs (5 * t + 3))) hr _) (cwV 3 hts (gV g_484 g_485 g_486 g_34 g_487) rfl rfl rfl (by decide +kernel) ⟨Nat.le_of_ble_eq_true rfl, Nat.le_of_ble_eq_true rfl⟩) ⟨hp.1, n_recv C 2 3 rfl rfl, hp.2⟩ rfl rfl hl.1 rfl (lv_room (Nat.le_of_ble_eq_true rfl)) dL_law_804 ⟨by rw [rc_1]; omega, by rw [rs_1]; omega⟩) (fun r u H locs hp C => ?_)
  replace C : Cx D ca s0 A s ([(d, .inr (2, kF g)), (g 4, .inl (ca 4, 4, .inr (.inr (.inr (.inr sf))))), (h0, .inr (3, mF q (nI 2) (nI (R 0).2))), (o, .inl (ca 2, 1, .inr (.inl (fo))))] ++ rest) H locs := C.reA [0, 1, 3, 2] rfl rfl
  refine lv_istore hx hb dL_law_807 hl (Nat.le_of_ble_eq_true rfl) rfl (fun ls hl => ?_)
  replace hl : lv_has ls 8 [(6, .int (r)), (5, .int (nI 2)), (4, .int (nI (5 * t))), (0, .ref (b)), (1, .ref (d)), (2, .ref (h0)), (3, .ref (o))] := hl
  refine lv_aload_n hx hb dL_law_809 rfl (lv_at hl 5 rfl) ?_
  refine n_callI5 (wc := [(h0, .inr (3, mF q (nI 2) (nI (R 0).2)))]) (wr := [(d, .inr (2, kF g)), (g 4, .inl (ca 4, 4, .inr (.inr (.inr (.inr sf))))), (o, .inl (ca 2, 1, .inr (.inl (fo))))]) C [2] [0, 1, 3] rfl rfl rfl rfl (by decide) (fun hp => va_runV (rest := []) S (c_M_thrown l D ca s0 a0 Z h0 q ((nI 2)) ((nI (R 0).2)) _) (cwV 0 hts (gV g_418 g_419 g_420 g_34 g_421) rfl rfl rfl (by decide +kernel) ⟨Nat.le_of_ble_eq_true rfl, Nat.le_of_ble_eq_true rfl⟩) ⟨hp.1, n_recv C 2 3 rfl rfl, hp.2⟩ rfl rfl hl.1 rfl (lv_room (Nat.le_of_ble_eq_true rfl)) dL_law_810 ⟨by rw [rc_1]; omega, by rw [rs_1]; omega⟩) (fun r u H locs hp C => ?_)
  subst hp
  replace C : Cx D ca s0 A s ([(d, .inr (2, kF g)), (g 4, .inl (ca 4, 4, .inr (.inr (.inr (.inr sf))))), (h0, .inr (3, mF q (nI 2) (nI (R 0).2))), (o, .inl (ca 2, 1, .inr (.inl (fo))))] ++ rest) H locs := C.reA [0, 1, 3, 2] rfl rfl
  refine lv_iload hx hb dL_law_813 (lv_at hl 1 rfl) ?_
  refine n_icmp_eq (tgt := 820) S (by decide) (by decide) dL_law_815 (by decide) (fun hc => ?_) (fun hc => False.elim (by omega))
  refine lv_iload hx hb dL_law_820 (lv_at hl 1 rfl) ?_
  refine n_if_ne (tgt := 844) S (by omega) dL_law_822 (by decide) (fun hc => ?_) (fun hc => False.elim (by omega))
  refine lv_goto (tgt := 847) hx hb dL_law_844 (by decide) ?_
  rw [hrest] at C
  replace C : Cx D ca s0 A s (LA ca d g sf rb R rf sa sl i0 i1 i2 i3 ((c0, k, en, tk, dn, rm)) y1 y2 y3 L0 L1 L2 L3 z4 z5 L4 L5 h0 q (nI 2) (nI (R 0).2) F o fo) H locs := C.re [0, 1, 4, 5, 6, 7, 8, 9, 10, 11, 12, 13, 14, 15, 16, 17, 18, 19, 20, 21, 22, 23, 2, 24, 25, 26, 27, 28, 29, 30, 31, 32, 33, 34, 35, 3] rfl rfl
  exact W.widen (by omega) (by omega) (kk  H locs ls  C (lv_sub hl [2, 3, 4, 5, 6] rfl))
set_option maxHeartbeats 4000000 in
set_option maxRecDepth 100000 in
theorem o_same_no3 (p : Program) (l : Launch) (e : Env) (s : State) (m : MethodId) (args : Array Value) (below : List Frame) (meth : Method) (c : Code) (Q : State → Prop) (D : va_G) (ca : Nat → ClassId) (s0 : State) (a0 : Array Value) (A : Nat → Prop) (S : CallFix p m c cL_law 8 s args lw_good RL) (Z : Wd a0 s0) (zt : Nat → Nat) (Zs : ZS zt s0) (hl0 : l.stackTraces = false) (sx : Nat → Nat) (Xs : XS sx s0) (Xn : XN s0) (b Ls : Nat) (xs : Nat → Int32) (hXX : va_X b Ls xs s s.heap) (hbl : b < s.heap.size) (hbA : ¬ A b) (hLs : Ls ≤ 2560) (t ce so : Nat) (ht5 : 5 * t + 5 ≤ Ls) (hce : ce ≤ 1000) (hso : so ≤ 30000) (d : Nat) (g : Nat → Nat) (sf : Nat → Option Nat) (rb : Nat → Nat) (R : Nat → Rw) (rf : Nat → Nat → Int32) (sa sl : Nat → Nat) (i0 i1 i2 i3 : Nat) (y2 y3 : Sp) (L0 L1 L2 L3 : Nat → Int64) (z4 z5 : Nat → Int32) (L4 L5 : Nat → Int64) (h0 : Nat) (q : Nat → Nat) (th : Int32) (F : MFn) (o : Nat) (fo : Nat → Int64) (hR : ∀ j, j < 4 → (R j).2 ≤ 300 ∧ sb_Lat (R j).1 (R j).2 (rf j)) (hMT : mTp (F 0) (R 0).1 (R 0).2) (hMR : ∀ r, r < 3 → mRo (F 1) (F 2) r (R (r + 1))) (c0 : Co) (k en : Nat) (tk : Int32) (dn : Bool) (rm : Int32) (hi0 : i0 < 4) (hsf0 : sf i0 = some (sa i0)) (hL0 : kEq (lb L0) c0.1) (hS0 : mSg F i0 (c0, k, en, tk, dn, rm)) (hk : k < 16) (hen : en < 256) (hp0 : c0.2 ≤ wid k) (hro : rOk rm) (d0 : Co) (j0 en2 : Nat) (tk2 : Int32) (dn2 : Bool) (rm2 : Int32) (hi1 : i1 < 4) (hsf1 : sf i1 = some (sa i1)) (hL1 : kEq (lb L1) d0.1) (hS1 : mSg F i1 (d0, j0, en2, tk2, dn2, rm2)) (hj0 : j0 < 16) (hen2 : en2 < 256) (hq0 : d0.2 ≤ wid j0) (hro2 : rOk rm2) (e1 : xs (5 * t + 1) = nI i0) (e2 : xs (5 * t + 2) = nI i1) (n : Nat) (hn1 : 1 ≤ n) (hn64 : n ≤ 64) (e3 : xs (5 * t + 3) = nI n) (hcn : canG dn rm (nI n) = false ∨ canG dn2 rm2 (nI n) = false) (H : Heap) (locs : List Loc) (ls : Array Slot) (C : Cx D ca s0 A s (LA ca d g sf rb R rf sa sl i0 i1 i2 i3 ((c0, k, en, tk, dn, rm)) ((d0, j0, en2, tk2, dn2, rm2)) y2 y3 L0 L1 L2 L3 z4 z5 L4 L5 h0 q th (nI (R 0).2) F o fo) H locs) (hl : lv_has ls 8 [(4, .int (nI (5 * t))), (0, .ref (b)), (1, .ref (d)), (2, .ref (h0)), (3, .ref (o))]) (kk : ∀  (H : Heap) (locs : List Loc) (ls : Array Slot), Cx D ca s0 A s (LA ca d g sf rb R rf sa sl i0 i1 i2 i3 ((c0, k, en, tk, dn, rm)) ((d0, j0, en2, tk2, dn2, rm2)) y2 y3 L0 L1 L2 L3 z4 z5 L4 L5 h0 q (nI 3) (nI (R 0).2) F o fo) H locs → lv_has ls 8 [(4, .int (nI (5 * t))), (0, .ref (b)), (1, .ref (d)), (2, .ref (h0)), (3, .ref (o))] → W p l e room_1 s m args below meth c H locs (ce + 1) (so + 6) Q (F0 m 847 ls [])) : W p l e room_1 s m args below meth c H locs ce so Q (F0 m 760 ls []) := by
  have hx := S.1
  have hb := S.2.1
  have hown := S.2.2.2.1
  have hts := S.2.2.2.2
  have hR0 := (hR 0 (by decide)).1
  obtain ⟨rest, hrest⟩ : ∃ z : va_W, z = [(g 0, .inr (0, [.ref (rb 0), .int (nI ((R 0).2))])), (rb 0, .inl (ca 3, 300, .inl (rf 0))), (g 1, .inr (0, [.ref (rb 1), .int (nI ((R 1).2))])), (rb 1, .inl (ca 3, 300, .inl (rf 1))), (g 2, .inr (0, [.ref (rb 2), .int (nI ((R 2).2))])), (rb 2, .inl (ca 3, 300, .inl (rf 2))), (g 3, .inr (0, [.ref (rb 3), .int (nI ((R 3).2))])), (rb 3, .inl (ca 3, 300, .inl (rf 3))), (sl i0, .inl (ca 2, 25, .inr (.inl (L0)))), (sl i1, .inl (ca 2, 25, .inr (.inl (L1)))), (sa i2, .inr (1, [.ref (sl i2), .int (nI (y2.2.1)), .int (nI (wid y2.2.1)), .int (nI (y2.1.2)), .int (nI (y2.2.2.1)), .int (y2.2.2.2.1), .int (b2i y2.2.2.2.2.1), .int (y2.2.2.2.2.2)])), (sl i2, .inl (ca 2, 25, .inr (.inl (L2)))), (sa i3, .inr (1, [.ref (sl i3), .int (nI (y3.2.1)), .int (nI (wid y3.2.1)), .int (nI (y3.1.2)), .int (nI (y3.2.2.1)), .int (y3.2.2.2.1), .int (b2i y3.2.2.2.2.1), .int (y3.2.2.2.2.2)])), (sl i3, .inl (ca 2, 25, .inr (.inl (L3)))), (g 5, .inr (1, [.ref (sl 4), .int (z4 0), .int (z4 1), .int (z4 2), .int (z4 3), .int (z4 4), .int (z4 5), .int (z4 6)])), (sl 4, .inl (ca 2, 25, .inr (.inl (L4)))), (g 6, .inr (1, [.ref (sl 5), .int (z5 0), .int (z5 1), .int (z5 2), .int (z5 3), .int (z5 4), .int (z5 5), .int (z5 6)])), (sl 5, .inl (ca 2, 25, .inr (.inl (L5)))), (q 0, .inl (ca 0, 300, .inl (F 0))), (q 1, .inl (ca 0, 3, .inl (F 1))), (q 2, .inl (ca 0, 900, .inl (F 2))), (q 3, .inl (ca 1, 9600, .inl (F 3))), (q 4, .inl (ca 0, 6, .inl (F 4))), (q 5, .inl (ca 0, 6, .inl (F 5))), (q 6, .inl (ca 0, 6, .inl (F 6))), (q 8, .inl (ca 0, 6, .inl (F 8))), (q 10, .inl (ca 1, 1600, .inl (F 10))), (q 11, .inl (ca 1, 1600, .inl (F 11)))] := ⟨_, rfl⟩
  replace C : Cx D ca s0 A s ([(d, .inr (2, kF g)), (g 4, .inl (ca 4, 4, .inr (.inr (.inr (.inr sf))))), (sa i0, .inr (1, [.ref (sl i0), .int (nI k), .int (nI (wid k)), .int (nI (c0.2)), .int (nI en), .int (tk), .int (b2i dn), .int (rm)])), (sa i1, .inr (1, [.ref (sl i1), .int (nI j0), .int (nI (wid j0)), .int (nI (d0.2)), .int (nI en2), .int (tk2), .int (b2i dn2), .int (rm2)])), (h0, .inr (3, mF q (th) (nI (R 0).2))), (q 7, .inl (ca 1, 6, .inl (F 7))), (q 9, .inl (ca 0, 6, .inl (F 9))), (o, .inl (ca 2, 1, .inr (.inl (fo))))] ++ rest) H locs := by rw [hrest]; exact C.re [0, 1, 10, 12, 22, 30, 32, 35, 2, 3, 4, 5, 6, 7, 8, 9, 11, 13, 14, 15, 16, 17, 18, 19, 20, 21, 23, 24, 25, 26, 27, 28, 29, 31, 33, 34] rfl rfl
  refine lv_aload_n hx hb dL_law_760 rfl (lv_at hl 2 rfl) ?_
  refine lv_aload_n hx hb dL_law_761 rfl (lv_at hl 1 rfl) ?_
  refine lv_iload hx hb dL_law_762 (lv_at hl 0 rfl) ?_
  refine lv_iconst (v := nI 1) hx hb dL_law_764 (by decide) ?_
  refine n_add S dL_law_765 ?_
  refine n_sld S C hXX hbl hbA (i := (5 * t) + 1) (by omega) hLs dL_law_766 ?_
  refine lv_topi (nm_r (e' := nI i0) e1 ?_)
  refine lv_aload_n hx hb dL_law_767 rfl (lv_at hl 1 rfl) ?_
  refine lv_iload hx hb dL_law_768 (lv_at hl 0 rfl) ?_
  refine lv_iconst (v := nI 2) hx hb dL_law_770 (by decide) ?_
  refine n_add S dL_law_771 ?_
  refine n_sld S C hXX hbl hbA (i := (5 * t) + 2) (by omega) hLs dL_law_772 ?_
  refine lv_topi (nm_r (e' := nI i1) e2 ?_)
  refine lv_aload_n hx hb dL_law_773 rfl (lv_at hl 1 rfl) ?_
  refine lv_iload hx hb dL_law_774 (lv_at hl 0 rfl) ?_
  refine lv_iconst (v := nI 3) hx hb dL_law_776 (by decide) ?_
  refine n_add S dL_law_777 ?_
  refine n_sld S C hXX hbl hbA (i := (5 * t) + 3) (by omega) hLs dL_law_778 ?_
  refine lv_topi (nm_r (e' := nI n) e3 ?_)
  refine lv_aload_n hx hb dL_law_779 rfl (lv_at hl 4 rfl) ?_
  refine n_callI5 (wc := [(d, .inr (2, kF g)), (g 4, .inl (ca 4, 4, .inr (.inr (.inr (.inr sf))))), (sa i0, .inr (1, [.ref (sl i0), .int (nI k), .int (nI (wid k)), .int (nI (c0.2)), .int (nI en), .int (tk), .int (b2i dn), .int (rm)])), (sa i1, .inr (1, [.ref (sl i1), .int (nI j0), .int (nI (wid j0)), .int (nI (d0.2)), .int (nI en2), .int (tk2), .int (b2i dn2), .int (rm2)])), (o, .inl (ca 2, 1, .inr (.inl (fo))))]) (wr := [(h0, .inr (3, mF q (th) (nI (R 0).2))), (q 7, .inl (ca 1, 6, .inl (F 7))), (q 9, .inl (ca 0, 6, .inl (F 9)))]) C [0, 1, 2, 3, 7] [4, 5, 6] rfl rfl rfl rfl (by decide) (fun hp => vx_runSW (rest := []) S (c_L_same_no3 l D ca s0 a0 Z hl0 sx Xs d g sf i0 hi0 ((sa i0)) ((sl i0)) hsf0 i1 hi1 ((sa i1)) ((sl i1)) hsf1 ((nI k)) ((nI (wid k))) ((nI c0.2)) ((nI en)) tk rm dn ((nI j0)) ((nI (wid j0))) ((nI d0.2)) ((nI en2)) tk2 rm2 dn2 n hn1 hn64 hcn Xn o fo _) (vx_cwSW 5 hts (gT g_325 g_326 g_29 g_327) rfl rfl rfl (by decide +kernel) ⟨Nat.le_of_ble_eq_true rfl, Nat.le_of_ble_eq_true rfl⟩) hp rfl rfl hl.1 rfl (lv_room (Nat.le_of_ble_eq_true rfl)) dL_law_780 ⟨by rw [rc_1]; omega, by rw [rs_1]; omega⟩) (fun r u H locs hp C => ?_)
  subst hp
  replace C : Cx D ca s0 A s ([(d, .inr (2, kF g)), (g 4, .inl (ca 4, 4, .inr (.inr (.inr (.inr sf))))), (sa i0, .inr (1, [.ref (sl i0), .int (nI k), .int (nI (wid k)), .int (nI (c0.2)), .int (nI en), .int (tk), .int (b2i dn), .int (rm)])), (sa i1, .inr (1, [.ref (sl i1), .int (nI j0), .int (nI (wid j0)), .int (nI (d0.2)), .int (nI en2), .int (tk2), .int (b2i dn2), .int (rm2)])), (h0, .inr (3, mF q (th) (nI (R 0).2))), (q 7, .inl (ca 1, 6, .inl (F 7))), (q 9, .inl (ca 0, 6, .inl (F 9))), (o, .inl (ca 2, 1, .inr (.inl (fo))))] ++ rest) H locs := C.reA [3, 4, 5, 6, 0, 1, 2, 7] rfl rfl
  refine lv_istore hx hb dL_law_783 hl (Nat.le_of_ble_eq_true rfl) rfl (fun ls hl => ?_)
  replace hl : lv_has ls 8 [(5, .int (nI 3)), (4, .int (nI (5 * t))), (0, .ref (b)), (1, .ref (d)), (2, .ref (h0)), (3, .ref (o))] := hl
  refine lv_aload_n hx hb dL_law_785 rfl (lv_at hl 4 rfl) ?_
  refine lv_aload_n hx hb dL_law_786 rfl (lv_at hl 2 rfl) ?_
  refine lv_iload hx hb dL_law_787 (lv_at hl 1 rfl) ?_
  refine lv_iconst (v := nI 1) hx hb dL_law_789 (by decide) ?_
  refine n_add S dL_law_790 ?_
  refine n_sld S C hXX hbl hbA (i := (5 * t) + 1) (by omega) hLs dL_law_791 ?_
  refine lv_topi (nm_r (e' := nI i0) e1 ?_)
  refine lv_aload_n hx hb dL_law_792 rfl (lv_at hl 2 rfl) ?_
  refine lv_iload hx hb dL_law_793 (lv_at hl 1 rfl) ?_
  refine lv_iconst (v := nI 2) hx hb dL_law_795 (by decide) ?_
  refine n_add S dL_law_796 ?_
  refine n_sld S C hXX hbl hbA (i := (5 * t) + 2) (by omega) hLs dL_law_797 ?_
  refine lv_topi (nm_r (e' := nI i1) e2 ?_)
  refine lv_aload_n hx hb dL_law_798 rfl (lv_at hl 2 rfl) ?_
  refine lv_iload hx hb dL_law_799 (lv_at hl 1 rfl) ?_
  refine lv_iconst (v := nI 3) hx hb dL_law_801 (by decide) ?_
  refine n_add S dL_law_802 ?_
  refine n_sld S C hXX hbl hbA (i := (5 * t) + 3) (by omega) hLs dL_law_803 ?_
  refine lv_topi (nm_r (e' := nI n) e3 ?_)
  refine n_callI5 (wc := [(h0, .inr (3, mF q (th) (nI (R 0).2))), (q 7, .inl (ca 1, 6, .inl (F 7))), (q 9, .inl (ca 0, 6, .inl (F 9)))]) (wr := [(d, .inr (2, kF g)), (g 4, .inl (ca 4, 4, .inr (.inr (.inr (.inr sf))))), (sa i0, .inr (1, [.ref (sl i0), .int (nI k), .int (nI (wid k)), .int (nI (c0.2)), .int (nI en), .int (tk), .int (b2i dn), .int (rm)])), (sa i1, .inr (1, [.ref (sl i1), .int (nI j0), .int (nI (wid j0)), .int (nI (d0.2)), .int (nI en2), .int (tk2), .int (b2i dn2), .int (rm2)])), (o, .inl (ca 2, 1, .inr (.inl (fo))))]) C [4, 5, 6] [0, 1, 2, 3, 7] rfl rfl rfl rfl (by decide) (fun hp => va_runV (rest := []) S (c_M_same_no3 l D ca s0 a0 Z h0 q th ((nI (R 0).2)) i0 i1 hi0 hi1 n hn1 hn64 F dn dn2 rm rm2 hS0.2.2.2.2.1 hS0.2.2.2.2.2 hro hS1.2.2.2.2.1 hS1.2.2.2.2.2 hro2 hcn _) (cwV 3 hts (gV g_484 g_485 g_486 g_34 g_487) rfl rfl rfl (by decide +kernel) ⟨Nat.le_of_ble_eq_true rfl, Nat.le_of_ble_eq_true rfl⟩) ⟨hp.1, n_recv C 4 3 rfl rfl, hp.2⟩ rfl rfl hl.1 rfl (lv_room (Nat.le_of_ble_eq_true rfl)) dL_law_804 ⟨by rw [rc_1]; omega, by rw [rs_1]; omega⟩) (fun r u H locs hp C => ?_)
  replace C : Cx D ca s0 A s ([(d, .inr (2, kF g)), (g 4, .inl (ca 4, 4, .inr (.inr (.inr (.inr sf))))), (sa i0, .inr (1, [.ref (sl i0), .int (nI k), .int (nI (wid k)), .int (nI (c0.2)), .int (nI en), .int (tk), .int (b2i dn), .int (rm)])), (sa i1, .inr (1, [.ref (sl i1), .int (nI j0), .int (nI (wid j0)), .int (nI (d0.2)), .int (nI en2), .int (tk2), .int (b2i dn2), .int (rm2)])), (h0, .inr (3, mF q (nI 3) (nI (R 0).2))), (q 7, .inl (ca 1, 6, .inl (F 7))), (q 9, .inl (ca 0, 6, .inl (F 9))), (o, .inl (ca 2, 1, .inr (.inl (fo))))] ++ rest) H locs := C.reA [0, 1, 2, 3, 5, 6, 7, 4] rfl rfl
  refine lv_istore hx hb dL_law_807 hl (Nat.le_of_ble_eq_true rfl) rfl (fun ls hl => ?_)
  replace hl : lv_has ls 8 [(6, .int (r)), (5, .int (nI 3)), (4, .int (nI (5 * t))), (0, .ref (b)), (1, .ref (d)), (2, .ref (h0)), (3, .ref (o))] := hl
  refine lv_aload_n hx hb dL_law_809 rfl (lv_at hl 5 rfl) ?_
  refine n_callI5 (wc := [(h0, .inr (3, mF q (nI 3) (nI (R 0).2)))]) (wr := [(d, .inr (2, kF g)), (g 4, .inl (ca 4, 4, .inr (.inr (.inr (.inr sf))))), (sa i0, .inr (1, [.ref (sl i0), .int (nI k), .int (nI (wid k)), .int (nI (c0.2)), .int (nI en), .int (tk), .int (b2i dn), .int (rm)])), (sa i1, .inr (1, [.ref (sl i1), .int (nI j0), .int (nI (wid j0)), .int (nI (d0.2)), .int (nI en2), .int (tk2), .int (b2i dn2), .int (rm2)])), (q 7, .inl (ca 1, 6, .inl (F 7))), (q 9, .inl (ca 0, 6, .inl (F 9))), (o, .inl (ca 2, 1, .inr (.inl (fo))))]) C [4] [0, 1, 2, 3, 5, 6, 7] rfl rfl rfl rfl (by decide) (fun hp => va_runV (rest := []) S (c_M_thrown l D ca s0 a0 Z h0 q ((nI 3)) ((nI (R 0).2)) _) (cwV 0 hts (gV g_418 g_419 g_420 g_34 g_421) rfl rfl rfl (by decide +kernel) ⟨Nat.le_of_ble_eq_true rfl, Nat.le_of_ble_eq_true rfl⟩) ⟨hp.1, n_recv C 4 3 rfl rfl, hp.2⟩ rfl rfl hl.1 rfl (lv_room (Nat.le_of_ble_eq_true rfl)) dL_law_810 ⟨by rw [rc_1]; omega, by rw [rs_1]; omega⟩) (fun r u H locs hp C => ?_)
  subst hp
  replace C : Cx D ca s0 A s ([(d, .inr (2, kF g)), (g 4, .inl (ca 4, 4, .inr (.inr (.inr (.inr sf))))), (sa i0, .inr (1, [.ref (sl i0), .int (nI k), .int (nI (wid k)), .int (nI (c0.2)), .int (nI en), .int (tk), .int (b2i dn), .int (rm)])), (sa i1, .inr (1, [.ref (sl i1), .int (nI j0), .int (nI (wid j0)), .int (nI (d0.2)), .int (nI en2), .int (tk2), .int (b2i dn2), .int (rm2)])), (h0, .inr (3, mF q (nI 3) (nI (R 0).2))), (q 7, .inl (ca 1, 6, .inl (F 7))), (q 9, .inl (ca 0, 6, .inl (F 9))), (o, .inl (ca 2, 1, .inr (.inl (fo))))] ++ rest) H locs := C.reA [0, 1, 2, 3, 7, 4, 5, 6] rfl rfl
  refine lv_iload hx hb dL_law_813 (lv_at hl 1 rfl) ?_
  refine n_icmp_eq (tgt := 820) S (by decide) (by decide) dL_law_815 (by decide) (fun hc => ?_) (fun hc => False.elim (by omega))
  refine lv_iload hx hb dL_law_820 (lv_at hl 1 rfl) ?_
  refine n_if_ne (tgt := 844) S (by omega) dL_law_822 (by decide) (fun hc => ?_) (fun hc => False.elim (by omega))
  refine lv_goto (tgt := 847) hx hb dL_law_844 (by decide) ?_
  rw [hrest] at C
  replace C : Cx D ca s0 A s (LA ca d g sf rb R rf sa sl i0 i1 i2 i3 ((c0, k, en, tk, dn, rm)) ((d0, j0, en2, tk2, dn2, rm2)) y2 y3 L0 L1 L2 L3 z4 z5 L4 L5 h0 q (nI 3) (nI (R 0).2) F o fo) H locs := C.re [0, 1, 8, 9, 10, 11, 12, 13, 14, 15, 2, 16, 3, 17, 18, 19, 20, 21, 22, 23, 24, 25, 4, 26, 27, 28, 29, 30, 31, 32, 5, 33, 6, 34, 35, 7] rfl rfl
  exact W.widen (by omega) (by omega) (kk  H locs ls  C (lv_sub hl [2, 3, 4, 5, 6] rfl))
set_option maxHeartbeats 4000000 in
set_option maxRecDepth 100000 in
theorem o_same_no3s (p : Program) (l : Launch) (e : Env) (s : State) (m : MethodId) (args : Array Value) (below : List Frame) (meth : Method) (c : Code) (Q : State → Prop) (D : va_G) (ca : Nat → ClassId) (s0 : State) (a0 : Array Value) (A : Nat → Prop) (S : CallFix p m c cL_law 8 s args lw_good RL) (Z : Wd a0 s0) (zt : Nat → Nat) (Zs : ZS zt s0) (hl0 : l.stackTraces = false) (sx : Nat → Nat) (Xs : XS sx s0) (Xn : XN s0) (b Ls : Nat) (xs : Nat → Int32) (hXX : va_X b Ls xs s s.heap) (hbl : b < s.heap.size) (hbA : ¬ A b) (hLs : Ls ≤ 2560) (t ce so : Nat) (ht5 : 5 * t + 5 ≤ Ls) (hce : ce ≤ 1000) (hso : so ≤ 30000) (d : Nat) (g : Nat → Nat) (sf : Nat → Option Nat) (rb : Nat → Nat) (R : Nat → Rw) (rf : Nat → Nat → Int32) (sa sl : Nat → Nat) (i0 i1 i2 i3 : Nat) (y1 y2 y3 : Sp) (L0 L1 L2 L3 : Nat → Int64) (z4 z5 : Nat → Int32) (L4 L5 : Nat → Int64) (h0 : Nat) (q : Nat → Nat) (th : Int32) (F : MFn) (o : Nat) (fo : Nat → Int64) (hR : ∀ j, j < 4 → (R j).2 ≤ 300 ∧ sb_Lat (R j).1 (R j).2 (rf j)) (hMT : mTp (F 0) (R 0).1 (R 0).2) (hMR : ∀ r, r < 3 → mRo (F 1) (F 2) r (R (r + 1))) (c0 : Co) (k en : Nat) (tk : Int32) (dn : Bool) (rm : Int32) (hi0 : i0 < 4) (hsf0 : sf i0 = some (sa i0)) (hL0 : kEq (lb L0) c0.1) (hS0 : mSg F i0 (c0, k, en, tk, dn, rm)) (hk : k < 16) (hen : en < 256) (hp0 : c0.2 ≤ wid k) (hro : rOk rm) (e1 : xs (5 * t + 1) = nI i0) (e2 : xs (5 * t + 2) = nI i0) (n : Nat) (hn1 : 1 ≤ n) (hn64 : n ≤ 64) (e3 : xs (5 * t + 3) = nI n) (hcn : canG dn rm (nI n) = false) (H : Heap) (locs : List Loc) (ls : Array Slot) (C : Cx D ca s0 A s (LA ca d g sf rb R rf sa sl i0 i1 i2 i3 ((c0, k, en, tk, dn, rm)) y1 y2 y3 L0 L1 L2 L3 z4 z5 L4 L5 h0 q th (nI (R 0).2) F o fo) H locs) (hl : lv_has ls 8 [(4, .int (nI (5 * t))), (0, .ref (b)), (1, .ref (d)), (2, .ref (h0)), (3, .ref (o))]) (kk : ∀  (H : Heap) (locs : List Loc) (ls : Array Slot), Cx D ca s0 A s (LA ca d g sf rb R rf sa sl i0 i1 i2 i3 ((c0, k, en, tk, dn, rm)) y1 y2 y3 L0 L1 L2 L3 z4 z5 L4 L5 h0 q (nI 3) (nI (R 0).2) F o fo) H locs → lv_has ls 8 [(4, .int (nI (5 * t))), (0, .ref (b)), (1, .ref (d)), (2, .ref (h0)), (3, .ref (o))] → W p l e room_1 s m args below meth c H locs (ce + 1) (so + 6) Q (F0 m 847 ls [])) : W p l e room_1 s m args below meth c H locs ce so Q (F0 m 760 ls []) := by
  have hx := S.1
  have hb := S.2.1
  have hown := S.2.2.2.1
  have hts := S.2.2.2.2
  have hR0 := (hR 0 (by decide)).1
  obtain ⟨rest, hrest⟩ : ∃ z : va_W, z = [(g 0, .inr (0, [.ref (rb 0), .int (nI ((R 0).2))])), (rb 0, .inl (ca 3, 300, .inl (rf 0))), (g 1, .inr (0, [.ref (rb 1), .int (nI ((R 1).2))])), (rb 1, .inl (ca 3, 300, .inl (rf 1))), (g 2, .inr (0, [.ref (rb 2), .int (nI ((R 2).2))])), (rb 2, .inl (ca 3, 300, .inl (rf 2))), (g 3, .inr (0, [.ref (rb 3), .int (nI ((R 3).2))])), (rb 3, .inl (ca 3, 300, .inl (rf 3))), (sl i0, .inl (ca 2, 25, .inr (.inl (L0)))), (sa i1, .inr (1, [.ref (sl i1), .int (nI (y1.2.1)), .int (nI (wid y1.2.1)), .int (nI (y1.1.2)), .int (nI (y1.2.2.1)), .int (y1.2.2.2.1), .int (b2i y1.2.2.2.2.1), .int (y1.2.2.2.2.2)])), (sl i1, .inl (ca 2, 25, .inr (.inl (L1)))), (sa i2, .inr (1, [.ref (sl i2), .int (nI (y2.2.1)), .int (nI (wid y2.2.1)), .int (nI (y2.1.2)), .int (nI (y2.2.2.1)), .int (y2.2.2.2.1), .int (b2i y2.2.2.2.2.1), .int (y2.2.2.2.2.2)])), (sl i2, .inl (ca 2, 25, .inr (.inl (L2)))), (sa i3, .inr (1, [.ref (sl i3), .int (nI (y3.2.1)), .int (nI (wid y3.2.1)), .int (nI (y3.1.2)), .int (nI (y3.2.2.1)), .int (y3.2.2.2.1), .int (b2i y3.2.2.2.2.1), .int (y3.2.2.2.2.2)])), (sl i3, .inl (ca 2, 25, .inr (.inl (L3)))), (g 5, .inr (1, [.ref (sl 4), .int (z4 0), .int (z4 1), .int (z4 2), .int (z4 3), .int (z4 4), .int (z4 5), .int (z4 6)])), (sl 4, .inl (ca 2, 25, .inr (.inl (L4)))), (g 6, .inr (1, [.ref (sl 5), .int (z5 0), .int (z5 1), .int (z5 2), .int (z5 3), .int (z5 4), .int (z5 5), .int (z5 6)])), (sl 5, .inl (ca 2, 25, .inr (.inl (L5)))), (q 0, .inl (ca 0, 300, .inl (F 0))), (q 1, .inl (ca 0, 3, .inl (F 1))), (q 2, .inl (ca 0, 900, .inl (F 2))), (q 3, .inl (ca 1, 9600, .inl (F 3))), (q 4, .inl (ca 0, 6, .inl (F 4))), (q 5, .inl (ca 0, 6, .inl (F 5))), (q 6, .inl (ca 0, 6, .inl (F 6))), (q 8, .inl (ca 0, 6, .inl (F 8))), (q 10, .inl (ca 1, 1600, .inl (F 10))), (q 11, .inl (ca 1, 1600, .inl (F 11)))] := ⟨_, rfl⟩
  replace C : Cx D ca s0 A s ([(d, .inr (2, kF g)), (g 4, .inl (ca 4, 4, .inr (.inr (.inr (.inr sf))))), (sa i0, .inr (1, [.ref (sl i0), .int (nI k), .int (nI (wid k)), .int (nI (c0.2)), .int (nI en), .int (tk), .int (b2i dn), .int (rm)])), (h0, .inr (3, mF q (th) (nI (R 0).2))), (q 7, .inl (ca 1, 6, .inl (F 7))), (q 9, .inl (ca 0, 6, .inl (F 9))), (o, .inl (ca 2, 1, .inr (.inl (fo))))] ++ rest) H locs := by rw [hrest]; exact C.re [0, 1, 10, 22, 30, 32, 35, 2, 3, 4, 5, 6, 7, 8, 9, 11, 12, 13, 14, 15, 16, 17, 18, 19, 20, 21, 23, 24, 25, 26, 27, 28, 29, 31, 33, 34] rfl rfl
  refine lv_aload_n hx hb dL_law_760 rfl (lv_at hl 2 rfl) ?_
  refine lv_aload_n hx hb dL_law_761 rfl (lv_at hl 1 rfl) ?_
  refine lv_iload hx hb dL_law_762 (lv_at hl 0 rfl) ?_
  refine lv_iconst (v := nI 1) hx hb dL_law_764 (by decide) ?_
  refine n_add S dL_law_765 ?_
  refine n_sld S C hXX hbl hbA (i := (5 * t) + 1) (by omega) hLs dL_law_766 ?_
  refine lv_topi (nm_r (e' := nI i0) e1 ?_)
  refine lv_aload_n hx hb dL_law_767 rfl (lv_at hl 1 rfl) ?_
  refine lv_iload hx hb dL_law_768 (lv_at hl 0 rfl) ?_
  refine lv_iconst (v := nI 2) hx hb dL_law_770 (by decide) ?_
  refine n_add S dL_law_771 ?_
  refine n_sld S C hXX hbl hbA (i := (5 * t) + 2) (by omega) hLs dL_law_772 ?_
  refine lv_topi (nm_r (e' := nI i0) e2 ?_)
  refine lv_aload_n hx hb dL_law_773 rfl (lv_at hl 1 rfl) ?_
  refine lv_iload hx hb dL_law_774 (lv_at hl 0 rfl) ?_
  refine lv_iconst (v := nI 3) hx hb dL_law_776 (by decide) ?_
  refine n_add S dL_law_777 ?_
  refine n_sld S C hXX hbl hbA (i := (5 * t) + 3) (by omega) hLs dL_law_778 ?_
  refine lv_topi (nm_r (e' := nI n) e3 ?_)
  refine lv_aload_n hx hb dL_law_779 rfl (lv_at hl 4 rfl) ?_
  refine n_callI5 (wc := [(d, .inr (2, kF g)), (g 4, .inl (ca 4, 4, .inr (.inr (.inr (.inr sf))))), (sa i0, .inr (1, [.ref (sl i0), .int (nI k), .int (nI (wid k)), .int (nI (c0.2)), .int (nI en), .int (tk), .int (b2i dn), .int (rm)])), (o, .inl (ca 2, 1, .inr (.inl (fo))))]) (wr := [(h0, .inr (3, mF q (th) (nI (R 0).2))), (q 7, .inl (ca 1, 6, .inl (F 7))), (q 9, .inl (ca 0, 6, .inl (F 9)))]) C [0, 1, 2, 6] [3, 4, 5] rfl rfl rfl rfl (by decide) (fun hp => vx_runSW (rest := []) S (c_L_same_no3s l D ca s0 a0 Z hl0 sx Xs d g sf i0 hi0 ((sa i0)) ((sl i0)) hsf0 ((nI k)) ((nI (wid k))) ((nI c0.2)) ((nI en)) tk rm dn n hn1 hn64 hcn Xn o fo _) (vx_cwSW 5 hts (gT g_325 g_326 g_29 g_327) rfl rfl rfl (by decide +kernel) ⟨Nat.le_of_ble_eq_true rfl, Nat.le_of_ble_eq_true rfl⟩) hp rfl rfl hl.1 rfl (lv_room (Nat.le_of_ble_eq_true rfl)) dL_law_780 ⟨by rw [rc_1]; omega, by rw [rs_1]; omega⟩) (fun r u H locs hp C => ?_)
  subst hp
  replace C : Cx D ca s0 A s ([(d, .inr (2, kF g)), (g 4, .inl (ca 4, 4, .inr (.inr (.inr (.inr sf))))), (sa i0, .inr (1, [.ref (sl i0), .int (nI k), .int (nI (wid k)), .int (nI (c0.2)), .int (nI en), .int (tk), .int (b2i dn), .int (rm)])), (h0, .inr (3, mF q (th) (nI (R 0).2))), (q 7, .inl (ca 1, 6, .inl (F 7))), (q 9, .inl (ca 0, 6, .inl (F 9))), (o, .inl (ca 2, 1, .inr (.inl (fo))))] ++ rest) H locs := C.reA [3, 4, 5, 0, 1, 2, 6] rfl rfl
  refine lv_istore hx hb dL_law_783 hl (Nat.le_of_ble_eq_true rfl) rfl (fun ls hl => ?_)
  replace hl : lv_has ls 8 [(5, .int (nI 3)), (4, .int (nI (5 * t))), (0, .ref (b)), (1, .ref (d)), (2, .ref (h0)), (3, .ref (o))] := hl
  refine lv_aload_n hx hb dL_law_785 rfl (lv_at hl 4 rfl) ?_
  refine lv_aload_n hx hb dL_law_786 rfl (lv_at hl 2 rfl) ?_
  refine lv_iload hx hb dL_law_787 (lv_at hl 1 rfl) ?_
  refine lv_iconst (v := nI 1) hx hb dL_law_789 (by decide) ?_
  refine n_add S dL_law_790 ?_
  refine n_sld S C hXX hbl hbA (i := (5 * t) + 1) (by omega) hLs dL_law_791 ?_
  refine lv_topi (nm_r (e' := nI i0) e1 ?_)
  refine lv_aload_n hx hb dL_law_792 rfl (lv_at hl 2 rfl) ?_
  refine lv_iload hx hb dL_law_793 (lv_at hl 1 rfl) ?_
  refine lv_iconst (v := nI 2) hx hb dL_law_795 (by decide) ?_
  refine n_add S dL_law_796 ?_
  refine n_sld S C hXX hbl hbA (i := (5 * t) + 2) (by omega) hLs dL_law_797 ?_
  refine lv_topi (nm_r (e' := nI i0) e2 ?_)
  refine lv_aload_n hx hb dL_law_798 rfl (lv_at hl 2 rfl) ?_
  refine lv_iload hx hb dL_law_799 (lv_at hl 1 rfl) ?_
  refine lv_iconst (v := nI 3) hx hb dL_law_801 (by decide) ?_
  refine n_add S dL_law_802 ?_
  refine n_sld S C hXX hbl hbA (i := (5 * t) + 3) (by omega) hLs dL_law_803 ?_
  refine lv_topi (nm_r (e' := nI n) e3 ?_)
  refine n_callI5 (wc := [(h0, .inr (3, mF q (th) (nI (R 0).2))), (q 7, .inl (ca 1, 6, .inl (F 7))), (q 9, .inl (ca 0, 6, .inl (F 9)))]) (wr := [(d, .inr (2, kF g)), (g 4, .inl (ca 4, 4, .inr (.inr (.inr (.inr sf))))), (sa i0, .inr (1, [.ref (sl i0), .int (nI k), .int (nI (wid k)), .int (nI (c0.2)), .int (nI en), .int (tk), .int (b2i dn), .int (rm)])), (o, .inl (ca 2, 1, .inr (.inl (fo))))]) C [3, 4, 5] [0, 1, 2, 6] rfl rfl rfl rfl (by decide) (fun hp => va_runV (rest := []) S (c_M_same_no3 l D ca s0 a0 Z h0 q th ((nI (R 0).2)) i0 i0 hi0 hi0 n hn1 hn64 F dn dn rm rm hS0.2.2.2.2.1 hS0.2.2.2.2.2 hro hS0.2.2.2.2.1 hS0.2.2.2.2.2 hro ((Or.inl hcn)) _) (cwV 3 hts (gV g_484 g_485 g_486 g_34 g_487) rfl rfl rfl (by decide +kernel) ⟨Nat.le_of_ble_eq_true rfl, Nat.le_of_ble_eq_true rfl⟩) ⟨hp.1, n_recv C 3 3 rfl rfl, hp.2⟩ rfl rfl hl.1 rfl (lv_room (Nat.le_of_ble_eq_true rfl)) dL_law_804 ⟨by rw [rc_1]; omega, by rw [rs_1]; omega⟩) (fun r u H locs hp C => ?_)
  replace C : Cx D ca s0 A s ([(d, .inr (2, kF g)), (g 4, .inl (ca 4, 4, .inr (.inr (.inr (.inr sf))))), (sa i0, .inr (1, [.ref (sl i0), .int (nI k), .int (nI (wid k)), .int (nI (c0.2)), .int (nI en), .int (tk), .int (b2i dn), .int (rm)])), (h0, .inr (3, mF q (nI 3) (nI (R 0).2))), (q 7, .inl (ca 1, 6, .inl (F 7))), (q 9, .inl (ca 0, 6, .inl (F 9))), (o, .inl (ca 2, 1, .inr (.inl (fo))))] ++ rest) H locs := C.reA [0, 1, 2, 4, 5, 6, 3] rfl rfl
  refine lv_istore hx hb dL_law_807 hl (Nat.le_of_ble_eq_true rfl) rfl (fun ls hl => ?_)
  replace hl : lv_has ls 8 [(6, .int (r)), (5, .int (nI 3)), (4, .int (nI (5 * t))), (0, .ref (b)), (1, .ref (d)), (2, .ref (h0)), (3, .ref (o))] := hl
  refine lv_aload_n hx hb dL_law_809 rfl (lv_at hl 5 rfl) ?_
  refine n_callI5 (wc := [(h0, .inr (3, mF q (nI 3) (nI (R 0).2)))]) (wr := [(d, .inr (2, kF g)), (g 4, .inl (ca 4, 4, .inr (.inr (.inr (.inr sf))))), (sa i0, .inr (1, [.ref (sl i0), .int (nI k), .int (nI (wid k)), .int (nI (c0.2)), .int (nI en), .int (tk), .int (b2i dn), .int (rm)])), (q 7, .inl (ca 1, 6, .inl (F 7))), (q 9, .inl (ca 0, 6, .inl (F 9))), (o, .inl (ca 2, 1, .inr (.inl (fo))))]) C [3] [0, 1, 2, 4, 5, 6] rfl rfl rfl rfl (by decide) (fun hp => va_runV (rest := []) S (c_M_thrown l D ca s0 a0 Z h0 q ((nI 3)) ((nI (R 0).2)) _) (cwV 0 hts (gV g_418 g_419 g_420 g_34 g_421) rfl rfl rfl (by decide +kernel) ⟨Nat.le_of_ble_eq_true rfl, Nat.le_of_ble_eq_true rfl⟩) ⟨hp.1, n_recv C 3 3 rfl rfl, hp.2⟩ rfl rfl hl.1 rfl (lv_room (Nat.le_of_ble_eq_true rfl)) dL_law_810 ⟨by rw [rc_1]; omega, by rw [rs_1]; omega⟩) (fun r u H locs hp C => ?_)
  subst hp
  replace C : Cx D ca s0 A s ([(d, .inr (2, kF g)), (g 4, .inl (ca 4, 4, .inr (.inr (.inr (.inr sf))))), (sa i0, .inr (1, [.ref (sl i0), .int (nI k), .int (nI (wid k)), .int (nI (c0.2)), .int (nI en), .int (tk), .int (b2i dn), .int (rm)])), (h0, .inr (3, mF q (nI 3) (nI (R 0).2))), (q 7, .inl (ca 1, 6, .inl (F 7))), (q 9, .inl (ca 0, 6, .inl (F 9))), (o, .inl (ca 2, 1, .inr (.inl (fo))))] ++ rest) H locs := C.reA [0, 1, 2, 6, 3, 4, 5] rfl rfl
  refine lv_iload hx hb dL_law_813 (lv_at hl 1 rfl) ?_
  refine n_icmp_eq (tgt := 820) S (by decide) (by decide) dL_law_815 (by decide) (fun hc => ?_) (fun hc => False.elim (by omega))
  refine lv_iload hx hb dL_law_820 (lv_at hl 1 rfl) ?_
  refine n_if_ne (tgt := 844) S (by omega) dL_law_822 (by decide) (fun hc => ?_) (fun hc => False.elim (by omega))
  refine lv_goto (tgt := 847) hx hb dL_law_844 (by decide) ?_
  rw [hrest] at C
  replace C : Cx D ca s0 A s (LA ca d g sf rb R rf sa sl i0 i1 i2 i3 ((c0, k, en, tk, dn, rm)) y1 y2 y3 L0 L1 L2 L3 z4 z5 L4 L5 h0 q (nI 3) (nI (R 0).2) F o fo) H locs := C.re [0, 1, 7, 8, 9, 10, 11, 12, 13, 14, 2, 15, 16, 17, 18, 19, 20, 21, 22, 23, 24, 25, 3, 26, 27, 28, 29, 30, 31, 32, 4, 33, 5, 34, 35, 6] rfl rfl
  exact W.widen (by omega) (by omega) (kk  H locs ls  C (lv_sub hl [2, 3, 4, 5, 6] rfl))
