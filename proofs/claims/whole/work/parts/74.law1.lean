set_option maxHeartbeats 4000000 in
set_option maxRecDepth 100000 in
theorem o_feed_no (p : Program) (l : Launch) (e : Env) (s : State) (m : MethodId) (args : Array Value) (below : List Frame) (meth : Method) (c : Code) (Q : State → Prop) (D : va_G) (ca : Nat → ClassId) (s0 : State) (a0 : Array Value) (A : Nat → Prop) (S : CallFix p m c cL_law 8 s args lw_good RL) (Z : Wd a0 s0) (zt : Nat → Nat) (Zs : ZS zt s0) (hl0 : l.stackTraces = false) (sx : Nat → Nat) (Xs : XS sx s0) (Xn : XN s0) (b Ls : Nat) (xs : Nat → Int32) (hXX : va_X b Ls xs s s.heap) (hbl : b < s.heap.size) (hbA : ¬ A b) (hLs : Ls ≤ 2560) (t ce so : Nat) (ht5 : 5 * t + 5 ≤ Ls) (hce : ce ≤ 1000) (hso : so ≤ 30000) (d : Nat) (g : Nat → Nat) (sf : Nat → Option Nat) (rb : Nat → Nat) (R : Nat → Rw) (rf : Nat → Nat → Int32) (sa sl : Nat → Nat) (i0 i1 i2 i3 : Nat) (y0 y1 y2 y3 : Sp) (L0 L1 L2 L3 : Nat → Int64) (z4 z5 : Nat → Int32) (L4 L5 : Nat → Int64) (h0 : Nat) (q : Nat → Nat) (th : Int32) (F : MFn) (o : Nat) (fo : Nat → Int64) (hR : ∀ j, j < 4 → (R j).2 ≤ 300 ∧ sb_Lat (R j).1 (R j).2 (rf j)) (hMT : mTp (F 0) (R 0).1 (R 0).2) (hMR : ∀ r, r < 3 → mRo (F 1) (F 2) r (R (r + 1))) (hr : xs (5 * t + 1) < nI 1 ∨ nI 8 < xs (5 * t + 1)) (H : Heap) (locs : List Loc) (ls : Array Slot) (C : Cx D ca s0 A s (LA ca d g sf rb R rf sa sl i0 i1 i2 i3 y0 y1 y2 y3 L0 L1 L2 L3 z4 z5 L4 L5 h0 q th (nI (R 0).2) F o fo) H locs) (hl : lv_has ls 8 [(4, .int (nI (5 * t))), (0, .ref (b)), (1, .ref (d)), (2, .ref (h0)), (3, .ref (o))]) (kk : ∀  (H : Heap) (locs : List Loc) (ls : Array Slot), Cx D ca s0 A s (LA ca d g sf rb R rf sa sl i0 i1 i2 i3 y0 y1 y2 y3 L0 L1 L2 L3 z4 z5 L4 L5 h0 q (nI 1) (nI (R 0).2) F o fo) H locs → lv_has ls 8 [(4, .int (nI (5 * t))), (0, .ref (b)), (1, .ref (d)), (2, .ref (h0)), (3, .ref (o))] → W p l e room_1 s m args below meth c H locs (ce + 1) (so + 6) Q (F0 m 847 ls [])) : W p l e room_1 s m args below meth c H locs ce so Q (F0 m 100 ls []) := by
  have hx := S.1
  have hb := S.2.1
  have hown := S.2.2.2.1
  have hts := S.2.2.2.2
  have hR0 := (hR 0 (by decide)).1
  obtain ⟨rest, hrest⟩ : ∃ z : va_W, z = [(g 4, .inl (ca 4, 4, .inr (.inr (.inr (.inr sf))))), (g 0, .inr (0, [.ref (rb 0), .int (nI ((R 0).2))])), (rb 0, .inl (ca 3, 300, .inl (rf 0))), (g 1, .inr (0, [.ref (rb 1), .int (nI ((R 1).2))])), (rb 1, .inl (ca 3, 300, .inl (rf 1))), (g 2, .inr (0, [.ref (rb 2), .int (nI ((R 2).2))])), (rb 2, .inl (ca 3, 300, .inl (rf 2))), (g 3, .inr (0, [.ref (rb 3), .int (nI ((R 3).2))])), (rb 3, .inl (ca 3, 300, .inl (rf 3))), (sa i0, .inr (1, [.ref (sl i0), .int (nI (y0.2.1)), .int (nI (wid y0.2.1)), .int (nI (y0.1.2)), .int (nI (y0.2.2.1)), .int (y0.2.2.2.1), .int (b2i y0.2.2.2.2.1), .int (y0.2.2.2.2.2)])), (sl i0, .inl (ca 2, 25, .inr (.inl (L0)))), (sa i1, .inr (1, [.ref (sl i1), .int (nI (y1.2.1)), .int (nI (wid y1.2.1)), .int (nI (y1.1.2)), .int (nI (y1.2.2.1)), .int (y1.2.2.2.1), .int (b2i y1.2.2.2.2.1), .int (y1.2.2.2.2.2)])), (sl i1, .inl (ca 2, 25, .inr (.inl (L1)))), (sa i2, .inr (1, [.ref (sl i2), .int (nI (y2.2.1)), .int (nI (wid y2.2.1)), .int (nI (y2.1.2)), .int (nI (y2.2.2.1)), .int (y2.2.2.2.1), .int (b2i y2.2.2.2.2.1), .int (y2.2.2.2.2.2)])), (sl i2, .inl (ca 2, 25, .inr (.inl (L2)))), (sa i3, .inr (1, [.ref (sl i3), .int (nI (y3.2.1)), .int (nI (wid y3.2.1)), .int (nI (y3.1.2)), .int (nI (y3.2.2.1)), .int (y3.2.2.2.1), .int (b2i y3.2.2.2.2.1), .int (y3.2.2.2.2.2)])), (sl i3, .inl (ca 2, 25, .inr (.inl (L3)))), (g 5, .inr (1, [.ref (sl 4), .int (z4 0), .int (z4 1), .int (z4 2), .int (z4 3), .int (z4 4), .int (z4 5), .int (z4 6)])), (sl 4, .inl (ca 2, 25, .inr (.inl (L4)))), (g 6, .inr (1, [.ref (sl 5), .int (z5 0), .int (z5 1), .int (z5 2), .int (z5 3), .int (z5 4), .int (z5 5), .int (z5 6)])), (sl 5, .inl (ca 2, 25, .inr (.inl (L5)))), (q 0, .inl (ca 0, 300, .inl (F 0))), (q 1, .inl (ca 0, 3, .inl (F 1))), (q 2, .inl (ca 0, 900, .inl (F 2))), (q 3, .inl (ca 1, 9600, .inl (F 3))), (q 4, .inl (ca 0, 6, .inl (F 4))), (q 5, .inl (ca 0, 6, .inl (F 5))), (q 6, .inl (ca 0, 6, .inl (F 6))), (q 7, .inl (ca 1, 6, .inl (F 7))), (q 8, .inl (ca 0, 6, .inl (F 8))), (q 9, .inl (ca 0, 6, .inl (F 9))), (q 10, .inl (ca 1, 1600, .inl (F 10))), (q 11, .inl (ca 1, 1600, .inl (F 11)))] := ⟨_, rfl⟩
  replace C : Cx D ca s0 A s ([(d, .inr (2, kF g)), (h0, .inr (3, mF q (th) (nI (R 0).2))), (o, .inl (ca 2, 1, .inr (.inl (fo))))] ++ rest) H locs := by rw [hrest]; exact C.re [0, 22, 35, 1, 2, 3, 4, 5, 6, 7, 8, 9, 10, 11, 12, 13, 14, 15, 16, 17, 18, 19, 20, 21, 23, 24, 25, 26, 27, 28, 29, 30, 31, 32, 33, 34] rfl rfl
  refine lv_aload_n hx hb dL_law_100 rfl (lv_at hl 2 rfl) ?_
  refine lv_aload_n hx hb dL_law_101 rfl (lv_at hl 1 rfl) ?_
  refine lv_iload hx hb dL_law_102 (lv_at hl 0 rfl) ?_
  refine lv_iconst (v := nI 1) hx hb dL_law_104 (by decide) ?_
  refine n_add S dL_law_105 ?_
  refine n_sld S C hXX hbl hbA (i := (5 * t) + 1) (by omega) hLs dL_law_106 ?_
  refine lv_aload_n hx hb dL_law_107 rfl (lv_at hl 1 rfl) ?_
  refine lv_iload hx hb dL_law_108 (lv_at hl 0 rfl) ?_
  refine lv_iconst (v := nI 2) hx hb dL_law_110 (by decide) ?_
  refine n_add S dL_law_111 ?_
  refine n_sld S C hXX hbl hbA (i := (5 * t) + 2) (by omega) hLs dL_law_112 ?_
  refine lv_i2l (v := (xs (5 * t + 2)).toInt64) hx hb dL_law_113 rfl ?_
  refine lv_bipush (v := nI 32) hx hb dL_law_114 (by decide) ?_
  refine lv_lshl (v := lShl ((xs (5 * t + 2)).toInt64) 32) hx hb dL_law_116 rfl ?_
  refine lv_aload_n hx hb dL_law_117 rfl (lv_at hl 1 rfl) ?_
  refine lv_iload hx hb dL_law_118 (lv_at hl 0 rfl) ?_
  refine lv_iconst (v := nI 3) hx hb dL_law_120 (by decide) ?_
  refine n_add S dL_law_121 ?_
  refine n_sld S C hXX hbl hbA (i := (5 * t) + 3) (by omega) hLs dL_law_122 ?_
  refine lv_i2l (v := (xs (5 * t + 3)).toInt64) hx hb dL_law_123 rfl ?_
  refine lv_ldc2 (v := 4294967295) hx hb hown (hts _ g_488) dL_law_124 ?_
  refine lv_land hx hb dL_law_127 ?_
  refine lv_lor hx hb dL_law_128 ?_
  refine lv_topl (nm_r (e' := lv2 (xs (5 * t + 2)) (xs (5 * t + 3))) rfl ?_)
  refine lv_aload_n hx hb dL_law_129 rfl (lv_at hl 4 rfl) ?_
  refine n_callI5 (wc := [(d, .inr (2, kF g)), (o, .inl (ca 2, 1, .inr (.inl (fo))))]) (wr := [(h0, .inr (3, mF q (th) (nI (R 0).2)))]) C [0, 2] [1] rfl rfl rfl rfl (by decide) (fun hp => vx_runSW (rest := []) S (c_L_feed_no l D ca s0 a0 Z hl0 sx Xs d ((xs (5 * t + 1))) hr ((lv2 (xs (5 * t + 2)) (xs (5 * t + 3)))) g Xn o fo _) (vx_cwSW 4 hts (gT g_93 g_94 g_29 g_95) rfl rfl rfl (by decide +kernel) ⟨Nat.le_of_ble_eq_true rfl, Nat.le_of_ble_eq_true rfl⟩) hp rfl rfl hl.1 rfl (lv_room (Nat.le_of_ble_eq_true rfl)) dL_law_130 ⟨by rw [rc_1]; omega, by rw [rs_1]; omega⟩) (fun r u H locs hp C => ?_)
  subst hp
  replace C : Cx D ca s0 A s ([(d, .inr (2, kF g)), (h0, .inr (3, mF q (th) (nI (R 0).2))), (o, .inl (ca 2, 1, .inr (.inl (fo))))] ++ rest) H locs := C.reA [1, 0, 2] rfl rfl
  refine lv_istore hx hb dL_law_133 hl (Nat.le_of_ble_eq_true rfl) rfl (fun ls hl => ?_)
  replace hl : lv_has ls 8 [(5, .int (nI 1)), (4, .int (nI (5 * t))), (0, .ref (b)), (1, .ref (d)), (2, .ref (h0)), (3, .ref (o))] := hl
  refine lv_aload_n hx hb dL_law_135 rfl (lv_at hl 4 rfl) ?_
  refine lv_aload_n hx hb dL_law_136 rfl (lv_at hl 2 rfl) ?_
  refine lv_iload hx hb dL_law_137 (lv_at hl 1 rfl) ?_
  refine lv_iconst (v := nI 1) hx hb dL_law_139 (by decide) ?_
  refine n_add S dL_law_140 ?_
  refine n_sld S C hXX hbl hbA (i := (5 * t) + 1) (by omega) hLs dL_law_141 ?_
  refine lv_aload_n hx hb dL_law_142 rfl (lv_at hl 2 rfl) ?_
  refine lv_iload hx hb dL_law_143 (lv_at hl 1 rfl) ?_
  refine lv_iconst (v := nI 2) hx hb dL_law_145 (by decide) ?_
  refine n_add S dL_law_146 ?_
  refine n_sld S C hXX hbl hbA (i := (5 * t) + 2) (by omega) hLs dL_law_147 ?_
  refine lv_i2l (v := (xs (5 * t + 2)).toInt64) hx hb dL_law_148 rfl ?_
  refine lv_bipush (v := nI 32) hx hb dL_law_149 (by decide) ?_
  refine lv_lshl (v := lShl ((xs (5 * t + 2)).toInt64) 32) hx hb dL_law_151 rfl ?_
  refine lv_aload_n hx hb dL_law_152 rfl (lv_at hl 2 rfl) ?_
  refine lv_iload hx hb dL_law_153 (lv_at hl 1 rfl) ?_
  refine lv_iconst (v := nI 3) hx hb dL_law_155 (by decide) ?_
  refine n_add S dL_law_156 ?_
  refine n_sld S C hXX hbl hbA (i := (5 * t) + 3) (by omega) hLs dL_law_157 ?_
  refine lv_i2l (v := (xs (5 * t + 3)).toInt64) hx hb dL_law_158 rfl ?_
  refine lv_ldc2 (v := 4294967295) hx hb hown (hts _ g_488) dL_law_159 ?_
  refine lv_land hx hb dL_law_162 ?_
  refine lv_lor hx hb dL_law_163 ?_
  refine lv_topl (nm_r (e' := lv2 (xs (5 * t + 2)) (xs (5 * t + 3))) rfl ?_)
  refine n_callI5 (wc := [(h0, .inr (3, mF q (th) (nI (R 0).2)))]) (wr := [(d, .inr (2, kF g)), (o, .inl (ca 2, 1, .inr (.inl (fo))))]) C [1] [0, 2] rfl rfl rfl rfl (by decide) (fun hp => va_runV (rest := []) S (c_M_feed_no l D ca s0 a0 Z h0 q th ((nI (R 0).2)) ((xs (5 * t + 1))) hr ((lv2 (xs (5 * t + 2)) (xs (5 * t + 3)))) _) (cwV 2 hts (gV g_422 g_423 g_424 g_34 g_425) rfl rfl rfl (by decide +kernel) ⟨Nat.le_of_ble_eq_true rfl, Nat.le_of_ble_eq_true rfl⟩) ⟨hp.1, n_recv C 1 3 rfl rfl, hp.2⟩ rfl rfl hl.1 rfl (lv_room (Nat.le_of_ble_eq_true rfl)) dL_law_164 ⟨by rw [rc_1]; omega, by rw [rs_1]; omega⟩) (fun r u H locs hp C => ?_)
  replace C : Cx D ca s0 A s ([(d, .inr (2, kF g)), (h0, .inr (3, mF q (nI 1) (nI (R 0).2))), (o, .inl (ca 2, 1, .inr (.inl (fo))))] ++ rest) H locs := C.reA [0, 2, 1] rfl rfl
  refine lv_istore hx hb dL_law_167 hl (Nat.le_of_ble_eq_true rfl) rfl (fun ls hl => ?_)
  replace hl : lv_has ls 8 [(6, .int (r)), (5, .int (nI 1)), (4, .int (nI (5 * t))), (0, .ref (b)), (1, .ref (d)), (2, .ref (h0)), (3, .ref (o))] := hl
  refine lv_aload_n hx hb dL_law_169 rfl (lv_at hl 5 rfl) ?_
  refine n_callI5 (wc := [(h0, .inr (3, mF q (nI 1) (nI (R 0).2)))]) (wr := [(d, .inr (2, kF g)), (o, .inl (ca 2, 1, .inr (.inl (fo))))]) C [1] [0, 2] rfl rfl rfl rfl (by decide) (fun hp => va_runV (rest := []) S (c_M_thrown l D ca s0 a0 Z h0 q ((nI 1)) ((nI (R 0).2)) _) (cwV 0 hts (gV g_418 g_419 g_420 g_34 g_421) rfl rfl rfl (by decide +kernel) ⟨Nat.le_of_ble_eq_true rfl, Nat.le_of_ble_eq_true rfl⟩) ⟨hp.1, n_recv C 1 3 rfl rfl, hp.2⟩ rfl rfl hl.1 rfl (lv_room (Nat.le_of_ble_eq_true rfl)) dL_law_170 ⟨by rw [rc_1]; omega, by rw [rs_1]; omega⟩) (fun r u H locs hp C => ?_)
  subst hp
  replace C : Cx D ca s0 A s ([(d, .inr (2, kF g)), (h0, .inr (3, mF q (nI 1) (nI (R 0).2))), (o, .inl (ca 2, 1, .inr (.inl (fo))))] ++ rest) H locs := C.reA [0, 2, 1] rfl rfl
  refine lv_iload hx hb dL_law_173 (lv_at hl 1 rfl) ?_
  refine n_icmp_eq (tgt := 180) S (by decide) (by decide) dL_law_175 (by decide) (fun hc => ?_) (fun hc => False.elim (by omega))
  refine lv_iload hx hb dL_law_180 (lv_at hl 1 rfl) ?_
  refine n_if_ne (tgt := 197) S (by omega) dL_law_182 (by decide) (fun hc => ?_) (fun hc => False.elim (by omega))
  refine lv_goto (tgt := 847) hx hb dL_law_197 (by decide) ?_
  rw [hrest] at C
  replace C : Cx D ca s0 A s (LA ca d g sf rb R rf sa sl i0 i1 i2 i3 y0 y1 y2 y3 L0 L1 L2 L3 z4 z5 L4 L5 h0 q (nI 1) (nI (R 0).2) F o fo) H locs := C.re [0, 3, 4, 5, 6, 7, 8, 9, 10, 11, 12, 13, 14, 15, 16, 17, 18, 19, 20, 21, 22, 23, 1, 24, 25, 26, 27, 28, 29, 30, 31, 32, 33, 34, 35, 2] rfl rfl
  exact W.widen (by omega) (by omega) (kk  H locs ls  C (lv_sub hl [2, 3, 4, 5, 6] rfl))
set_option maxHeartbeats 4000000 in
set_option maxRecDepth 100000 in
theorem o_feed_full (p : Program) (l : Launch) (e : Env) (s : State) (m : MethodId) (args : Array Value) (below : List Frame) (meth : Method) (c : Code) (Q : State → Prop) (D : va_G) (ca : Nat → ClassId) (s0 : State) (a0 : Array Value) (A : Nat → Prop) (S : CallFix p m c cL_law 8 s args lw_good RL) (Z : Wd a0 s0) (zt : Nat → Nat) (Zs : ZS zt s0) (hl0 : l.stackTraces = false) (sx : Nat → Nat) (Xs : XS sx s0) (Xn : XN s0) (b Ls : Nat) (xs : Nat → Int32) (hXX : va_X b Ls xs s s.heap) (hbl : b < s.heap.size) (hbA : ¬ A b) (hLs : Ls ≤ 2560) (t ce so : Nat) (ht5 : 5 * t + 5 ≤ Ls) (hce : ce ≤ 1000) (hso : so ≤ 30000) (d : Nat) (g : Nat → Nat) (sf : Nat → Option Nat) (rb : Nat → Nat) (R : Nat → Rw) (rf : Nat → Nat → Int32) (sa sl : Nat → Nat) (i0 i1 i2 i3 : Nat) (y0 y1 y2 y3 : Sp) (L0 L1 L2 L3 : Nat → Int64) (z4 z5 : Nat → Int32) (L4 L5 : Nat → Int64) (h0 : Nat) (q : Nat → Nat) (th : Int32) (F : MFn) (o : Nat) (fo : Nat → Int64) (hR : ∀ j, j < 4 → (R j).2 ≤ 300 ∧ sb_Lat (R j).1 (R j).2 (rf j)) (hMT : mTp (F 0) (R 0).1 (R 0).2) (hMR : ∀ r, r < 3 → mRo (F 1) (F 2) r (R (r + 1))) (k : Nat) (hk1 : 1 ≤ k) (hk8 : k ≤ 8) (e1 : xs (5 * t + 1) = nI k) (hfull : 300 < (R 0).2 + k) (H : Heap) (locs : List Loc) (ls : Array Slot) (C : Cx D ca s0 A s (LA ca d g sf rb R rf sa sl i0 i1 i2 i3 y0 y1 y2 y3 L0 L1 L2 L3 z4 z5 L4 L5 h0 q th (nI (R 0).2) F o fo) H locs) (hl : lv_has ls 8 [(4, .int (nI (5 * t))), (0, .ref (b)), (1, .ref (d)), (2, .ref (h0)), (3, .ref (o))]) (kk : ∀  (H : Heap) (locs : List Loc) (ls : Array Slot), Cx D ca s0 A s (LA ca d g sf rb R rf sa sl i0 i1 i2 i3 y0 y1 y2 y3 L0 L1 L2 L3 z4 z5 L4 L5 h0 q (nI 0) (nI (R 0).2) F o (vp_updL fo 0 ((-1 : Int32).toInt64))) H locs → lv_has ls 8 [(4, .int (nI (5 * t))), (0, .ref (b)), (1, .ref (d)), (2, .ref (h0)), (3, .ref (o))] → W p l e room_1 s m args below meth c H locs (ce + 1) (so + 6) Q (F0 m 847 ls [])) : W p l e room_1 s m args below meth c H locs ce so Q (F0 m 100 ls []) := by
  have hx := S.1
  have hb := S.2.1
  have hown := S.2.2.2.1
  have hts := S.2.2.2.2
  have hR0 := (hR 0 (by decide)).1
  obtain ⟨rest, hrest⟩ : ∃ z : va_W, z = [(g 4, .inl (ca 4, 4, .inr (.inr (.inr (.inr sf))))), (rb 0, .inl (ca 3, 300, .inl (rf 0))), (g 1, .inr (0, [.ref (rb 1), .int (nI ((R 1).2))])), (rb 1, .inl (ca 3, 300, .inl (rf 1))), (g 2, .inr (0, [.ref (rb 2), .int (nI ((R 2).2))])), (rb 2, .inl (ca 3, 300, .inl (rf 2))), (g 3, .inr (0, [.ref (rb 3), .int (nI ((R 3).2))])), (rb 3, .inl (ca 3, 300, .inl (rf 3))), (sa i0, .inr (1, [.ref (sl i0), .int (nI (y0.2.1)), .int (nI (wid y0.2.1)), .int (nI (y0.1.2)), .int (nI (y0.2.2.1)), .int (y0.2.2.2.1), .int (b2i y0.2.2.2.2.1), .int (y0.2.2.2.2.2)])), (sl i0, .inl (ca 2, 25, .inr (.inl (L0)))), (sa i1, .inr (1, [.ref (sl i1), .int (nI (y1.2.1)), .int (nI (wid y1.2.1)), .int (nI (y1.1.2)), .int (nI (y1.2.2.1)), .int (y1.2.2.2.1), .int (b2i y1.2.2.2.2.1), .int (y1.2.2.2.2.2)])), (sl i1, .inl (ca 2, 25, .inr (.inl (L1)))), (sa i2, .inr (1, [.ref (sl i2), .int (nI (y2.2.1)), .int (nI (wid y2.2.1)), .int (nI (y2.1.2)), .int (nI (y2.2.2.1)), .int (y2.2.2.2.1), .int (b2i y2.2.2.2.2.1), .int (y2.2.2.2.2.2)])), (sl i2, .inl (ca 2, 25, .inr (.inl (L2)))), (sa i3, .inr (1, [.ref (sl i3), .int (nI (y3.2.1)), .int (nI (wid y3.2.1)), .int (nI (y3.1.2)), .int (nI (y3.2.2.1)), .int (y3.2.2.2.1), .int (b2i y3.2.2.2.2.1), .int (y3.2.2.2.2.2)])), (sl i3, .inl (ca 2, 25, .inr (.inl (L3)))), (g 5, .inr (1, [.ref (sl 4), .int (z4 0), .int (z4 1), .int (z4 2), .int (z4 3), .int (z4 4), .int (z4 5), .int (z4 6)])), (sl 4, .inl (ca 2, 25, .inr (.inl (L4)))), (g 6, .inr (1, [.ref (sl 5), .int (z5 0), .int (z5 1), .int (z5 2), .int (z5 3), .int (z5 4), .int (z5 5), .int (z5 6)])), (sl 5, .inl (ca 2, 25, .inr (.inl (L5)))), (q 1, .inl (ca 0, 3, .inl (F 1))), (q 2, .inl (ca 0, 900, .inl (F 2))), (q 3, .inl (ca 1, 9600, .inl (F 3))), (q 4, .inl (ca 0, 6, .inl (F 4))), (q 5, .inl (ca 0, 6, .inl (F 5))), (q 6, .inl (ca 0, 6, .inl (F 6))), (q 7, .inl (ca 1, 6, .inl (F 7))), (q 8, .inl (ca 0, 6, .inl (F 8))), (q 9, .inl (ca 0, 6, .inl (F 9))), (q 10, .inl (ca 1, 1600, .inl (F 10))), (q 11, .inl (ca 1, 1600, .inl (F 11)))] := ⟨_, rfl⟩
  replace C : Cx D ca s0 A s ([(d, .inr (2, kF g)), (g 0, .inr (0, [.ref (rb 0), .int (nI ((R 0).2))])), (h0, .inr (3, mF q (th) (nI (R 0).2))), (q 0, .inl (ca 0, 300, .inl (F 0))), (o, .inl (ca 2, 1, .inr (.inl (fo))))] ++ rest) H locs := by rw [hrest]; exact C.re [0, 2, 22, 23, 35, 1, 3, 4, 5, 6, 7, 8, 9, 10, 11, 12, 13, 14, 15, 16, 17, 18, 19, 20, 21, 24, 25, 26, 27, 28, 29, 30, 31, 32, 33, 34] rfl rfl
  refine lv_aload_n hx hb dL_law_100 rfl (lv_at hl 2 rfl) ?_
  refine lv_aload_n hx hb dL_law_101 rfl (lv_at hl 1 rfl) ?_
  refine lv_iload hx hb dL_law_102 (lv_at hl 0 rfl) ?_
  refine lv_iconst (v := nI 1) hx hb dL_law_104 (by decide) ?_
  refine n_add S dL_law_105 ?_
  refine n_sld S C hXX hbl hbA (i := (5 * t) + 1) (by omega) hLs dL_law_106 ?_
  refine lv_topi (nm_r (e' := nI k) e1 ?_)
  refine lv_aload_n hx hb dL_law_107 rfl (lv_at hl 1 rfl) ?_
  refine lv_iload hx hb dL_law_108 (lv_at hl 0 rfl) ?_
  refine lv_iconst (v := nI 2) hx hb dL_law_110 (by decide) ?_
  refine n_add S dL_law_111 ?_
  refine n_sld S C hXX hbl hbA (i := (5 * t) + 2) (by omega) hLs dL_law_112 ?_
  refine lv_i2l (v := (xs (5 * t + 2)).toInt64) hx hb dL_law_113 rfl ?_
  refine lv_bipush (v := nI 32) hx hb dL_law_114 (by decide) ?_
  refine lv_lshl (v := lShl ((xs (5 * t + 2)).toInt64) 32) hx hb dL_law_116 rfl ?_
  refine lv_aload_n hx hb dL_law_117 rfl (lv_at hl 1 rfl) ?_
  refine lv_iload hx hb dL_law_118 (lv_at hl 0 rfl) ?_
  refine lv_iconst (v := nI 3) hx hb dL_law_120 (by decide) ?_
  refine n_add S dL_law_121 ?_
  refine n_sld S C hXX hbl hbA (i := (5 * t) + 3) (by omega) hLs dL_law_122 ?_
  refine lv_i2l (v := (xs (5 * t + 3)).toInt64) hx hb dL_law_123 rfl ?_
  refine lv_ldc2 (v := 4294967295) hx hb hown (hts _ g_488) dL_law_124 ?_
  refine lv_land hx hb dL_law_127 ?_
  refine lv_lor hx hb dL_law_128 ?_
  refine lv_topl (nm_r (e' := lv2 (xs (5 * t + 2)) (xs (5 * t + 3))) rfl ?_)
  refine lv_aload_n hx hb dL_law_129 rfl (lv_at hl 4 rfl) ?_
  refine n_callI5 (wc := [(d, .inr (2, kF g)), (g 0, .inr (0, [.ref (rb 0), .int (nI ((R 0).2))])), (o, .inl (ca 2, 1, .inr (.inl (fo))))]) (wr := [(h0, .inr (3, mF q (th) (nI (R 0).2))), (q 0, .inl (ca 0, 300, .inl (F 0)))]) C [0, 1, 4] [2, 3] rfl rfl rfl rfl (by decide) (fun hp => vx_runSW (rest := []) S (c_L_feed_full l D ca s0 a0 Z d g ((rb 0)) ((R 0).2) ((hR 0 (by decide)).1) k hk1 hk8 ((lv2 (xs (5 * t + 2)) (xs (5 * t + 3)))) hfull o fo _) (vx_cwSW 4 hts (gT g_93 g_94 g_29 g_95) rfl rfl rfl (by decide +kernel) ⟨Nat.le_of_ble_eq_true rfl, Nat.le_of_ble_eq_true rfl⟩) hp rfl rfl hl.1 rfl (lv_room (Nat.le_of_ble_eq_true rfl)) dL_law_130 ⟨by rw [rc_1]; omega, by rw [rs_1]; omega⟩) (fun r u H locs hp C => ?_)
  subst hp
  replace C : Cx D ca s0 A s ([(d, .inr (2, kF g)), (g 0, .inr (0, [.ref (rb 0), .int (nI ((R 0).2))])), (h0, .inr (3, mF q (th) (nI (R 0).2))), (q 0, .inl (ca 0, 300, .inl (F 0))), (o, .inl (ca 2, 1, .inr (.inl (vp_updL fo 0 ((-1 : Int32).toInt64)))))] ++ rest) H locs := C.reA [2, 3, 0, 1, 4] rfl rfl
  refine lv_istore hx hb dL_law_133 hl (Nat.le_of_ble_eq_true rfl) rfl (fun ls hl => ?_)
  replace hl : lv_has ls 8 [(5, .int (nI 0)), (4, .int (nI (5 * t))), (0, .ref (b)), (1, .ref (d)), (2, .ref (h0)), (3, .ref (o))] := hl
  refine lv_aload_n hx hb dL_law_135 rfl (lv_at hl 4 rfl) ?_
  refine lv_aload_n hx hb dL_law_136 rfl (lv_at hl 2 rfl) ?_
  refine lv_iload hx hb dL_law_137 (lv_at hl 1 rfl) ?_
  refine lv_iconst (v := nI 1) hx hb dL_law_139 (by decide) ?_
  refine n_add S dL_law_140 ?_
  refine n_sld S C hXX hbl hbA (i := (5 * t) + 1) (by omega) hLs dL_law_141 ?_
  refine lv_topi (nm_r (e' := nI k) e1 ?_)
  refine lv_aload_n hx hb dL_law_142 rfl (lv_at hl 2 rfl) ?_
  refine lv_iload hx hb dL_law_143 (lv_at hl 1 rfl) ?_
  refine lv_iconst (v := nI 2) hx hb dL_law_145 (by decide) ?_
  refine n_add S dL_law_146 ?_
  refine n_sld S C hXX hbl hbA (i := (5 * t) + 2) (by omega) hLs dL_law_147 ?_
  refine lv_i2l (v := (xs (5 * t + 2)).toInt64) hx hb dL_law_148 rfl ?_
  refine lv_bipush (v := nI 32) hx hb dL_law_149 (by decide) ?_
  refine lv_lshl (v := lShl ((xs (5 * t + 2)).toInt64) 32) hx hb dL_law_151 rfl ?_
  refine lv_aload_n hx hb dL_law_152 rfl (lv_at hl 2 rfl) ?_
  refine lv_iload hx hb dL_law_153 (lv_at hl 1 rfl) ?_
  refine lv_iconst (v := nI 3) hx hb dL_law_155 (by decide) ?_
  refine n_add S dL_law_156 ?_
  refine n_sld S C hXX hbl hbA (i := (5 * t) + 3) (by omega) hLs dL_law_157 ?_
  refine lv_i2l (v := (xs (5 * t + 3)).toInt64) hx hb dL_law_158 rfl ?_
  refine lv_ldc2 (v := 4294967295) hx hb hown (hts _ g_488) dL_law_159 ?_
  refine lv_land hx hb dL_law_162 ?_
  refine lv_lor hx hb dL_law_163 ?_
  refine lv_topl (nm_r (e' := lv2 (xs (5 * t + 2)) (xs (5 * t + 3))) rfl ?_)
  refine n_callI5 (wc := [(h0, .inr (3, mF q (th) (nI (R 0).2))), (q 0, .inl (ca 0, 300, .inl (F 0)))]) (wr := [(d, .inr (2, kF g)), (g 0, .inr (0, [.ref (rb 0), .int (nI ((R 0).2))])), (o, .inl (ca 2, 1, .inr (.inl (vp_updL fo 0 ((-1 : Int32).toInt64)))))]) C [2, 3] [0, 1, 4] rfl rfl rfl rfl (by decide) (fun hp => va_runV (rest := []) S (c_M_feed_full l D ca s0 a0 Z h0 q th k hk1 hk8 ((lv2 (xs (5 * t + 2)) (xs (5 * t + 3)))) ((F 0)) ((R 0).1) ((R 0).2) ((hR 0 (by decide)).1) hMT hfull _) (cwV 2 hts (gV g_422 g_423 g_424 g_34 g_425) rfl rfl rfl (by decide +kernel) ⟨Nat.le_of_ble_eq_true rfl, Nat.le_of_ble_eq_true rfl⟩) ⟨hp.1, n_recv C 2 3 rfl rfl, hp.2⟩ rfl rfl hl.1 rfl (lv_room (Nat.le_of_ble_eq_true rfl)) dL_law_164 ⟨by rw [rc_1]; omega, by rw [rs_1]; omega⟩) (fun r u H locs hp C => ?_)
  subst hp
  replace C : Cx D ca s0 A s ([(d, .inr (2, kF g)), (g 0, .inr (0, [.ref (rb 0), .int (nI ((R 0).2))])), (h0, .inr (3, mF q (nI 0) (nI (R 0).2))), (q 0, .inl (ca 0, 300, .inl (F 0))), (o, .inl (ca 2, 1, .inr (.inl (vp_updL fo 0 ((-1 : Int32).toInt64)))))] ++ rest) H locs := C.reA [0, 1, 3, 4, 2] rfl rfl
  refine lv_istore hx hb dL_law_167 hl (Nat.le_of_ble_eq_true rfl) rfl (fun ls hl => ?_)
  replace hl : lv_has ls 8 [(6, .int ((-1))), (5, .int (nI 0)), (4, .int (nI (5 * t))), (0, .ref (b)), (1, .ref (d)), (2, .ref (h0)), (3, .ref (o))] := hl
  refine lv_aload_n hx hb dL_law_169 rfl (lv_at hl 5 rfl) ?_
  refine n_callI5 (wc := [(h0, .inr (3, mF q (nI 0) (nI (R 0).2)))]) (wr := [(d, .inr (2, kF g)), (g 0, .inr (0, [.ref (rb 0), .int (nI ((R 0).2))])), (q 0, .inl (ca 0, 300, .inl (F 0))), (o, .inl (ca 2, 1, .inr (.inl (vp_updL fo 0 ((-1 : Int32).toInt64)))))]) C [2] [0, 1, 3, 4] rfl rfl rfl rfl (by decide) (fun hp => va_runV (rest := []) S (c_M_thrown l D ca s0 a0 Z h0 q ((nI 0)) ((nI (R 0).2)) _) (cwV 0 hts (gV g_418 g_419 g_420 g_34 g_421) rfl rfl rfl (by decide +kernel) ⟨Nat.le_of_ble_eq_true rfl, Nat.le_of_ble_eq_true rfl⟩) ⟨hp.1, n_recv C 2 3 rfl rfl, hp.2⟩ rfl rfl hl.1 rfl (lv_room (Nat.le_of_ble_eq_true rfl)) dL_law_170 ⟨by rw [rc_1]; omega, by rw [rs_1]; omega⟩) (fun r u H locs hp C => ?_)
  subst hp
  replace C : Cx D ca s0 A s ([(d, .inr (2, kF g)), (g 0, .inr (0, [.ref (rb 0), .int (nI ((R 0).2))])), (h0, .inr (3, mF q (nI 0) (nI (R 0).2))), (q 0, .inl (ca 0, 300, .inl (F 0))), (o, .inl (ca 2, 1, .inr (.inl (vp_updL fo 0 ((-1 : Int32).toInt64)))))] ++ rest) H locs := C.reA [0, 1, 4, 2, 3] rfl rfl
  refine lv_iload hx hb dL_law_173 (lv_at hl 1 rfl) ?_
  refine n_icmp_eq (tgt := 180) S (by decide) (by decide) dL_law_175 (by decide) (fun hc => ?_) (fun hc => False.elim (by omega))
  refine lv_iload hx hb dL_law_180 (lv_at hl 1 rfl) ?_
  refine n_if_ne (tgt := 197) S (by omega) dL_law_182 (by decide) (fun hc => False.elim (by omega)) (fun hc => ?_)
  refine lv_aload_n hx hb dL_law_185 rfl (lv_at hl 6 rfl) ?_
  refine lv_iconst (v := nI 0) hx hb dL_law_186 (by decide) ?_
  refine n_lald S C 4 rfl (i := 0) (by decide) (by decide) dL_law_187 ?_
  refine lv_topl (nm_r (e' := (-1 : Int32).toInt64) pk_uLs ?_)
  refine lv_iload hx hb dL_law_188 (lv_at hl 0 rfl) ?_
  refine lv_i2l (v := ((-1)).toInt64) hx hb dL_law_190 rfl ?_
  refine W.lcmp hx hb dL_law_191 ?_
  refine lv_topi (nm_r (e' := nI 0) (lcmp_0.mpr rfl) ?_)
  refine n_if_eq (tgt := 197) S (by omega) dL_law_192 (by decide) (fun hc => ?_) (fun hc => False.elim (by omega))
  refine lv_goto (tgt := 847) hx hb dL_law_197 (by decide) ?_
  rw [hrest] at C
  replace C : Cx D ca s0 A s (LA ca d g sf rb R rf sa sl i0 i1 i2 i3 y0 y1 y2 y3 L0 L1 L2 L3 z4 z5 L4 L5 h0 q (nI 0) (nI (R 0).2) F o (vp_updL fo 0 ((-1 : Int32).toInt64))) H locs := C.re [0, 5, 1, 6, 7, 8, 9, 10, 11, 12, 13, 14, 15, 16, 17, 18, 19, 20, 21, 22, 23, 24, 2, 3, 25, 26, 27, 28, 29, 30, 31, 32, 33, 34, 35, 4] rfl rfl
  exact W.widen (by omega) (by omega) (kk  H locs ls  C (lv_sub hl [2, 3, 4, 5, 6] rfl))
set_option maxHeartbeats 4000000 in
set_option maxRecDepth 100000 in
theorem o_feed_ok (p : Program) (l : Launch) (e : Env) (s : State) (m : MethodId) (args : Array Value) (below : List Frame) (meth : Method) (c : Code) (Q : State → Prop) (D : va_G) (ca : Nat → ClassId) (s0 : State) (a0 : Array Value) (A : Nat → Prop) (S : CallFix p m c cL_law 8 s args lw_good RL) (Z : Wd a0 s0) (zt : Nat → Nat) (Zs : ZS zt s0) (hl0 : l.stackTraces = false) (sx : Nat → Nat) (Xs : XS sx s0) (Xn : XN s0) (b Ls : Nat) (xs : Nat → Int32) (hXX : va_X b Ls xs s s.heap) (hbl : b < s.heap.size) (hbA : ¬ A b) (hLs : Ls ≤ 2560) (t ce so : Nat) (ht5 : 5 * t + 5 ≤ Ls) (hce : ce ≤ 1000) (hso : so ≤ 30000) (d : Nat) (g : Nat → Nat) (sf : Nat → Option Nat) (rb : Nat → Nat) (R : Nat → Rw) (rf : Nat → Nat → Int32) (sa sl : Nat → Nat) (i0 i1 i2 i3 : Nat) (y0 y1 y2 y3 : Sp) (L0 L1 L2 L3 : Nat → Int64) (z4 z5 : Nat → Int32) (L4 L5 : Nat → Int64) (h0 : Nat) (q : Nat → Nat) (th : Int32) (F : MFn) (o : Nat) (fo : Nat → Int64) (hR : ∀ j, j < 4 → (R j).2 ≤ 300 ∧ sb_Lat (R j).1 (R j).2 (rf j)) (hMT : mTp (F 0) (R 0).1 (R 0).2) (hMR : ∀ r, r < 3 → mRo (F 1) (F 2) r (R (r + 1))) (k : Nat) (hk1 : 1 ≤ k) (hk8 : k ≤ 8) (e1 : xs (5 * t + 1) = nI k) (hfit : (R 0).2 + k ≤ 300) (H : Heap) (locs : List Loc) (ls : Array Slot) (C : Cx D ca s0 A s (LA ca d g sf rb R rf sa sl i0 i1 i2 i3 y0 y1 y2 y3 L0 L1 L2 L3 z4 z5 L4 L5 h0 q th (nI (R 0).2) F o fo) H locs) (hl : lv_has ls 8 [(4, .int (nI (5 * t))), (0, .ref (b)), (1, .ref (d)), (2, .ref (h0)), (3, .ref (o))]) (kk : ∀ (f1 f2 : Nat → Int32) (H : Heap) (locs : List Loc) (ls : Array Slot), sb_Lat ((sb_cat (R 0).1 (R 0).2 (byAt (lv2 (xs (5 * t + 2)) (xs (5 * t + 3)))), (R 0).2 + k) : Rw).1 ((sb_cat (R 0).1 (R 0).2 (byAt (lv2 (xs (5 * t + 2)) (xs (5 * t + 3)))), (R 0).2 + k) : Rw).2 f1 → mTp f2 ((sb_cat (R 0).1 (R 0).2 (byAt (lv2 (xs (5 * t + 2)) (xs (5 * t + 3)))), (R 0).2 + k) : Rw).1 ((sb_cat (R 0).1 (R 0).2 (byAt (lv2 (xs (5 * t + 2)) (xs (5 * t + 3)))), (R 0).2 + k) : Rw).2 → Cx D ca s0 A s (LA ca d g sf rb (upR R 0 ((sb_cat (R 0).1 (R 0).2 (byAt (lv2 (xs (5 * t + 2)) (xs (5 * t + 3)))), (R 0).2 + k) : Rw)) (upf rf 0 f1) sa sl i0 i1 i2 i3 y0 y1 y2 y3 L0 L1 L2 L3 z4 z5 L4 L5 h0 q (nI 0) (nI ((R 0).2 + k)) (upF F 0 f2) o (vp_updL fo 0 ((nI ((R 0).2 + k)).toInt64))) H locs → lv_has ls 8 [(4, .int (nI (5 * t))), (0, .ref (b)), (1, .ref (d)), (2, .ref (h0)), (3, .ref (o))] → W p l e room_1 s m args below meth c H locs (ce + 1) (so + 6) Q (F0 m 847 ls [])) : W p l e room_1 s m args below meth c H locs ce so Q (F0 m 100 ls []) := by
  have hx := S.1
  have hb := S.2.1
  have hown := S.2.2.2.1
  have hts := S.2.2.2.2
  have hR0 := (hR 0 (by decide)).1
  obtain ⟨rest, hrest⟩ : ∃ z : va_W, z = [(g 4, .inl (ca 4, 4, .inr (.inr (.inr (.inr sf))))), (g 1, .inr (0, [.ref (rb 1), .int (nI ((R 1).2))])), (rb 1, .inl (ca 3, 300, .inl (rf 1))), (g 2, .inr (0, [.ref (rb 2), .int (nI ((R 2).2))])), (rb 2, .inl (ca 3, 300, .inl (rf 2))), (g 3, .inr (0, [.ref (rb 3), .int (nI ((R 3).2))])), (rb 3, .inl (ca 3, 300, .inl (rf 3))), (sa i0, .inr (1, [.ref (sl i0), .int (nI (y0.2.1)), .int (nI (wid y0.2.1)), .int (nI (y0.1.2)), .int (nI (y0.2.2.1)), .int (y0.2.2.2.1), .int (b2i y0.2.2.2.2.1), .int (y0.2.2.2.2.2)])), (sl i0, .inl (ca 2, 25, .inr (.inl (L0)))), (sa i1, .inr (1, [.ref (sl i1), .int (nI (y1.2.1)), .int (nI (wid y1.2.1)), .int (nI (y1.1.2)), .int (nI (y1.2.2.1)), .int (y1.2.2.2.1), .int (b2i y1.2.2.2.2.1), .int (y1.2.2.2.2.2)])), (sl i1, .inl (ca 2, 25, .inr (.inl (L1)))), (sa i2, .inr (1, [.ref (sl i2), .int (nI (y2.2.1)), .int (nI (wid y2.2.1)), .int (nI (y2.1.2)), .int (nI (y2.2.2.1)), .int (y2.2.2.2.1), .int (b2i y2.2.2.2.2.1), .int (y2.2.2.2.2.2)])), (sl i2, .inl (ca 2, 25, .inr (.inl (L2)))), (sa i3, .inr (1, [.ref (sl i3), .int (nI (y3.2.1)), .int (nI (wid y3.2.1)), .int (nI (y3.1.2)), .int (nI (y3.2.2.1)), .int (y3.2.2.2.1), .int (b2i y3.2.2.2.2.1), .int (y3.2.2.2.2.2)])), (sl i3, .inl (ca 2, 25, .inr (.inl (L3)))), (g 5, .inr (1, [.ref (sl 4), .int (z4 0), .int (z4 1), .int (z4 2), .int (z4 3), .int (z4 4), .int (z4 5), .int (z4 6)])), (sl 4, .inl (ca 2, 25, .inr (.inl (L4)))), (g 6, .inr (1, [.ref (sl 5), .int (z5 0), .int (z5 1), .int (z5 2), .int (z5 3), .int (z5 4), .int (z5 5), .int (z5 6)])), (sl 5, .inl (ca 2, 25, .inr (.inl (L5)))), (q 1, .inl (ca 0, 3, .inl (F 1))), (q 2, .inl (ca 0, 900, .inl (F 2))), (q 3, .inl (ca 1, 9600, .inl (F 3))), (q 4, .inl (ca 0, 6, .inl (F 4))), (q 5, .inl (ca 0, 6, .inl (F 5))), (q 6, .inl (ca 0, 6, .inl (F 6))), (q 7, .inl (ca 1, 6, .inl (F 7))), (q 8, .inl (ca 0, 6, .inl (F 8))), (q 9, .inl (ca 0, 6, .inl (F 9))), (q 10, .inl (ca 1, 1600, .inl (F 10))), (q 11, .inl (ca 1, 1600, .inl (F 11)))] := ⟨_, rfl⟩
  replace C : Cx D ca s0 A s ([(d, .inr (2, kF g)), (g 0, .inr (0, [.ref (rb 0), .int (nI ((R 0).2))])), (rb 0, .inl (ca 3, 300, .inl (rf 0))), (h0, .inr (3, mF q (th) (nI (R 0).2))), (q 0, .inl (ca 0, 300, .inl (F 0))), (o, .inl (ca 2, 1, .inr (.inl (fo))))] ++ rest) H locs := by rw [hrest]; exact C.re [0, 2, 3, 22, 23, 35, 1, 4, 5, 6, 7, 8, 9, 10, 11, 12, 13, 14, 15, 16, 17, 18, 19, 20, 21, 24, 25, 26, 27, 28, 29, 30, 31, 32, 33, 34] rfl rfl
  refine lv_aload_n hx hb dL_law_100 rfl (lv_at hl 2 rfl) ?_
  refine lv_aload_n hx hb dL_law_101 rfl (lv_at hl 1 rfl) ?_
  refine lv_iload hx hb dL_law_102 (lv_at hl 0 rfl) ?_
  refine lv_iconst (v := nI 1) hx hb dL_law_104 (by decide) ?_
  refine n_add S dL_law_105 ?_
  refine n_sld S C hXX hbl hbA (i := (5 * t) + 1) (by omega) hLs dL_law_106 ?_
  refine lv_topi (nm_r (e' := nI k) e1 ?_)
  refine lv_aload_n hx hb dL_law_107 rfl (lv_at hl 1 rfl) ?_
  refine lv_iload hx hb dL_law_108 (lv_at hl 0 rfl) ?_
  refine lv_iconst (v := nI 2) hx hb dL_law_110 (by decide) ?_
  refine n_add S dL_law_111 ?_
  refine n_sld S C hXX hbl hbA (i := (5 * t) + 2) (by omega) hLs dL_law_112 ?_
  refine lv_i2l (v := (xs (5 * t + 2)).toInt64) hx hb dL_law_113 rfl ?_
  refine lv_bipush (v := nI 32) hx hb dL_law_114 (by decide) ?_
  refine lv_lshl (v := lShl ((xs (5 * t + 2)).toInt64) 32) hx hb dL_law_116 rfl ?_
  refine lv_aload_n hx hb dL_law_117 rfl (lv_at hl 1 rfl) ?_
  refine lv_iload hx hb dL_law_118 (lv_at hl 0 rfl) ?_
  refine lv_iconst (v := nI 3) hx hb dL_law_120 (by decide) ?_
  refine n_add S dL_law_121 ?_
  refine n_sld S C hXX hbl hbA (i := (5 * t) + 3) (by omega) hLs dL_law_122 ?_
  refine lv_i2l (v := (xs (5 * t + 3)).toInt64) hx hb dL_law_123 rfl ?_
  refine lv_ldc2 (v := 4294967295) hx hb hown (hts _ g_488) dL_law_124 ?_
  refine lv_land hx hb dL_law_127 ?_
  refine lv_lor hx hb dL_law_128 ?_
  refine lv_topl (nm_r (e' := lv2 (xs (5 * t + 2)) (xs (5 * t + 3))) rfl ?_)
  refine lv_aload_n hx hb dL_law_129 rfl (lv_at hl 4 rfl) ?_
  refine n_callI5 (wc := [(d, .inr (2, kF g)), (g 0, .inr (0, [.ref (rb 0), .int (nI ((R 0).2))])), (rb 0, .inl (ca 3, 300, .inl (rf 0))), (o, .inl (ca 2, 1, .inr (.inl (fo))))]) (wr := [(h0, .inr (3, mF q (th) (nI (R 0).2))), (q 0, .inl (ca 0, 300, .inl (F 0)))]) C [0, 1, 2, 5] [3, 4] rfl rfl rfl rfl (by decide) (fun hp => vx_runSW (rest := []) S (c_L_feed_ok l D ca s0 a0 Z d g ((rb 0)) ((rf 0)) ((R 0).1) ((R 0).2) ((hR 0 (by decide)).1) ((hR 0 (by decide)).2) k hk1 hk8 ((lv2 (xs (5 * t + 2)) (xs (5 * t + 3)))) hfit o fo _) (vx_cwSW 4 hts (gT g_93 g_94 g_29 g_95) rfl rfl rfl (by decide +kernel) ⟨Nat.le_of_ble_eq_true rfl, Nat.le_of_ble_eq_true rfl⟩) hp rfl rfl hl.1 rfl (lv_room (Nat.le_of_ble_eq_true rfl)) dL_law_130 ⟨by rw [rc_1]; omega, by rw [rs_1]; omega⟩) (fun r u H locs hp C => ?_)
  obtain ⟨rfl, hw1⟩ := hp
  obtain ⟨f1, rfl⟩ : ∃ z, z = u := ⟨_, rfl⟩
  replace C : Cx D ca s0 A s ([(d, .inr (2, kF g)), (g 0, .inr (0, [.ref (rb 0), .int (nI (((upR R 0 ((sb_cat (R 0).1 (R 0).2 (byAt (lv2 (xs (5 * t + 2)) (xs (5 * t + 3)))), (R 0).2 + k) : Rw)) 0).2))])), (rb 0, .inl (ca 3, 300, .inl ((upf rf 0 f1) 0))), (h0, .inr (3, mF q (th) (nI (R 0).2))), (q 0, .inl (ca 0, 300, .inl (F 0))), (o, .inl (ca 2, 1, .inr (.inl (vp_updL fo 0 ((nI ((R 0).2 + k)).toInt64)))))] ++ rest) H locs := C.reA [2, 3, 4, 0, 1, 5] rfl rfl
  refine lv_istore hx hb dL_law_133 hl (Nat.le_of_ble_eq_true rfl) rfl (fun ls hl => ?_)
  replace hl : lv_has ls 8 [(5, .int (nI 0)), (4, .int (nI (5 * t))), (0, .ref (b)), (1, .ref (d)), (2, .ref (h0)), (3, .ref (o))] := hl
  refine lv_aload_n hx hb dL_law_135 rfl (lv_at hl 4 rfl) ?_
  refine lv_aload_n hx hb dL_law_136 rfl (lv_at hl 2 rfl) ?_
  refine lv_iload hx hb dL_law_137 (lv_at hl 1 rfl) ?_
  refine lv_iconst (v := nI 1) hx hb dL_law_139 (by decide) ?_
  refine n_add S dL_law_140 ?_
  refine n_sld S C hXX hbl hbA (i := (5 * t) + 1) (by omega) hLs dL_law_141 ?_
  refine lv_topi (nm_r (e' := nI k) e1 ?_)
  refine lv_aload_n hx hb dL_law_142 rfl (lv_at hl 2 rfl) ?_
  refine lv_iload hx hb dL_law_143 (lv_at hl 1 rfl) ?_
  refine lv_iconst (v := nI 2) hx hb dL_law_145 (by decide) ?_
  refine n_add S dL_law_146 ?_
  refine n_sld S C hXX hbl hbA (i := (5 * t) + 2) (by omega) hLs dL_law_147 ?_
  refine lv_i2l (v := (xs (5 * t + 2)).toInt64) hx hb dL_law_148 rfl ?_
  refine lv_bipush (v := nI 32) hx hb dL_law_149 (by decide) ?_
  refine lv_lshl (v := lShl ((xs (5 * t + 2)).toInt64) 32) hx hb dL_law_151 rfl ?_
  refine lv_aload_n hx hb dL_law_152 rfl (lv_at hl 2 rfl) ?_
  refine lv_iload hx hb dL_law_153 (lv_at hl 1 rfl) ?_
  refine lv_iconst (v := nI 3) hx hb dL_law_155 (by decide) ?_
  refine n_add S dL_law_156 ?_
  refine n_sld S C hXX hbl hbA (i := (5 * t) + 3) (by omega) hLs dL_law_157 ?_
  refine lv_i2l (v := (xs (5 * t + 3)).toInt64) hx hb dL_law_158 rfl ?_
  refine lv_ldc2 (v := 4294967295) hx hb hown (hts _ g_488) dL_law_159 ?_
  refine lv_land hx hb dL_law_162 ?_
  refine lv_lor hx hb dL_law_163 ?_
  refine lv_topl (nm_r (e' := lv2 (xs (5 * t + 2)) (xs (5 * t + 3))) rfl ?_)
  refine n_callI5 (wc := [(h0, .inr (3, mF q (th) (nI (R 0).2))), (q 0, .inl (ca 0, 300, .inl (F 0)))]) (wr := [(d, .inr (2, kF g)), (g 0, .inr (0, [.ref (rb 0), .int (nI (((upR R 0 ((sb_cat (R 0).1 (R 0).2 (byAt (lv2 (xs (5 * t + 2)) (xs (5 * t + 3)))), (R 0).2 + k) : Rw)) 0).2))])), (rb 0, .inl (ca 3, 300, .inl ((upf rf 0 f1) 0))), (o, .inl (ca 2, 1, .inr (.inl (vp_updL fo 0 ((nI ((R 0).2 + k)).toInt64)))))]) C [3, 4] [0, 1, 2, 5] rfl rfl rfl rfl (by decide) (fun hp => va_runV (rest := []) S (c_M_feed_ok l D ca s0 a0 Z h0 q th k hk1 hk8 ((lv2 (xs (5 * t + 2)) (xs (5 * t + 3)))) ((F 0)) ((R 0).1) ((R 0).2) ((hR 0 (by decide)).1) hMT hfit _) (cwV 2 hts (gV g_422 g_423 g_424 g_34 g_425) rfl rfl rfl (by decide +kernel) ⟨Nat.le_of_ble_eq_true rfl, Nat.le_of_ble_eq_true rfl⟩) ⟨hp.1, n_recv C 3 3 rfl rfl, hp.2⟩ rfl rfl hl.1 rfl (lv_room (Nat.le_of_ble_eq_true rfl)) dL_law_164 ⟨by rw [rc_1]; omega, by rw [rs_1]; omega⟩) (fun r u H locs hp C => ?_)
  obtain ⟨rfl, hm1⟩ := hp
  obtain ⟨f2, rfl⟩ : ∃ z, z = u := ⟨_, rfl⟩
  replace C : Cx D ca s0 A s ([(d, .inr (2, kF g)), (g 0, .inr (0, [.ref (rb 0), .int (nI (((upR R 0 ((sb_cat (R 0).1 (R 0).2 (byAt (lv2 (xs (5 * t + 2)) (xs (5 * t + 3)))), (R 0).2 + k) : Rw)) 0).2))])), (rb 0, .inl (ca 3, 300, .inl ((upf rf 0 f1) 0))), (h0, .inr (3, mF q (nI 0) (nI ((R 0).2 + k)))), (q 0, .inl (ca 0, 300, .inl ((upF F 0 f2) 0))), (o, .inl (ca 2, 1, .inr (.inl (vp_updL fo 0 ((nI ((R 0).2 + k)).toInt64)))))] ++ rest) H locs := C.reA [0, 1, 2, 4, 5, 3] rfl rfl
  refine lv_istore hx hb dL_law_167 hl (Nat.le_of_ble_eq_true rfl) rfl (fun ls hl => ?_)
  replace hl : lv_has ls 8 [(6, .int (nI ((R 0).2 + k))), (5, .int (nI 0)), (4, .int (nI (5 * t))), (0, .ref (b)), (1, .ref (d)), (2, .ref (h0)), (3, .ref (o))] := hl
  refine lv_aload_n hx hb dL_law_169 rfl (lv_at hl 5 rfl) ?_
  refine n_callI5 (wc := [(h0, .inr (3, mF q (nI 0) (nI ((R 0).2 + k))))]) (wr := [(d, .inr (2, kF g)), (g 0, .inr (0, [.ref (rb 0), .int (nI (((upR R 0 ((sb_cat (R 0).1 (R 0).2 (byAt (lv2 (xs (5 * t + 2)) (xs (5 * t + 3)))), (R 0).2 + k) : Rw)) 0).2))])), (rb 0, .inl (ca 3, 300, .inl ((upf rf 0 f1) 0))), (q 0, .inl (ca 0, 300, .inl ((upF F 0 f2) 0))), (o, .inl (ca 2, 1, .inr (.inl (vp_updL fo 0 ((nI ((R 0).2 + k)).toInt64)))))]) C [3] [0, 1, 2, 4, 5] rfl rfl rfl rfl (by decide) (fun hp => va_runV (rest := []) S (c_M_thrown l D ca s0 a0 Z h0 q ((nI 0)) ((nI ((R 0).2 + k))) _) (cwV 0 hts (gV g_418 g_419 g_420 g_34 g_421) rfl rfl rfl (by decide +kernel) ⟨Nat.le_of_ble_eq_true rfl, Nat.le_of_ble_eq_true rfl⟩) ⟨hp.1, n_recv C 3 3 rfl rfl, hp.2⟩ rfl rfl hl.1 rfl (lv_room (Nat.le_of_ble_eq_true rfl)) dL_law_170 ⟨by rw [rc_1]; omega, by rw [rs_1]; omega⟩) (fun r u H locs hp C => ?_)
  subst hp
  replace C : Cx D ca s0 A s ([(d, .inr (2, kF g)), (g 0, .inr (0, [.ref (rb 0), .int (nI (((upR R 0 ((sb_cat (R 0).1 (R 0).2 (byAt (lv2 (xs (5 * t + 2)) (xs (5 * t + 3)))), (R 0).2 + k) : Rw)) 0).2))])), (rb 0, .inl (ca 3, 300, .inl ((upf rf 0 f1) 0))), (h0, .inr (3, mF q (nI 0) (nI ((R 0).2 + k)))), (q 0, .inl (ca 0, 300, .inl ((upF F 0 f2) 0))), (o, .inl (ca 2, 1, .inr (.inl (vp_updL fo 0 ((nI ((R 0).2 + k)).toInt64)))))] ++ rest) H locs := C.reA [0, 1, 2, 5, 3, 4] rfl rfl
  refine lv_iload hx hb dL_law_173 (lv_at hl 1 rfl) ?_
  refine n_icmp_eq (tgt := 180) S (by decide) (by decide) dL_law_175 (by decide) (fun hc => ?_) (fun hc => False.elim (by omega))
  refine lv_iload hx hb dL_law_180 (lv_at hl 1 rfl) ?_
  refine n_if_ne (tgt := 197) S (by omega) dL_law_182 (by decide) (fun hc => False.elim (by omega)) (fun hc => ?_)
  refine lv_aload_n hx hb dL_law_185 rfl (lv_at hl 6 rfl) ?_
  refine lv_iconst (v := nI 0) hx hb dL_law_186 (by decide) ?_
  refine n_lald S C 5 rfl (i := 0) (by decide) (by decide) dL_law_187 ?_
  refine lv_topl (nm_r (e' := (nI ((R 0).2 + k)).toInt64) pk_uLs ?_)
  refine lv_iload hx hb dL_law_188 (lv_at hl 0 rfl) ?_
  refine lv_i2l (v := (nI ((R 0).2 + k)).toInt64) hx hb dL_law_190 rfl ?_
  refine W.lcmp hx hb dL_law_191 ?_
  refine lv_topi (nm_r (e' := nI 0) (lcmp_0.mpr rfl) ?_)
  refine n_if_eq (tgt := 197) S (by omega) dL_law_192 (by decide) (fun hc => ?_) (fun hc => False.elim (by omega))
  refine lv_goto (tgt := 847) hx hb dL_law_197 (by decide) ?_
  rw [hrest] at C
  replace C : Cx D ca s0 A s (LA ca d g sf rb (upR R 0 ((sb_cat (R 0).1 (R 0).2 (byAt (lv2 (xs (5 * t + 2)) (xs (5 * t + 3)))), (R 0).2 + k) : Rw)) (upf rf 0 f1) sa sl i0 i1 i2 i3 y0 y1 y2 y3 L0 L1 L2 L3 z4 z5 L4 L5 h0 q (nI 0) (nI ((R 0).2 + k)) (upF F 0 f2) o (vp_updL fo 0 ((nI ((R 0).2 + k)).toInt64))) H locs := C.re [0, 6, 1, 2, 7, 8, 9, 10, 11, 12, 13, 14, 15, 16, 17, 18, 19, 20, 21, 22, 23, 24, 3, 4, 25, 26, 27, 28, 29, 30, 31, 32, 33, 34, 35, 5] rfl rfl
  exact W.widen (by omega) (by omega) (kk f1 f2 H locs ls hw1 hm1 C (lv_sub hl [2, 3, 4, 5, 6] rfl))
