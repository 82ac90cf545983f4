theorem upY_id (Y : Nat → Sp) (k : Nat) : upY Y k (Y k) = Y := by
  funext i
  by_cases h : i = k
  · rw [h, upY_s]
  · rw [upY_n h]
theorem upL_id (f : Nat → Nat → Int64) (k : Nat) : upL f k (f k) = f := by
  funext i
  by_cases h : i = k
  · rw [h, upL_s]
  · rw [upL_n h]
theorem upL2 {f : Nat → Nat → Int64} {k : Nat} {a b : Nat → Int64} (h : k < 4) : upL (upL f 4 a) 5 b k = f k := by rw [upL_n (show k ≠ 5 by omega), upL_n (show k ≠ 4 by omega)]
theorem sameL {f : Nat → Nat → Int64} {k : Nat} {a b : Nat → Int64} (h : k < 4) : upL (upL (upL f 4 a) 5 b) k (f k) = upL (upL f 4 a) 5 b := by
  funext i
  by_cases e : i = k
  · rw [e, upL_s, upL2 h]
  · rw [upL_n e]
theorem endR {len : Nat} (h : len ≤ 1000) : rOk (if len = 0 then -1 else nI len) := by
  by_cases e : len = 0
  · rw [if_pos e]
    exact Or.inl rfl
  · rw [if_neg e]
    exact Or.inr ⟨len, h, rfl⟩
set_option maxHeartbeats 4000000 in
set_option maxRecDepth 100000 in
theorem s_wipe (p : Program) (l : Launch) (e : Env) (s : State) (m : MethodId) (args : Array Value) (below : List Frame) (meth : Method) (c : Code) (Q : State → Prop) (D : va_G) (ca : Nat → ClassId) (s0 : State) (a0 : Array Value) (A : Nat → Prop) (S : CallFix p m c cL_law 8 s args lw_good RL) (Z : Wd a0 s0) (zt : Nat → Nat) (Zs : ZS zt s0) (hl0 : l.stackTraces = false) (sx : Nat → Nat) (Xs : XS sx s0) (Xn : XN s0) (b Ls : Nat) (xs : Nat → Int32) (hXX : va_X b Ls xs s s.heap) (hbl : b < s.heap.size) (hbA : ¬ A b) (hLs : Ls ≤ 2560) (t ce so : Nat) (ht5 : 5 * t + 5 ≤ Ls) (hce : ce ≤ 1000) (hso : so ≤ 30000) (d : Nat) (g : Nat → Nat) (sf : Nat → Option Nat) (rb : Nat → Nat) (sa sl : Nat → Nat) (h0 : Nat) (q : Nat → Nat) (o : Nat) (R : Nat → Rw) (rf : Nat → Nat → Int32) (Y : Nat → Sp) (Lf : Nat → Nat → Int64) (z4 z5 : Nat → Int32) (th : Int32) (F : MFn) (fo : Nat → Int64) (G : Good sf sa R rf Y Lf F) (H : Heap) (locs : List Loc) (ls : Array Slot) (C : Cx D ca s0 A s (LY ca d g sf rb R rf sa sl 0 1 2 3 Y Lf z4 z5 h0 q th (nI (R 0).2) F o fo) H locs) (hl : lv_has ls 8 [(4, .int (nI (5 * t))), (0, .ref (b)), (1, .ref (d)), (2, .ref (h0)), (3, .ref (o))]) (kk : ∀ (R : Nat → Rw) (rf : Nat → Nat → Int32) (Y : Nat → Sp) (Lf : Nat → Nat → Int64) (z4 z5 : Nat → Int32) (th : Int32) (F : MFn) (fo : Nat → Int64) (H : Heap) (locs : List Loc) (ls : Array Slot), Good sf sa R rf Y Lf F → Cx D ca s0 A s (LY ca d g sf rb R rf sa sl 0 1 2 3 Y Lf z4 z5 h0 q th (nI (R 0).2) F o fo) H locs → lv_has ls 8 [(4, .int (nI (5 * t))), (0, .ref (b)), (1, .ref (d)), (2, .ref (h0)), (3, .ref (o))] → W p l e room_1 s m args below meth c H locs (ce + 1) (so + 6) Q (F0 m 847 ls [])) : W p l e room_1 s m args below meth c H locs ce so Q (F0 m 200 ls []) := by
  exact o_wipe p l e s m args below meth c Q D ca s0 a0 A S Z zt Zs hl0 sx Xs Xn b Ls xs hXX hbl hbA hLs t ce so ht5 hce hso d g sf rb R rf sa sl 0 1 2 3 (Y 0) (Y 1) (Y 2) (Y 3) (Lf 0) (Lf 1) (Lf 2) (Lf 3) z4 z5 (Lf 4) (Lf 5) h0 q th F o fo G.1 G.2.1 G.2.2.1 H locs ls C hl (fun H locs ls C hl => kk _ rf Y Lf z4 z5 _ F fo H locs ls G.wipe C hl)
set_option maxHeartbeats 4000000 in
set_option maxRecDepth 100000 in
theorem s_feed (p : Program) (l : Launch) (e : Env) (s : State) (m : MethodId) (args : Array Value) (below : List Frame) (meth : Method) (c : Code) (Q : State → Prop) (D : va_G) (ca : Nat → ClassId) (s0 : State) (a0 : Array Value) (A : Nat → Prop) (S : CallFix p m c cL_law 8 s args lw_good RL) (Z : Wd a0 s0) (zt : Nat → Nat) (Zs : ZS zt s0) (hl0 : l.stackTraces = false) (sx : Nat → Nat) (Xs : XS sx s0) (Xn : XN s0) (b Ls : Nat) (xs : Nat → Int32) (hXX : va_X b Ls xs s s.heap) (hbl : b < s.heap.size) (hbA : ¬ A b) (hLs : Ls ≤ 2560) (t ce so : Nat) (ht5 : 5 * t + 5 ≤ Ls) (hce : ce ≤ 1000) (hso : so ≤ 30000) (d : Nat) (g : Nat → Nat) (sf : Nat → Option Nat) (rb : Nat → Nat) (sa sl : Nat → Nat) (h0 : Nat) (q : Nat → Nat) (o : Nat) (R : Nat → Rw) (rf : Nat → Nat → Int32) (Y : Nat → Sp) (Lf : Nat → Nat → Int64) (z4 z5 : Nat → Int32) (th : Int32) (F : MFn) (fo : Nat → Int64) (G : Good sf sa R rf Y Lf F) (H : Heap) (locs : List Loc) (ls : Array Slot) (C : Cx D ca s0 A s (LY ca d g sf rb R rf sa sl 0 1 2 3 Y Lf z4 z5 h0 q th (nI (R 0).2) F o fo) H locs) (hl : lv_has ls 8 [(4, .int (nI (5 * t))), (0, .ref (b)), (1, .ref (d)), (2, .ref (h0)), (3, .ref (o))]) (kk : ∀ (R : Nat → Rw) (rf : Nat → Nat → Int32) (Y : Nat → Sp) (Lf : Nat → Nat → Int64) (z4 z5 : Nat → Int32) (th : Int32) (F : MFn) (fo : Nat → Int64) (H : Heap) (locs : List Loc) (ls : Array Slot), Good sf sa R rf Y Lf F → Cx D ca s0 A s (LY ca d g sf rb R rf sa sl 0 1 2 3 Y Lf z4 z5 h0 q th (nI (R 0).2) F o fo) H locs → lv_has ls 8 [(4, .int (nI (5 * t))), (0, .ref (b)), (1, .ref (d)), (2, .ref (h0)), (3, .ref (o))] → W p l e room_1 s m args below meth c H locs (ce + 1) (so + 6) Q (F0 m 847 ls [])) : W p l e room_1 s m args below meth c H locs ce so Q (F0 m 100 ls []) := by
  rcases rng_c (xs (5 * t + 1)) 8 (by decide) with hr | ⟨k, hk1, hk8, e1⟩
  · exact o_feed_no p l e s m args below meth c Q D ca s0 a0 A S Z zt Zs hl0 sx Xs Xn b Ls xs hXX hbl hbA hLs t ce so ht5 hce hso d g sf rb R rf sa sl 0 1 2 3 (Y 0) (Y 1) (Y 2) (Y 3) (Lf 0) (Lf 1) (Lf 2) (Lf 3) z4 z5 (Lf 4) (Lf 5) h0 q th F o fo G.1 G.2.1 G.2.2.1 hr H locs ls C hl (fun H locs ls C hl => kk R rf Y Lf z4 z5 _ F _ H locs ls G C hl)
  · by_cases hf : (R 0).2 + k ≤ 300
    · exact o_feed_ok p l e s m args below meth c Q D ca s0 a0 A S Z zt Zs hl0 sx Xs Xn b Ls xs hXX hbl hbA hLs t ce so ht5 hce hso d g sf rb R rf sa sl 0 1 2 3 (Y 0) (Y 1) (Y 2) (Y 3) (Lf 0) (Lf 1) (Lf 2) (Lf 3) z4 z5 (Lf 4) (Lf 5) h0 q th F o fo G.1 G.2.1 G.2.2.1 k hk1 hk8 e1 hf H locs ls C hl (fun f1 f2 H locs ls w1 m1 C hl => kk _ _ Y Lf z4 z5 _ _ _ H locs ls (G.feed hf w1 m1) C hl)
    · exact o_feed_full p l e s m args below meth c Q D ca s0 a0 A S Z zt Zs hl0 sx Xs Xn b Ls xs hXX hbl hbA hLs t ce so ht5 hce hso d g sf rb R rf sa sl 0 1 2 3 (Y 0) (Y 1) (Y 2) (Y 3) (Lf 0) (Lf 1) (Lf 2) (Lf 3) z4 z5 (Lf 4) (Lf 5) h0 q th F o fo G.1 G.2.1 G.2.2.1 k hk1 hk8 e1 (by omega) H locs ls C hl (fun H locs ls C hl => kk R rf Y Lf z4 z5 _ F _ H locs ls G C hl)
set_option maxHeartbeats 4000000 in
set_option maxRecDepth 100000 in
theorem s_let (p : Program) (l : Launch) (e : Env) (s : State) (m : MethodId) (args : Array Value) (below : List Frame) (meth : Method) (c : Code) (Q : State → Prop) (D : va_G) (ca : Nat → ClassId) (s0 : State) (a0 : Array Value) (A : Nat → Prop) (S : CallFix p m c cL_law 8 s args lw_good RL) (Z : Wd a0 s0) (zt : Nat → Nat) (Zs : ZS zt s0) (hl0 : l.stackTraces = false) (sx : Nat → Nat) (Xs : XS sx s0) (Xn : XN s0) (b Ls : Nat) (xs : Nat → Int32) (hXX : va_X b Ls xs s s.heap) (hbl : b < s.heap.size) (hbA : ¬ A b) (hLs : Ls ≤ 2560) (t ce so : Nat) (ht5 : 5 * t + 5 ≤ Ls) (hce : ce ≤ 1000) (hso : so ≤ 30000) (d : Nat) (g : Nat → Nat) (sf : Nat → Option Nat) (rb : Nat → Nat) (sa sl : Nat → Nat) (h0 : Nat) (q : Nat → Nat) (o : Nat) (R : Nat → Rw) (rf : Nat → Nat → Int32) (Y : Nat → Sp) (Lf : Nat → Nat → Int64) (z4 z5 : Nat → Int32) (th : Int32) (F : MFn) (fo : Nat → Int64) (G : Good sf sa R rf Y Lf F) (H : Heap) (locs : List Loc) (ls : Array Slot) (C : Cx D ca s0 A s (LY ca d g sf rb R rf sa sl 0 1 2 3 Y Lf z4 z5 h0 q th (nI (R 0).2) F o fo) H locs) (hl : lv_has ls 8 [(4, .int (nI (5 * t))), (0, .ref (b)), (1, .ref (d)), (2, .ref (h0)), (3, .ref (o))]) (kk : ∀ (R : Nat → Rw) (rf : Nat → Nat → Int32) (Y : Nat → Sp) (Lf : Nat → Nat → Int64) (z4 z5 : Nat → Int32) (th : Int32) (F : MFn) (fo : Nat → Int64) (H : Heap) (locs : List Loc) (ls : Array Slot), Good sf sa R rf Y Lf F → Cx D ca s0 A s (LY ca d g sf rb R rf sa sl 0 1 2 3 Y Lf z4 z5 h0 q th (nI (R 0).2) F o fo) H locs → lv_has ls 8 [(4, .int (nI (5 * t))), (0, .ref (b)), (1, .ref (d)), (2, .ref (h0)), (3, .ref (o))] → W p l e room_1 s m args below meth c H locs (ce + 1) (so + 6) Q (F0 m 847 ls [])) : W p l e room_1 s m args below meth c H locs ce so Q (F0 m 213 ls []) := by
  rcases knd_c (xs (5 * t + 1)) 2 (by decide) with hr | ⟨k, hk2, e1⟩
  · exact o_let_no p l e s m args below meth c Q D ca s0 a0 A S Z zt Zs hl0 sx Xs Xn b Ls xs hXX hbl hbA hLs t ce so ht5 hce hso d g sf rb R rf sa sl 0 1 2 3 (Y 0) (Y 1) (Y 2) (Y 3) (Lf 0) (Lf 1) (Lf 2) (Lf 3) z4 z5 (Lf 4) (Lf 5) h0 q th F o fo G.1 G.2.1 G.2.2.1 hr H locs ls C hl (fun H locs ls C hl => kk R rf Y Lf z4 z5 _ F _ H locs ls G C hl)
  · obtain rfl | rfl | rfl : k = 0 ∨ k = 1 ∨ k = 2 := by omega
    · exact o_let_ok1 p l e s m args below meth c Q D ca s0 a0 A S Z zt Zs hl0 sx Xs Xn b Ls xs hXX hbl hbA hLs t ce so ht5 hce hso d g sf rb R rf sa sl 0 1 2 3 (Y 0) (Y 1) (Y 2) (Y 3) (Lf 0) (Lf 1) (Lf 2) (Lf 3) z4 z5 (Lf 4) (Lf 5) h0 q th F o fo G.1 G.2.1 G.2.2.1 e1 H locs ls C hl (fun v1 u1 u2 H locs ls w1 m1 m2 C hl => kk _ _ Y Lf z4 z5 _ _ _ H locs ls (G.let (j := 1) (by decide) (by decide) w1 m1 m2) C hl)
    · exact o_let_ok2 p l e s m args below meth c Q D ca s0 a0 A S Z zt Zs hl0 sx Xs Xn b Ls xs hXX hbl hbA hLs t ce so ht5 hce hso d g sf rb R rf sa sl 0 1 2 3 (Y 0) (Y 1) (Y 2) (Y 3) (Lf 0) (Lf 1) (Lf 2) (Lf 3) z4 z5 (Lf 4) (Lf 5) h0 q th F o fo G.1 G.2.1 G.2.2.1 e1 H locs ls C hl (fun v1 u1 u2 H locs ls w1 m1 m2 C hl => kk _ _ Y Lf z4 z5 _ _ _ H locs ls (G.let (j := 2) (by decide) (by decide) w1 m1 m2) C hl)
    · exact o_let_ok3 p l e s m args below meth c Q D ca s0 a0 A S Z zt Zs hl0 sx Xs Xn b Ls xs hXX hbl hbA hLs t ce so ht5 hce hso d g sf rb R rf sa sl 0 1 2 3 (Y 0) (Y 1) (Y 2) (Y 3) (Lf 0) (Lf 1) (Lf 2) (Lf 3) z4 z5 (Lf 4) (Lf 5) h0 q th F o fo G.1 G.2.1 G.2.2.1 e1 H locs ls C hl (fun v1 u1 u2 H locs ls w1 m1 m2 C hl => kk _ _ Y Lf z4 z5 _ _ _ H locs ls (G.let (j := 3) (by decide) (by decide) w1 m1 m2) C hl)
set_option maxHeartbeats 4000000 in
set_option maxRecDepth 100000 in
theorem s_begin (p : Program) (l : Launch) (e : Env) (s : State) (m : MethodId) (args : Array Value) (below : List Frame) (meth : Method) (c : Code) (Q : State → Prop) (D : va_G) (ca : Nat → ClassId) (s0 : State) (a0 : Array Value) (A : Nat → Prop) (S : CallFix p m c cL_law 8 s args lw_good RL) (Z : Wd a0 s0) (zt : Nat → Nat) (Zs : ZS zt s0) (hl0 : l.stackTraces = false) (sx : Nat → Nat) (Xs : XS sx s0) (Xn : XN s0) (b Ls : Nat) (xs : Nat → Int32) (hXX : va_X b Ls xs s s.heap) (hbl : b < s.heap.size) (hbA : ¬ A b) (hLs : Ls ≤ 2560) (t ce so : Nat) (ht5 : 5 * t + 5 ≤ Ls) (hce : ce ≤ 1000) (hso : so ≤ 30000) (d : Nat) (g : Nat → Nat) (sf : Nat → Option Nat) (rb : Nat → Nat) (sa sl : Nat → Nat) (h0 : Nat) (q : Nat → Nat) (o : Nat) (R : Nat → Rw) (rf : Nat → Nat → Int32) (Y : Nat → Sp) (Lf : Nat → Nat → Int64) (z4 z5 : Nat → Int32) (th : Int32) (F : MFn) (fo : Nat → Int64) (G : Good sf sa R rf Y Lf F) (H : Heap) (locs : List Loc) (ls : Array Slot) (C : Cx D ca s0 A s (LY ca d g sf rb R rf sa sl 0 1 2 3 Y Lf z4 z5 h0 q th (nI (R 0).2) F o fo) H locs) (hl : lv_has ls 8 [(4, .int (nI (5 * t))), (0, .ref (b)), (1, .ref (d)), (2, .ref (h0)), (3, .ref (o))]) (kk : ∀ (R : Nat → Rw) (rf : Nat → Nat → Int32) (Y : Nat → Sp) (Lf : Nat → Nat → Int64) (z4 z5 : Nat → Int32) (th : Int32) (F : MFn) (fo : Nat → Int64) (H : Heap) (locs : List Loc) (ls : Array Slot), Good sf sa R rf Y Lf F → Cx D ca s0 A s (LY ca d g sf rb R rf sa sl 0 1 2 3 Y Lf z4 z5 h0 q th (nI (R 0).2) F o fo) H locs → lv_has ls 8 [(4, .int (nI (5 * t))), (0, .ref (b)), (1, .ref (d)), (2, .ref (h0)), (3, .ref (o))] → W p l e room_1 s m args below meth c H locs (ce + 1) (so + 6) Q (F0 m 847 ls [])) : W p l e room_1 s m args below meth c H locs ce so Q (F0 m 269 ls []) := by
  rcases idx_c (xs (5 * t + 1)) with hno | ⟨i, hi, e1⟩
  · exact o_begin_no1 p l e s m args below meth c Q D ca s0 a0 A S Z zt Zs hl0 sx Xs Xn b Ls xs hXX hbl hbA hLs t ce so ht5 hce hso d g sf rb R rf sa sl 0 1 2 3 (Y 0) (Y 1) (Y 2) (Y 3) (Lf 0) (Lf 1) (Lf 2) (Lf 3) z4 z5 (Lf 4) (Lf 5) h0 q th F o fo G.1 G.2.1 G.2.2.1 hno H locs ls C hl (fun H locs ls C hl => kk R rf Y Lf z4 z5 _ F _ H locs ls G C hl)
  · obtain ⟨ia, ib, ic, pk, pu⟩ := pick1 D ca s0 A s d g sf rb sa sl h0 q o hi
    have G0 := G
    obtain ⟨hs, hL, hS, hO⟩ := G.2.2.2 i hi
    replace C := pk R rf Y Lf z4 z5 th _ F fo H locs C
    rcases hy : Y i with ⟨c0, k, en, tk, dn, rm⟩
    rw [hy] at C hL hS hO
    obtain ⟨hk, hen, hp0, hp1, hro⟩ := hO
    replace hk : k < 16 := hk
    replace hp0 : c0.2 ≤ wid k := hp0
    rcases knd_c (xs (5 * t + 2)) 15 (by decide) with hr | ⟨kn, hkn, e2⟩
    · exact o_begin_no2 p l e s m args below meth c Q D ca s0 a0 A S Z zt Zs hl0 sx Xs Xn b Ls xs hXX hbl hbA hLs t ce so ht5 hce hso d g sf rb R rf sa sl i ia ib ic (Y ia) (Y ib) (Y ic) (Lf i) (Lf ia) (Lf ib) (Lf ic) z4 z5 (Lf 4) (Lf 5) h0 q th F o fo G.1 G.2.1 G.2.2.1 c0 k en tk dn rm hi hs hL hS hk hen hp0 hro e1 hr H locs ls C hl (fun H locs ls C hl => kk R rf (upY Y i (Y i)) (upL Lf i (Lf i)) z4 z5 _ F _ H locs ls (by rw [upY_id, upL_id]; exact G) (pu R rf Y Lf z4 z5 _ _ F _ H locs _ _ (by rw [hy]; exact C)) hl)
    · exact o_begin_ok p l e s m args below meth c Q D ca s0 a0 A S Z zt Zs hl0 sx Xs Xn b Ls xs hXX hbl hbA hLs t ce so ht5 hce hso d g sf rb R rf sa sl i ia ib ic (Y ia) (Y ib) (Y ic) (Lf i) (Lf ia) (Lf ib) (Lf ic) z4 z5 (Lf 4) (Lf 5) h0 q th F o fo G.1 G.2.1 G.2.2.1 c0 k en tk dn rm hi hs hL hS hk hen hp0 hro e1 kn (by omega) e2 H locs ls C hl (fun M1 u1 H locs ls w1 m1 C hl => kk R rf (upY Y i (beginC kn R, kn, beginE kn R, nI 0, false, -1)) (upL Lf i M1) z4 z5 _ (hiF F u1) _ H locs ls (G.sp (F2 := (hiF F u1)) hi rfl rfl rfl m1 w1 ⟨show kn < 16 by omega, beginE_lt _ _, by show (beginC kn R).2 ≤ _; rw [beginC_0]; exact Nat.zero_le _, fun _ => by show (beginC kn R).2 < wid kn; rw [beginC_0]; have := wid_in kn (by omega); omega, Or.inl rfl⟩) (pu R rf Y Lf z4 z5 _ _ _ _ H locs _ _ C) hl)
set_option maxHeartbeats 4000000 in
set_option maxRecDepth 100000 in
theorem s_absorb (p : Program) (l : Launch) (e : Env) (s : State) (m : MethodId) (args : Array Value) (below : List Frame) (meth : Method) (c : Code) (Q : State → Prop) (D : va_G) (ca : Nat → ClassId) (s0 : State) (a0 : Array Value) (A : Nat → Prop) (S : CallFix p m c cL_law 8 s args lw_good RL) (Z : Wd a0 s0) (zt : Nat → Nat) (Zs : ZS zt s0) (hl0 : l.stackTraces = false) (sx : Nat → Nat) (Xs : XS sx s0) (Xn : XN s0) (b Ls : Nat) (xs : Nat → Int32) (hXX : va_X b Ls xs s s.heap) (hbl : b < s.heap.size) (hbA : ¬ A b) (hLs : Ls ≤ 2560) (t ce so : Nat) (ht5 : 5 * t + 5 ≤ Ls) (hce : ce ≤ 1000) (hso : so ≤ 30000) (d : Nat) (g : Nat → Nat) (sf : Nat → Option Nat) (rb : Nat → Nat) (sa sl : Nat → Nat) (h0 : Nat) (q : Nat → Nat) (o : Nat) (R : Nat → Rw) (rf : Nat → Nat → Int32) (Y : Nat → Sp) (Lf : Nat → Nat → Int64) (z4 z5 : Nat → Int32) (th : Int32) (F : MFn) (fo : Nat → Int64) (G : Good sf sa R rf Y Lf F) (H : Heap) (locs : List Loc) (ls : Array Slot) (C : Cx D ca s0 A s (LY ca d g sf rb R rf sa sl 0 1 2 3 Y Lf z4 z5 h0 q th (nI (R 0).2) F o fo) H locs) (hl : lv_has ls 8 [(4, .int (nI (5 * t))), (0, .ref (b)), (1, .ref (d)), (2, .ref (h0)), (3, .ref (o))]) (kk : ∀ (R : Nat → Rw) (rf : Nat → Nat → Int32) (Y : Nat → Sp) (Lf : Nat → Nat → Int64) (z4 z5 : Nat → Int32) (th : Int32) (F : MFn) (fo : Nat → Int64) (H : Heap) (locs : List Loc) (ls : Array Slot), Good sf sa R rf Y Lf F → Cx D ca s0 A s (LY ca d g sf rb R rf sa sl 0 1 2 3 Y Lf z4 z5 h0 q th (nI (R 0).2) F o fo) H locs → lv_has ls 8 [(4, .int (nI (5 * t))), (0, .ref (b)), (1, .ref (d)), (2, .ref (h0)), (3, .ref (o))] → W p l e room_1 s m args below meth c H locs (ce + 1) (so + 6) Q (F0 m 847 ls [])) : W p l e room_1 s m args below meth c H locs ce so Q (F0 m 317 ls []) := by
  rcases idx_c (xs (5 * t + 1)) with hno | ⟨i, hi, e1⟩
  · exact o_absorb_no1 p l e s m args below meth c Q D ca s0 a0 A S Z zt Zs hl0 sx Xs Xn b Ls xs hXX hbl hbA hLs t ce so ht5 hce hso d g sf rb R rf sa sl 0 1 2 3 (Y 0) (Y 1) (Y 2) (Y 3) (Lf 0) (Lf 1) (Lf 2) (Lf 3) z4 z5 (Lf 4) (Lf 5) h0 q th F o fo G.1 G.2.1 G.2.2.1 hno H locs ls C hl (fun H locs ls C hl => kk R rf Y Lf z4 z5 _ F _ H locs ls G C hl)
  · obtain ⟨ia, ib, ic, pk, pu⟩ := pick1 D ca s0 A s d g sf rb sa sl h0 q o hi
    have G0 := G
    obtain ⟨hs, hL, hS, hO⟩ := G.2.2.2 i hi
    replace C := pk R rf Y Lf z4 z5 th _ F fo H locs C
    rcases hy : Y i with ⟨c0, k, en, tk, dn, rm⟩
    rw [hy] at C hL hS hO
    obtain ⟨hk, hen, hp0, hp1, hro⟩ := hO
    replace hk : k < 16 := hk
    replace hp0 : c0.2 ≤ wid k := hp0
    cases dn
    · exact o_absorb_ok p l e s m args below meth c Q D ca s0 a0 A S Z zt Zs hl0 sx Xs Xn b Ls xs hXX hbl hbA hLs t ce so ht5 hce hso d g sf rb R rf sa sl i ia ib ic (Y ia) (Y ib) (Y ic) (Lf i) (Lf ia) (Lf ib) (Lf ic) z4 z5 (Lf 4) (Lf 5) h0 q th F o fo G.1 G.2.1 G.2.2.1 c0 k en tk rm hi hs hL hS hk hen hp0 hro e1 (hp1 rfl) H locs ls C hl (fun M1 u1 H locs ls w1 m1 C hl => kk R rf (upY Y i (tapC (wid k) k c0 (R 0).1 (R 0).2, k, en, tk + nI (R 0).2, false, rm)) (upL Lf i M1) z4 z5 _ (hiF F u1) _ H locs ls (G.sp (F2 := (hiF F u1)) hi rfl rfl rfl m1 w1 ⟨hk, hen, Nat.le_of_lt (tapC_lt _ (hp1 rfl)), fun _ => tapC_lt _ (hp1 rfl), hro⟩) (pu R rf Y Lf z4 z5 _ _ _ _ H locs _ _ C) hl)
    · exact o_absorb_no2 p l e s m args below meth c Q D ca s0 a0 A S Z zt Zs hl0 sx Xs Xn b Ls xs hXX hbl hbA hLs t ce so ht5 hce hso d g sf rb R rf sa sl i ia ib ic (Y ia) (Y ib) (Y ic) (Lf i) (Lf ia) (Lf ib) (Lf ic) z4 z5 (Lf 4) (Lf 5) h0 q th F o fo G.1 G.2.1 G.2.2.1 c0 k en tk rm hi hs hL hS hk hen hp0 hro e1 H locs ls C hl (fun H locs ls C hl => kk R rf (upY Y i (Y i)) (upL Lf i (Lf i)) z4 z5 _ F _ H locs ls (by rw [upY_id, upL_id]; exact G) (pu R rf Y Lf z4 z5 _ _ F _ H locs _ _ (by rw [hy]; exact C)) hl)
set_option maxHeartbeats 4000000 in
set_option maxRecDepth 100000 in
theorem s_bytes (p : Program) (l : Launch) (e : Env) (s : State) (m : MethodId) (args : Array Value) (below : List Frame) (meth : Method) (c : Code) (Q : State → Prop) (D : va_G) (ca : Nat → ClassId) (s0 : State) (a0 : Array Value) (A : Nat → Prop) (S : CallFix p m c cL_law 8 s args lw_good RL) (Z : Wd a0 s0) (zt : Nat → Nat) (Zs : ZS zt s0) (hl0 : l.stackTraces = false) (sx : Nat → Nat) (Xs : XS sx s0) (Xn : XN s0) (b Ls : Nat) (xs : Nat → Int32) (hXX : va_X b Ls xs s s.heap) (hbl : b < s.heap.size) (hbA : ¬ A b) (hLs : Ls ≤ 2560) (t ce so : Nat) (ht5 : 5 * t + 5 ≤ Ls) (hce : ce ≤ 1000) (hso : so ≤ 30000) (d : Nat) (g : Nat → Nat) (sf : Nat → Option Nat) (rb : Nat → Nat) (sa sl : Nat → Nat) (h0 : Nat) (q : Nat → Nat) (o : Nat) (R : Nat → Rw) (rf : Nat → Nat → Int32) (Y : Nat → Sp) (Lf : Nat → Nat → Int64) (z4 z5 : Nat → Int32) (th : Int32) (F : MFn) (fo : Nat → Int64) (G : Good sf sa R rf Y Lf F) (H : Heap) (locs : List Loc) (ls : Array Slot) (C : Cx D ca s0 A s (LY ca d g sf rb R rf sa sl 0 1 2 3 Y Lf z4 z5 h0 q th (nI (R 0).2) F o fo) H locs) (hl : lv_has ls 8 [(4, .int (nI (5 * t))), (0, .ref (b)), (1, .ref (d)), (2, .ref (h0)), (3, .ref (o))]) (kk : ∀ (R : Nat → Rw) (rf : Nat → Nat → Int32) (Y : Nat → Sp) (Lf : Nat → Nat → Int64) (z4 z5 : Nat → Int32) (th : Int32) (F : MFn) (fo : Nat → Int64) (H : Heap) (locs : List Loc) (ls : Array Slot), Good sf sa R rf Y Lf F → Cx D ca s0 A s (LY ca d g sf rb R rf sa sl 0 1 2 3 Y Lf z4 z5 h0 q th (nI (R 0).2) F o fo) H locs → lv_has ls 8 [(4, .int (nI (5 * t))), (0, .ref (b)), (1, .ref (d)), (2, .ref (h0)), (3, .ref (o))] → W p l e room_1 s m args below meth c H locs (ce + 1) (so + 6) Q (F0 m 847 ls [])) : W p l e room_1 s m args below meth c H locs ce so Q (F0 m 373 ls []) := by
  rcases idx_c (xs (5 * t + 1)) with hno | ⟨i, hi, e1⟩
  · exact o_bytes_no1 p l e s m args below meth c Q D ca s0 a0 A S Z zt Zs hl0 sx Xs Xn b Ls xs hXX hbl hbA hLs t ce so ht5 hce hso d g sf rb R rf sa sl 0 1 2 3 (Y 0) (Y 1) (Y 2) (Y 3) (Lf 0) (Lf 1) (Lf 2) (Lf 3) z4 z5 (Lf 4) (Lf 5) h0 q th F o fo G.1 G.2.1 G.2.2.1 hno H locs ls C hl (fun H locs ls C hl => kk R rf Y Lf z4 z5 _ F _ H locs ls G C hl)
  · obtain ⟨ia, ib, ic, pk, pu⟩ := pick1 D ca s0 A s d g sf rb sa sl h0 q o hi
    have G0 := G
    obtain ⟨hs, hL, hS, hO⟩ := G.2.2.2 i hi
    replace C := pk R rf Y Lf z4 z5 th _ F fo H locs C
    rcases hy : Y i with ⟨c0, k, en, tk, dn, rm⟩
    rw [hy] at C hL hS hO
    obtain ⟨hk, hen, hp0, hp1, hro⟩ := hO
    replace hk : k < 16 := hk
    replace hp0 : c0.2 ≤ wid k := hp0
    rcases rng_c (xs (5 * t + 2)) 8 (by decide) with hr | ⟨n, hn1, hn8, e2⟩
    · exact o_bytes_no2 p l e s m args below meth c Q D ca s0 a0 A S Z zt Zs hl0 sx Xs Xn b Ls xs hXX hbl hbA hLs t ce so ht5 hce hso d g sf rb R rf sa sl i ia ib ic (Y ia) (Y ib) (Y ic) (Lf i) (Lf ia) (Lf ib) (Lf ic) z4 z5 (Lf 4) (Lf 5) h0 q th F o fo G.1 G.2.1 G.2.2.1 c0 k en tk dn rm hi hs hL hS hk hen hp0 hro e1 hr H locs ls C hl (fun H locs ls C hl => kk R rf (upY Y i (Y i)) (upL Lf i (Lf i)) z4 z5 _ F _ H locs ls (by rw [upY_id, upL_id]; exact G) (pu R rf Y Lf z4 z5 _ _ F _ H locs _ _ (by rw [hy]; exact C)) hl)
    · by_cases hb : dn = true ∨ 11 < k
      · exact o_bytes_no3 p l e s m args below meth c Q D ca s0 a0 A S Z zt Zs hl0 sx Xs Xn b Ls xs hXX hbl hbA hLs t ce so ht5 hce hso d g sf rb R rf sa sl i ia ib ic (Y ia) (Y ib) (Y ic) (Lf i) (Lf ia) (Lf ib) (Lf ic) z4 z5 (Lf 4) (Lf 5) h0 q th F o fo G.1 G.2.1 G.2.2.1 c0 k en tk dn rm hi hs hL hS hk hen hp0 hro e1 n hn1 hn8 e2 hb H locs ls C hl (fun H locs ls C hl => kk R rf (upY Y i (Y i)) (upL Lf i (Lf i)) z4 z5 _ F _ H locs ls (by rw [upY_id, upL_id]; exact G) (pu R rf Y Lf z4 z5 _ _ F _ H locs _ _ (by rw [hy]; exact C)) hl)
      · have hd : dn = false := by cases dn; rfl; exact absurd (Or.inl rfl) hb
        have h12 : k < 12 := Nat.not_le.mp (fun h => hb (Or.inr h))
        subst hd
        exact o_bytes_ok p l e s m args below meth c Q D ca s0 a0 A S Z zt Zs hl0 sx Xs Xn b Ls xs hXX hbl hbA hLs t ce so ht5 hce hso d g sf rb R rf sa sl i ia ib ic (Y ia) (Y ib) (Y ic) (Lf i) (Lf ia) (Lf ib) (Lf ic) z4 z5 (Lf 4) (Lf 5) h0 q th F o fo G.1 G.2.1 G.2.2.1 c0 k en tk rm hi hs hL hS hk hen hp0 hro e1 (hp1 rfl) h12 n hn1 hn8 e2 H locs ls C hl (fun M1 u1 H locs ls w1 m1 C hl => kk R rf (upY Y i (takeR (wid k) c0 (byAt (lv2 (xs (5 * t + 3)) (xs (5 * t + 4)))) n, k, en, tk + nI n, false, rm)) (upL Lf i M1) z4 z5 _ (hiF F u1) _ H locs ls (G.sp (F2 := (hiF F u1)) hi rfl rfl rfl m1 w1 ⟨hk, hen, Nat.le_of_lt (takeR_lt _ (hp1 rfl) _), fun _ => takeR_lt _ (hp1 rfl) _, hro⟩) (pu R rf Y Lf z4 z5 _ _ _ _ H locs _ _ C) hl)
set_option maxHeartbeats 4000000 in
set_option maxRecDepth 100000 in
theorem s_end (p : Program) (l : Launch) (e : Env) (s : State) (m : MethodId) (args : Array Value) (below : List Frame) (meth : Method) (c : Code) (Q : State → Prop) (D : va_G) (ca : Nat → ClassId) (s0 : State) (a0 : Array Value) (A : Nat → Prop) (S : CallFix p m c cL_law 8 s args lw_good RL) (Z : Wd a0 s0) (zt : Nat → Nat) (Zs : ZS zt s0) (hl0 : l.stackTraces = false) (sx : Nat → Nat) (Xs : XS sx s0) (Xn : XN s0) (b Ls : Nat) (xs : Nat → Int32) (hXX : va_X b Ls xs s s.heap) (hbl : b < s.heap.size) (hbA : ¬ A b) (hLs : Ls ≤ 2560) (t ce so : Nat) (ht5 : 5 * t + 5 ≤ Ls) (hce : ce ≤ 1000) (hso : so ≤ 30000) (d : Nat) (g : Nat → Nat) (sf : Nat → Option Nat) (rb : Nat → Nat) (sa sl : Nat → Nat) (h0 : Nat) (q : Nat → Nat) (o : Nat) (R : Nat → Rw) (rf : Nat → Nat → Int32) (Y : Nat → Sp) (Lf : Nat → Nat → Int64) (z4 z5 : Nat → Int32) (th : Int32) (F : MFn) (fo : Nat → Int64) (G : Good sf sa R rf Y Lf F) (H : Heap) (locs : List Loc) (ls : Array Slot) (C : Cx D ca s0 A s (LY ca d g sf rb R rf sa sl 0 1 2 3 Y Lf z4 z5 h0 q th (nI (R 0).2) F o fo) H locs) (hl : lv_has ls 8 [(4, .int (nI (5 * t))), (0, .ref (b)), (1, .ref (d)), (2, .ref (h0)), (3, .ref (o))]) (kk : ∀ (R : Nat → Rw) (rf : Nat → Nat → Int32) (Y : Nat → Sp) (Lf : Nat → Nat → Int64) (z4 z5 : Nat → Int32) (th : Int32) (F : MFn) (fo : Nat → Int64) (H : Heap) (locs : List Loc) (ls : Array Slot), Good sf sa R rf Y Lf F → Cx D ca s0 A s (LY ca d g sf rb R rf sa sl 0 1 2 3 Y Lf z4 z5 h0 q th (nI (R 0).2) F o fo) H locs → lv_has ls 8 [(4, .int (nI (5 * t))), (0, .ref (b)), (1, .ref (d)), (2, .ref (h0)), (3, .ref (o))] → W p l e room_1 s m args below meth c H locs (ce + 1) (so + 6) Q (F0 m 847 ls [])) : W p l e room_1 s m args below meth c H locs ce so Q (F0 m 485 ls []) := by
  rcases idx_c (xs (5 * t + 1)) with hno | ⟨i, hi, e1⟩
  · exact o_end_no1 p l e s m args below meth c Q D ca s0 a0 A S Z zt Zs hl0 sx Xs Xn b Ls xs hXX hbl hbA hLs t ce so ht5 hce hso d g sf rb R rf sa sl 0 1 2 3 (Y 0) (Y 1) (Y 2) (Y 3) (Lf 0) (Lf 1) (Lf 2) (Lf 3) z4 z5 (Lf 4) (Lf 5) h0 q th F o fo G.1 G.2.1 G.2.2.1 hno H locs ls C hl (fun H locs ls C hl => kk R rf Y Lf z4 z5 _ F _ H locs ls G C hl)
  · obtain ⟨ia, ib, ic, pk, pu⟩ := pick1 D ca s0 A s d g sf rb sa sl h0 q o hi
    have G0 := G
    obtain ⟨hs, hL, hS, hO⟩ := G.2.2.2 i hi
    replace C := pk R rf Y Lf z4 z5 th _ F fo H locs C
    rcases hy : Y i with ⟨c0, k, en, tk, dn, rm⟩
    rw [hy] at C hL hS hO
    obtain ⟨hk, hen, hp0, hp1, hro⟩ := hO
    replace hk : k < 16 := hk
    replace hp0 : c0.2 ≤ wid k := hp0
    rcases len_c k (xs (5 * t + 2)) with hq | ⟨len, hlen, hq, e2⟩
    · exact o_end_no2 p l e s m args below meth c Q D ca s0 a0 A S Z zt Zs hl0 sx Xs Xn b Ls xs hXX hbl hbA hLs t ce so ht5 hce hso d g sf rb R rf sa sl i ia ib ic (Y ia) (Y ib) (Y ic) (Lf i) (Lf ia) (Lf ib) (Lf ic) z4 z5 (Lf 4) (Lf 5) h0 q th F o fo G.1 G.2.1 G.2.2.1 c0 k en tk dn rm hi hs hL hS hk hen hp0 hro e1 hq H locs ls C hl (fun H locs ls C hl => kk R rf (upY Y i (Y i)) (upL Lf i (Lf i)) z4 z5 _ F _ H locs ls (by rw [upY_id, upL_id]; exact G) (pu R rf Y Lf z4 z5 _ _ F _ H locs _ _ (by rw [hy]; exact C)) hl)
    · cases dn
      · exact o_end_ok p l e s m args below meth c Q D ca s0 a0 A S Z zt Zs hl0 sx Xs Xn b Ls xs hXX hbl hbA hLs t ce so ht5 hce hso d g sf rb R rf sa sl i ia ib ic (Y ia) (Y ib) (Y ic) (Lf i) (Lf ia) (Lf ib) (Lf ic) z4 z5 (Lf 4) (Lf 5) h0 q th F o fo G.1 G.2.1 G.2.2.1 c0 k en tk rm hi hs hL hS hk hen hp0 hro e1 (hp1 rfl) len hlen hq e2 H locs ls C hl (fun M1 u1 H locs ls w1 m1 C hl => kk R rf (upY Y i ((finA (wid k) k c0 len en, 0), k, en, tk, true, (if len = 0 then -1 else nI len))) (upL Lf i M1) z4 z5 _ (hiF F u1) _ H locs ls (G.sp (F2 := (hiF F u1)) hi rfl rfl rfl m1 w1 ⟨hk, hen, Nat.zero_le _, fun h => Bool.noConfusion h, endR hlen⟩) (pu R rf Y Lf z4 z5 _ _ _ _ H locs _ _ C) hl)
      · exact o_end_no3 p l e s m args below meth c Q D ca s0 a0 A S Z zt Zs hl0 sx Xs Xn b Ls xs hXX hbl hbA hLs t ce so ht5 hce hso d g sf rb R rf sa sl i ia ib ic (Y ia) (Y ib) (Y ic) (Lf i) (Lf ia) (Lf ib) (Lf ic) z4 z5 (Lf 4) (Lf 5) h0 q th F o fo G.1 G.2.1 G.2.2.1 c0 k en tk rm hi hs hL hS hk hen hp0 hro e1 len hlen hq e2 H locs ls C hl (fun H locs ls C hl => kk R rf (upY Y i (Y i)) (upL Lf i (Lf i)) z4 z5 _ F _ H locs ls (by rw [upY_id, upL_id]; exact G) (pu R rf Y Lf z4 z5 _ _ F _ H locs _ _ (by rw [hy]; exact C)) hl)
set_option maxHeartbeats 4000000 in
set_option maxRecDepth 100000 in
theorem s_squeeze (p : Program) (l : Launch) (e : Env) (s : State) (m : MethodId) (args : Array Value) (below : List Frame) (meth : Method) (c : Code) (Q : State → Prop) (D : va_G) (ca : Nat → ClassId) (s0 : State) (a0 : Array Value) (A : Nat → Prop) (S : CallFix p m c cL_law 8 s args lw_good RL) (Z : Wd a0 s0) (zt : Nat → Nat) (Zs : ZS zt s0) (hl0 : l.stackTraces = false) (sx : Nat → Nat) (Xs : XS sx s0) (Xn : XN s0) (b Ls : Nat) (xs : Nat → Int32) (hXX : va_X b Ls xs s s.heap) (hbl : b < s.heap.size) (hbA : ¬ A b) (hLs : Ls ≤ 2560) (t ce so : Nat) (ht5 : 5 * t + 5 ≤ Ls) (hce : ce ≤ 1000) (hso : so ≤ 30000) (d : Nat) (g : Nat → Nat) (sf : Nat → Option Nat) (rb : Nat → Nat) (sa sl : Nat → Nat) (h0 : Nat) (q : Nat → Nat) (o : Nat) (R : Nat → Rw) (rf : Nat → Nat → Int32) (Y : Nat → Sp) (Lf : Nat → Nat → Int64) (z4 z5 : Nat → Int32) (th : Int32) (F : MFn) (fo : Nat → Int64) (G : Good sf sa R rf Y Lf F) (H : Heap) (locs : List Loc) (ls : Array Slot) (C : Cx D ca s0 A s (LY ca d g sf rb R rf sa sl 0 1 2 3 Y Lf z4 z5 h0 q th (nI (R 0).2) F o fo) H locs) (hl : lv_has ls 8 [(4, .int (nI (5 * t))), (0, .ref (b)), (1, .ref (d)), (2, .ref (h0)), (3, .ref (o))]) (kk : ∀ (R : Nat → Rw) (rf : Nat → Nat → Int32) (Y : Nat → Sp) (Lf : Nat → Nat → Int64) (z4 z5 : Nat → Int32) (th : Int32) (F : MFn) (fo : Nat → Int64) (H : Heap) (locs : List Loc) (ls : Array Slot), Good sf sa R rf Y Lf F → Cx D ca s0 A s (LY ca d g sf rb R rf sa sl 0 1 2 3 Y Lf z4 z5 h0 q th (nI (R 0).2) F o fo) H locs → lv_has ls 8 [(4, .int (nI (5 * t))), (0, .ref (b)), (1, .ref (d)), (2, .ref (h0)), (3, .ref (o))] → W p l e room_1 s m args below meth c H locs (ce + 1) (so + 6) Q (F0 m 847 ls [])) : W p l e room_1 s m args below meth c H locs ce so Q (F0 m 533 ls []) := by
  rcases idx_c (xs (5 * t + 1)) with hno | ⟨i, hi, e1⟩
  · exact o_squeeze_no1 p l e s m args below meth c Q D ca s0 a0 A S Z zt Zs hl0 sx Xs Xn b Ls xs hXX hbl hbA hLs t ce so ht5 hce hso d g sf rb R rf sa sl 0 1 2 3 (Y 0) (Y 1) (Y 2) (Y 3) (Lf 0) (Lf 1) (Lf 2) (Lf 3) z4 z5 (Lf 4) (Lf 5) h0 q th F o fo G.1 G.2.1 G.2.2.1 hno H locs ls C hl (fun H locs ls C hl => kk R rf Y Lf z4 z5 _ F _ H locs ls G C hl)
  · obtain ⟨ia, ib, ic, pk, pu⟩ := pick1 D ca s0 A s d g sf rb sa sl h0 q o hi
    have G0 := G
    obtain ⟨hs, hL, hS, hO⟩ := G.2.2.2 i hi
    replace C := pk R rf Y Lf z4 z5 th _ F fo H locs C
    rcases hy : Y i with ⟨c0, k, en, tk, dn, rm⟩
    rw [hy] at C hL hS hO
    obtain ⟨hk, hen, hp0, hp1, hro⟩ := hO
    replace hk : k < 16 := hk
    replace hp0 : c0.2 ≤ wid k := hp0
    rcases rng_c (xs (5 * t + 2)) 8 (by decide) with hr | ⟨n, hn1, hn8, e2⟩
    · exact o_squeeze_no2 p l e s m args below meth c Q D ca s0 a0 A S Z zt Zs hl0 sx Xs Xn b Ls xs hXX hbl hbA hLs t ce so ht5 hce hso d g sf rb R rf sa sl i ia ib ic (Y ia) (Y ib) (Y ic) (Lf i) (Lf ia) (Lf ib) (Lf ic) z4 z5 (Lf 4) (Lf 5) h0 q th F o fo G.1 G.2.1 G.2.2.1 c0 k en tk dn rm hi hs hL hS hk hen hp0 hro e1 hr H locs ls C hl (fun H locs ls C hl => kk R rf (upY Y i (Y i)) (upL Lf i (Lf i)) z4 z5 _ F _ H locs ls (by rw [upY_id, upL_id]; exact G) (pu R rf Y Lf z4 z5 _ _ F _ H locs _ _ (by rw [hy]; exact C)) hl)
    · cases hcg : canG dn rm (nI n)
      · exact o_squeeze_no3 p l e s m args below meth c Q D ca s0 a0 A S Z zt Zs hl0 sx Xs Xn b Ls xs hXX hbl hbA hLs t ce so ht5 hce hso d g sf rb R rf sa sl i ia ib ic (Y ia) (Y ib) (Y ic) (Lf i) (Lf ia) (Lf ib) (Lf ic) z4 z5 (Lf 4) (Lf 5) h0 q th F o fo G.1 G.2.1 G.2.2.1 c0 k en tk dn rm hi hs hL hS hk hen hp0 hro e1 n hn1 hn8 e2 hcg H locs ls C hl (fun H locs ls C hl => kk R rf (upY Y i (Y i)) (upL Lf i (Lf i)) z4 z5 _ F _ H locs ls (by rw [upY_id, upL_id]; exact G) (pu R rf Y Lf z4 z5 _ _ F _ H locs _ _ (by rw [hy]; exact C)) hl)
      · have hd : dn = true := (Bool.and_eq_true_iff.mp hcg).1
        subst hd
        exact o_squeeze_ok p l e s m args below meth c Q D ca s0 a0 A S Z zt Zs hl0 sx Xs Xn b Ls xs hXX hbl hbA hLs t ce so ht5 hce hso d g sf rb R rf sa sl i ia ib ic (Y ia) (Y ib) (Y ic) (Lf i) (Lf ia) (Lf ib) (Lf ic) z4 z5 (Lf 4) (Lf 5) h0 q th F o fo G.1 G.2.1 G.2.2.1 c0 k en tk rm hi hs hL hS hk hen hp0 hro e1 n hn1 hn8 e2 hcg H locs ls C hl (fun M1 u1 H locs ls w1 m1 C hl => kk R rf (upY Y i (sqC (wid k) c0 n, k, en, tk, true, lefI rm n)) (upL Lf i M1) z4 z5 _ (hiF F u1) _ H locs ls (G.sp (F2 := (hiF F u1)) hi rfl rfl rfl m1 w1 ⟨hk, hen, sqC_le hp0 (by have := wid_in k hk; omega) n, fun h => Bool.noConfusion h, lefI_ok hro hcg (by omega)⟩) (pu R rf Y Lf z4 z5 _ _ _ _ H locs _ _ C) hl)
set_option maxHeartbeats 4000000 in
set_option maxRecDepth 100000 in
theorem s_left (p : Program) (l : Launch) (e : Env) (s : State) (m : MethodId) (args : Array Value) (below : List Frame) (meth : Method) (c : Code) (Q : State → Prop) (D : va_G) (ca : Nat → ClassId) (s0 : State) (a0 : Array Value) (A : Nat → Prop) (S : CallFix p m c cL_law 8 s args lw_good RL) (Z : Wd a0 s0) (zt : Nat → Nat) (Zs : ZS zt s0) (hl0 : l.stackTraces = false) (sx : Nat → Nat) (Xs : XS sx s0) (Xn : XN s0) (b Ls : Nat) (xs : Nat → Int32) (hXX : va_X b Ls xs s s.heap) (hbl : b < s.heap.size) (hbA : ¬ A b) (hLs : Ls ≤ 2560) (t ce so : Nat) (ht5 : 5 * t + 5 ≤ Ls) (hce : ce ≤ 1000) (hso : so ≤ 30000) (d : Nat) (g : Nat → Nat) (sf : Nat → Option Nat) (rb : Nat → Nat) (sa sl : Nat → Nat) (h0 : Nat) (q : Nat → Nat) (o : Nat) (R : Nat → Rw) (rf : Nat → Nat → Int32) (Y : Nat → Sp) (Lf : Nat → Nat → Int64) (z4 z5 : Nat → Int32) (th : Int32) (F : MFn) (fo : Nat → Int64) (G : Good sf sa R rf Y Lf F) (H : Heap) (locs : List Loc) (ls : Array Slot) (C : Cx D ca s0 A s (LY ca d g sf rb R rf sa sl 0 1 2 3 Y Lf z4 z5 h0 q th (nI (R 0).2) F o fo) H locs) (hl : lv_has ls 8 [(4, .int (nI (5 * t))), (0, .ref (b)), (1, .ref (d)), (2, .ref (h0)), (3, .ref (o))]) (kk : ∀ (R : Nat → Rw) (rf : Nat → Nat → Int32) (Y : Nat → Sp) (Lf : Nat → Nat → Int64) (z4 z5 : Nat → Int32) (th : Int32) (F : MFn) (fo : Nat → Int64) (H : Heap) (locs : List Loc) (ls : Array Slot), Good sf sa R rf Y Lf F → Cx D ca s0 A s (LY ca d g sf rb R rf sa sl 0 1 2 3 Y Lf z4 z5 h0 q th (nI (R 0).2) F o fo) H locs → lv_has ls 8 [(4, .int (nI (5 * t))), (0, .ref (b)), (1, .ref (d)), (2, .ref (h0)), (3, .ref (o))] → W p l e room_1 s m args below meth c H locs (ce + 1) (so + 6) Q (F0 m 847 ls [])) : W p l e room_1 s m args below meth c H locs ce so Q (F0 m 600 ls []) := by
  rcases idx_c (xs (5 * t + 1)) with hno | ⟨i, hi, e1⟩
  · exact o_left_no p l e s m args below meth c Q D ca s0 a0 A S Z zt Zs hl0 sx Xs Xn b Ls xs hXX hbl hbA hLs t ce so ht5 hce hso d g sf rb R rf sa sl 0 1 2 3 (Y 0) (Y 1) (Y 2) (Y 3) (Lf 0) (Lf 1) (Lf 2) (Lf 3) z4 z5 (Lf 4) (Lf 5) h0 q th F o fo G.1 G.2.1 G.2.2.1 hno H locs ls C hl (fun H locs ls C hl => kk R rf Y Lf z4 z5 _ F _ H locs ls G C hl)
  · obtain ⟨ia, ib, ic, pk, pu⟩ := pick1 D ca s0 A s d g sf rb sa sl h0 q o hi
    have G0 := G
    obtain ⟨hs, hL, hS, hO⟩ := G.2.2.2 i hi
    replace C := pk R rf Y Lf z4 z5 th _ F fo H locs C
    rcases hy : Y i with ⟨c0, k, en, tk, dn, rm⟩
    rw [hy] at C hL hS hO
    obtain ⟨hk, hen, hp0, hp1, hro⟩ := hO
    replace hk : k < 16 := hk
    replace hp0 : c0.2 ≤ wid k := hp0
    exact o_left_ok p l e s m args below meth c Q D ca s0 a0 A S Z zt Zs hl0 sx Xs Xn b Ls xs hXX hbl hbA hLs t ce so ht5 hce hso d g sf rb R rf sa sl i ia ib ic (Y ia) (Y ib) (Y ic) (Lf i) (Lf ia) (Lf ib) (Lf ic) z4 z5 (Lf 4) (Lf 5) h0 q th F o fo G.1 G.2.1 G.2.2.1 c0 k en tk dn rm hi hs hL hS hk hen hp0 hro e1 H locs ls C hl (fun H locs ls C hl => kk R rf (upY Y i (Y i)) (upL Lf i (Lf i)) z4 z5 _ F _ H locs ls (by rw [upY_id, upL_id]; exact G) (pu R rf Y Lf z4 z5 _ _ F _ H locs _ _ (by rw [hy]; exact C)) hl)
set_option maxHeartbeats 4000000 in
set_option maxRecDepth 100000 in
theorem s_kind (p : Program) (l : Launch) (e : Env) (s : State) (m : MethodId) (args : Array Value) (below : List Frame) (meth : Method) (c : Code) (Q : State → Prop) (D : va_G) (ca : Nat → ClassId) (s0 : State) (a0 : Array Value) (A : Nat → Prop) (S : CallFix p m c cL_law 8 s args lw_good RL) (Z : Wd a0 s0) (zt : Nat → Nat) (Zs : ZS zt s0) (hl0 : l.stackTraces = false) (sx : Nat → Nat) (Xs : XS sx s0) (Xn : XN s0) (b Ls : Nat) (xs : Nat → Int32) (hXX : va_X b Ls xs s s.heap) (hbl : b < s.heap.size) (hbA : ¬ A b) (hLs : Ls ≤ 2560) (t ce so : Nat) (ht5 : 5 * t + 5 ≤ Ls) (hce : ce ≤ 1000) (hso : so ≤ 30000) (d : Nat) (g : Nat → Nat) (sf : Nat → Option Nat) (rb : Nat → Nat) (sa sl : Nat → Nat) (h0 : Nat) (q : Nat → Nat) (o : Nat) (R : Nat → Rw) (rf : Nat → Nat → Int32) (Y : Nat → Sp) (Lf : Nat → Nat → Int64) (z4 z5 : Nat → Int32) (th : Int32) (F : MFn) (fo : Nat → Int64) (G : Good sf sa R rf Y Lf F) (H : Heap) (locs : List Loc) (ls : Array Slot) (C : Cx D ca s0 A s (LY ca d g sf rb R rf sa sl 0 1 2 3 Y Lf z4 z5 h0 q th (nI (R 0).2) F o fo) H locs) (hl : lv_has ls 8 [(4, .int (nI (5 * t))), (0, .ref (b)), (1, .ref (d)), (2, .ref (h0)), (3, .ref (o))]) (kk : ∀ (R : Nat → Rw) (rf : Nat → Nat → Int32) (Y : Nat → Sp) (Lf : Nat → Nat → Int64) (z4 z5 : Nat → Int32) (th : Int32) (F : MFn) (fo : Nat → Int64) (H : Heap) (locs : List Loc) (ls : Array Slot), Good sf sa R rf Y Lf F → Cx D ca s0 A s (LY ca d g sf rb R rf sa sl 0 1 2 3 Y Lf z4 z5 h0 q th (nI (R 0).2) F o fo) H locs → lv_has ls 8 [(4, .int (nI (5 * t))), (0, .ref (b)), (1, .ref (d)), (2, .ref (h0)), (3, .ref (o))] → W p l e room_1 s m args below meth c H locs (ce + 1) (so + 6) Q (F0 m 847 ls [])) : W p l e room_1 s m args below meth c H locs ce so Q (F0 m 704 ls []) := by
  rcases idx_c (xs (5 * t + 1)) with hno | ⟨i, hi, e1⟩
  · exact o_kind_no p l e s m args below meth c Q D ca s0 a0 A S Z zt Zs hl0 sx Xs Xn b Ls xs hXX hbl hbA hLs t ce so ht5 hce hso d g sf rb R rf sa sl 0 1 2 3 (Y 0) (Y 1) (Y 2) (Y 3) (Lf 0) (Lf 1) (Lf 2) (Lf 3) z4 z5 (Lf 4) (Lf 5) h0 q th F o fo G.1 G.2.1 G.2.2.1 hno H locs ls C hl (fun H locs ls C hl => kk R rf Y Lf z4 z5 _ F _ H locs ls G C hl)
  · obtain ⟨ia, ib, ic, pk, pu⟩ := pick1 D ca s0 A s d g sf rb sa sl h0 q o hi
    have G0 := G
    obtain ⟨hs, hL, hS, hO⟩ := G.2.2.2 i hi
    replace C := pk R rf Y Lf z4 z5 th _ F fo H locs C
    rcases hy : Y i with ⟨c0, k, en, tk, dn, rm⟩
    rw [hy] at C hL hS hO
    obtain ⟨hk, hen, hp0, hp1, hro⟩ := hO
    replace hk : k < 16 := hk
    replace hp0 : c0.2 ≤ wid k := hp0
    exact o_kind_ok p l e s m args below meth c Q D ca s0 a0 A S Z zt Zs hl0 sx Xs Xn b Ls xs hXX hbl hbA hLs t ce so ht5 hce hso d g sf rb R rf sa sl i ia ib ic (Y ia) (Y ib) (Y ic) (Lf i) (Lf ia) (Lf ib) (Lf ic) z4 z5 (Lf 4) (Lf 5) h0 q th F o fo G.1 G.2.1 G.2.2.1 c0 k en tk dn rm hi hs hL hS hk hen hp0 hro e1 H locs ls C hl (fun H locs ls C hl => kk R rf (upY Y i (Y i)) (upL Lf i (Lf i)) z4 z5 _ F _ H locs ls (by rw [upY_id, upL_id]; exact G) (pu R rf Y Lf z4 z5 _ _ F _ H locs _ _ (by rw [hy]; exact C)) hl)
set_option maxHeartbeats 4000000 in
set_option maxRecDepth 100000 in
theorem s_copy (p : Program) (l : Launch) (e : Env) (s : State) (m : MethodId) (args : Array Value) (below : List Frame) (meth : Method) (c : Code) (Q : State → Prop) (D : va_G) (ca : Nat → ClassId) (s0 : State) (a0 : Array Value) (A : Nat → Prop) (S : CallFix p m c cL_law 8 s args lw_good RL) (Z : Wd a0 s0) (zt : Nat → Nat) (Zs : ZS zt s0) (hl0 : l.stackTraces = false) (sx : Nat → Nat) (Xs : XS sx s0) (Xn : XN s0) (b Ls : Nat) (xs : Nat → Int32) (hXX : va_X b Ls xs s s.heap) (hbl : b < s.heap.size) (hbA : ¬ A b) (hLs : Ls ≤ 2560) (t ce so : Nat) (ht5 : 5 * t + 5 ≤ Ls) (hce : ce ≤ 1000) (hso : so ≤ 30000) (d : Nat) (g : Nat → Nat) (sf : Nat → Option Nat) (rb : Nat → Nat) (sa sl : Nat → Nat) (h0 : Nat) (q : Nat → Nat) (o : Nat) (R : Nat → Rw) (rf : Nat → Nat → Int32) (Y : Nat → Sp) (Lf : Nat → Nat → Int64) (z4 z5 : Nat → Int32) (th : Int32) (F : MFn) (fo : Nat → Int64) (G : Good sf sa R rf Y Lf F) (H : Heap) (locs : List Loc) (ls : Array Slot) (C : Cx D ca s0 A s (LY ca d g sf rb R rf sa sl 0 1 2 3 Y Lf z4 z5 h0 q th (nI (R 0).2) F o fo) H locs) (hl : lv_has ls 8 [(4, .int (nI (5 * t))), (0, .ref (b)), (1, .ref (d)), (2, .ref (h0)), (3, .ref (o))]) (kk : ∀ (R : Nat → Rw) (rf : Nat → Nat → Int32) (Y : Nat → Sp) (Lf : Nat → Nat → Int64) (z4 z5 : Nat → Int32) (th : Int32) (F : MFn) (fo : Nat → Int64) (H : Heap) (locs : List Loc) (ls : Array Slot), Good sf sa R rf Y Lf F → Cx D ca s0 A s (LY ca d g sf rb R rf sa sl 0 1 2 3 Y Lf z4 z5 h0 q th (nI (R 0).2) F o fo) H locs → lv_has ls 8 [(4, .int (nI (5 * t))), (0, .ref (b)), (1, .ref (d)), (2, .ref (h0)), (3, .ref (o))] → W p l e room_1 s m args below meth c H locs (ce + 1) (so + 6) Q (F0 m 847 ls [])) : W p l e room_1 s m args below meth c H locs ce so Q (F0 m 656 ls []) := by
  rcases idx_c (xs (5 * t + 1)) with hno | ⟨i, hi, e1⟩
  · exact o_copy_no1 p l e s m args below meth c Q D ca s0 a0 A S Z zt Zs hl0 sx Xs Xn b Ls xs hXX hbl hbA hLs t ce so ht5 hce hso d g sf rb R rf sa sl 0 1 2 3 (Y 0) (Y 1) (Y 2) (Y 3) (Lf 0) (Lf 1) (Lf 2) (Lf 3) z4 z5 (Lf 4) (Lf 5) h0 q th F o fo G.1 G.2.1 G.2.2.1 hno H locs ls C hl (fun H locs ls C hl => kk R rf Y Lf z4 z5 _ F _ H locs ls G C hl)
  · obtain ⟨hs, hL, hS, hO⟩ := G.2.2.2 i hi
    rcases hy : Y i with ⟨c0, k, en, tk, dn, rm⟩
    rw [hy] at hL hS hO
    obtain ⟨hk, hen, hp0, hp1, hro⟩ := hO
    replace hk : k < 16 := hk
    replace hp0 : c0.2 ≤ wid k := hp0
    rcases idx_c (xs (5 * t + 2)) with hno | ⟨j, hj, e2⟩
    · obtain ⟨ia, ib, ic, pk, pu⟩ := pick1 D ca s0 A s d g sf rb sa sl h0 q o hi
      replace C := pk R rf Y Lf z4 z5 th _ F fo H locs C
      rw [hy] at C
      exact o_copy_no2 p l e s m args below meth c Q D ca s0 a0 A S Z zt Zs hl0 sx Xs Xn b Ls xs hXX hbl hbA hLs t ce so ht5 hce hso d g sf rb R rf sa sl i ia ib ic (Y ia) (Y ib) (Y ic) (Lf i) (Lf ia) (Lf ib) (Lf ic) z4 z5 (Lf 4) (Lf 5) h0 q th F o fo G.1 G.2.1 G.2.2.1 c0 k en tk dn rm hi hs hL hS hk hen hp0 hro e1 hno H locs ls C hl (fun H locs ls C hl => kk R rf (upY Y i (Y i)) (upL Lf i (Lf i)) z4 z5 _ F _ H locs ls (by rw [upY_id, upL_id]; exact G) (pu R rf Y Lf z4 z5 _ _ F _ H locs _ _ (by rw [hy]; exact C)) hl)
    · by_cases hij : i = j
      · subst hij
        obtain ⟨ia, ib, ic, pk, pu⟩ := pick1 D ca s0 A s d g sf rb sa sl h0 q o hi
        replace C := pk R rf Y Lf z4 z5 th _ F fo H locs C
        rw [hy] at C
        exact o_copy_self p l e s m args below meth c Q D ca s0 a0 A S Z zt Zs hl0 sx Xs Xn b Ls xs hXX hbl hbA hLs t ce so ht5 hce hso d g sf rb R rf sa sl i ia ib ic (Y ia) (Y ib) (Y ic) (Lf i) (Lf ia) (Lf ib) (Lf ic) z4 z5 (Lf 4) (Lf 5) h0 q th F o fo G.1 G.2.1 G.2.2.1 c0 k en tk dn rm hi hs hL hS hk hen hp0 hro e1 e2 H locs ls C hl (fun M1 u1 H locs ls w1 m1 C hl => kk R rf (upY Y i (c0, k, en, tk, dn, rm)) (upL Lf i M1) z4 z5 _ (miF F u1) _ H locs ls (G.sp (F2 := miF F u1) hi rfl rfl rfl m1 (w1.tr hL) ⟨hk, hen, hp0, hp1, hro⟩) (pu R rf Y Lf z4 z5 _ _ _ _ H locs _ _ C) hl)
      · replace hij : j ≠ i := fun h => hij h.symm
        obtain ⟨ib, ic, pk, pu⟩ := pick2 D ca s0 A s d g sf rb sa sl h0 q o hi hj hij
        obtain ⟨hs2, hL2, hS2, hO2⟩ := G.2.2.2 j hj
        have hO3 := hO2
        replace C := pk R rf Y Lf z4 z5 th _ F fo H locs C
        rcases hz : Y j with ⟨d0, j0, en2, tk2, dn2, rm2⟩
        rw [hy, hz] at C
        rw [hz] at hL2 hS2 hO2 hO3
        obtain ⟨hj0, hen2, hq0, hq1, hro2⟩ := hO2
        replace hj0 : j0 < 16 := hj0
        replace hq0 : d0.2 ≤ wid j0 := hq0
        exact o_copy_ok p l e s m args below meth c Q D ca s0 a0 A S Z zt Zs hl0 sx Xs Xn b Ls xs hXX hbl hbA hLs t ce so ht5 hce hso d g sf rb R rf sa sl i j ib ic (Y ib) (Y ic) (Lf i) (Lf j) (Lf ib) (Lf ic) z4 z5 (Lf 4) (Lf 5) h0 q th F o fo G.1 G.2.1 G.2.2.1 c0 k en tk dn rm hi hs hL hS hk hen hp0 hro d0 j0 en2 tk2 dn2 rm2 hj hs2 hL2 hS2 hj0 hen2 hq0 hro2 e1 e2 H locs ls C hl (fun M1 u1 H locs ls w1 m1 C hl => kk R rf (upY Y i (d0, j0, en2, tk2, dn2, rm2)) (upL Lf i M1) z4 z5 _ (miF F u1) _ H locs ls (G.sp (F2 := miF F u1) hi rfl rfl rfl m1 (w1.tr hL2) hO3) (pu R rf Y Lf z4 z5 _ _ _ _ H locs _ _ (by rw [hz]; exact C)) hl)
set_option maxHeartbeats 4000000 in
set_option maxRecDepth 100000 in
theorem s_same (p : Program) (l : Launch) (e : Env) (s : State) (m : MethodId) (args : Array Value) (below : List Frame) (meth : Method) (c : Code) (Q : State → Prop) (D : va_G) (ca : Nat → ClassId) (s0 : State) (a0 : Array Value) (A : Nat → Prop) (S : CallFix p m c cL_law 8 s args lw_good RL) (Z : Wd a0 s0) (zt : Nat → Nat) (Zs : ZS zt s0) (hl0 : l.stackTraces = false) (sx : Nat → Nat) (Xs : XS sx s0) (Xn : XN s0) (b Ls : Nat) (xs : Nat → Int32) (hXX : va_X b Ls xs s s.heap) (hbl : b < s.heap.size) (hbA : ¬ A b) (hLs : Ls ≤ 2560) (t ce so : Nat) (ht5 : 5 * t + 5 ≤ Ls) (hce : ce ≤ 1000) (hso : so ≤ 30000) (d : Nat) (g : Nat → Nat) (sf : Nat → Option Nat) (rb : Nat → Nat) (sa sl : Nat → Nat) (h0 : Nat) (q : Nat → Nat) (o : Nat) (R : Nat → Rw) (rf : Nat → Nat → Int32) (Y : Nat → Sp) (Lf : Nat → Nat → Int64) (z4 z5 : Nat → Int32) (th : Int32) (F : MFn) (fo : Nat → Int64) (G : Good sf sa R rf Y Lf F) (H : Heap) (locs : List Loc) (ls : Array Slot) (C : Cx D ca s0 A s (LY ca d g sf rb R rf sa sl 0 1 2 3 Y Lf z4 z5 h0 q th (nI (R 0).2) F o fo) H locs) (hl : lv_has ls 8 [(4, .int (nI (5 * t))), (0, .ref (b)), (1, .ref (d)), (2, .ref (h0)), (3, .ref (o))]) (kk : ∀ (R : Nat → Rw) (rf : Nat → Nat → Int32) (Y : Nat → Sp) (Lf : Nat → Nat → Int64) (z4 z5 : Nat → Int32) (th : Int32) (F : MFn) (fo : Nat → Int64) (H : Heap) (locs : List Loc) (ls : Array Slot), Good sf sa R rf Y Lf F → Cx D ca s0 A s (LY ca d g sf rb R rf sa sl 0 1 2 3 Y Lf z4 z5 h0 q th (nI (R 0).2) F o fo) H locs → lv_has ls 8 [(4, .int (nI (5 * t))), (0, .ref (b)), (1, .ref (d)), (2, .ref (h0)), (3, .ref (o))] → W p l e room_1 s m args below meth c H locs (ce + 1) (so + 6) Q (F0 m 847 ls [])) : W p l e room_1 s m args below meth c H locs ce so Q (F0 m 760 ls []) := by
  rcases idx_c (xs (5 * t + 1)) with hno | ⟨i, hi, e1⟩
  · exact o_same_no1 p l e s m args below meth c Q D ca s0 a0 A S Z zt Zs hl0 sx Xs Xn b Ls xs hXX hbl hbA hLs t ce so ht5 hce hso d g sf rb R rf sa sl 0 1 2 3 (Y 0) (Y 1) (Y 2) (Y 3) (Lf 0) (Lf 1) (Lf 2) (Lf 3) z4 z5 (Lf 4) (Lf 5) h0 q th F o fo G.1 G.2.1 G.2.2.1 hno H locs ls C hl (fun H locs ls C hl => kk R rf Y Lf z4 z5 _ F _ H locs ls G C hl)
  · obtain ⟨hs, hL, hS, hO⟩ := G.2.2.2 i hi
    rcases hy : Y i with ⟨c0, k, en, tk, dn, rm⟩
    rw [hy] at hL hS hO
    obtain ⟨hk, hen, hp0, hp1, hro⟩ := hO
    replace hk : k < 16 := hk
    replace hp0 : c0.2 ≤ wid k := hp0
    rcases idx_c (xs (5 * t + 2)) with hno | ⟨j, hj, e2⟩
    · obtain ⟨ia, ib, ic, pk, pu⟩ := pick1 D ca s0 A s d g sf rb sa sl h0 q o hi
      replace C := pk R rf Y Lf z4 z5 th _ F fo H locs C
      rw [hy] at C
      exact o_same_no1b p l e s m args below meth c Q D ca s0 a0 A S Z zt Zs hl0 sx Xs Xn b Ls xs hXX hbl hbA hLs t ce so ht5 hce hso d g sf rb R rf sa sl i ia ib ic (Y ia) (Y ib) (Y ic) (Lf i) (Lf ia) (Lf ib) (Lf ic) z4 z5 (Lf 4) (Lf 5) h0 q th F o fo G.1 G.2.1 G.2.2.1 c0 k en tk dn rm hi hs hL hS hk hen hp0 hro e1 hno H locs ls C hl (fun H locs ls C hl => kk R rf (upY Y i (Y i)) (upL Lf i (Lf i)) z4 z5 _ F _ H locs ls (by rw [upY_id, upL_id]; exact G) (pu R rf Y Lf z4 z5 _ _ F _ H locs _ _ (by rw [hy]; exact C)) hl)
    · rcases rng_c (xs (5 * t + 3)) 64 (by decide) with hr | ⟨n, hn1, hn64, e3⟩
      · obtain ⟨ia, ib, ic, pk, pu⟩ := pick1 D ca s0 A s d g sf rb sa sl h0 q o hi
        replace C := pk R rf Y Lf z4 z5 th _ F fo H locs C
        rw [hy] at C
        exact o_same_no2 p l e s m args below meth c Q D ca s0 a0 A S Z zt Zs hl0 sx Xs Xn b Ls xs hXX hbl hbA hLs t ce so ht5 hce hso d g sf rb R rf sa sl i ia ib ic (Y ia) (Y ib) (Y ic) (Lf i) (Lf ia) (Lf ib) (Lf ic) z4 z5 (Lf 4) (Lf 5) h0 q th F o fo G.1 G.2.1 G.2.2.1 c0 k en tk dn rm hi hs hL hS hk hen hp0 hro e1 j hj (G.2.2.2 j hj).1 e2 hr H locs ls C hl (fun H locs ls C hl => kk R rf (upY Y i (Y i)) (upL Lf i (Lf i)) z4 z5 _ F _ H locs ls (by rw [upY_id, upL_id]; exact G) (pu R rf Y Lf z4 z5 _ _ F _ H locs _ _ (by rw [hy]; exact C)) hl)
      · by_cases hij : i = j
        · subst hij
          obtain ⟨ia, ib, ic, hn_a, hn_b, hn_c, pk, pu⟩ := pick1z D ca s0 A s d g sf rb sa sl h0 q o hi
          replace C := pk R rf Y Lf z4 z5 th _ F fo H locs C
          rw [hy] at C
          cases hcg : canG dn rm (nI n)
          · exact o_same_no3s p l e s m args below meth c Q D ca s0 a0 A S Z zt Zs hl0 sx Xs Xn b Ls xs hXX hbl hbA hLs t ce so ht5 hce hso d g sf rb R rf sa sl i ia ib ic (Y ia) (Y ib) (Y ic) (Lf i) (Lf ia) (Lf ib) (Lf ic) z4 z5 (Lf 4) (Lf 5) h0 q th F o fo G.1 G.2.1 G.2.2.1 c0 k en tk dn rm hi hs hL hS hk hen hp0 hro e1 e2 n hn1 hn64 e3 hcg H locs ls C hl (fun H locs ls C hl => kk R rf (upY Y i (Y i)) (upL Lf i (Lf i)) z4 z5 _ F _ H locs ls (by rw [upY_id, upL_id]; exact G) (pu R rf Y Lf z4 z5 _ _ F _ H locs _ _ (by rw [hy]; exact C)) hl)
          · have hd : dn = true := (Bool.and_eq_true_iff.mp hcg).1
            subst hd
            exact o_same_self p l e s m args below meth c Q D ca s0 a0 A S Z zt Zs hl0 sx Xs Xn b Ls xs hXX hbl hbA hLs t ce so ht5 hce hso d g sf rb R rf sa sl i ia ib ic (Y ia) (Y ib) (Y ic) (Lf i) (Lf ia) (Lf ib) (Lf ic) z4 z5 (Lf 4) (Lf 5) h0 q th F o fo G.1 G.2.1 G.2.2.1 c0 k en tk rm hi hs hL hS hk hen hp0 hro e1 e2 n hn1 hn64 e3 hcg H locs ls C hl (fun N1 N2 v1 v2 u1 H locs ls m1 C hl => kk R rf (upY Y i (Y i)) (upL (upL (upL Lf 4 N1) 5 N2) i (Lf i)) _ _ _ (hiF F u1) _ H locs ls (by rw [upY_id, sameL hi]; exact G.same m1) (pu R rf Y (upL (upL Lf 4 N1) 5 N2) _ _ _ _ _ _ H locs _ _ (by rw [hy, upL2 hn_a, upL2 hn_b, upL2 hn_c]; exact C)) hl)
        · replace hij : j ≠ i := fun h => hij h.symm
          obtain ⟨ib, ic, hn_b, hn_c, pk, pu⟩ := pick2z D ca s0 A s d g sf rb sa sl h0 q o hi hj hij
          obtain ⟨hs2, hL2, hS2, hO2⟩ := G.2.2.2 j hj
          have hO3 := hO2
          replace C := pk R rf Y Lf z4 z5 th _ F fo H locs C
          rcases hz : Y j with ⟨d0, j0, en2, tk2, dn2, rm2⟩
          rw [hy, hz] at C
          rw [hz] at hL2 hS2 hO2 hO3
          obtain ⟨hj0, hen2, hq0, hq1, hro2⟩ := hO2
          replace hj0 : j0 < 16 := hj0
          replace hq0 : d0.2 ≤ wid j0 := hq0
          by_cases hcc : canG dn rm (nI n) = true ∧ canG dn2 rm2 (nI n) = true
          · obtain ⟨hcg, hcg2⟩ := hcc
            have hd : dn = true := (Bool.and_eq_true_iff.mp hcg).1
            have hd2 : dn2 = true := (Bool.and_eq_true_iff.mp hcg2).1
            subst hd
            subst hd2
            exact o_same_ok p l e s m args below meth c Q D ca s0 a0 A S Z zt Zs hl0 sx Xs Xn b Ls xs hXX hbl hbA hLs t ce so ht5 hce hso d g sf rb R rf sa sl i j ib ic (Y ib) (Y ic) (Lf i) (Lf j) (Lf ib) (Lf ic) z4 z5 (Lf 4) (Lf 5) h0 q th F o fo G.1 G.2.1 G.2.2.1 c0 k en tk rm hi hs hL hS hk hen hp0 hro d0 j0 en2 tk2 rm2 hj hs2 hL2 hS2 hj0 hen2 hq0 hro2 e1 e2 n hn1 hn64 e3 hcg hcg2 H locs ls C hl (fun N1 N2 v1 v2 u1 H locs ls m1 C hl => kk R rf (upY Y i (Y i)) (upL (upL (upL Lf 4 N1) 5 N2) i (Lf i)) _ _ _ (hiF F u1) _ H locs ls (by rw [upY_id, sameL hi]; exact G.same m1) (pu R rf Y (upL (upL Lf 4 N1) 5 N2) _ _ _ _ _ _ H locs _ _ (by rw [hy, hz, upL2 hj, upL2 hn_b, upL2 hn_c]; exact C)) hl)
          · have hcn : canG dn rm (nI n) = false ∨ canG dn2 rm2 (nI n) = false := by
              cases h1 : canG dn rm (nI n)
              · exact Or.inl rfl
              · cases h2 : canG dn2 rm2 (nI n)
                · exact Or.inr rfl
                · exact absurd ⟨h1, h2⟩ hcc
            exact o_same_no3 p l e s m args below meth c Q D ca s0 a0 A S Z zt Zs hl0 sx Xs Xn b Ls xs hXX hbl hbA hLs t ce so ht5 hce hso d g sf rb R rf sa sl i j ib ic (Y ib) (Y ic) (Lf i) (Lf j) (Lf ib) (Lf ic) z4 z5 (Lf 4) (Lf 5) h0 q th F o fo G.1 G.2.1 G.2.2.1 c0 k en tk dn rm hi hs hL hS hk hen hp0 hro d0 j0 en2 tk2 dn2 rm2 hj hs2 hL2 hS2 hj0 hen2 hq0 hro2 e1 e2 n hn1 hn64 e3 hcn H locs ls C hl (fun H locs ls C hl => kk R rf (upY Y i (Y i)) (upL Lf i (Lf i)) z4 z5 _ F _ H locs ls (by rw [upY_id, upL_id]; exact G) (pu R rf Y Lf z4 z5 _ _ F _ H locs _ _ (by rw [hy, hz]; exact C)) hl)
