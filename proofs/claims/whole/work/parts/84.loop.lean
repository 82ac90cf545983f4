set_option maxHeartbeats 4000000 in
set_option maxRecDepth 100000 in
theorem law_loop (p : Program) (l : Launch) (e : Env) (s : State) (m : MethodId) (args : Array Value) (below : List Frame) (meth : Method) (c : Code) (Q : State → Prop) (D : va_G) (ca : Nat → ClassId) (s0 : State) (a0 : Array Value) (A : Nat → Prop) (S : CallFix p m c cL_law 8 s args lw_good RL) (Z : Wd a0 s0) (zt : Nat → Nat) (Zs : ZS zt s0) (hl0 : l.stackTraces = false) (sx : Nat → Nat) (Xs : XS sx s0) (Xn : XN s0) (b Ls : Nat) (xs : Nat → Int32) (hXX : va_X b Ls xs s s.heap) (hbl : b < s.heap.size) (hbA : ¬ A b) (hLs : Ls ≤ 2560) (d : Nat) (g : Nat → Nat) (sf : Nat → Option Nat) (rb : Nat → Nat) (sa sl : Nat → Nat) (h0 : Nat) (q : Nat → Nat) (o : Nat) (hend : ∀ (H : Heap) (locs : List Loc) (ls : Array Slot) (t : Nat), 5 * t ≤ Ls → (∀ z ∈ locs, A z.base) → W p l e room_1 s m args below meth c H locs (36 + t) (15471 + 6 * t) Q (F0 m 853 ls [])) : ∀ (n t : Nat), Ls < 5 * t + n → 5 * t ≤ Ls → ∀ (R : Nat → Rw) (rf : Nat → Nat → Int32) (Y : Nat → Sp) (Lf : Nat → Nat → Int64) (z4 z5 : Nat → Int32) (th : Int32) (F : MFn) (fo : Nat → Int64) (H : Heap) (locs : List Loc) (ls : Array Slot), Good sf sa R rf Y Lf F → Cx D ca s0 A s (LY ca d g sf rb R rf sa sl 0 1 2 3 Y Lf z4 z5 h0 q th (nI (R 0).2) F o fo) H locs → lv_has ls 8 [(4, .int (nI (5 * t))), (0, .ref (b)), (1, .ref (d)), (2, .ref (h0)), (3, .ref (o))] → W p l e room_1 s m args below meth c H locs (36 + t) (15471 + 6 * t) Q (F0 m 23 ls []) := by
  intro n
  induction n with
  | zero => intro t h1 h2; exact absurd h1 (by omega)
  | succ n ih =>
    intro t hn ht R rf Y Lf z4 z5 th F fo H locs ls G C hl
    have hx := S.1
    have hb := S.2.1
    have kk : 5 * t + 5 ≤ Ls → ∀ (R : Nat → Rw) (rf : Nat → Nat → Int32) (Y : Nat → Sp) (Lf : Nat → Nat → Int64) (z4 z5 : Nat → Int32) (th : Int32) (F : MFn) (fo : Nat → Int64) (H : Heap) (locs : List Loc) (ls : Array Slot), Good sf sa R rf Y Lf F → Cx D ca s0 A s (LY ca d g sf rb R rf sa sl 0 1 2 3 Y Lf z4 z5 h0 q th (nI (R 0).2) F o fo) H locs → lv_has ls 8 [(4, .int (nI (5 * t))), (0, .ref (b)), (1, .ref (d)), (2, .ref (h0)), (3, .ref (o))] → W p l e room_1 s m args below meth c H locs (36 + t + 1) (15471 + 6 * t + 6) Q (F0 m 847 ls []) := by
      intro h5 R rf Y Lf z4 z5 th F fo H locs ls G C hl
      refine lv_iinc (k := 0) (v := nI (5 * (t + 1))) hx hb dL_law_847 hl rfl (n_inc5 _) (Nat.le_of_ble_eq_true rfl) rfl (fun ls hl => ?_)
      refine lv_goto (tgt := 23) hx hb dL_law_850 (by decide) ?_
      exact W.widen (by omega) (by omega) (ih (t + 1) (by omega) (by omega) R rf Y Lf z4 z5 th F fo H locs ls G C hl)
    refine lv_iload hx hb dL_law_23 (lv_at hl 0 rfl) ?_
    refine lv_aload_n hx hb dL_law_25 rfl (lv_at hl 1 rfl) ?_
    refine n_slen S C hXX hbl hbA dL_law_26 ?_
    refine lv_iconst (v := nI 5) hx hb dL_law_27 (by decide) ?_
    refine lv_isub hx hb dL_law_28 ?_
    refine lv_icmp_gt (tgt := 853) hx hb dL_law_29 (by decide) (fun _ => hend H locs ls t ht C.2.2.2.1.2.2) (fun hc => ?_)
    have h5 : 5 * t + 5 ≤ Ls := sub_5 hLs hc (by omega)
    replace kk := kk h5
    refine lv_aload_n hx hb dL_law_32 rfl (lv_at hl 1 rfl) ?_
    refine lv_iload hx hb dL_law_33 (lv_at hl 0 rfl) ?_
    refine n_sld S C hXX hbl hbA (i := 5 * t) (by omega) hLs dL_law_35 ?_
    refine lv_bipush (v := nI 15) hx hb dL_law_36 (by decide) ?_
    refine lv_iand hx hb dL_law_38 ?_
    obtain ⟨w, hw, e0⟩ := and_15 (xs (5 * t))
    refine lv_topi (nm_r (e' := nI w) e0 ?_)
    clear e0
    obtain rfl | rfl | rfl | rfl | rfl | rfl | rfl | rfl | rfl | rfl | rfl | rfl | rfl | rfl | rfl | rfl : w = 0 ∨ w = 1 ∨ w = 2 ∨ w = 3 ∨ w = 4 ∨ w = 5 ∨ w = 6 ∨ w = 7 ∨ w = 8 ∨ w = 9 ∨ w = 10 ∨ w = 11 ∨ w = 12 ∨ w = 13 ∨ w = 14 ∨ w = 15 := by omega
    · refine lv_tableIn (off := 61) (tgt := 100) hx hb dL_law_39 (by decide) (by decide) (by decide) (by decide) ?_
      exact s_feed p l e s m args below meth c Q D ca s0 a0 A S Z zt Zs hl0 sx Xs Xn b Ls xs hXX hbl hbA hLs t (36 + t) (15471 + 6 * t) h5 (by omega) (by omega) d g sf rb sa sl h0 q o R rf Y Lf z4 z5 th F fo G H locs ls C hl kk
    · refine lv_tableIn (off := 161) (tgt := 200) hx hb dL_law_39 (by decide) (by decide) (by decide) (by decide) ?_
      exact s_wipe p l e s m args below meth c Q D ca s0 a0 A S Z zt Zs hl0 sx Xs Xn b Ls xs hXX hbl hbA hLs t (36 + t) (15471 + 6 * t) h5 (by omega) (by omega) d g sf rb sa sl h0 q o R rf Y Lf z4 z5 th F fo G H locs ls C hl kk
    · refine lv_tableIn (off := 174) (tgt := 213) hx hb dL_law_39 (by decide) (by decide) (by decide) (by decide) ?_
      exact s_let p l e s m args below meth c Q D ca s0 a0 A S Z zt Zs hl0 sx Xs Xn b Ls xs hXX hbl hbA hLs t (36 + t) (15471 + 6 * t) h5 (by omega) (by omega) d g sf rb sa sl h0 q o R rf Y Lf z4 z5 th F fo G H locs ls C hl kk
    · refine lv_tableIn (off := 230) (tgt := 269) hx hb dL_law_39 (by decide) (by decide) (by decide) (by decide) ?_
      exact s_begin p l e s m args below meth c Q D ca s0 a0 A S Z zt Zs hl0 sx Xs Xn b Ls xs hXX hbl hbA hLs t (36 + t) (15471 + 6 * t) h5 (by omega) (by omega) d g sf rb sa sl h0 q o R rf Y Lf z4 z5 th F fo G H locs ls C hl kk
    · refine lv_tableIn (off := 278) (tgt := 317) hx hb dL_law_39 (by decide) (by decide) (by decide) (by decide) ?_
      exact s_absorb p l e s m args below meth c Q D ca s0 a0 A S Z zt Zs hl0 sx Xs Xn b Ls xs hXX hbl hbA hLs t (36 + t) (15471 + 6 * t) h5 (by omega) (by omega) d g sf rb sa sl h0 q o R rf Y Lf z4 z5 th F fo G H locs ls C hl kk
    · refine lv_tableIn (off := 334) (tgt := 373) hx hb dL_law_39 (by decide) (by decide) (by decide) (by decide) ?_
      exact s_bytes p l e s m args below meth c Q D ca s0 a0 A S Z zt Zs hl0 sx Xs Xn b Ls xs hXX hbl hbA hLs t (36 + t) (15471 + 6 * t) h5 (by omega) (by omega) d g sf rb sa sl h0 q o R rf Y Lf z4 z5 th F fo G H locs ls C hl kk
    · refine lv_tableIn (off := 446) (tgt := 485) hx hb dL_law_39 (by decide) (by decide) (by decide) (by decide) ?_
      exact s_end p l e s m args below meth c Q D ca s0 a0 A S Z zt Zs hl0 sx Xs Xn b Ls xs hXX hbl hbA hLs t (36 + t) (15471 + 6 * t) h5 (by omega) (by omega) d g sf rb sa sl h0 q o R rf Y Lf z4 z5 th F fo G H locs ls C hl kk
    · refine lv_tableIn (off := 494) (tgt := 533) hx hb dL_law_39 (by decide) (by decide) (by decide) (by decide) ?_
      exact s_squeeze p l e s m args below meth c Q D ca s0 a0 A S Z zt Zs hl0 sx Xs Xn b Ls xs hXX hbl hbA hLs t (36 + t) (15471 + 6 * t) h5 (by omega) (by omega) d g sf rb sa sl h0 q o R rf Y Lf z4 z5 th F fo G H locs ls C hl kk
    · refine lv_tableIn (off := 561) (tgt := 600) hx hb dL_law_39 (by decide) (by decide) (by decide) (by decide) ?_
      exact s_left p l e s m args below meth c Q D ca s0 a0 A S Z zt Zs hl0 sx Xs Xn b Ls xs hXX hbl hbA hLs t (36 + t) (15471 + 6 * t) h5 (by omega) (by omega) d g sf rb sa sl h0 q o R rf Y Lf z4 z5 th F fo G H locs ls C hl kk
    · refine lv_tableIn (off := 617) (tgt := 656) hx hb dL_law_39 (by decide) (by decide) (by decide) (by decide) ?_
      exact s_copy p l e s m args below meth c Q D ca s0 a0 A S Z zt Zs hl0 sx Xs Xn b Ls xs hXX hbl hbA hLs t (36 + t) (15471 + 6 * t) h5 (by omega) (by omega) d g sf rb sa sl h0 q o R rf Y Lf z4 z5 th F fo G H locs ls C hl kk
    · refine lv_tableIn (off := 665) (tgt := 704) hx hb dL_law_39 (by decide) (by decide) (by decide) (by decide) ?_
      exact s_kind p l e s m args below meth c Q D ca s0 a0 A S Z zt Zs hl0 sx Xs Xn b Ls xs hXX hbl hbA hLs t (36 + t) (15471 + 6 * t) h5 (by omega) (by omega) d g sf rb sa sl h0 q o R rf Y Lf z4 z5 th F fo G H locs ls C hl kk
    · refine lv_tableIn (off := 721) (tgt := 760) hx hb dL_law_39 (by decide) (by decide) (by decide) (by decide) ?_
      exact s_same p l e s m args below meth c Q D ca s0 a0 A S Z zt Zs hl0 sx Xs Xn b Ls xs hXX hbl hbA hLs t (36 + t) (15471 + 6 * t) h5 (by omega) (by omega) d g sf rb sa sl h0 q o R rf Y Lf z4 z5 th F fo G H locs ls C hl kk
    · refine lv_tableOut (tgt := 847) hx hb dL_law_39 (by decide) (by decide) ?_
      exact W.widen (by omega) (by omega) (kk R rf Y Lf z4 z5 th F fo H locs ls G C hl)
    · refine lv_tableOut (tgt := 847) hx hb dL_law_39 (by decide) (by decide) ?_
      exact W.widen (by omega) (by omega) (kk R rf Y Lf z4 z5 th F fo H locs ls G C hl)
    · refine lv_tableOut (tgt := 847) hx hb dL_law_39 (by decide) (by decide) ?_
      exact W.widen (by omega) (by omega) (kk R rf Y Lf z4 z5 th F fo H locs ls G C hl)
    · refine lv_tableOut (tgt := 847) hx hb dL_law_39 (by decide) (by decide) ?_
      exact W.widen (by omega) (by omega) (kk R rf Y Lf z4 z5 th F fo H locs ls G C hl)
