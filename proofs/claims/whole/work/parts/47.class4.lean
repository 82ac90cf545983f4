abbrev rm_S_takeTape : Room := { frames := 5, cells := 0, slots := 0, locals := 128 }
set_option maxHeartbeats 4000000 in
set_option maxRecDepth 100000 in
theorem c_S_takeTape (l : Launch) (D : va_G) (ca : Nat → ClassId) (s0 : State) (a0 : Array Value) (Z : Wd a0 s0) (tz : Nat → Nat) (Zs : ZS tz s0) (h b : Nat) (L : Nat → Int64) (en tk dn rm : Int32) (w : Nat) (hw : w ≤ 200) (c0 : Co) (hL : kEq (lb L) c0.1) (hp0 : c0.2 < w) (r rb : Nat) (f : Nat → Int32) (T : Nat → Nat) (n : Nat) (hn : n ≤ 300) (hT : sb_Lat T n f) (k : Nat) (hk : k < 16) : CtI l yS_takeTape [.code yS_takeTape cS_takeTape 2 (some .int)] rm_S_takeTape 0 0 D ca s0 [.ref (h), .ref (r)] [(h, .inr (1, [.ref (b), .int (nI k), .int (nI w), .int (nI (c0.2)), .int (en), .int (tk), .int (dn), .int (rm)])), (b, .inl (ca 2, 25, .inr (.inl (L)))), (r, .inr (0, [.ref (rb), .int (nI n)])), (rb, .inl (ca 3, 300, .inl (f)))] (S := Nat → Int64) (fun u M => u = tk + nI n ∧ kEq (lb M) (tapC w k c0 T n).1) (fun M => [(h, .inr (1, [.ref (b), .int (nI k), .int (nI w), .int (nI (tapC w k c0 T n).2), .int (en), .int (tk + nI n), .int (dn), .int (rm)])), (b, .inl (ca 2, 25, .inr (.inl M))), (r, .inr (0, [.ref (rb), .int (nI n)])), (rb, .inl (ca 3, 300, .inl f))]) := by
  refine ctI_of (cc := cS_takeTape) (maxL := 2) (own := RS) Z rfl (by decide) rfl (Nat.le_of_ble_eq_true rfl) ?_
  intro p e s m args below meth c A ls Q S hnm ret C hl
  have hx := S.1
  have hb := S.2.1
  have hown := S.2.2.2.1
  have hts := S.2.2.2.2
  generalize s.heap = H at C ⊢
  generalize ([] : List Loc) = locs at C ⊢
  replace hl : lv_has ls 2 [(0, .ref (h)), (1, .ref (r))] := hl
  refine lv_aload_n hx hb dS_takeTape_0 rfl (lv_at hl 0 rfl) ?_
  refine n_get S C hin_S 0 rfl rfl 1 (by decide) g_74 rfl dS_takeTape_1 ?_
  refine lv_bipush (v := nI 12) hx hb dS_takeTape_4 (by decide) ?_
  have J36 : ∀ (M : Nat → Int64) (H : Heap) (locs : List Loc) (ls : Array Slot), kEq (lb M) (tapC w k c0 T n).1 → Cx D ca s0 A s [(h, .inr (1, [.ref (b), .int (nI k), .int (nI w), .int (nI ((tapC w k c0 T n).2)), .int (en), .int (tk), .int (dn), .int (rm)])), (b, .inl (ca 2, 25, .inr (.inl (M)))), (r, .inr (0, [.ref (rb), .int (nI n)])), (rb, .inl (ca 3, 300, .inl (f)))] H locs → lv_has ls 2 [(0, .ref (h)), (1, .ref (r))] → W p l e rm_S_takeTape s m args below meth c H locs 0 0 Q (F0 m 36 ls []) := by
    intro M H locs ls hM C hl
    refine lv_aload_n hx hb dS_takeTape_36 rfl (lv_at hl 0 rfl) ?_
    refine lv_dup hx hb dS_takeTape_37 rfl ?_
    refine n_get S C hin_S 0 rfl rfl 5 (by decide) g_78 rfl dS_takeTape_38 ?_
    refine lv_aload_n hx hb dS_takeTape_41 rfl (lv_at hl 1 rfl) ?_
    refine n_getN S C Z hin_R 2 rfl rfl 1 (by decide) t_3 rfl dS_takeTape_42 ?_
    refine lv_iadd hx hb dS_takeTape_45 ?_
    refine n_put S C hin_S tyS tyS_ok nmS 0 rfl rfl 5 (by decide) g_78 rfl rfl rfl rfl (Nat.le_of_ble_eq_true rfl) dS_takeTape_46 (fun H locs C => ?_)
    replace C : Cx D ca s0 A s [(h, .inr (1, [.ref (b), .int (nI k), .int (nI w), .int (nI ((tapC w k c0 T n).2)), .int (en), .int (tk + (nI n)), .int (dn), .int (rm)])), (b, .inl (ca 2, 25, .inr (.inl (M)))), (r, .inr (0, [.ref (rb), .int (nI n)])), (rb, .inl (ca 3, 300, .inl (f)))] H locs := C
    refine lv_aload_n hx hb dS_takeTape_49 rfl (lv_at hl 0 rfl) ?_
    refine n_get S C hin_S 0 rfl rfl 5 (by decide) g_78 rfl dS_takeTape_50 ?_
    exact ret (tk + (nI n)) M _ _ _ _ _ _ (Nat.le_refl _) (Nat.le_refl _) (⟨rfl, hM⟩) C dS_takeTape_53
  refine n_icmp_lt (tgt := 24) S (by omega) (by omega) dS_takeTape_6 (by decide) (fun hc6 => ?_) (fun hc6 => ?_)
  · skip
    refine lv_aload_n hx hb dS_takeTape_24 rfl (lv_at hl 0 rfl) ?_
    refine lv_aload_n hx hb dS_takeTape_25 rfl (lv_at hl 1 rfl) ?_
    refine n_getN S C Z hin_R 2 rfl rfl 0 (by decide) t_0 rfl dS_takeTape_26 ?_
    refine lv_aload_n hx hb dS_takeTape_29 rfl (lv_at hl 1 rfl) ?_
    refine n_getN S C Z hin_R 2 rfl rfl 1 (by decide) t_3 rfl dS_takeTape_30 ?_
    refine n_callV (wc := [(h, .inr (1, [.ref (b), .int (nI k), .int (nI w), .int (nI (c0.2)), .int (en), .int (tk), .int (dn), .int (rm)])), (b, .inl (ca 2, 25, .inr (.inl (L)))), (rb, .inl (ca 3, 300, .inl (f)))]) (wr := [(r, .inr (0, [.ref (rb), .int (nI n)]))]) C [0, 1, 3] [2] rfl rfl rfl rfl (by decide) (fun hp => va_runV (rest := []) S (c_S_takeRow l D ca s0 a0 Z tz Zs h b L (nI k) en tk dn rm w hw c0 hL hp0 rb f T n hn hT _) (cwV 2 hts (gV g_218 g_219 g_7 g_32 g_220) rfl rfl rfl (by decide +kernel) ⟨Nat.le_of_ble_eq_true rfl, Nat.le_of_ble_eq_true rfl⟩) ⟨hp.1, n_recv C 0 1 rfl rfl, hp.2⟩ rfl rfl hl.1 rfl (lv_room (Nat.le_of_ble_eq_true rfl)) dS_takeTape_33 ⟨Nat.le_of_ble_eq_true rfl, Nat.le_of_ble_eq_true rfl⟩) (fun u H locs hp C => ?_)
    replace C : Cx D ca s0 A s [(h, .inr (1, [.ref (b), .int (nI k), .int (nI w), .int (nI ((takeR w c0 T n).2)), .int (en), .int (tk), .int (dn), .int (rm)])), (b, .inl (ca 2, 25, .inr (.inl (u)))), (r, .inr (0, [.ref (rb), .int (nI n)])), (rb, .inl (ca 3, 300, .inl (f)))] H locs := C.re [1, 2, 0, 3] rfl rfl
    obtain ⟨M2, rfl⟩ : ∃ z, z = u := ⟨_, rfl⟩
    have h2 := hp
    replace C : Cx D ca s0 A s [(h, .inr (1, [.ref (b), .int (nI k), .int (nI w), .int (nI ((tapC w k c0 T n).2)), .int (en), .int (tk), .int (dn), .int (rm)])), (b, .inl (ca 2, 25, .inr (.inl (M2)))), (r, .inr (0, [.ref (rb), .int (nI n)])), (rb, .inl (ca 3, 300, .inl (f)))] H locs := by rw [show tapC w k c0 T n = takeR w c0 T n from if_neg (by omega)]; exact C
    exact J36 M2 _ _ _ (by rw [show tapC w k c0 T n = takeR w c0 T n from if_neg (by omega)]; exact h2) C (lv_sub hl [0, 1] rfl)
  · skip
    refine lv_aload_n hx hb dS_takeTape_9 rfl (lv_at hl 0 rfl) ?_
    refine lv_aload_n hx hb dS_takeTape_10 rfl (lv_at hl 1 rfl) ?_
    refine n_getN S C Z hin_R 2 rfl rfl 0 (by decide) t_0 rfl dS_takeTape_11 ?_
    refine lv_aload_n hx hb dS_takeTape_14 rfl (lv_at hl 1 rfl) ?_
    refine n_getN S C Z hin_R 2 rfl rfl 1 (by decide) t_3 rfl dS_takeTape_15 ?_
    refine n_callV (wc := [(h, .inr (1, [.ref (b), .int (nI k), .int (nI w), .int (nI (c0.2)), .int (en), .int (tk), .int (dn), .int (rm)])), (b, .inl (ca 2, 25, .inr (.inl (L)))), (rb, .inl (ca 3, 300, .inl (f)))]) (wr := [(r, .inr (0, [.ref (rb), .int (nI n)]))]) C [0, 1, 3] [2] rfl rfl rfl rfl (by decide) (fun hp => va_runV (rest := []) S (c_S_takeString l D ca s0 a0 Z tz Zs h b L (nI k) en tk dn rm w hw c0 hL hp0 rb f T n hn hT _) (cwV 2 hts (gV g_215 g_216 g_6 g_32 g_217) rfl rfl rfl (by decide +kernel) ⟨Nat.le_of_ble_eq_true rfl, Nat.le_of_ble_eq_true rfl⟩) ⟨hp.1, n_recv C 0 1 rfl rfl, hp.2⟩ rfl rfl hl.1 rfl (lv_room (Nat.le_of_ble_eq_true rfl)) dS_takeTape_18 ⟨Nat.le_of_ble_eq_true rfl, Nat.le_of_ble_eq_true rfl⟩) (fun u H locs hp C => ?_)
    replace C : Cx D ca s0 A s [(h, .inr (1, [.ref (b), .int (nI k), .int (nI w), .int (nI ((takeS w c0 T n).2)), .int (en), .int (tk), .int (dn), .int (rm)])), (b, .inl (ca 2, 25, .inr (.inl (u)))), (r, .inr (0, [.ref (rb), .int (nI n)])), (rb, .inl (ca 3, 300, .inl (f)))] H locs := C.re [1, 2, 0, 3] rfl rfl
    obtain ⟨M1, rfl⟩ : ∃ z, z = u := ⟨_, rfl⟩
    have h1 := hp
    refine lv_goto (tgt := 36) hx hb dS_takeTape_21 (by decide) ?_
    replace C : Cx D ca s0 A s [(h, .inr (1, [.ref (b), .int (nI k), .int (nI w), .int (nI ((tapC w k c0 T n).2)), .int (en), .int (tk), .int (dn), .int (rm)])), (b, .inl (ca 2, 25, .inr (.inl (M1)))), (r, .inr (0, [.ref (rb), .int (nI n)])), (rb, .inl (ca 3, 300, .inl (f)))] H locs := by rw [show tapC w k c0 T n = takeS w c0 T n from if_pos hc6]; exact C
    exact J36 M1 _ _ _ (by rw [show tapC w k c0 T n = takeS w c0 T n from if_pos hc6]; exact h1) C (lv_sub hl [0, 1] rfl)
abbrev rm_S_takeKey : Room := { frames := 5, cells := 0, slots := 0, locals := 128 }
set_option maxHeartbeats 4000000 in
set_option maxRecDepth 100000 in
theorem c_S_takeKey (l : Launch) (D : va_G) (ca : Nat → ClassId) (s0 : State) (a0 : Array Value) (Z : Wd a0 s0) (tz : Nat → Nat) (Zs : ZS tz s0) (h b : Nat) (L : Nat → Int64) (kd en tk dn rm : Int32) (w : Nat) (hw : w ≤ 200) (c0 : Co) (hL : kEq (lb L) c0.1) (hp0 : c0.2 < w) (r rb : Nat) (f : Nat → Int32) (T : Nat → Nat) (n : Nat) (hn : n ≤ 300) (hT : sb_Lat T n f) : CtV l yS_takeKey [.code yS_takeKey cS_takeKey 2 none] rm_S_takeKey 0 0 D ca s0 [.ref (h), .ref (r)] [(h, .inr (1, [.ref (b), .int (kd), .int (nI w), .int (nI (c0.2)), .int (en), .int (tk), .int (dn), .int (rm)])), (b, .inl (ca 2, 25, .inr (.inl (L)))), (r, .inr (0, [.ref (rb), .int (nI n)])), (rb, .inl (ca 3, 300, .inl (f)))] (S := Nat → Int64) (fun M => kEq (lb M) (keyC w c0 T n).1) (fun M => [(h, .inr (1, [.ref (b), .int (kd), .int (nI w), .int (nI (keyC w c0 T n).2), .int (en), .int (tk), .int (dn), .int (rm)])), (b, .inl (ca 2, 25, .inr (.inl M))), (r, .inr (0, [.ref (rb), .int (nI n)])), (rb, .inl (ca 3, 300, .inl f))]) := by
  refine ctV_of (cc := cS_takeKey) (maxL := 2) (own := RS) Z rfl (by decide) rfl (Nat.le_of_ble_eq_true rfl) ?_
  intro p e s m args below meth c A ls Q S hnm ret C hl
  have hx := S.1
  have hb := S.2.1
  have hown := S.2.2.2.1
  have hts := S.2.2.2.2
  generalize s.heap = H at C ⊢
  generalize ([] : List Loc) = locs at C ⊢
  replace hl : lv_has ls 2 [(0, .ref (h)), (1, .ref (r))] := hl
  refine lv_aload_n hx hb dS_takeKey_0 rfl (lv_at hl 0 rfl) ?_
  refine lv_aload_n hx hb dS_takeKey_1 rfl (lv_at hl 0 rfl) ?_
  refine n_get S C hin_S 0 rfl rfl 2 (by decide) g_75 rfl dS_takeKey_2 ?_
  refine n_callV (wc := [(h, .inr (1, [.ref (b), .int (kd), .int (nI w), .int (nI (c0.2)), .int (en), .int (tk), .int (dn), .int (rm)])), (b, .inl (ca 2, 25, .inr (.inl (L))))]) (wr := [(r, .inr (0, [.ref (rb), .int (nI n)])), (rb, .inl (ca 3, 300, .inl (f)))]) C [0, 1] [2, 3] rfl rfl rfl rfl (by decide) (fun hp => va_runV (rest := []) S (c_S_takeLeft l D ca s0 a0 Z tz Zs h b L kd en tk dn rm w hw (c0) hL hp0 w (by omega) _) (cwV 1 hts (gV g_187 g_188 g_2 g_32 g_189) rfl rfl rfl (by decide +kernel) ⟨Nat.le_of_ble_eq_true rfl, Nat.le_of_ble_eq_true rfl⟩) ⟨hp.1, n_recv C 0 1 rfl rfl, hp.2⟩ rfl rfl hl.1 rfl (lv_room (Nat.le_of_ble_eq_true rfl)) dS_takeKey_5 ⟨Nat.le_of_ble_eq_true rfl, Nat.le_of_ble_eq_true rfl⟩) (fun u H locs hp C => ?_)
  replace C : Cx D ca s0 A s [(h, .inr (1, [.ref (b), .int (kd), .int (nI w), .int (nI ((takeL w (c0) w).2)), .int (en), .int (tk), .int (dn), .int (rm)])), (b, .inl (ca 2, 25, .inr (.inl (u)))), (r, .inr (0, [.ref (rb), .int (nI n)])), (rb, .inl (ca 3, 300, .inl (f)))] H locs := C.re [2, 3, 0, 1] rfl rfl
  obtain ⟨M1, rfl⟩ : ∃ z, z = u := ⟨_, rfl⟩
  have h1 := hp
  refine lv_aload_n hx hb dS_takeKey_8 rfl (lv_at hl 0 rfl) ?_
  refine lv_aload_n hx hb dS_takeKey_9 rfl (lv_at hl 1 rfl) ?_
  refine n_getN S C Z hin_R 2 rfl rfl 0 (by decide) t_0 rfl dS_takeKey_10 ?_
  refine lv_aload_n hx hb dS_takeKey_13 rfl (lv_at hl 1 rfl) ?_
  refine n_getN S C Z hin_R 2 rfl rfl 1 (by decide) t_3 rfl dS_takeKey_14 ?_
  refine n_callV (wc := [(h, .inr (1, [.ref (b), .int (kd), .int (nI w), .int (nI ((takeL w (c0) w).2)), .int (en), .int (tk), .int (dn), .int (rm)])), (b, .inl (ca 2, 25, .inr (.inl (M1)))), (rb, .inl (ca 3, 300, .inl (f)))]) (wr := [(r, .inr (0, [.ref (rb), .int (nI n)]))]) C [0, 1, 3] [2] rfl rfl rfl rfl (by decide) (fun hp => va_runV (rest := []) S (c_S_takeString l D ca s0 a0 Z tz Zs h b M1 kd en tk dn rm w hw (takeL w c0 w) h1 (takeL_lt _ hp0) rb f T n hn hT _) (cwV 2 hts (gV g_215 g_216 g_6 g_32 g_217) rfl rfl rfl (by decide +kernel) ⟨Nat.le_of_ble_eq_true rfl, Nat.le_of_ble_eq_true rfl⟩) ⟨hp.1, n_recv C 0 1 rfl rfl, hp.2⟩ rfl rfl hl.1 rfl (lv_room (Nat.le_of_ble_eq_true rfl)) dS_takeKey_17 ⟨Nat.le_of_ble_eq_true rfl, Nat.le_of_ble_eq_true rfl⟩) (fun u H locs hp C => ?_)
  replace C : Cx D ca s0 A s [(h, .inr (1, [.ref (b), .int (kd), .int (nI w), .int (nI ((takeS w (takeL w c0 w) T n).2)), .int (en), .int (tk), .int (dn), .int (rm)])), (b, .inl (ca 2, 25, .inr (.inl (u)))), (r, .inr (0, [.ref (rb), .int (nI n)])), (rb, .inl (ca 3, 300, .inl (f)))] H locs := C.re [1, 2, 0, 3] rfl rfl
  obtain ⟨M2, rfl⟩ : ∃ z, z = u := ⟨_, rfl⟩
  have h2 := hp
  refine lv_aload_n hx hb dS_takeKey_20 rfl (lv_at hl 0 rfl) ?_
  refine n_callV (wc := [(h, .inr (1, [.ref (b), .int (kd), .int (nI w), .int (nI ((takeS w (takeL w c0 w) T n).2)), .int (en), .int (tk), .int (dn), .int (rm)])), (b, .inl (ca 2, 25, .inr (.inl (M2))))]) (wr := [(r, .inr (0, [.ref (rb), .int (nI n)])), (rb, .inl (ca 3, 300, .inl (f)))]) C [0, 1] [2, 3] rfl rfl rfl rfl (by decide) (fun hp => va_runV (rest := []) S (c_S_fillUp l D ca s0 a0 Z tz Zs h b M2 kd en tk dn rm w hw (takeS w (takeL w c0 w) T n) h2 (takeS_lt _ _ (takeL_lt _ hp0)) _) (cwV 0 hts (gV g_221 g_222 g_8 g_32 g_223) rfl rfl rfl (by decide +kernel) ⟨Nat.le_of_ble_eq_true rfl, Nat.le_of_ble_eq_true rfl⟩) ⟨hp.1, n_recv C 0 1 rfl rfl, hp.2⟩ rfl rfl hl.1 rfl (lv_room (Nat.le_of_ble_eq_true rfl)) dS_takeKey_21 ⟨Nat.le_of_ble_eq_true rfl, Nat.le_of_ble_eq_true rfl⟩) (fun u H locs hp C => ?_)
  replace C : Cx D ca s0 A s [(h, .inr (1, [.ref (b), .int (kd), .int (nI w), .int (nI ((fillU (takeS w (takeL w c0 w) T n)).2)), .int (en), .int (tk), .int (dn), .int (rm)])), (b, .inl (ca 2, 25, .inr (.inl (u)))), (r, .inr (0, [.ref (rb), .int (nI n)])), (rb, .inl (ca 3, 300, .inl (f)))] H locs := C.re [2, 3, 0, 1] rfl rfl
  obtain ⟨M3, rfl⟩ : ∃ z, z = u := ⟨_, rfl⟩
  have h3 := hp
  exact ret M3 _ _ _ _ _ _ (Nat.le_refl _) (Nat.le_refl _) h3 C dS_takeKey_24
abbrev rm_S_takePrefix : Room := { frames := 5, cells := 0, slots := 0, locals := 128 }
set_option maxHeartbeats 4000000 in
set_option maxRecDepth 100000 in
theorem c_S_takePrefix (l : Launch) (D : va_G) (ca : Nat → ClassId) (s0 : State) (a0 : Array Value) (Z : Wd a0 s0) (tz : Nat → Nat) (Zs : ZS tz s0) (h b : Nat) (L : Nat → Int64) (kd en tk dn rm : Int32) (w : Nat) (hw : w ≤ 200) (c0 : Co) (hL : kEq (lb L) c0.1) (hp0 : c0.2 < w) (rb : Nat) (f : Nat → Int32) (T : Nat → Nat) (n : Nat) (hn : n ≤ 300) (hT : sb_Lat T n f) (r2 rb2 : Nat) (f2 : Nat → Int32) (T2 : Nat → Nat) (n2 : Nat) (hn2 : n2 ≤ 300) (hT2 : sb_Lat T2 n2 f2) : CtV l yS_takePrefix [.code yS_takePrefix cS_takePrefix 4 none] rm_S_takePrefix 0 0 D ca s0 [.ref (h), .ref (rb), .int (nI n), .ref (r2)] [(h, .inr (1, [.ref (b), .int (kd), .int (nI w), .int (nI (c0.2)), .int (en), .int (tk), .int (dn), .int (rm)])), (b, .inl (ca 2, 25, .inr (.inl (L)))), (rb, .inl (ca 3, 300, .inl (f))), (r2, .inr (0, [.ref (rb2), .int (nI n2)])), (rb2, .inl (ca 3, 300, .inl (f2)))] (S := Nat → Int64) (fun M => kEq (lb M) (preC w c0 T n T2 n2).1) (fun M => [(h, .inr (1, [.ref (b), .int (kd), .int (nI w), .int (nI (preC w c0 T n T2 n2).2), .int (nI 4), .int (tk), .int (dn), .int (rm)])), (b, .inl (ca 2, 25, .inr (.inl M))), (rb, .inl (ca 3, 300, .inl f)), (r2, .inr (0, [.ref (rb2), .int (nI n2)])), (rb2, .inl (ca 3, 300, .inl f2))]) := by
  refine ctV_of (cc := cS_takePrefix) (maxL := 4) (own := RS) Z rfl (by decide) rfl (Nat.le_of_ble_eq_true rfl) ?_
  intro p e s m args below meth c A ls Q S hnm ret C hl
  have hx := S.1
  have hb := S.2.1
  have hown := S.2.2.2.1
  have hts := S.2.2.2.2
  generalize s.heap = H at C ⊢
  generalize ([] : List Loc) = locs at C ⊢
  replace hl : lv_has ls 4 [(0, .ref (h)), (1, .ref (rb)), (2, .int (nI n)), (3, .ref (r2))] := hl
  refine lv_aload_n hx hb dS_takePrefix_0 rfl (lv_at hl 0 rfl) ?_
  refine lv_iconst (v := nI 4) hx hb dS_takePrefix_1 (by decide) ?_
  refine n_put S C hin_S tyS tyS_ok nmS 0 rfl rfl 4 (by decide) g_77 rfl rfl rfl rfl (Nat.le_of_ble_eq_true rfl) dS_takePrefix_2 (fun H locs C => ?_)
  replace C : Cx D ca s0 A s [(h, .inr (1, [.ref (b), .int (kd), .int (nI w), .int (nI (c0.2)), .int (nI 4), .int (tk), .int (dn), .int (rm)])), (b, .inl (ca 2, 25, .inr (.inl (L)))), (rb, .inl (ca 3, 300, .inl (f))), (r2, .inr (0, [.ref (rb2), .int (nI n2)])), (rb2, .inl (ca 3, 300, .inl (f2)))] H locs := C
  refine lv_aload_n hx hb dS_takePrefix_5 rfl (lv_at hl 0 rfl) ?_
  refine lv_aload_n hx hb dS_takePrefix_6 rfl (lv_at hl 0 rfl) ?_
  refine n_get S C hin_S 0 rfl rfl 2 (by decide) g_75 rfl dS_takePrefix_7 ?_
  refine n_callV (wc := [(h, .inr (1, [.ref (b), .int (kd), .int (nI w), .int (nI (c0.2)), .int (nI 4), .int (tk), .int (dn), .int (rm)])), (b, .inl (ca 2, 25, .inr (.inl (L))))]) (wr := [(rb, .inl (ca 3, 300, .inl (f))), (r2, .inr (0, [.ref (rb2), .int (nI n2)])), (rb2, .inl (ca 3, 300, .inl (f2)))]) C [0, 1] [2, 3, 4] rfl rfl rfl rfl (by decide) (fun hp => va_runV (rest := []) S (c_S_takeLeft l D ca s0 a0 Z tz Zs h b L kd (nI 4) tk dn rm w hw (c0) hL hp0 w (by omega) _) (cwV 1 hts (gV g_187 g_188 g_2 g_32 g_189) rfl rfl rfl (by decide +kernel) ⟨Nat.le_of_ble_eq_true rfl, Nat.le_of_ble_eq_true rfl⟩) ⟨hp.1, n_recv C 0 1 rfl rfl, hp.2⟩ rfl rfl hl.1 rfl (lv_room (Nat.le_of_ble_eq_true rfl)) dS_takePrefix_10 ⟨Nat.le_of_ble_eq_true rfl, Nat.le_of_ble_eq_true rfl⟩) (fun u H locs hp C => ?_)
  replace C : Cx D ca s0 A s [(h, .inr (1, [.ref (b), .int (kd), .int (nI w), .int (nI ((takeL w (c0) w).2)), .int (nI 4), .int (tk), .int (dn), .int (rm)])), (b, .inl (ca 2, 25, .inr (.inl (u)))), (rb, .inl (ca 3, 300, .inl (f))), (r2, .inr (0, [.ref (rb2), .int (nI n2)])), (rb2, .inl (ca 3, 300, .inl (f2)))] H locs := C.re [3, 4, 0, 1, 2] rfl rfl
  obtain ⟨M1, rfl⟩ : ∃ z, z = u := ⟨_, rfl⟩
  have h1 := hp
  refine lv_aload_n hx hb dS_takePrefix_13 rfl (lv_at hl 0 rfl) ?_
  refine lv_aload_n hx hb dS_takePrefix_14 rfl (lv_at hl 1 rfl) ?_
  refine lv_iload_n hx hb dS_takePrefix_15 rfl (lv_at hl 2 rfl) ?_
  refine n_callV (wc := [(h, .inr (1, [.ref (b), .int (kd), .int (nI w), .int (nI ((takeL w (c0) w).2)), .int (nI 4), .int (tk), .int (dn), .int (rm)])), (b, .inl (ca 2, 25, .inr (.inl (M1)))), (rb, .inl (ca 3, 300, .inl (f)))]) (wr := [(r2, .inr (0, [.ref (rb2), .int (nI n2)])), (rb2, .inl (ca 3, 300, .inl (f2)))]) C [0, 1, 2] [3, 4] rfl rfl rfl rfl (by decide) (fun hp => va_runV (rest := []) S (c_S_takeString l D ca s0 a0 Z tz Zs h b M1 kd (nI 4) tk dn rm w hw (takeL w c0 w) h1 (takeL_lt _ hp0) rb f T n hn hT _) (cwV 2 hts (gV g_215 g_216 g_6 g_32 g_217) rfl rfl rfl (by decide +kernel) ⟨Nat.le_of_ble_eq_true rfl, Nat.le_of_ble_eq_true rfl⟩) ⟨hp.1, n_recv C 0 1 rfl rfl, hp.2⟩ rfl rfl hl.1 rfl (lv_room (Nat.le_of_ble_eq_true rfl)) dS_takePrefix_16 ⟨Nat.le_of_ble_eq_true rfl, Nat.le_of_ble_eq_true rfl⟩) (fun u H locs hp C => ?_)
  replace C : Cx D ca s0 A s [(h, .inr (1, [.ref (b), .int (kd), .int (nI w), .int (nI ((takeS w (takeL w c0 w) T n).2)), .int (nI 4), .int (tk), .int (dn), .int (rm)])), (b, .inl (ca 2, 25, .inr (.inl (u)))), (rb, .inl (ca 3, 300, .inl (f))), (r2, .inr (0, [.ref (rb2), .int (nI n2)])), (rb2, .inl (ca 3, 300, .inl (f2)))] H locs := C.re [2, 3, 4, 0, 1] rfl rfl
  obtain ⟨M2, rfl⟩ : ∃ z, z = u := ⟨_, rfl⟩
  have h2 := hp
  refine lv_aload_n hx hb dS_takePrefix_19 rfl (lv_at hl 0 rfl) ?_
  refine lv_aload_n hx hb dS_takePrefix_20 rfl (lv_at hl 3 rfl) ?_
  refine n_getN S C Z hin_R 3 rfl rfl 0 (by decide) t_0 rfl dS_takePrefix_21 ?_
  refine lv_aload_n hx hb dS_takePrefix_24 rfl (lv_at hl 3 rfl) ?_
  refine n_getN S C Z hin_R 3 rfl rfl 1 (by decide) t_3 rfl dS_takePrefix_25 ?_
  refine n_callV (wc := [(h, .inr (1, [.ref (b), .int (kd), .int (nI w), .int (nI ((takeS w (takeL w c0 w) T n).2)), .int (nI 4), .int (tk), .int (dn), .int (rm)])), (b, .inl (ca 2, 25, .inr (.inl (M2)))), (rb2, .inl (ca 3, 300, .inl (f2)))]) (wr := [(rb, .inl (ca 3, 300, .inl (f))), (r2, .inr (0, [.ref (rb2), .int (nI n2)]))]) C [0, 1, 4] [2, 3] rfl rfl rfl rfl (by decide) (fun hp => va_runV (rest := []) S (c_S_takeString l D ca s0 a0 Z tz Zs h b M2 kd (nI 4) tk dn rm w hw (takeS w (takeL w c0 w) T n) h2 (takeS_lt _ _ (takeL_lt _ hp0)) rb2 f2 T2 n2 hn2 hT2 _) (cwV 2 hts (gV g_215 g_216 g_6 g_32 g_217) rfl rfl rfl (by decide +kernel) ⟨Nat.le_of_ble_eq_true rfl, Nat.le_of_ble_eq_true rfl⟩) ⟨hp.1, n_recv C 0 1 rfl rfl, hp.2⟩ rfl rfl hl.1 rfl (lv_room (Nat.le_of_ble_eq_true rfl)) dS_takePrefix_28 ⟨Nat.le_of_ble_eq_true rfl, Nat.le_of_ble_eq_true rfl⟩) (fun u H locs hp C => ?_)
  replace C : Cx D ca s0 A s [(h, .inr (1, [.ref (b), .int (kd), .int (nI w), .int (nI ((takeS w (takeS w (takeL w c0 w) T n) T2 n2).2)), .int (nI 4), .int (tk), .int (dn), .int (rm)])), (b, .inl (ca 2, 25, .inr (.inl (u)))), (rb, .inl (ca 3, 300, .inl (f))), (r2, .inr (0, [.ref (rb2), .int (nI n2)])), (rb2, .inl (ca 3, 300, .inl (f2)))] H locs := C.re [2, 3, 0, 1, 4] rfl rfl
  obtain ⟨M3, rfl⟩ : ∃ z, z = u := ⟨_, rfl⟩
  have h3 := hp
  refine lv_aload_n hx hb dS_takePrefix_31 rfl (lv_at hl 0 rfl) ?_
  refine n_callV (wc := [(h, .inr (1, [.ref (b), .int (kd), .int (nI w), .int (nI ((takeS w (takeS w (takeL w c0 w) T n) T2 n2).2)), .int (nI 4), .int (tk), .int (dn), .int (rm)])), (b, .inl (ca 2, 25, .inr (.inl (M3))))]) (wr := [(rb, .inl (ca 3, 300, .inl (f))), (r2, .inr (0, [.ref (rb2), .int (nI n2)])), (rb2, .inl (ca 3, 300, .inl (f2)))]) C [0, 1] [2, 3, 4] rfl rfl rfl rfl (by decide) (fun hp => va_runV (rest := []) S (c_S_fillUp l D ca s0 a0 Z tz Zs h b M3 kd (nI 4) tk dn rm w hw (takeS w (takeS w (takeL w c0 w) T n) T2 n2) h3 (takeS_lt _ _ (takeS_lt _ _ (takeL_lt _ hp0))) _) (cwV 0 hts (gV g_221 g_222 g_8 g_32 g_223) rfl rfl rfl (by decide +kernel) ⟨Nat.le_of_ble_eq_true rfl, Nat.le_of_ble_eq_true rfl⟩) ⟨hp.1, n_recv C 0 1 rfl rfl, hp.2⟩ rfl rfl hl.1 rfl (lv_room (Nat.le_of_ble_eq_true rfl)) dS_takePrefix_32 ⟨Nat.le_of_ble_eq_true rfl, Nat.le_of_ble_eq_true rfl⟩) (fun u H locs hp C => ?_)
  replace C : Cx D ca s0 A s [(h, .inr (1, [.ref (b), .int (kd), .int (nI w), .int (nI ((fillU (takeS w (takeS w (takeL w c0 w) T n) T2 n2)).2)), .int (nI 4), .int (tk), .int (dn), .int (rm)])), (b, .inl (ca 2, 25, .inr (.inl (u)))), (rb, .inl (ca 3, 300, .inl (f))), (r2, .inr (0, [.ref (rb2), .int (nI n2)])), (rb2, .inl (ca 3, 300, .inl (f2)))] H locs := C.re [3, 4, 0, 1, 2] rfl rfl
  obtain ⟨M4, rfl⟩ : ∃ z, z = u := ⟨_, rfl⟩
  have h4 := hp
  exact ret M4 _ _ _ _ _ _ (Nat.le_refl _) (Nat.le_refl _) h4 C dS_takePrefix_35
abbrev rm_S_takePrefixK : Room := { frames := 5, cells := 0, slots := 0, locals := 128 }
set_option maxHeartbeats 4000000 in
set_option maxRecDepth 100000 in
theorem c_S_takePrefixK (l : Launch) (D : va_G) (ca : Nat → ClassId) (s0 : State) (a0 : Array Value) (Z : Wd a0 s0) (tz : Nat → Nat) (Zs : ZS tz s0) (h b : Nat) (L : Nat → Int64) (kd en tk dn rm : Int32) (w : Nat) (hw : w ≤ 200) (c0 : Co) (hL : kEq (lb L) c0.1) (hp0 : c0.2 < w)  (r2 rb2 : Nat) (f2 : Nat → Int32) (T2 : Nat → Nat) (n2 : Nat) (hn2 : n2 ≤ 300) (hT2 : sb_Lat T2 n2 f2) : CtV l yS_takePrefix [.code yS_takePrefix cS_takePrefix 4 none] rm_S_takePrefixK 0 0 D ca s0 [.ref (h), .ref (tz 5), .int (nI 4), .ref (r2)] [(h, .inr (1, [.ref (b), .int (kd), .int (nI w), .int (nI (c0.2)), .int (en), .int (tk), .int (dn), .int (rm)])), (b, .inl (ca 2, 25, .inr (.inl (L)))), (r2, .inr (0, [.ref (rb2), .int (nI n2)])), (rb2, .inl (ca 3, 300, .inl (f2)))] (S := Nat → Int64) (fun M => kEq (lb M) (preC w c0 pKey 4 T2 n2).1) (fun M => [(h, .inr (1, [.ref (b), .int (kd), .int (nI w), .int (nI (preC w c0 pKey 4 T2 n2).2), .int (nI 4), .int (tk), .int (dn), .int (rm)])), (b, .inl (ca 2, 25, .inr (.inl M))), (r2, .inr (0, [.ref (rb2), .int (nI n2)])), (rb2, .inl (ca 3, 300, .inl f2))]) := by
  refine ctV_of (cc := cS_takePrefix) (maxL := 4) (own := RS) Z rfl (by decide) rfl (Nat.le_of_ble_eq_true rfl) ?_
  intro p e s m args below meth c A ls Q S hnm ret C hl
  have hx := S.1
  have hb := S.2.1
  have hown := S.2.2.2.1
  have hts := S.2.2.2.2
  generalize s.heap = H at C ⊢
  generalize ([] : List Loc) = locs at C ⊢
  replace hl : lv_has ls 4 [(0, .ref (h)), (1, .ref (tz 5)), (2, .int (nI 4)), (3, .ref (r2))] := hl
  refine lv_aload_n hx hb dS_takePrefix_0 rfl (lv_at hl 0 rfl) ?_
  refine lv_iconst (v := nI 4) hx hb dS_takePrefix_1 (by decide) ?_
  refine n_put S C hin_S tyS tyS_ok nmS 0 rfl rfl 4 (by decide) g_77 rfl rfl rfl rfl (Nat.le_of_ble_eq_true rfl) dS_takePrefix_2 (fun H locs C => ?_)
  replace C : Cx D ca s0 A s [(h, .inr (1, [.ref (b), .int (kd), .int (nI w), .int (nI (c0.2)), .int (nI 4), .int (tk), .int (dn), .int (rm)])), (b, .inl (ca 2, 25, .inr (.inl (L)))), (r2, .inr (0, [.ref (rb2), .int (nI n2)])), (rb2, .inl (ca 3, 300, .inl (f2)))] H locs := C
  refine lv_aload_n hx hb dS_takePrefix_5 rfl (lv_at hl 0 rfl) ?_
  refine lv_aload_n hx hb dS_takePrefix_6 rfl (lv_at hl 0 rfl) ?_
  refine n_get S C hin_S 0 rfl rfl 2 (by decide) g_75 rfl dS_takePrefix_7 ?_
  refine n_callV (wc := [(h, .inr (1, [.ref (b), .int (kd), .int (nI w), .int (nI (c0.2)), .int (nI 4), .int (tk), .int (dn), .int (rm)])), (b, .inl (ca 2, 25, .inr (.inl (L))))]) (wr := [(r2, .inr (0, [.ref (rb2), .int (nI n2)])), (rb2, .inl (ca 3, 300, .inl (f2)))]) C [0, 1] [2, 3] rfl rfl rfl rfl (by decide) (fun hp => va_runV (rest := []) S (c_S_takeLeft l D ca s0 a0 Z tz Zs h b L kd (nI 4) tk dn rm w hw (c0) hL hp0 w (by omega) _) (cwV 1 hts (gV g_187 g_188 g_2 g_32 g_189) rfl rfl rfl (by decide +kernel) ⟨Nat.le_of_ble_eq_true rfl, Nat.le_of_ble_eq_true rfl⟩) ⟨hp.1, n_recv C 0 1 rfl rfl, hp.2⟩ rfl rfl hl.1 rfl (lv_room (Nat.le_of_ble_eq_true rfl)) dS_takePrefix_10 ⟨Nat.le_of_ble_eq_true rfl, Nat.le_of_ble_eq_true rfl⟩) (fun u H locs hp C => ?_)
  replace C : Cx D ca s0 A s [(h, .inr (1, [.ref (b), .int (kd), .int (nI w), .int (nI ((takeL w (c0) w).2)), .int (nI 4), .int (tk), .int (dn), .int (rm)])), (b, .inl (ca 2, 25, .inr (.inl (u)))), (r2, .inr (0, [.ref (rb2), .int (nI n2)])), (rb2, .inl (ca 3, 300, .inl (f2)))] H locs := C.re [2, 3, 0, 1] rfl rfl
  obtain ⟨M1, rfl⟩ : ∃ z, z = u := ⟨_, rfl⟩
  have h1 := hp
  refine lv_aload_n hx hb dS_takePrefix_13 rfl (lv_at hl 0 rfl) ?_
  refine lv_aload_n hx hb dS_takePrefix_14 rfl (lv_at hl 1 rfl) ?_
  refine lv_iload_n hx hb dS_takePrefix_15 rfl (lv_at hl 2 rfl) ?_
  refine n_callV (wc := [(h, .inr (1, [.ref (b), .int (kd), .int (nI w), .int (nI ((takeL w (c0) w).2)), .int (nI 4), .int (tk), .int (dn), .int (rm)])), (b, .inl (ca 2, 25, .inr (.inl (M1))))]) (wr := [(r2, .inr (0, [.ref (rb2), .int (nI n2)])), (rb2, .inl (ca 3, 300, .inl (f2)))]) C [0, 1] [2, 3] rfl rfl rfl rfl (by decide) (fun hp => va_runV (rest := []) S (c_S_takeStringK l D ca s0 a0 Z tz Zs h b M1 kd (nI 4) tk dn rm w hw (takeL w c0 w) h1 (takeL_lt _ hp0) _) (cwV 2 hts (gV g_215 g_216 g_6 g_32 g_217) rfl rfl rfl (by decide +kernel) ⟨Nat.le_of_ble_eq_true rfl, Nat.le_of_ble_eq_true rfl⟩) ⟨hp.1, n_recv C 0 1 rfl rfl, hp.2⟩ rfl rfl hl.1 rfl (lv_room (Nat.le_of_ble_eq_true rfl)) dS_takePrefix_16 ⟨Nat.le_of_ble_eq_true rfl, Nat.le_of_ble_eq_true rfl⟩) (fun u H locs hp C => ?_)
  replace C : Cx D ca s0 A s [(h, .inr (1, [.ref (b), .int (kd), .int (nI w), .int (nI ((takeS w (takeL w c0 w) pKey 4).2)), .int (nI 4), .int (tk), .int (dn), .int (rm)])), (b, .inl (ca 2, 25, .inr (.inl (u)))), (r2, .inr (0, [.ref (rb2), .int (nI n2)])), (rb2, .inl (ca 3, 300, .inl (f2)))] H locs := C.re [2, 3, 0, 1] rfl rfl
  obtain ⟨M2, rfl⟩ : ∃ z, z = u := ⟨_, rfl⟩
  have h2 := hp
  refine lv_aload_n hx hb dS_takePrefix_19 rfl (lv_at hl 0 rfl) ?_
  refine lv_aload_n hx hb dS_takePrefix_20 rfl (lv_at hl 3 rfl) ?_
  refine n_getN S C Z hin_R 2 rfl rfl 0 (by decide) t_0 rfl dS_takePrefix_21 ?_
  refine lv_aload_n hx hb dS_takePrefix_24 rfl (lv_at hl 3 rfl) ?_
  refine n_getN S C Z hin_R 2 rfl rfl 1 (by decide) t_3 rfl dS_takePrefix_25 ?_
  refine n_callV (wc := [(h, .inr (1, [.ref (b), .int (kd), .int (nI w), .int (nI ((takeS w (takeL w c0 w) pKey 4).2)), .int (nI 4), .int (tk), .int (dn), .int (rm)])), (b, .inl (ca 2, 25, .inr (.inl (M2)))), (rb2, .inl (ca 3, 300, .inl (f2)))]) (wr := [(r2, .inr (0, [.ref (rb2), .int (nI n2)]))]) C [0, 1, 3] [2] rfl rfl rfl rfl (by decide) (fun hp => va_runV (rest := []) S (c_S_takeString l D ca s0 a0 Z tz Zs h b M2 kd (nI 4) tk dn rm w hw (takeS w (takeL w c0 w) pKey 4) h2 (takeS_lt _ _ (takeL_lt _ hp0)) rb2 f2 T2 n2 hn2 hT2 _) (cwV 2 hts (gV g_215 g_216 g_6 g_32 g_217) rfl rfl rfl (by decide +kernel) ⟨Nat.le_of_ble_eq_true rfl, Nat.le_of_ble_eq_true rfl⟩) ⟨hp.1, n_recv C 0 1 rfl rfl, hp.2⟩ rfl rfl hl.1 rfl (lv_room (Nat.le_of_ble_eq_true rfl)) dS_takePrefix_28 ⟨Nat.le_of_ble_eq_true rfl, Nat.le_of_ble_eq_true rfl⟩) (fun u H locs hp C => ?_)
  replace C : Cx D ca s0 A s [(h, .inr (1, [.ref (b), .int (kd), .int (nI w), .int (nI ((takeS w (takeS w (takeL w c0 w) pKey 4) T2 n2).2)), .int (nI 4), .int (tk), .int (dn), .int (rm)])), (b, .inl (ca 2, 25, .inr (.inl (u)))), (r2, .inr (0, [.ref (rb2), .int (nI n2)])), (rb2, .inl (ca 3, 300, .inl (f2)))] H locs := C.re [1, 2, 0, 3] rfl rfl
  obtain ⟨M3, rfl⟩ : ∃ z, z = u := ⟨_, rfl⟩
  have h3 := hp
  refine lv_aload_n hx hb dS_takePrefix_31 rfl (lv_at hl 0 rfl) ?_
  refine n_callV (wc := [(h, .inr (1, [.ref (b), .int (kd), .int (nI w), .int (nI ((takeS w (takeS w (takeL w c0 w) pKey 4) T2 n2).2)), .int (nI 4), .int (tk), .int (dn), .int (rm)])), (b, .inl (ca 2, 25, .inr (.inl (M3))))]) (wr := [(r2, .inr (0, [.ref (rb2), .int (nI n2)])), (rb2, .inl (ca 3, 300, .inl (f2)))]) C [0, 1] [2, 3] rfl rfl rfl rfl (by decide) (fun hp => va_runV (rest := []) S (c_S_fillUp l D ca s0 a0 Z tz Zs h b M3 kd (nI 4) tk dn rm w hw (takeS w (takeS w (takeL w c0 w) pKey 4) T2 n2) h3 (takeS_lt _ _ (takeS_lt _ _ (takeL_lt _ hp0))) _) (cwV 0 hts (gV g_221 g_222 g_8 g_32 g_223) rfl rfl rfl (by decide +kernel) ⟨Nat.le_of_ble_eq_true rfl, Nat.le_of_ble_eq_true rfl⟩) ⟨hp.1, n_recv C 0 1 rfl rfl, hp.2⟩ rfl rfl hl.1 rfl (lv_room (Nat.le_of_ble_eq_true rfl)) dS_takePrefix_32 ⟨Nat.le_of_ble_eq_true rfl, Nat.le_of_ble_eq_true rfl⟩) (fun u H locs hp C => ?_)
  replace C : Cx D ca s0 A s [(h, .inr (1, [.ref (b), .int (kd), .int (nI w), .int (nI ((fillU (takeS w (takeS w (takeL w c0 w) pKey 4) T2 n2)).2)), .int (nI 4), .int (tk), .int (dn), .int (rm)])), (b, .inl (ca 2, 25, .inr (.inl (u)))), (r2, .inr (0, [.ref (rb2), .int (nI n2)])), (rb2, .inl (ca 3, 300, .inl (f2)))] H locs := C.re [2, 3, 0, 1] rfl rfl
  obtain ⟨M4, rfl⟩ : ∃ z, z = u := ⟨_, rfl⟩
  have h4 := hp
  exact ret M4 _ _ _ _ _ _ (Nat.le_refl _) (Nat.le_refl _) h4 C dS_takePrefix_35
abbrev rm_S_takePrefixT : Room := { frames := 5, cells := 0, slots := 0, locals := 128 }
set_option maxHeartbeats 4000000 in
set_option maxRecDepth 100000 in
theorem c_S_takePrefixT (l : Launch) (D : va_G) (ca : Nat → ClassId) (s0 : State) (a0 : Array Value) (Z : Wd a0 s0) (tz : Nat → Nat) (Zs : ZS tz s0) (h b : Nat) (L : Nat → Int64) (kd en tk dn rm : Int32) (w : Nat) (hw : w ≤ 200) (c0 : Co) (hL : kEq (lb L) c0.1) (hp0 : c0.2 < w)  (r2 rb2 : Nat) (f2 : Nat → Int32) (T2 : Nat → Nat) (n2 : Nat) (hn2 : n2 ≤ 300) (hT2 : sb_Lat T2 n2 f2) : CtV l yS_takePrefix [.code yS_takePrefix cS_takePrefix 4 none] rm_S_takePrefixT 0 0 D ca s0 [.ref (h), .ref (tz 6), .int (nI 9), .ref (r2)] [(h, .inr (1, [.ref (b), .int (kd), .int (nI w), .int (nI (c0.2)), .int (en), .int (tk), .int (dn), .int (rm)])), (b, .inl (ca 2, 25, .inr (.inl (L)))), (r2, .inr (0, [.ref (rb2), .int (nI n2)])), (rb2, .inl (ca 3, 300, .inl (f2)))] (S := Nat → Int64) (fun M => kEq (lb M) (preC w c0 pTup 9 T2 n2).1) (fun M => [(h, .inr (1, [.ref (b), .int (kd), .int (nI w), .int (nI (preC w c0 pTup 9 T2 n2).2), .int (nI 4), .int (tk), .int (dn), .int (rm)])), (b, .inl (ca 2, 25, .inr (.inl M))), (r2, .inr (0, [.ref (rb2), .int (nI n2)])), (rb2, .inl (ca 3, 300, .inl f2))]) := by
  refine ctV_of (cc := cS_takePrefix) (maxL := 4) (own := RS) Z rfl (by decide) rfl (Nat.le_of_ble_eq_true rfl) ?_
  intro p e s m args below meth c A ls Q S hnm ret C hl
  have hx := S.1
  have hb := S.2.1
  have hown := S.2.2.2.1
  have hts := S.2.2.2.2
  generalize s.heap = H at C ⊢
  generalize ([] : List Loc) = locs at C ⊢
  replace hl : lv_has ls 4 [(0, .ref (h)), (1, .ref (tz 6)), (2, .int (nI 9)), (3, .ref (r2))] := hl
  refine lv_aload_n hx hb dS_takePrefix_0 rfl (lv_at hl 0 rfl) ?_
  refine lv_iconst (v := nI 4) hx hb dS_takePrefix_1 (by decide) ?_
  refine n_put S C hin_S tyS tyS_ok nmS 0 rfl rfl 4 (by decide) g_77 rfl rfl rfl rfl (Nat.le_of_ble_eq_true rfl) dS_takePrefix_2 (fun H locs C => ?_)
  replace C : Cx D ca s0 A s [(h, .inr (1, [.ref (b), .int (kd), .int (nI w), .int (nI (c0.2)), .int (nI 4), .int (tk), .int (dn), .int (rm)])), (b, .inl (ca 2, 25, .inr (.inl (L)))), (r2, .inr (0, [.ref (rb2), .int (nI n2)])), (rb2, .inl (ca 3, 300, .inl (f2)))] H locs := C
  refine lv_aload_n hx hb dS_takePrefix_5 rfl (lv_at hl 0 rfl) ?_
  refine lv_aload_n hx hb dS_takePrefix_6 rfl (lv_at hl 0 rfl) ?_
  refine n_get S C hin_S 0 rfl rfl 2 (by decide) g_75 rfl dS_takePrefix_7 ?_
  refine n_callV (wc := [(h, .inr (1, [.ref (b), .int (kd), .int (nI w), .int (nI (c0.2)), .int (nI 4), .int (tk), .int (dn), .int (rm)])), (b, .inl (ca 2, 25, .inr (.inl (L))))]) (wr := [(r2, .inr (0, [.ref (rb2), .int (nI n2)])), (rb2, .inl (ca 3, 300, .inl (f2)))]) C [0, 1] [2, 3] rfl rfl rfl rfl (by decide) (fun hp => va_runV (rest := []) S (c_S_takeLeft l D ca s0 a0 Z tz Zs h b L kd (nI 4) tk dn rm w hw (c0) hL hp0 w (by omega) _) (cwV 1 hts (gV g_187 g_188 g_2 g_32 g_189) rfl rfl rfl (by decide +kernel) ⟨Nat.le_of_ble_eq_true rfl, Nat.le_of_ble_eq_true rfl⟩) ⟨hp.1, n_recv C 0 1 rfl rfl, hp.2⟩ rfl rfl hl.1 rfl (lv_room (Nat.le_of_ble_eq_true rfl)) dS_takePrefix_10 ⟨Nat.le_of_ble_eq_true rfl, Nat.le_of_ble_eq_true rfl⟩) (fun u H locs hp C => ?_)
  replace C : Cx D ca s0 A s [(h, .inr (1, [.ref (b), .int (kd), .int (nI w), .int (nI ((takeL w (c0) w).2)), .int (nI 4), .int (tk), .int (dn), .int (rm)])), (b, .inl (ca 2, 25, .inr (.inl (u)))), (r2, .inr (0, [.ref (rb2), .int (nI n2)])), (rb2, .inl (ca 3, 300, .inl (f2)))] H locs := C.re [2, 3, 0, 1] rfl rfl
  obtain ⟨M1, rfl⟩ : ∃ z, z = u := ⟨_, rfl⟩
  have h1 := hp
  refine lv_aload_n hx hb dS_takePrefix_13 rfl (lv_at hl 0 rfl) ?_
  refine lv_aload_n hx hb dS_takePrefix_14 rfl (lv_at hl 1 rfl) ?_
  refine lv_iload_n hx hb dS_takePrefix_15 rfl (lv_at hl 2 rfl) ?_
  refine n_callV (wc := [(h, .inr (1, [.ref (b), .int (kd), .int (nI w), .int (nI ((takeL w (c0) w).2)), .int (nI 4), .int (tk), .int (dn), .int (rm)])), (b, .inl (ca 2, 25, .inr (.inl (M1))))]) (wr := [(r2, .inr (0, [.ref (rb2), .int (nI n2)])), (rb2, .inl (ca 3, 300, .inl (f2)))]) C [0, 1] [2, 3] rfl rfl rfl rfl (by decide) (fun hp => va_runV (rest := []) S (c_S_takeStringT l D ca s0 a0 Z tz Zs h b M1 kd (nI 4) tk dn rm w hw (takeL w c0 w) h1 (takeL_lt _ hp0) _) (cwV 2 hts (gV g_215 g_216 g_6 g_32 g_217) rfl rfl rfl (by decide +kernel) ⟨Nat.le_of_ble_eq_true rfl, Nat.le_of_ble_eq_true rfl⟩) ⟨hp.1, n_recv C 0 1 rfl rfl, hp.2⟩ rfl rfl hl.1 rfl (lv_room (Nat.le_of_ble_eq_true rfl)) dS_takePrefix_16 ⟨Nat.le_of_ble_eq_true rfl, Nat.le_of_ble_eq_true rfl⟩) (fun u H locs hp C => ?_)
  replace C : Cx D ca s0 A s [(h, .inr (1, [.ref (b), .int (kd), .int (nI w), .int (nI ((takeS w (takeL w c0 w) pTup 9).2)), .int (nI 4), .int (tk), .int (dn), .int (rm)])), (b, .inl (ca 2, 25, .inr (.inl (u)))), (r2, .inr (0, [.ref (rb2), .int (nI n2)])), (rb2, .inl (ca 3, 300, .inl (f2)))] H locs := C.re [2, 3, 0, 1] rfl rfl
  obtain ⟨M2, rfl⟩ : ∃ z, z = u := ⟨_, rfl⟩
  have h2 := hp
  refine lv_aload_n hx hb dS_takePrefix_19 rfl (lv_at hl 0 rfl) ?_
  refine lv_aload_n hx hb dS_takePrefix_20 rfl (lv_at hl 3 rfl) ?_
  refine n_getN S C Z hin_R 2 rfl rfl 0 (by decide) t_0 rfl dS_takePrefix_21 ?_
  refine lv_aload_n hx hb dS_takePrefix_24 rfl (lv_at hl 3 rfl) ?_
  refine n_getN S C Z hin_R 2 rfl rfl 1 (by decide) t_3 rfl dS_takePrefix_25 ?_
  refine n_callV (wc := [(h, .inr (1, [.ref (b), .int (kd), .int (nI w), .int (nI ((takeS w (takeL w c0 w) pTup 9).2)), .int (nI 4), .int (tk), .int (dn), .int (rm)])), (b, .inl (ca 2, 25, .inr (.inl (M2)))), (rb2, .inl (ca 3, 300, .inl (f2)))]) (wr := [(r2, .inr (0, [.ref (rb2), .int (nI n2)]))]) C [0, 1, 3] [2] rfl rfl rfl rfl (by decide) (fun hp => va_runV (rest := []) S (c_S_takeString l D ca s0 a0 Z tz Zs h b M2 kd (nI 4) tk dn rm w hw (takeS w (takeL w c0 w) pTup 9) h2 (takeS_lt _ _ (takeL_lt _ hp0)) rb2 f2 T2 n2 hn2 hT2 _) (cwV 2 hts (gV g_215 g_216 g_6 g_32 g_217) rfl rfl rfl (by decide +kernel) ⟨Nat.le_of_ble_eq_true rfl, Nat.le_of_ble_eq_true rfl⟩) ⟨hp.1, n_recv C 0 1 rfl rfl, hp.2⟩ rfl rfl hl.1 rfl (lv_room (Nat.le_of_ble_eq_true rfl)) dS_takePrefix_28 ⟨Nat.le_of_ble_eq_true rfl, Nat.le_of_ble_eq_true rfl⟩) (fun u H locs hp C => ?_)
  replace C : Cx D ca s0 A s [(h, .inr (1, [.ref (b), .int (kd), .int (nI w), .int (nI ((takeS w (takeS w (takeL w c0 w) pTup 9) T2 n2).2)), .int (nI 4), .int (tk), .int (dn), .int (rm)])), (b, .inl (ca 2, 25, .inr (.inl (u)))), (r2, .inr (0, [.ref (rb2), .int (nI n2)])), (rb2, .inl (ca 3, 300, .inl (f2)))] H locs := C.re [1, 2, 0, 3] rfl rfl
  obtain ⟨M3, rfl⟩ : ∃ z, z = u := ⟨_, rfl⟩
  have h3 := hp
  refine lv_aload_n hx hb dS_takePrefix_31 rfl (lv_at hl 0 rfl) ?_
  refine n_callV (wc := [(h, .inr (1, [.ref (b), .int (kd), .int (nI w), .int (nI ((takeS w (takeS w (takeL w c0 w) pTup 9) T2 n2).2)), .int (nI 4), .int (tk), .int (dn), .int (rm)])), (b, .inl (ca 2, 25, .inr (.inl (M3))))]) (wr := [(r2, .inr (0, [.ref (rb2), .int (nI n2)])), (rb2, .inl (ca 3, 300, .inl (f2)))]) C [0, 1] [2, 3] rfl rfl rfl rfl (by decide) (fun hp => va_runV (rest := []) S (c_S_fillUp l D ca s0 a0 Z tz Zs h b M3 kd (nI 4) tk dn rm w hw (takeS w (takeS w (takeL w c0 w) pTup 9) T2 n2) h3 (takeS_lt _ _ (takeS_lt _ _ (takeL_lt _ hp0))) _) (cwV 0 hts (gV g_221 g_222 g_8 g_32 g_223) rfl rfl rfl (by decide +kernel) ⟨Nat.le_of_ble_eq_true rfl, Nat.le_of_ble_eq_true rfl⟩) ⟨hp.1, n_recv C 0 1 rfl rfl, hp.2⟩ rfl rfl hl.1 rfl (lv_room (Nat.le_of_ble_eq_true rfl)) dS_takePrefix_32 ⟨Nat.le_of_ble_eq_true rfl, Nat.le_of_ble_eq_true rfl⟩) (fun u H locs hp C => ?_)
  replace C : Cx D ca s0 A s [(h, .inr (1, [.ref (b), .int (kd), .int (nI w), .int (nI ((fillU (takeS w (takeS w (takeL w c0 w) pTup 9) T2 n2)).2)), .int (nI 4), .int (tk), .int (dn), .int (rm)])), (b, .inl (ca 2, 25, .inr (.inl (u)))), (r2, .inr (0, [.ref (rb2), .int (nI n2)])), (rb2, .inl (ca 3, 300, .inl (f2)))] H locs := C.re [2, 3, 0, 1] rfl rfl
  obtain ⟨M4, rfl⟩ : ∃ z, z = u := ⟨_, rfl⟩
  have h4 := hp
  exact ret M4 _ _ _ _ _ _ (Nat.le_refl _) (Nat.le_refl _) h4 C dS_takePrefix_35
abbrev rm_S_becomeLike : Room := { frames := 1, cells := 0, slots := 0, locals := 60 }
set_option maxHeartbeats 4000000 in
set_option maxRecDepth 100000 in
theorem c_S_becomeLike (l : Launch) (D : va_G) (ca : Nat → ClassId) (s0 : State) (a0 : Array Value) (Z : Wd a0 s0) (h b : Nat) (L : Nat → Int64) (kd wd pl en tk dn rm : Int32) (h2 b2 : Nat) (L2 : Nat → Int64) (kd2 wd2 pl2 en2 tk2 rm2 : Int32) (dn2 : Bool) : CtV l yS_becomeLike [.code yS_becomeLike cS_becomeLike 2 none] rm_S_becomeLike 0 0 D ca s0 [.ref (h), .ref (h2)] [(h, .inr (1, [.ref (b), .int (kd), .int (wd), .int (pl), .int (en), .int (tk), .int (dn), .int (rm)])), (b, .inl (ca 2, 25, .inr (.inl (L)))), (h2, .inr (1, [.ref (b2), .int (kd2), .int (wd2), .int (pl2), .int (en2), .int (tk2), .int (b2i dn2), .int (rm2)])), (b2, .inl (ca 2, 25, .inr (.inl (L2))))] (S := Nat → Int64) (fun M => kEq (lb M) (lb L2)) (fun M => [(h, .inr (1, [.ref (b), .int (kd2), .int (wd2), .int (pl2), .int (en2), .int (tk2), .int (b2i dn2), .int (rm2)])), (b, .inl (ca 2, 25, .inr (.inl M))), (h2, .inr (1, [.ref (b2), .int (kd2), .int (wd2), .int (pl2), .int (en2), .int (tk2), .int (b2i dn2), .int (rm2)])), (b2, .inl (ca 2, 25, .inr (.inl L2)))]) := by
  refine ctV_of (cc := cS_becomeLike) (maxL := 2) (own := RS) Z rfl (by decide) rfl (Nat.le_of_ble_eq_true rfl) ?_
  intro p e s m args below meth c A ls Q S hnm ret C hl
  have hx := S.1
  have hb := S.2.1
  have hown := S.2.2.2.1
  have hts := S.2.2.2.2
  generalize s.heap = H at C ⊢
  generalize ([] : List Loc) = locs at C ⊢
  replace hl : lv_has ls 2 [(0, .ref (h)), (1, .ref (h2))] := hl
  refine lv_aload_n hx hb dS_becomeLike_0 rfl (lv_at hl 1 rfl) ?_
  refine n_get S C hin_S 2 rfl rfl 0 (by decide) g_73 rfl dS_becomeLike_1 ?_
  refine lv_iconst (v := nI 0) hx hb dS_becomeLike_4 (by decide) ?_
  refine lv_aload_n hx hb dS_becomeLike_5 rfl (lv_at hl 0 rfl) ?_
  refine n_get S C hin_S 0 rfl rfl 0 (by decide) g_73 rfl dS_becomeLike_6 ?_
  refine lv_iconst (v := nI 0) hx hb dS_becomeLike_9 (by decide) ?_
  refine lv_bipush (v := nI 25) hx hb dS_becomeLike_10 (by decide) ?_
  refine n_copyl (k := 25) S C g_317 g_162 g_161 g_39 3 1 rfl rfl (by omega) (by omega) (by omega) hl.1 (Nat.le_of_ble_eq_true rfl) (Nat.le_of_ble_eq_true rfl) dS_becomeLike_12 (fun H locs C => ?_)
  replace C : Cx D ca s0 A s [(h, .inr (1, [.ref (b), .int (kd), .int (wd), .int (pl), .int (en), .int (tk), .int (dn), .int (rm)])), (b, .inl (ca 2, 25, .inr (.inl (va_cpy L2 L 0 0 25)))), (h2, .inr (1, [.ref (b2), .int (kd2), .int (wd2), .int (pl2), .int (en2), .int (tk2), .int (b2i dn2), .int (rm2)])), (b2, .inl (ca 2, 25, .inr (.inl (L2))))] H locs := C
  refine lv_aload_n hx hb dS_becomeLike_15 rfl (lv_at hl 0 rfl) ?_
  refine lv_aload_n hx hb dS_becomeLike_16 rfl (lv_at hl 1 rfl) ?_
  refine n_get S C hin_S 2 rfl rfl 1 (by decide) g_74 rfl dS_becomeLike_17 ?_
  refine n_put S C hin_S tyS tyS_ok nmS 0 rfl rfl 1 (by decide) g_74 rfl rfl rfl rfl (Nat.le_of_ble_eq_true rfl) dS_becomeLike_20 (fun H locs C => ?_)
  replace C : Cx D ca s0 A s [(h, .inr (1, [.ref (b), .int (kd2), .int (wd), .int (pl), .int (en), .int (tk), .int (dn), .int (rm)])), (b, .inl (ca 2, 25, .inr (.inl (va_cpy L2 L 0 0 25)))), (h2, .inr (1, [.ref (b2), .int (kd2), .int (wd2), .int (pl2), .int (en2), .int (tk2), .int (b2i dn2), .int (rm2)])), (b2, .inl (ca 2, 25, .inr (.inl (L2))))] H locs := C
  refine lv_aload_n hx hb dS_becomeLike_23 rfl (lv_at hl 0 rfl) ?_
  refine lv_aload_n hx hb dS_becomeLike_24 rfl (lv_at hl 1 rfl) ?_
  refine n_get S C hin_S 2 rfl rfl 2 (by decide) g_75 rfl dS_becomeLike_25 ?_
  refine n_put S C hin_S tyS tyS_ok nmS 0 rfl rfl 2 (by decide) g_75 rfl rfl rfl rfl (Nat.le_of_ble_eq_true rfl) dS_becomeLike_28 (fun H locs C => ?_)
  replace C : Cx D ca s0 A s [(h, .inr (1, [.ref (b), .int (kd2), .int (wd2), .int (pl), .int (en), .int (tk), .int (dn), .int (rm)])), (b, .inl (ca 2, 25, .inr (.inl (va_cpy L2 L 0 0 25)))), (h2, .inr (1, [.ref (b2), .int (kd2), .int (wd2), .int (pl2), .int (en2), .int (tk2), .int (b2i dn2), .int (rm2)])), (b2, .inl (ca 2, 25, .inr (.inl (L2))))] H locs := C
  refine lv_aload_n hx hb dS_becomeLike_31 rfl (lv_at hl 0 rfl) ?_
  refine lv_aload_n hx hb dS_becomeLike_32 rfl (lv_at hl 1 rfl) ?_
  refine n_get S C hin_S 2 rfl rfl 3 (by decide) g_76 rfl dS_becomeLike_33 ?_
  refine n_put S C hin_S tyS tyS_ok nmS 0 rfl rfl 3 (by decide) g_76 rfl rfl rfl rfl (Nat.le_of_ble_eq_true rfl) dS_becomeLike_36 (fun H locs C => ?_)
  replace C : Cx D ca s0 A s [(h, .inr (1, [.ref (b), .int (kd2), .int (wd2), .int (pl2), .int (en), .int (tk), .int (dn), .int (rm)])), (b, .inl (ca 2, 25, .inr (.inl (va_cpy L2 L 0 0 25)))), (h2, .inr (1, [.ref (b2), .int (kd2), .int (wd2), .int (pl2), .int (en2), .int (tk2), .int (b2i dn2), .int (rm2)])), (b2, .inl (ca 2, 25, .inr (.inl (L2))))] H locs := C
  refine lv_aload_n hx hb dS_becomeLike_39 rfl (lv_at hl 0 rfl) ?_
  refine lv_aload_n hx hb dS_becomeLike_40 rfl (lv_at hl 1 rfl) ?_
  refine n_get S C hin_S 2 rfl rfl 4 (by decide) g_77 rfl dS_becomeLike_41 ?_
  refine n_put S C hin_S tyS tyS_ok nmS 0 rfl rfl 4 (by decide) g_77 rfl rfl rfl rfl (Nat.le_of_ble_eq_true rfl) dS_becomeLike_44 (fun H locs C => ?_)
  replace C : Cx D ca s0 A s [(h, .inr (1, [.ref (b), .int (kd2), .int (wd2), .int (pl2), .int (en2), .int (tk), .int (dn), .int (rm)])), (b, .inl (ca 2, 25, .inr (.inl (va_cpy L2 L 0 0 25)))), (h2, .inr (1, [.ref (b2), .int (kd2), .int (wd2), .int (pl2), .int (en2), .int (tk2), .int (b2i dn2), .int (rm2)])), (b2, .inl (ca 2, 25, .inr (.inl (L2))))] H locs := C
  refine lv_aload_n hx hb dS_becomeLike_47 rfl (lv_at hl 0 rfl) ?_
  refine lv_aload_n hx hb dS_becomeLike_48 rfl (lv_at hl 1 rfl) ?_
  refine n_get S C hin_S 2 rfl rfl 5 (by decide) g_78 rfl dS_becomeLike_49 ?_
  refine n_put S C hin_S tyS tyS_ok nmS 0 rfl rfl 5 (by decide) g_78 rfl rfl rfl rfl (Nat.le_of_ble_eq_true rfl) dS_becomeLike_52 (fun H locs C => ?_)
  replace C : Cx D ca s0 A s [(h, .inr (1, [.ref (b), .int (kd2), .int (wd2), .int (pl2), .int (en2), .int (tk2), .int (dn), .int (rm)])), (b, .inl (ca 2, 25, .inr (.inl (va_cpy L2 L 0 0 25)))), (h2, .inr (1, [.ref (b2), .int (kd2), .int (wd2), .int (pl2), .int (en2), .int (tk2), .int (b2i dn2), .int (rm2)])), (b2, .inl (ca 2, 25, .inr (.inl (L2))))] H locs := C
  refine lv_aload_n hx hb dS_becomeLike_55 rfl (lv_at hl 0 rfl) ?_
  refine lv_aload_n hx hb dS_becomeLike_56 rfl (lv_at hl 1 rfl) ?_
  refine n_get S C hin_S 2 rfl rfl 6 (by decide) g_79 rfl dS_becomeLike_57 ?_
  refine n_put S C hin_S tyS tyS_ok nmS 0 rfl rfl 6 (by decide) g_79 rfl rfl (b2i_narrow _) (by cases dn2 <;> rfl) (Nat.le_of_ble_eq_true rfl) dS_becomeLike_60 (fun H locs C => ?_)
  replace C : Cx D ca s0 A s [(h, .inr (1, [.ref (b), .int (kd2), .int (wd2), .int (pl2), .int (en2), .int (tk2), .int (b2i dn2), .int (rm)])), (b, .inl (ca 2, 25, .inr (.inl (va_cpy L2 L 0 0 25)))), (h2, .inr (1, [.ref (b2), .int (kd2), .int (wd2), .int (pl2), .int (en2), .int (tk2), .int (b2i dn2), .int (rm2)])), (b2, .inl (ca 2, 25, .inr (.inl (L2))))] H locs := C
  refine lv_aload_n hx hb dS_becomeLike_63 rfl (lv_at hl 0 rfl) ?_
  refine lv_aload_n hx hb dS_becomeLike_64 rfl (lv_at hl 1 rfl) ?_
  refine n_get S C hin_S 2 rfl rfl 7 (by decide) g_80 rfl dS_becomeLike_65 ?_
  refine n_put S C hin_S tyS tyS_ok nmS 0 rfl rfl 7 (by decide) g_80 rfl rfl rfl rfl (Nat.le_of_ble_eq_true rfl) dS_becomeLike_68 (fun H locs C => ?_)
  replace C : Cx D ca s0 A s [(h, .inr (1, [.ref (b), .int (kd2), .int (wd2), .int (pl2), .int (en2), .int (tk2), .int (b2i dn2), .int (rm2)])), (b, .inl (ca 2, 25, .inr (.inl (va_cpy L2 L 0 0 25)))), (h2, .inr (1, [.ref (b2), .int (kd2), .int (wd2), .int (pl2), .int (en2), .int (tk2), .int (b2i dn2), .int (rm2)])), (b2, .inl (ca 2, 25, .inr (.inl (L2))))] H locs := C
  exact ret _ _ _ _ _ _ _ (Nat.le_refl _) (Nat.le_refl _) lb_cpy C dS_becomeLike_71
abbrev rm_S_becomeLikeSelf : Room := { frames := 1, cells := 0, slots := 0, locals := 60 }
set_option maxHeartbeats 4000000 in
set_option maxRecDepth 100000 in
theorem c_S_becomeLikeSelf (l : Launch) (D : va_G) (ca : Nat → ClassId) (s0 : State) (a0 : Array Value) (Z : Wd a0 s0) (h b : Nat) (L : Nat → Int64) (kd wd pl en tk rm : Int32) (dn : Bool) : CtV l yS_becomeLike [.code yS_becomeLike cS_becomeLike 2 none] rm_S_becomeLikeSelf 0 0 D ca s0 [.ref (h), .ref (h)] [(h, .inr (1, [.ref (b), .int (kd), .int (wd), .int (pl), .int (en), .int (tk), .int (b2i dn), .int (rm)])), (b, .inl (ca 2, 25, .inr (.inl (L))))] (S := Nat → Int64) (fun M => kEq (lb M) (lb L)) (fun M => [(h, .inr (1, [.ref (b), .int (kd), .int (wd), .int (pl), .int (en), .int (tk), .int (b2i dn), .int (rm)])), (b, .inl (ca 2, 25, .inr (.inl M)))]) := by
  refine ctV_of (cc := cS_becomeLike) (maxL := 2) (own := RS) Z rfl (by decide) rfl (Nat.le_of_ble_eq_true rfl) ?_
  intro p e s m args below meth c A ls Q S hnm ret C hl
  have hx := S.1
  have hb := S.2.1
  have hown := S.2.2.2.1
  have hts := S.2.2.2.2
  generalize s.heap = H at C ⊢
  generalize ([] : List Loc) = locs at C ⊢
  replace hl : lv_has ls 2 [(0, .ref (h)), (1, .ref (h))] := hl
  refine lv_aload_n hx hb dS_becomeLike_0 rfl (lv_at hl 1 rfl) ?_
  refine n_get S C hin_S 0 rfl rfl 0 (by decide) g_73 rfl dS_becomeLike_1 ?_
  refine lv_iconst (v := nI 0) hx hb dS_becomeLike_4 (by decide) ?_
  refine lv_aload_n hx hb dS_becomeLike_5 rfl (lv_at hl 0 rfl) ?_
  refine n_get S C hin_S 0 rfl rfl 0 (by decide) g_73 rfl dS_becomeLike_6 ?_
  refine lv_iconst (v := nI 0) hx hb dS_becomeLike_9 (by decide) ?_
  refine lv_bipush (v := nI 25) hx hb dS_becomeLike_10 (by decide) ?_
  refine n_copyl (k := 25) S C g_317 g_162 g_161 g_39 1 1 rfl rfl (by omega) (by omega) (by omega) hl.1 (Nat.le_of_ble_eq_true rfl) (Nat.le_of_ble_eq_true rfl) dS_becomeLike_12 (fun H locs C => ?_)
  replace C : Cx D ca s0 A s [(h, .inr (1, [.ref (b), .int (kd), .int (wd), .int (pl), .int (en), .int (tk), .int (b2i dn), .int (rm)])), (b, .inl (ca 2, 25, .inr (.inl (va_cpy L L 0 0 25))))] H locs := C
  refine lv_aload_n hx hb dS_becomeLike_15 rfl (lv_at hl 0 rfl) ?_
  refine lv_aload_n hx hb dS_becomeLike_16 rfl (lv_at hl 1 rfl) ?_
  refine n_get S C hin_S 0 rfl rfl 1 (by decide) g_74 rfl dS_becomeLike_17 ?_
  refine n_put S C hin_S tyS tyS_ok nmS 0 rfl rfl 1 (by decide) g_74 rfl rfl rfl rfl (Nat.le_of_ble_eq_true rfl) dS_becomeLike_20 (fun H locs C => ?_)
  replace C : Cx D ca s0 A s [(h, .inr (1, [.ref (b), .int (kd), .int (wd), .int (pl), .int (en), .int (tk), .int (b2i dn), .int (rm)])), (b, .inl (ca 2, 25, .inr (.inl (va_cpy L L 0 0 25))))] H locs := C
  refine lv_aload_n hx hb dS_becomeLike_23 rfl (lv_at hl 0 rfl) ?_
  refine lv_aload_n hx hb dS_becomeLike_24 rfl (lv_at hl 1 rfl) ?_
  refine n_get S C hin_S 0 rfl rfl 2 (by decide) g_75 rfl dS_becomeLike_25 ?_
  refine n_put S C hin_S tyS tyS_ok nmS 0 rfl rfl 2 (by decide) g_75 rfl rfl rfl rfl (Nat.le_of_ble_eq_true rfl) dS_becomeLike_28 (fun H locs C => ?_)
  replace C : Cx D ca s0 A s [(h, .inr (1, [.ref (b), .int (kd), .int (wd), .int (pl), .int (en), .int (tk), .int (b2i dn), .int (rm)])), (b, .inl (ca 2, 25, .inr (.inl (va_cpy L L 0 0 25))))] H locs := C
  refine lv_aload_n hx hb dS_becomeLike_31 rfl (lv_at hl 0 rfl) ?_
  refine lv_aload_n hx hb dS_becomeLike_32 rfl (lv_at hl 1 rfl) ?_
  refine n_get S C hin_S 0 rfl rfl 3 (by decide) g_76 rfl dS_becomeLike_33 ?_
  refine n_put S C hin_S tyS tyS_ok nmS 0 rfl rfl 3 (by decide) g_76 rfl rfl rfl rfl (Nat.le_of_ble_eq_true rfl) dS_becomeLike_36 (fun H locs C => ?_)
  replace C : Cx D ca s0 A s [(h, .inr (1, [.ref (b), .int (kd), .int (wd), .int (pl), .int (en), .int (tk), .int (b2i dn), .int (rm)])), (b, .inl (ca 2, 25, .inr (.inl (va_cpy L L 0 0 25))))] H locs := C
  refine lv_aload_n hx hb dS_becomeLike_39 rfl (lv_at hl 0 rfl) ?_
  refine lv_aload_n hx hb dS_becomeLike_40 rfl (lv_at hl 1 rfl) ?_
  refine n_get S C hin_S 0 rfl rfl 4 (by decide) g_77 rfl dS_becomeLike_41 ?_
  refine n_put S C hin_S tyS tyS_ok nmS 0 rfl rfl 4 (by decide) g_77 rfl rfl rfl rfl (Nat.le_of_ble_eq_true rfl) dS_becomeLike_44 (fun H locs C => ?_)
  replace C : Cx D ca s0 A s [(h, .inr (1, [.ref (b), .int (kd), .int (wd), .int (pl), .int (en), .int (tk), .int (b2i dn), .int (rm)])), (b, .inl (ca 2, 25, .inr (.inl (va_cpy L L 0 0 25))))] H locs := C
  refine lv_aload_n hx hb dS_becomeLike_47 rfl (lv_at hl 0 rfl) ?_
  refine lv_aload_n hx hb dS_becomeLike_48 rfl (lv_at hl 1 rfl) ?_
  refine n_get S C hin_S 0 rfl rfl 5 (by decide) g_78 rfl dS_becomeLike_49 ?_
  refine n_put S C hin_S tyS tyS_ok nmS 0 rfl rfl 5 (by decide) g_78 rfl rfl rfl rfl (Nat.le_of_ble_eq_true rfl) dS_becomeLike_52 (fun H locs C => ?_)
  replace C : Cx D ca s0 A s [(h, .inr (1, [.ref (b), .int (kd), .int (wd), .int (pl), .int (en), .int (tk), .int (b2i dn), .int (rm)])), (b, .inl (ca 2, 25, .inr (.inl (va_cpy L L 0 0 25))))] H locs := C
  refine lv_aload_n hx hb dS_becomeLike_55 rfl (lv_at hl 0 rfl) ?_
  refine lv_aload_n hx hb dS_becomeLike_56 rfl (lv_at hl 1 rfl) ?_
  refine n_get S C hin_S 0 rfl rfl 6 (by decide) g_79 rfl dS_becomeLike_57 ?_
  refine n_put S C hin_S tyS tyS_ok nmS 0 rfl rfl 6 (by decide) g_79 rfl rfl (b2i_narrow _) (by cases dn <;> rfl) (Nat.le_of_ble_eq_true rfl) dS_becomeLike_60 (fun H locs C => ?_)
  replace C : Cx D ca s0 A s [(h, .inr (1, [.ref (b), .int (kd), .int (wd), .int (pl), .int (en), .int (tk), .int (b2i dn), .int (rm)])), (b, .inl (ca 2, 25, .inr (.inl (va_cpy L L 0 0 25))))] H locs := C
  refine lv_aload_n hx hb dS_becomeLike_63 rfl (lv_at hl 0 rfl) ?_
  refine lv_aload_n hx hb dS_becomeLike_64 rfl (lv_at hl 1 rfl) ?_
  refine n_get S C hin_S 0 rfl rfl 7 (by decide) g_80 rfl dS_becomeLike_65 ?_
  refine n_put S C hin_S tyS tyS_ok nmS 0 rfl rfl 7 (by decide) g_80 rfl rfl rfl rfl (Nat.le_of_ble_eq_true rfl) dS_becomeLike_68 (fun H locs C => ?_)
  replace C : Cx D ca s0 A s [(h, .inr (1, [.ref (b), .int (kd), .int (wd), .int (pl), .int (en), .int (tk), .int (b2i dn), .int (rm)])), (b, .inl (ca 2, 25, .inr (.inl (va_cpy L L 0 0 25))))] H locs := C
  exact ret _ _ _ _ _ _ _ (Nat.le_refl _) (Nat.le_refl _) lb_cpy C dS_becomeLike_71
abbrev rm_J_fill : Room := { frames := 0, cells := 0, slots := 0, locals := 0 }
set_option maxHeartbeats 4000000 in
set_option maxRecDepth 100000 in
theorem c_J_fill (l : Launch) (D : va_G) (ca : Nat → ClassId) (s0 : State) (a0 : Array Value) (Z : Wd a0 s0) (a : Nat) (L : Nat → Int64) (x : Int64) : CtV l yJ_fill [.code yJ_fill cJ_fill 5 none] rm_J_fill 0 0 D ca s0 [.ref (a), .long (x)] [(a, .inl (ca 2, 25, .inr (.inl (L))))] (S := Nat → Int64) (fun M => ∀ i, i < 25 → M i = x) (fun M => [(a, .inl (ca 2, 25, .inr (.inl M)))]) := by
  refine ctV_of (cc := cJ_fill) (maxL := 5) (own := RJ) Z rfl (by decide) rfl (Nat.le_of_ble_eq_true rfl) ?_
  intro p e s m args below meth c A ls Q S hnm ret C hl
  have hx := S.1
  have hb := S.2.1
  have hown := S.2.2.2.1
  have hts := S.2.2.2.2
  generalize s.heap = H at C ⊢
  generalize ([] : List Loc) = locs at C ⊢
  replace hl : lv_has ls 5 [(0, .ref (a)), (1, .long (x))] := hl
  refine lv_iconst (v := nI 0) hx hb dJ_fill_0 (by decide) ?_
  refine lv_istore_n hx hb dJ_fill_1 rfl hl (Nat.le_of_ble_eq_true rfl) rfl (fun ls hl => ?_)
  replace hl : lv_has ls 5 [(3, .int (nI 0)), (0, .ref (a)), (1, .long (x))] := hl
  refine lv_aload_n hx hb dJ_fill_2 rfl (lv_at hl 1 rfl) ?_
  refine n_alen S C 0 2 rfl rfl dJ_fill_3 ?_
  refine lv_istore hx hb dJ_fill_4 hl (Nat.le_of_ble_eq_true rfl) rfl (fun ls hl => ?_)
  replace hl : lv_has ls 5 [(4, .int (nI 25)), (3, .int (nI 0)), (0, .ref (a)), (1, .long (x))] := hl
  have lp6 : ∀ (nf : Nat) (i : Nat) (M : Nat → Int64) (H : Heap) (locs : List Loc) (ls : Array Slot), 25 - i < nf → i ≤ 25 → (∀ j, j < i → M j = x) → Cx D ca s0 A s [(a, .inl (ca 2, 25, .inr (.inl (M))))] H locs → lv_has ls 5 [(4, .int (nI 25)), (3, .int (nI i)), (0, .ref (a)), (1, .long (x))] → W p l e rm_J_fill s m args below meth c H locs 0 0 Q (F0 m 6 ls []) := by
    intro nf
    induction nf with
    | zero => intro i M H locs ls hn; exact absurd hn (Nat.not_lt_zero _)
    | succ nf ih_lp6 =>
      intro i M H locs ls hn lp6_le hM C hl
      refine lv_iload_n hx hb dJ_fill_6 rfl (lv_at hl 1 rfl) ?_
      refine lv_iload hx hb dJ_fill_7 (lv_at hl 0 rfl) ?_
      refine n_icmp_ge (tgt := 22) S (by omega) (by omega) dJ_fill_9 (by decide) (fun hc9 => ?_) (fun hc9 => ?_)
      · skip
        exact ret M _ _ _ _ _ _ (Nat.le_refl _) (Nat.le_refl _) (fun i1 hi1 => hM i1 (by omega)) C dJ_fill_22
      · skip
        refine lv_aload_n hx hb dJ_fill_12 rfl (lv_at hl 2 rfl) ?_
        refine lv_iload_n hx hb dJ_fill_13 rfl (lv_at hl 1 rfl) ?_
        refine lv_lload_n hx hb dJ_fill_14 rfl (lv_at hl 3 rfl) ?_
        refine n_last S C 0 rfl (i := i) (by omega) (by decide) dJ_fill_15 (fun H locs C => ?_)
        replace C : Cx D ca s0 A s [(a, .inl (ca 2, 25, .inr (.inl (vp_updL M i x))))] H locs := C
        refine lv_iinc (k := 1) (v := nI (i + 1)) hx hb dJ_fill_16 hl rfl (n_inc1 _) (Nat.le_of_ble_eq_true rfl) rfl (fun ls hl => ?_)
        replace hl : lv_has ls 5 [(3, .int (nI (i + 1))), (4, .int (nI 25)), (0, .ref (a)), (1, .long (x))] := hl
        refine lv_goto (tgt := 6) hx hb dJ_fill_19 (by decide) ?_
        exact ih_lp6 (i + 1) _ _ _ _ (by omega) (by omega) (fun j hj => by by_cases ej : j = i; (rw [ej, pk_uLs]); (rw [pk_uLn ej]; exact hM j (by omega))) C (lv_sub hl [1, 0, 2, 3] rfl)
  exact lp6 (25 + 1) 0 _ _ _ _ (by omega) (by omega) (fun j h => absurd h (Nat.not_lt_zero j)) C (lv_sub hl [0, 1, 2, 3] rfl)
abbrev rm_S_restart : Room := { frames := 1, cells := 0, slots := 0, locals := 24 }
set_option maxHeartbeats 4000000 in
set_option maxRecDepth 100000 in
theorem c_S_restart (l : Launch) (D : va_G) (ca : Nat → ClassId) (s0 : State) (a0 : Array Value) (Z : Wd a0 s0) (tz : Nat → Nat) (Zs : ZS tz s0) (h b : Nat) (L : Nat → Int64) (kd wd pl en tk dn rm : Int32) (k : Nat) (hk : k < 16) : CtV l yS_restart [.code yS_restart cS_restart 2 none] rm_S_restart 0 0 D ca s0 [.ref (h), .int (nI k)] [(h, .inr (1, [.ref (b), .int (kd), .int (wd), .int (pl), .int (en), .int (tk), .int (dn), .int (rm)])), (b, .inl (ca 2, 25, .inr (.inl (L))))] (S := Nat → Int64) (fun M => kEq (lb M) (fun _ => false)) (fun M => [(h, .inr (1, [.ref (b), .int (nI k), .int (nI (wid k)), .int (nI 0), .int (nI (e0 k)), .int (nI 0), .int (nI 0), .int ((-1))])), (b, .inl (ca 2, 25, .inr (.inl M)))]) := by
  refine ctV_of (cc := cS_restart) (maxL := 2) (own := RS) Z rfl (by decide) rfl (Nat.le_of_ble_eq_true rfl) ?_
  intro p e s m args below meth c A ls Q S hnm ret C hl
  have hx := S.1
  have hb := S.2.1
  have hown := S.2.2.2.1
  have hts := S.2.2.2.2
  generalize s.heap = H at C ⊢
  generalize ([] : List Loc) = locs at C ⊢
  replace hl : lv_has ls 2 [(0, .ref (h)), (1, .int (nI k))] := hl
  refine lv_aload_n hx hb dS_restart_0 rfl (lv_at hl 0 rfl) ?_
  refine n_get S C hin_S 0 rfl rfl 0 (by decide) g_73 rfl dS_restart_1 ?_
  refine lv_lconst (v := 0) hx hb dS_restart_4 (by decide) ?_
  refine n_callV (wc := [(b, .inl (ca 2, 25, .inr (.inl (L))))]) (wr := [(h, .inr (1, [.ref (b), .int (kd), .int (wd), .int (pl), .int (en), .int (tk), .int (dn), .int (rm)]))]) C [1] [0] rfl rfl rfl rfl (by decide) (fun hp => va_runS (rest := []) S (c_J_fill l D ca s0 a0 Z b L 0 _) (va_cwS 2 hts (gT g_70 g_71 g_33 g_72) rfl rfl rfl (by decide +kernel) ⟨Nat.le_of_ble_eq_true rfl, Nat.le_of_ble_eq_true rfl⟩) hp rfl rfl hl.1 rfl (lv_room (Nat.le_of_ble_eq_true rfl)) dS_restart_5 ⟨Nat.le_of_ble_eq_true rfl, Nat.le_of_ble_eq_true rfl⟩) (fun u H locs hp C => ?_)
  replace C : Cx D ca s0 A s [(h, .inr (1, [.ref (b), .int (kd), .int (wd), .int (pl), .int (en), .int (tk), .int (dn), .int (rm)])), (b, .inl (ca 2, 25, .inr (.inl (u))))] H locs := C.re [0, 1] rfl rfl
  obtain ⟨M1, rfl⟩ : ∃ z, z = u := ⟨_, rfl⟩
  have h1 := hp
  refine lv_aload_n hx hb dS_restart_8 rfl (lv_at hl 0 rfl) ?_
  refine lv_iload_n hx hb dS_restart_9 rfl (lv_at hl 1 rfl) ?_
  refine n_put S C hin_S tyS tyS_ok nmS 0 rfl rfl 1 (by decide) g_74 rfl rfl rfl rfl (Nat.le_of_ble_eq_true rfl) dS_restart_10 (fun H locs C => ?_)
  replace C : Cx D ca s0 A s [(h, .inr (1, [.ref (b), .int (nI k), .int (wd), .int (pl), .int (en), .int (tk), .int (dn), .int (rm)])), (b, .inl (ca 2, 25, .inr (.inl (M1))))] H locs := C
  refine lv_aload_n hx hb dS_restart_13 rfl (lv_at hl 0 rfl) ?_
  refine n_getsN S C Z Zs.2.2.2.1 t_4 dS_restart_14 ?_
  refine lv_iload_n hx hb dS_restart_17 rfl (lv_at hl 1 rfl) ?_
  refine n_tiald S C Zs.2.2.2.1 (i := k) (by omega) (by decide) rfl dS_restart_18 ?_
  refine n_put S C hin_S tyS tyS_ok nmS 0 rfl rfl 2 (by decide) g_75 rfl rfl rfl rfl (Nat.le_of_ble_eq_true rfl) dS_restart_19 (fun H locs C => ?_)
  replace C : Cx D ca s0 A s [(h, .inr (1, [.ref (b), .int (nI k), .int (nI (wid k)), .int (pl), .int (en), .int (tk), .int (dn), .int (rm)])), (b, .inl (ca 2, 25, .inr (.inl (M1))))] H locs := C
  refine lv_aload_n hx hb dS_restart_22 rfl (lv_at hl 0 rfl) ?_
  refine lv_iconst (v := nI 0) hx hb dS_restart_23 (by decide) ?_
  refine n_put S C hin_S tyS tyS_ok nmS 0 rfl rfl 3 (by decide) g_76 rfl rfl rfl rfl (Nat.le_of_ble_eq_true rfl) dS_restart_24 (fun H locs C => ?_)
  replace C : Cx D ca s0 A s [(h, .inr (1, [.ref (b), .int (nI k), .int (nI (wid k)), .int (nI 0), .int (en), .int (tk), .int (dn), .int (rm)])), (b, .inl (ca 2, 25, .inr (.inl (M1))))] H locs := C
  refine lv_aload_n hx hb dS_restart_27 rfl (lv_at hl 0 rfl) ?_
  refine lv_iload_n hx hb dS_restart_28 rfl (lv_at hl 1 rfl) ?_
  refine lv_iconst (v := nI 4) hx hb dS_restart_29 (by decide) ?_
  refine n_icmp_ge (tgt := 38) S (by omega) (by omega) dS_restart_30 (by decide) (fun hc30 => ?_) (fun hc30 => ?_)
  · skip
    refine lv_bipush (v := nI 31) hx hb dS_restart_38 (by decide) ?_
    refine n_put S C hin_S tyS tyS_ok nmS 0 rfl rfl 4 (by decide) g_77 rfl rfl rfl rfl (Nat.le_of_ble_eq_true rfl) dS_restart_40 (fun H locs C => ?_)
    replace C : Cx D ca s0 A s [(h, .inr (1, [.ref (b), .int (nI k), .int (nI (wid k)), .int (nI 0), .int (nI 31), .int (tk), .int (dn), .int (rm)])), (b, .inl (ca 2, 25, .inr (.inl (M1))))] H locs := C
    refine lv_aload_n hx hb dS_restart_43 rfl (lv_at hl 0 rfl) ?_
    refine lv_iconst (v := nI 0) hx hb dS_restart_44 (by decide) ?_
    refine n_put S C hin_S tyS tyS_ok nmS 0 rfl rfl 5 (by decide) g_78 rfl rfl rfl rfl (Nat.le_of_ble_eq_true rfl) dS_restart_45 (fun H locs C => ?_)
    replace C : Cx D ca s0 A s [(h, .inr (1, [.ref (b), .int (nI k), .int (nI (wid k)), .int (nI 0), .int (nI 31), .int (nI 0), .int (dn), .int (rm)])), (b, .inl (ca 2, 25, .inr (.inl (M1))))] H locs := C
    refine lv_aload_n hx hb dS_restart_48 rfl (lv_at hl 0 rfl) ?_
    refine lv_iconst (v := nI 0) hx hb dS_restart_49 (by decide) ?_
    refine n_put S C hin_S tyS tyS_ok nmS 0 rfl rfl 6 (by decide) g_79 rfl rfl rfl rfl (Nat.le_of_ble_eq_true rfl) dS_restart_50 (fun H locs C => ?_)
    replace C : Cx D ca s0 A s [(h, .inr (1, [.ref (b), .int (nI k), .int (nI (wid k)), .int (nI 0), .int (nI 31), .int (nI 0), .int (nI 0), .int (rm)])), (b, .inl (ca 2, 25, .inr (.inl (M1))))] H locs := C
    refine lv_aload_n hx hb dS_restart_53 rfl (lv_at hl 0 rfl) ?_
    refine lv_iconst (v := (-1)) hx hb dS_restart_54 (by decide) ?_
    refine n_put S C hin_S tyS tyS_ok nmS 0 rfl rfl 7 (by decide) g_80 rfl rfl rfl rfl (Nat.le_of_ble_eq_true rfl) dS_restart_55 (fun H locs C => ?_)
    replace C : Cx D ca s0 A s [(h, .inr (1, [.ref (b), .int (nI k), .int (nI (wid k)), .int (nI 0), .int (nI 31), .int (nI 0), .int (nI 0), .int ((-1))])), (b, .inl (ca 2, 25, .inr (.inl (M1))))] H locs := C
    rw [show e0 k = 31 from if_neg (by omega)] at ret
    exact ret M1 _ _ _ _ _ _ (Nat.le_refl _) (Nat.le_refl _) (lb_zero h1) C dS_restart_58
  · skip
    refine lv_bipush (v := nI 6) hx hb dS_restart_33 (by decide) ?_
    refine lv_goto (tgt := 40) hx hb dS_restart_35 (by decide) ?_
    refine n_put S C hin_S tyS tyS_ok nmS 0 rfl rfl 4 (by decide) g_77 rfl rfl rfl rfl (Nat.le_of_ble_eq_true rfl) dS_restart_40 (fun H locs C => ?_)
    replace C : Cx D ca s0 A s [(h, .inr (1, [.ref (b), .int (nI k), .int (nI (wid k)), .int (nI 0), .int (nI 6), .int (tk), .int (dn), .int (rm)])), (b, .inl (ca 2, 25, .inr (.inl (M1))))] H locs := C
    refine lv_aload_n hx hb dS_restart_43 rfl (lv_at hl 0 rfl) ?_
    refine lv_iconst (v := nI 0) hx hb dS_restart_44 (by decide) ?_
    refine n_put S C hin_S tyS tyS_ok nmS 0 rfl rfl 5 (by decide) g_78 rfl rfl rfl rfl (Nat.le_of_ble_eq_true rfl) dS_restart_45 (fun H locs C => ?_)
    replace C : Cx D ca s0 A s [(h, .inr (1, [.ref (b), .int (nI k), .int (nI (wid k)), .int (nI 0), .int (nI 6), .int (nI 0), .int (dn), .int (rm)])), (b, .inl (ca 2, 25, .inr (.inl (M1))))] H locs := C
    refine lv_aload_n hx hb dS_restart_48 rfl (lv_at hl 0 rfl) ?_
    refine lv_iconst (v := nI 0) hx hb dS_restart_49 (by decide) ?_
    refine n_put S C hin_S tyS tyS_ok nmS 0 rfl rfl 6 (by decide) g_79 rfl rfl rfl rfl (Nat.le_of_ble_eq_true rfl) dS_restart_50 (fun H locs C => ?_)
    replace C : Cx D ca s0 A s [(h, .inr (1, [.ref (b), .int (nI k), .int (nI (wid k)), .int (nI 0), .int (nI 6), .int (nI 0), .int (nI 0), .int (rm)])), (b, .inl (ca 2, 25, .inr (.inl (M1))))] H locs := C
    refine lv_aload_n hx hb dS_restart_53 rfl (lv_at hl 0 rfl) ?_
    refine lv_iconst (v := (-1)) hx hb dS_restart_54 (by decide) ?_
    refine n_put S C hin_S tyS tyS_ok nmS 0 rfl rfl 7 (by decide) g_80 rfl rfl rfl rfl (Nat.le_of_ble_eq_true rfl) dS_restart_55 (fun H locs C => ?_)
    replace C : Cx D ca s0 A s [(h, .inr (1, [.ref (b), .int (nI k), .int (nI (wid k)), .int (nI 0), .int (nI 6), .int (nI 0), .int (nI 0), .int ((-1))])), (b, .inl (ca 2, 25, .inr (.inl (M1))))] H locs := C
    rw [show e0 k = 6 from if_pos (by omega)] at ret
    exact ret M1 _ _ _ _ _ _ (Nat.le_refl _) (Nat.le_refl _) (lb_zero h1) C dS_restart_58
abbrev rm_S_init : Room := { frames := 2, cells := 1, slots := 25, locals := 45 }
set_option maxHeartbeats 4000000 in
set_option maxRecDepth 100000 in
theorem c_S_init (l : Launch) (D : va_G) (ca : Nat → ClassId) (s0 : State) (a0 : Array Value) (Z : Wd a0 s0) (tz : Nat → Nat) (Zs : ZS tz s0) (h : Nat) : CtV l yS_init [.code yS_init cS_init 1 none] rm_S_init 1 25 D ca s0 [.ref (h)] [(h, .inr (1, [.null, .int (0), .int (0), .int (0), .int (0), .int (0), .int (0), .int (0)]))] (S := Nat × (Nat → Int64)) (fun u => kEq (lb u.2) (fun _ => false)) (fun u => [(h, .inr (1, [.ref u.1, .int (nI 0), .int (nI 144), .int (nI 0), .int (nI 6), .int (nI 0), .int (nI 0), .int (-1)])), (u.1, .inl (ca 2, 25, .inr (.inl u.2)))]) := by
  refine ctV_of (cc := cS_init) (maxL := 1) (own := RS) Z rfl (by decide) rfl (Nat.le_of_ble_eq_true rfl) ?_
  intro p e s m args below meth c A ls Q S hnm ret C hl
  have hx := S.1
  have hb := S.2.1
  have hown := S.2.2.2.1
  have hts := S.2.2.2.2
  generalize s.heap = H at C ⊢
  generalize ([] : List Loc) = locs at C ⊢
  replace hl : lv_has ls 1 [(0, .ref (h))] := hl
  have hin2 : meth.name = "<init>" := hnm
  refine lv_aload_n hx hb dS_init_0 rfl (lv_at hl 0 rfl) ?_
  refine n_objInit S g_65 g_49 g_50 hl.1 dS_init_1 (Nat.le_of_ble_eq_true rfl) (Nat.le_of_ble_eq_true rfl) ?_
  refine lv_aload_n hx hb dS_init_4 rfl (lv_at hl 0 rfl) ?_
  refine lv_bipush (v := nI 25) hx hb dS_init_5 (by decide) ?_
  refine n_newa (N := 25) (x := (25, .inr (.inl (fun _ => 0)))) S C 2 rfl (fun _ h => by cases h) g_81 rfl (fun _ => rfl) (by decide) (by decide) (Nat.le_of_ble_eq_true rfl) (Nat.le_of_ble_eq_true rfl) dS_init_7 (fun b H C => ?_)
  replace C : Cx D ca s0 A s [(h, .inr (1, [.null, .int (0), .int (0), .int (0), .int (0), .int (0), .int (0), .int (0)])), (b, .inl (ca 2, 25, .inr (.inl (fun _ => 0))))] H locs := C
  refine n_putF S C hin_S tyS tyS_ok nmS 0 rfl rfl 0 (by decide) g_73 rfl hin2 rfl rfl rfl rfl (Nat.le_of_ble_eq_true rfl) dS_init_9 (fun H locs C => ?_)
  replace C : Cx D ca s0 A s [(h, .inr (1, [.ref (b), .int (0), .int (0), .int (0), .int (0), .int (0), .int (0), .int (0)])), (b, .inl (ca 2, 25, .inr (.inl (fun _ => 0))))] H locs := C
  refine lv_aload_n hx hb dS_init_12 rfl (lv_at hl 0 rfl) ?_
  refine lv_iconst (v := nI 0) hx hb dS_init_13 (by decide) ?_
  refine n_callV (wc := [(h, .inr (1, [.ref (b), .int (0), .int (0), .int (0), .int (0), .int (0), .int (0), .int (0)])), (b, .inl (ca 2, 25, .inr (.inl (fun _ => 0))))]) (wr := []) C [0, 1] [] rfl rfl rfl rfl (by decide) (fun hp => va_runV (rest := []) S (c_S_restart l D ca s0 a0 Z tz Zs h b (fun _ => 0) 0 0 0 0 0 0 0 0 (by decide) _) (cwV 1 hts (gV g_66 g_67 g_68 g_32 g_69) rfl rfl rfl (by decide +kernel) ⟨Nat.le_of_ble_eq_true rfl, Nat.le_of_ble_eq_true rfl⟩) ⟨hp.1, n_recv C 0 1 rfl rfl, hp.2⟩ rfl rfl hl.1 rfl (lv_room (Nat.le_of_ble_eq_true rfl)) dS_init_14 ⟨Nat.le_of_ble_eq_true rfl, Nat.le_of_ble_eq_true rfl⟩) (fun u H locs hp C => ?_)
  replace C : Cx D ca s0 A s [(h, .inr (1, [.ref (b), .int (nI 0), .int (nI 144), .int (nI 0), .int (nI 6), .int (nI 0), .int (nI 0), .int ((-1))])), (b, .inl (ca 2, 25, .inr (.inl (u))))] H locs := C.re [0, 1] rfl rfl
  obtain ⟨M1, rfl⟩ : ∃ z, z = u := ⟨_, rfl⟩
  have h1 := hp
  exact ret ((b, M1)) _ _ _ _ _ _ (Nat.le_refl _) (Nat.le_refl _) h1 C dS_init_17
abbrev rm_R_init : Room := { frames := 1, cells := 1, slots := 300, locals := 12 }
set_option maxHeartbeats 4000000 in
set_option maxRecDepth 100000 in
theorem c_R_init (l : Launch) (D : va_G) (ca : Nat → ClassId) (s0 : State) (a0 : Array Value) (Z : Wd a0 s0) (r : Nat) : CtV l yR_init [.code yR_init cR_init 1 none] rm_R_init 1 300 D ca s0 [.ref (r)] [(r, .inr (0, [.null, .int (0)]))] (S := Nat) (fun _ => True) (fun rb => [(r, .inr (0, [.ref rb, .int (nI 0)])), (rb, .inl (ca 3, 300, .inl (fun _ => 0)))]) := by
  refine ctV_of (cc := cR_init) (maxL := 1) (own := RR) Z rfl (by decide) rfl (Nat.le_of_ble_eq_true rfl) ?_
  intro p e s m args below meth c A ls Q S hnm ret C hl
  have hx := S.1
  have hb := S.2.1
  have hown := S.2.2.2.1
  have hts := S.2.2.2.2
  generalize s.heap = H at C ⊢
  generalize ([] : List Loc) = locs at C ⊢
  replace hl : lv_has ls 1 [(0, .ref (r))] := hl
  have hin2 : meth.name = "<init>" := hnm
  refine lv_aload_n hx hb dR_init_0 rfl (lv_at hl 0 rfl) ?_
  refine n_objInit S g_56 g_49 g_50 hl.1 dR_init_1 (Nat.le_of_ble_eq_true rfl) (Nat.le_of_ble_eq_true rfl) ?_
  refine lv_aload_n hx hb dR_init_4 rfl (lv_at hl 0 rfl) ?_
  refine lv_sipush (v := nI 300) hx hb dR_init_5 (by decide) ?_
  refine n_newa (N := 300) (x := (300, .inl (fun _ => 0))) S C 3 rfl (fun _ h => by cases h) g_59 rfl (fun _ => rfl) (by decide) (by decide) (Nat.le_of_ble_eq_true rfl) (Nat.le_of_ble_eq_true rfl) dR_init_8 (fun rb H C => ?_)
  replace C : Cx D ca s0 A s [(r, .inr (0, [.null, .int (0)])), (rb, .inl (ca 3, 300, .inl (fun _ => 0)))] H locs := C
  refine n_putF S C hin_R tyR tyR_ok nmR 0 rfl rfl 0 (by decide) g_57 rfl hin2 rfl rfl rfl rfl (Nat.le_of_ble_eq_true rfl) dR_init_10 (fun H locs C => ?_)
  replace C : Cx D ca s0 A s [(r, .inr (0, [.ref (rb), .int (0)])), (rb, .inl (ca 3, 300, .inl (fun _ => 0)))] H locs := C
  refine lv_aload_n hx hb dR_init_13 rfl (lv_at hl 0 rfl) ?_
  refine lv_iconst (v := nI 0) hx hb dR_init_14 (by decide) ?_
  refine n_put S C hin_R tyR tyR_ok nmR 0 rfl rfl 1 (by decide) g_58 rfl rfl rfl rfl (Nat.le_of_ble_eq_true rfl) dR_init_15 (fun H locs C => ?_)
  replace C : Cx D ca s0 A s [(r, .inr (0, [.ref (rb), .int (nI 0)])), (rb, .inl (ca 3, 300, .inl (fun _ => 0)))] H locs := C
  exact ret rb _ _ _ _ _ _ (Nat.le_refl _) (Nat.le_refl _) trivial C dR_init_18
abbrev rm_R_hasRoomFor : Room := { frames := 0, cells := 0, slots := 0, locals := 0 }
set_option maxHeartbeats 4000000 in
set_option maxRecDepth 100000 in
theorem c_R_hasRoomFor (l : Launch) (D : va_G) (ca : Nat → ClassId) (s0 : State) (a0 : Array Value) (Z : Wd a0 s0) (r rb n k : Nat) (hn : n ≤ 300) (hk : k ≤ 8) : CtI l yR_hasRoomFor [.code yR_hasRoomFor cR_hasRoomFor 2 (some .boolean)] rm_R_hasRoomFor 0 0 D ca s0 [.ref (r), .int (nI k)] [(r, .inr (0, [.ref (rb), .int (nI n)]))] (S := Unit) (fun x _ => x = b2i (decide (n + k ≤ 300))) (fun _ => [(r, .inr (0, [.ref (rb), .int (nI n)]))]) := by
  refine ctZ_of (cc := cR_hasRoomFor) (maxL := 2) (own := RR) Z rfl (by decide) rfl (Nat.le_of_ble_eq_true rfl) ?_
  intro p e s m args below meth c A ls Q S hnm ret C hl
  have hx := S.1
  have hb := S.2.1
  have hown := S.2.2.2.1
  have hts := S.2.2.2.2
  generalize s.heap = H at C ⊢
  generalize ([] : List Loc) = locs at C ⊢
  replace hl : lv_has ls 2 [(0, .ref (r)), (1, .int (nI k))] := hl
  refine lv_aload_n hx hb dR_hasRoomFor_0 rfl (lv_at hl 0 rfl) ?_
  refine n_get S C hin_R 0 rfl rfl 1 (by decide) g_58 rfl dR_hasRoomFor_1 ?_
  refine lv_iload_n hx hb dR_hasRoomFor_4 rfl (lv_at hl 1 rfl) ?_
  refine n_add S dR_hasRoomFor_5 ?_
  refine lv_sipush (v := nI 300) hx hb dR_hasRoomFor_6 (by decide) ?_
  refine n_bc_gt S (decide (n + k ≤ 300)) (by rw [decide_eq_true_iff, nI_ltI (by omega) (by omega)]; omega) dR_hasRoomFor_9 dR_hasRoomFor_12 dR_hasRoomFor_13 dR_hasRoomFor_16 (by decide) (by decide) ?_
  exact ret (b2i (decide (n + k ≤ 300))) (()) _ _ _ _ _ _ (b2i_narrow _) (Nat.le_refl _) (Nat.le_refl _) rfl C dR_hasRoomFor_17
abbrev rm_R_append : Room := { frames := 0, cells := 0, slots := 0, locals := 0 }
set_option maxHeartbeats 4000000 in
set_option maxRecDepth 100000 in
theorem c_R_append (l : Launch) (D : va_G) (ca : Nat → ClassId) (s0 : State) (a0 : Array Value) (Z : Wd a0 s0) (r rb : Nat) (f : Nat → Int32) (T : Nat → Nat) (n : Nat) (hn : n ≤ 300) (hT : sb_Lat T n f) (k : Nat) (hk : k ≤ 8) (hnk : n + k ≤ 300) (x : Int64) : CtI l yR_append [.code yR_append cR_append 5 (some .int)] rm_R_append 0 0 D ca s0 [.ref (r), .int (nI k), .long (x)] [(r, .inr (0, [.ref (rb), .int (nI n)])), (rb, .inl (ca 3, 300, .inl (f)))] (S := Nat → Int32) (fun u g => u = nI (n + k) ∧ sb_Lat (sb_cat T n (byAt x)) (n + k) g) (fun g => [(r, .inr (0, [.ref (rb), .int (nI (n + k))])), (rb, .inl (ca 3, 300, .inl g))]) := by
  refine ctI_of (cc := cR_append) (maxL := 5) (own := RR) Z rfl (by decide) rfl (Nat.le_of_ble_eq_true rfl) ?_
  intro p e s m args below meth c A ls Q S hnm ret C hl
  have hx := S.1
  have hb := S.2.1
  have hown := S.2.2.2.1
  have hts := S.2.2.2.2
  generalize s.heap = H at C ⊢
  generalize ([] : List Loc) = locs at C ⊢
  replace hl : lv_has ls 5 [(0, .ref (r)), (1, .int (nI k)), (2, .long (x))] := hl
  refine lv_iconst (v := nI 0) hx hb dR_append_0 (by decide) ?_
  refine lv_istore hx hb dR_append_1 hl (Nat.le_of_ble_eq_true rfl) rfl (fun ls hl => ?_)
  replace hl : lv_has ls 5 [(4, .int (nI 0)), (0, .ref (r)), (1, .int (nI k)), (2, .long (x))] := hl
  have lp3 : ∀ (nf : Nat) (i : Nat) (g : Nat → Int32) (H : Heap) (locs : List Loc) (ls : Array Slot), k - i < nf → i ≤ k → sb_Lat (sb_cat T n (byAt x)) (n + i) g → Cx D ca s0 A s [(r, .inr (0, [.ref (rb), .int (nI n)])), (rb, .inl (ca 3, 300, .inl (g)))] H locs → lv_has ls 5 [(4, .int (nI i)), (0, .ref (r)), (1, .int (nI k)), (2, .long (x))] → W p l e rm_R_append s m args below meth c H locs 0 0 Q (F0 m 3 ls []) := by
    intro nf
    induction nf with
    | zero => intro i g H locs ls hn; exact absurd hn (Nat.not_lt_zero _)
    | succ nf ih_lp3 =>
      intro i g H locs ls hn lp3_le hG C hl
      refine lv_iload hx hb dR_append_3 (lv_at hl 0 rfl) ?_
      refine lv_iload_n hx hb dR_append_5 rfl (lv_at hl 2 rfl) ?_
      refine n_icmp_ge (tgt := 36) S (by omega) (by omega) dR_append_6 (by decide) (fun hc6 => ?_) (fun hc6 => ?_)
      · skip
        rw [show i = k by omega] at hG
        refine lv_aload_n hx hb dR_append_36 rfl (lv_at hl 1 rfl) ?_
        refine lv_dup hx hb dR_append_37 rfl ?_
        refine n_get S C hin_R 0 rfl rfl 1 (by decide) g_58 rfl dR_append_38 ?_
        refine lv_iload_n hx hb dR_append_41 rfl (lv_at hl 2 rfl) ?_
        refine n_add S dR_append_42 ?_
        refine n_put S C hin_R tyR tyR_ok nmR 0 rfl rfl 1 (by decide) g_58 rfl rfl rfl rfl (Nat.le_of_ble_eq_true rfl) dR_append_43 (fun H locs C => ?_)
        replace C : Cx D ca s0 A s [(r, .inr (0, [.ref (rb), .int (nI (n + k))])), (rb, .inl (ca 3, 300, .inl (g)))] H locs := C
        refine lv_aload_n hx hb dR_append_46 rfl (lv_at hl 1 rfl) ?_
        refine n_get S C hin_R 0 rfl rfl 1 (by decide) g_58 rfl dR_append_47 ?_
        exact ret (nI (n + k)) g _ _ _ _ _ _ (Nat.le_refl _) (Nat.le_refl _) (⟨rfl, hG⟩) C dR_append_50
      · skip
        refine lv_aload_n hx hb dR_append_9 rfl (lv_at hl 1 rfl) ?_
        refine n_get S C hin_R 0 rfl rfl 0 (by decide) g_57 rfl dR_append_10 ?_
        refine lv_aload_n hx hb dR_append_13 rfl (lv_at hl 1 rfl) ?_
        refine n_get S C hin_R 0 rfl rfl 1 (by decide) g_58 rfl dR_append_14 ?_
        refine lv_iload hx hb dR_append_17 (lv_at hl 0 rfl) ?_
        refine n_add S dR_append_19 ?_
        refine lv_lload_n hx hb dR_append_20 rfl (lv_at hl 3 rfl) ?_
        refine lv_bipush (v := nI 8) hx hb dR_append_21 (by decide) ?_
        refine lv_iload hx hb dR_append_23 (lv_at hl 0 rfl) ?_
        refine n_mul S dR_append_25 ?_
        refine lv_lushr (v := lShr x (8 * i)) hx hb dR_append_26 rfl ?_
        refine lv_l2i (v := (lShr x (8 * i)).toInt32) hx hb dR_append_27 rfl ?_
        refine lv_i2b (v := ((lShr x (8 * i)).toInt32).toInt8.toInt32) hx hb dR_append_28 rfl ?_
        refine n_bast S C 1 rfl (i := n + i) (by omega) (by decide) dR_append_29 (fun H locs C => ?_)
        replace C : Cx D ca s0 A s [(r, .inr (0, [.ref (rb), .int (nI n)])), (rb, .inl (ca 3, 300, .inl (upd g (n + i) (vp_nar .byte (((lShr x (8 * i)).toInt32).toInt8.toInt32)))))] H locs := C
        refine lv_iinc (k := 0) (v := nI (i + 1)) hx hb dR_append_30 hl rfl (n_inc1 _) (Nat.le_of_ble_eq_true rfl) rfl (fun ls hl => ?_)
        replace hl : lv_has ls 5 [(4, .int (nI (i + 1))), (0, .ref (r)), (1, .int (nI k)), (2, .long (x))] := hl
        refine lv_goto (tgt := 3) hx hb dR_append_33 (by decide) ?_
        exact ih_lp3 (i + 1) _ _ _ _ (by omega) (by omega) (lat_put hG (lat_b x (by omega))) C (lv_sub hl [0, 1, 2, 3] rfl)
  exact lp3 (k + 1) 0 _ _ _ _ (by omega) (by omega) (lat_0 hT) C (lv_sub hl [0, 1, 2, 3] rfl)
abbrev rm_R_becomeLike : Room := { frames := 1, cells := 0, slots := 0, locals := 60 }
set_option maxHeartbeats 4000000 in
set_option maxRecDepth 100000 in
theorem c_R_becomeLike (l : Launch) (D : va_G) (ca : Nat → ClassId) (s0 : State) (a0 : Array Value) (Z : Wd a0 s0) (r rb : Nat) (f : Nat → Int32) (n : Nat) (r2 rb2 : Nat) (f2 : Nat → Int32) (T2 : Nat → Nat) (n2 : Nat) (hn2 : n2 ≤ 300) (hT2 : sb_Lat T2 n2 f2) : CtV l yR_becomeLike [.code yR_becomeLike cR_becomeLike 2 none] rm_R_becomeLike 0 0 D ca s0 [.ref (r), .ref (r2)] [(r, .inr (0, [.ref (rb), .int (nI n)])), (rb, .inl (ca 3, 300, .inl (f))), (r2, .inr (0, [.ref (rb2), .int (nI n2)])), (rb2, .inl (ca 3, 300, .inl (f2)))] (S := Nat → Int32) (fun g => sb_Lat T2 n2 g) (fun g => [(r, .inr (0, [.ref (rb), .int (nI n2)])), (rb, .inl (ca 3, 300, .inl g)), (r2, .inr (0, [.ref (rb2), .int (nI n2)])), (rb2, .inl (ca 3, 300, .inl f2))]) := by
  refine ctV_of (cc := cR_becomeLike) (maxL := 2) (own := RR) Z rfl (by decide) rfl (Nat.le_of_ble_eq_true rfl) ?_
  intro p e s m args below meth c A ls Q S hnm ret C hl
  have hx := S.1
  have hb := S.2.1
  have hown := S.2.2.2.1
  have hts := S.2.2.2.2
  generalize s.heap = H at C ⊢
  generalize ([] : List Loc) = locs at C ⊢
  replace hl : lv_has ls 2 [(0, .ref (r)), (1, .ref (r2))] := hl
  refine lv_aload_n hx hb dR_becomeLike_0 rfl (lv_at hl 1 rfl) ?_
  refine n_get S C hin_R 2 rfl rfl 0 (by decide) g_57 rfl dR_becomeLike_1 ?_
  refine lv_iconst (v := nI 0) hx hb dR_becomeLike_4 (by decide) ?_
  refine lv_aload_n hx hb dR_becomeLike_5 rfl (lv_at hl 0 rfl) ?_
  refine n_get S C hin_R 0 rfl rfl 0 (by decide) g_57 rfl dR_becomeLike_6 ?_
  refine lv_iconst (v := nI 0) hx hb dR_becomeLike_9 (by decide) ?_
  refine lv_aload_n hx hb dR_becomeLike_10 rfl (lv_at hl 1 rfl) ?_
  refine n_get S C hin_R 2 rfl rfl 1 (by decide) g_58 rfl dR_becomeLike_11 ?_
  refine n_copyb (k := n2) S C g_160 g_162 g_161 g_39 3 1 rfl rfl (by omega) (by omega) (by omega) (fun i hi => by rw [(hT2 i hi).2]; exact sb_fitB _) hl.1 (Nat.le_of_ble_eq_true rfl) (Nat.le_of_ble_eq_true rfl) dR_becomeLike_14 (fun H locs C => ?_)
  replace C : Cx D ca s0 A s [(r, .inr (0, [.ref (rb), .int (nI n)])), (rb, .inl (ca 3, 300, .inl (va_cpy f2 f 0 0 n2))), (r2, .inr (0, [.ref (rb2), .int (nI n2)])), (rb2, .inl (ca 3, 300, .inl (f2)))] H locs := C
  refine lv_aload_n hx hb dR_becomeLike_17 rfl (lv_at hl 0 rfl) ?_
  refine lv_aload_n hx hb dR_becomeLike_18 rfl (lv_at hl 1 rfl) ?_
  refine n_get S C hin_R 2 rfl rfl 1 (by decide) g_58 rfl dR_becomeLike_19 ?_
  refine n_put S C hin_R tyR tyR_ok nmR 0 rfl rfl 1 (by decide) g_58 rfl rfl rfl rfl (Nat.le_of_ble_eq_true rfl) dR_becomeLike_22 (fun H locs C => ?_)
  replace C : Cx D ca s0 A s [(r, .inr (0, [.ref (rb), .int (nI n2)])), (rb, .inl (ca 3, 300, .inl (va_cpy f2 f 0 0 n2))), (r2, .inr (0, [.ref (rb2), .int (nI n2)])), (rb2, .inl (ca 3, 300, .inl (f2)))] H locs := C
  exact ret _ _ _ _ _ _ _ (Nat.le_refl _) (Nat.le_refl _) (lat_cpy hT2) C dR_becomeLike_25
