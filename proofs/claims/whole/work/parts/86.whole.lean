
/-! THE CLAIM OUT OF ONE WALK OF THE LAW'S BODY. Your part is whole_start (and what it stands on); all else here is the same for every law, but numbers. -/
def R_law : String := "SpongeDeskLaw"
def lw_P (b : Addr) (xs : List Int32) (args : Array Value) (s : State) : Prop := args = #[.ref b] ∧ s.IntsAt b xs ∧ xs.length ≤ 2560 ∧ (Jvm.Cond.and given_1 narrow_1).before args s = true
def lw_Q (_ : Array Value) (s : State) (o : Outcome) (t : State) : Prop := o = .returned (some (.int 1)) ∧ Framed s o t [] 601024 7293034
def lw_Z (below : List Frame) (a : Array Value) (s : State) : State → Prop := fun t => ∃ o, t.status = .running ∧ Ended t below o ∧ lw_Q a s o t
/-- the law's own end, with 1 on the stack, nothing written that was there before, its room as the claim has it -/
theorem lw_ret {p : Program} {l : Launch} {e : Env} {s : State} {m : MethodId} {below : List Frame} {meth : Method} {c : Code} {b : Nat} (hx : p.tables.exec = Jvm.exec) (hb : c.code = code) (hr : meth.sig.returnType = ret) (hlocks : meth.locks = false) {pc : Nat} {H : Heap} {ls : Array Slot} (hdg : decode code pc = .ok (.ireturn, 1)) : W p l e room_1 s m #[Value.ref b] below meth c H [] 601024 7293034 (lw_Z below #[Value.ref b] s) (F0 m pc ls [.int 1]) := by
  intro T hT X
  obtain ⟨fs, hret, hrun, hended, hW, hframe⟩ := X.leave (v := some (.int 1)) (hlocks := hlocks) (fun h => by rw [hr] at h; cases h)
  have hmeth' : T.vm.method? m = some meth := X.method'
  refine ⟨T.setFrames fs, ?_, .returned (some (.int 1)), hrun, hended, rfl, ⟨_, rfl⟩, hW, hframe⟩
  jvm_step X.here [X.here.top, hx, hb, hdg, hmeth', hr, ret, narrow_b1]
  (try refine ⟨rfl, ?_⟩); (try refine ⟨rfl, ?_⟩)
  first | (intro acts; rw [hret _ acts rfl rfl rfl]) | rw [hret _ _ rfl rfl rfl]
  exact Steps.refl _
/-- what holds at the law's entry: the machine, the code, the tables' words (any of lw_tbl by 'hts w (by decide +kernel)'), the script of L ints xs at the cell b, what the Statement gives of the start (any of its parts by flat_of_before) -/
def lw_At (p : Program) (s : State) (m : MethodId) (meth : Method) (c : Code) (b L : Nat) (xs : Nat → Int32) : Prop :=
  p.tables.exec = Jvm.exec ∧ c.code = code ∧ meth.sig.returnType = ret ∧ c.maxLocals = 8 ∧ s.vm.findClass R_law = some m.cls ∧ (∀ w ∈ lw_tbl, w.before #[Value.ref b] s = true) ∧ va_X b L xs s s.heap ∧ b < s.heap.size ∧ meth.locks = false ∧ (Jvm.Cond.and given_1 narrow_1).before #[Value.ref b] s = true
set_option maxHeartbeats 4000000 in
set_option maxRecDepth 100000 in
theorem whole_start {p : Program} {e : Env} {s : State} {m : MethodId} {below : List Frame} {meth : Method} {c : Code} (l : Launch) (hl0 : l.stackTraces = false) {b L : Nat} {xs : Nat → Int32} (hL : L ≤ 2560) (C0 : lw_At p s m meth c b L xs) : W p l e room_1 s m #[Value.ref b] below meth c s.heap [] 0 0 (lw_Z below #[Value.ref b] s) (entryFrame m ([Value.ref b] : List Value).toArray 8) := by
  obtain ⟨hx, hb, hr, hml, hown, Z, hXX, hbl, hlk, hgv⟩ := C0
  replace Z : Wd #[Value.ref b] s := Z
  have hq := flat_of_before _ hgv
  have hts : ∀ w ∈ lw_good, w.before #[Value.ref b] s = true := fun w hw => Z w (gd_in w hw)
  have S : CallFix p m c cL_law 8 s #[Value.ref b] lw_good RL := ⟨hx, hb, hml, hown, hts⟩
  obtain ⟨D, ca, hK⟩ := kg_ex Z hts
  obtain ⟨zt, Zs⟩ := ZS_ex Z hq
  obtain ⟨sx, Xs⟩ := XS_ex Z hq
  have Xn := XN_of hq
  have hl := lv_entry ([Value.ref b] : List Value) (n := 8) (Nat.le_of_ble_eq_true rfl)
  rw [lg_entry_eq]
  revert hl
  refine fun hl => ?_
  obtain ⟨A, hA⟩ : ∃ A : Nat → Prop, A = A0 s := ⟨_, rfl⟩
  have hbA : ¬ A b := by rw [hA]; exact Nat.not_le.mpr hbl
  have C : Cx D ca s A s [] s.heap [] := by
    rw [hA]
    exact ⟨hK, fun k q h => by simp at h, ⟨fun i j p q h => by simp at h, fun k q h => by simp at h⟩, va_S.rf, fun q h => h, State.WarmedH.refl s, fun _ _ => rfl, fun q h => h⟩
  obtain ⟨s0, hs0⟩ : ∃ z, z = s := ⟨_, rfl⟩
  obtain ⟨a0, ha0⟩ : ∃ z : Array Value, z = #[Value.ref b] := ⟨_, rfl⟩
  have Z0 : Wd a0 s0 := by rw [hs0, ha0]; exact Z
  replace Zs : ZS zt s0 := by rw [hs0]; exact Zs
  replace Xs : XS sx s0 := by rw [hs0]; exact Xs
  replace Xn : XN s0 := by rw [hs0]; exact Xn
  replace C : Cx D ca s0 A s [] s.heap [] := by rw [hs0]; exact C
  clear Z
  have Z := Z0
  generalize s.heap = H at C ⊢
  generalize ([] : List Loc) = locs at C ⊢
  refine n_new (fs := [.null, .null, .null, .null, .null, .null, .null]) S C hin_K tyK tyK_ok (ci := 2) rfl df_K g_43 g_44 g_30 (Nat.le_of_ble_eq_true rfl) (Nat.le_of_ble_eq_true rfl) dL_law_0 (fun d H C => ?_)
  replace C : Cx D ca s0 A s [(d, .inr (2, [.null, .null, .null, .null, .null, .null, .null]))] H locs := C
  refine lv_dup hx hb dL_law_3 rfl ?_
  refine n_callV (wc := [(d, .inr (2, [.null, .null, .null, .null, .null, .null, .null]))]) (wr := []) C [0] [] rfl rfl rfl rfl (by decide) (fun hp => va_runI (rest := [.ref (d)]) S (c_K_init l D ca s0 a0 Z zt Zs d _) (cwI 0 hts (gI g_47) rfl rfl rfl (hts _ g_30) (hts _ g_45) (hts _ g_46) rfl (by decide +kernel) ⟨Nat.le_of_ble_eq_true rfl, Nat.le_of_ble_eq_true rfl⟩) hp rfl rfl hl.1 rfl (lv_room (Nat.le_of_ble_eq_true rfl)) dL_law_4 ⟨Nat.le_of_ble_eq_true rfl, Nat.le_of_ble_eq_true rfl⟩) (fun u H locs hp C => ?_)
  obtain ⟨g, rb, sf, sa, sl, Lf⟩ := u
  obtain ⟨hk1, hk2⟩ := hp
  replace C : Cx D ca s0 A s [(d, .inr (2, kF g)), (g 4, .inl (ca 4, 4, .inr (.inr (.inr (.inr sf))))), (g 0, .inr (0, [.ref (rb 0), .int (nI 0)])), (rb 0, .inl (ca 3, 300, .inl (fun _ => 0))), (g 1, .inr (0, [.ref (rb 1), .int (nI 0)])), (rb 1, .inl (ca 3, 300, .inl (fun _ => 0))), (g 2, .inr (0, [.ref (rb 2), .int (nI 0)])), (rb 2, .inl (ca 3, 300, .inl (fun _ => 0))), (g 3, .inr (0, [.ref (rb 3), .int (nI 0)])), (rb 3, .inl (ca 3, 300, .inl (fun _ => 0))), (sa 0, .inr (1, [.ref (sl 0), .int (nI 0), .int (nI 144), .int (nI 0), .int (nI 6), .int (nI 0), .int (nI 0), .int ((-1))])), (sl 0, .inl (ca 2, 25, .inr (.inl (Lf 0)))), (sa 1, .inr (1, [.ref (sl 1), .int (nI 0), .int (nI 144), .int (nI 0), .int (nI 6), .int (nI 0), .int (nI 0), .int ((-1))])), (sl 1, .inl (ca 2, 25, .inr (.inl (Lf 1)))), (sa 2, .inr (1, [.ref (sl 2), .int (nI 0), .int (nI 144), .int (nI 0), .int (nI 6), .int (nI 0), .int (nI 0), .int ((-1))])), (sl 2, .inl (ca 2, 25, .inr (.inl (Lf 2)))), (sa 3, .inr (1, [.ref (sl 3), .int (nI 0), .int (nI 144), .int (nI 0), .int (nI 6), .int (nI 0), .int (nI 0), .int ((-1))])), (sl 3, .inl (ca 2, 25, .inr (.inl (Lf 3)))), (g 5, .inr (1, [.ref (sl 4), .int (nI 0), .int (nI 144), .int (nI 0), .int (nI 6), .int (nI 0), .int (nI 0), .int ((-1))])), (sl 4, .inl (ca 2, 25, .inr (.inl (Lf 4)))), (g 6, .inr (1, [.ref (sl 5), .int (nI 0), .int (nI 144), .int (nI 0), .int (nI 6), .int (nI 0), .int (nI 0), .int ((-1))])), (sl 5, .inl (ca 2, 25, .inr (.inl (Lf 5))))] H locs := C
  refine lv_astore_n hx hb dL_law_7 rfl hl (Nat.le_of_ble_eq_true rfl) rfl (fun ls hl => ?_)
  replace hl : lv_has ls 8 [(1, .ref (d)), (0, .ref (b))] := hl
  refine n_new (fs := [.int (0), .int (0), .null, .null, .null, .null, .null, .null, .null, .null, .null, .null, .null, .null]) S C hin_M tyM tyM_ok (ci := 3) rfl df_M g_336 g_337 g_34 (Nat.le_of_ble_eq_true rfl) (Nat.le_of_ble_eq_true rfl) dL_law_8 (fun h0 H C => ?_)
  replace C : Cx D ca s0 A s [(d, .inr (2, kF g)), (g 4, .inl (ca 4, 4, .inr (.inr (.inr (.inr sf))))), (g 0, .inr (0, [.ref (rb 0), .int (nI 0)])), (rb 0, .inl (ca 3, 300, .inl (fun _ => 0))), (g 1, .inr (0, [.ref (rb 1), .int (nI 0)])), (rb 1, .inl (ca 3, 300, .inl (fun _ => 0))), (g 2, .inr (0, [.ref (rb 2), .int (nI 0)])), (rb 2, .inl (ca 3, 300, .inl (fun _ => 0))), (g 3, .inr (0, [.ref (rb 3), .int (nI 0)])), (rb 3, .inl (ca 3, 300, .inl (fun _ => 0))), (sa 0, .inr (1, [.ref (sl 0), .int (nI 0), .int (nI 144), .int (nI 0), .int (nI 6), .int (nI 0), .int (nI 0), .int ((-1))])), (sl 0, .inl (ca 2, 25, .inr (.inl (Lf 0)))), (sa 1, .inr (1, [.ref (sl 1), .int (nI 0), .int (nI 144), .int (nI 0), .int (nI 6), .int (nI 0), .int (nI 0), .int ((-1))])), (sl 1, .inl (ca 2, 25, .inr (.inl (Lf 1)))), (sa 2, .inr (1, [.ref (sl 2), .int (nI 0), .int (nI 144), .int (nI 0), .int (nI 6), .int (nI 0), .int (nI 0), .int ((-1))])), (sl 2, .inl (ca 2, 25, .inr (.inl (Lf 2)))), (sa 3, .inr (1, [.ref (sl 3), .int (nI 0), .int (nI 144), .int (nI 0), .int (nI 6), .int (nI 0), .int (nI 0), .int ((-1))])), (sl 3, .inl (ca 2, 25, .inr (.inl (Lf 3)))), (g 5, .inr (1, [.ref (sl 4), .int (nI 0), .int (nI 144), .int (nI 0), .int (nI 6), .int (nI 0), .int (nI 0), .int ((-1))])), (sl 4, .inl (ca 2, 25, .inr (.inl (Lf 4)))), (g 6, .inr (1, [.ref (sl 5), .int (nI 0), .int (nI 144), .int (nI 0), .int (nI 6), .int (nI 0), .int (nI 0), .int ((-1))])), (sl 5, .inl (ca 2, 25, .inr (.inl (Lf 5)))), (h0, .inr (3, [.int (0), .int (0), .null, .null, .null, .null, .null, .null, .null, .null, .null, .null, .null, .null]))] H locs := C
  refine lv_dup hx hb dL_law_11 rfl ?_
  refine n_callV (wc := [(h0, .inr (3, [.int (0), .int (0), .null, .null, .null, .null, .null, .null, .null, .null, .null, .null, .null, .null]))]) (wr := [(d, .inr (2, kF g)), (g 4, .inl (ca 4, 4, .inr (.inr (.inr (.inr sf))))), (g 0, .inr (0, [.ref (rb 0), .int (nI 0)])), (rb 0, .inl (ca 3, 300, .inl (fun _ => 0))), (g 1, .inr (0, [.ref (rb 1), .int (nI 0)])), (rb 1, .inl (ca 3, 300, .inl (fun _ => 0))), (g 2, .inr (0, [.ref (rb 2), .int (nI 0)])), (rb 2, .inl (ca 3, 300, .inl (fun _ => 0))), (g 3, .inr (0, [.ref (rb 3), .int (nI 0)])), (rb 3, .inl (ca 3, 300, .inl (fun _ => 0))), (sa 0, .inr (1, [.ref (sl 0), .int (nI 0), .int (nI 144), .int (nI 0), .int (nI 6), .int (nI 0), .int (nI 0), .int ((-1))])), (sl 0, .inl (ca 2, 25, .inr (.inl (Lf 0)))), (sa 1, .inr (1, [.ref (sl 1), .int (nI 0), .int (nI 144), .int (nI 0), .int (nI 6), .int (nI 0), .int (nI 0), .int ((-1))])), (sl 1, .inl (ca 2, 25, .inr (.inl (Lf 1)))), (sa 2, .inr (1, [.ref (sl 2), .int (nI 0), .int (nI 144), .int (nI 0), .int (nI 6), .int (nI 0), .int (nI 0), .int ((-1))])), (sl 2, .inl (ca 2, 25, .inr (.inl (Lf 2)))), (sa 3, .inr (1, [.ref (sl 3), .int (nI 0), .int (nI 144), .int (nI 0), .int (nI 6), .int (nI 0), .int (nI 0), .int ((-1))])), (sl 3, .inl (ca 2, 25, .inr (.inl (Lf 3)))), (g 5, .inr (1, [.ref (sl 4), .int (nI 0), .int (nI 144), .int (nI 0), .int (nI 6), .int (nI 0), .int (nI 0), .int ((-1))])), (sl 4, .inl (ca 2, 25, .inr (.inl (Lf 4)))), (g 6, .inr (1, [.ref (sl 5), .int (nI 0), .int (nI 144), .int (nI 0), .int (nI 6), .int (nI 0), .int (nI 0), .int ((-1))])), (sl 5, .inl (ca 2, 25, .inr (.inl (Lf 5))))]) C [22] [0, 1, 2, 3, 4, 5, 6, 7, 8, 9, 10, 11, 12, 13, 14, 15, 16, 17, 18, 19, 20, 21] rfl rfl rfl rfl (by decide) (fun hp => va_runI (rest := [.ref (h0)]) S (c_M_init l D ca s0 a0 Z h0 _) (cwI 0 hts (gI g_340) rfl rfl rfl (hts _ g_34) (hts _ g_338) (hts _ g_339) rfl (by decide +kernel) ⟨Nat.le_of_ble_eq_true rfl, Nat.le_of_ble_eq_true rfl⟩) hp rfl rfl hl.1 rfl (lv_room (Nat.le_of_ble_eq_true rfl)) dL_law_12 ⟨Nat.le_of_ble_eq_true rfl, Nat.le_of_ble_eq_true rfl⟩) (fun u H locs hp C => ?_)
  obtain ⟨q, G⟩ := u
  have hm1 := hp
  replace C : Cx D ca s0 A s [(d, .inr (2, kF g)), (g 4, .inl (ca 4, 4, .inr (.inr (.inr (.inr sf))))), (g 0, .inr (0, [.ref (rb 0), .int (nI 0)])), (rb 0, .inl (ca 3, 300, .inl (fun _ => 0))), (g 1, .inr (0, [.ref (rb 1), .int (nI 0)])), (rb 1, .inl (ca 3, 300, .inl (fun _ => 0))), (g 2, .inr (0, [.ref (rb 2), .int (nI 0)])), (rb 2, .inl (ca 3, 300, .inl (fun _ => 0))), (g 3, .inr (0, [.ref (rb 3), .int (nI 0)])), (rb 3, .inl (ca 3, 300, .inl (fun _ => 0))), (sa 0, .inr (1, [.ref (sl 0), .int (nI 0), .int (nI 144), .int (nI 0), .int (nI 6), .int (nI 0), .int (nI 0), .int ((-1))])), (sl 0, .inl (ca 2, 25, .inr (.inl (Lf 0)))), (sa 1, .inr (1, [.ref (sl 1), .int (nI 0), .int (nI 144), .int (nI 0), .int (nI 6), .int (nI 0), .int (nI 0), .int ((-1))])), (sl 1, .inl (ca 2, 25, .inr (.inl (Lf 1)))), (sa 2, .inr (1, [.ref (sl 2), .int (nI 0), .int (nI 144), .int (nI 0), .int (nI 6), .int (nI 0), .int (nI 0), .int ((-1))])), (sl 2, .inl (ca 2, 25, .inr (.inl (Lf 2)))), (sa 3, .inr (1, [.ref (sl 3), .int (nI 0), .int (nI 144), .int (nI 0), .int (nI 6), .int (nI 0), .int (nI 0), .int ((-1))])), (sl 3, .inl (ca 2, 25, .inr (.inl (Lf 3)))), (g 5, .inr (1, [.ref (sl 4), .int (nI 0), .int (nI 144), .int (nI 0), .int (nI 6), .int (nI 0), .int (nI 0), .int ((-1))])), (sl 4, .inl (ca 2, 25, .inr (.inl (Lf 4)))), (g 6, .inr (1, [.ref (sl 5), .int (nI 0), .int (nI 144), .int (nI 0), .int (nI 6), .int (nI 0), .int (nI 0), .int ((-1))])), (sl 5, .inl (ca 2, 25, .inr (.inl (Lf 5)))), (h0, .inr (3, mF q (0) (0))), (q 0, .inl (ca 0, 300, .inl (fun _ => 0))), (q 1, .inl (ca 0, 3, .inl (fun _ => 0))), (q 2, .inl (ca 0, 900, .inl (fun _ => 0))), (q 3, .inl (ca 1, 9600, .inl (G 3))), (q 4, .inl (ca 0, 6, .inl (G 4))), (q 5, .inl (ca 0, 6, .inl (G 5))), (q 6, .inl (ca 0, 6, .inl (G 6))), (q 7, .inl (ca 1, 6, .inl (G 7))), (q 8, .inl (ca 0, 6, .inl (G 8))), (q 9, .inl (ca 0, 6, .inl (G 9))), (q 10, .inl (ca 1, 1600, .inl (G 10))), (q 11, .inl (ca 1, 1600, .inl (G 11)))] H locs := C
  refine lv_astore_n hx hb dL_law_15 rfl hl (Nat.le_of_ble_eq_true rfl) rfl (fun ls hl => ?_)
  replace hl : lv_has ls 8 [(2, .ref (h0)), (1, .ref (d)), (0, .ref (b))] := hl
  refine lv_iconst (v := nI 1) hx hb dL_law_16 (by decide) ?_
  refine n_newa (N := 1) (x := (1, .inr (.inl (fun _ => 0)))) S C 2 rfl (fun _ h => by cases h) g_81 rfl (fun _ => rfl) (by decide) (by decide) (Nat.le_of_ble_eq_true rfl) (Nat.le_of_ble_eq_true rfl) dL_law_17 (fun o H C => ?_)
  replace C : Cx D ca s0 A s [(d, .inr (2, kF g)), (g 4, .inl (ca 4, 4, .inr (.inr (.inr (.inr sf))))), (g 0, .inr (0, [.ref (rb 0), .int (nI 0)])), (rb 0, .inl (ca 3, 300, .inl (fun _ => 0))), (g 1, .inr (0, [.ref (rb 1), .int (nI 0)])), (rb 1, .inl (ca 3, 300, .inl (fun _ => 0))), (g 2, .inr (0, [.ref (rb 2), .int (nI 0)])), (rb 2, .inl (ca 3, 300, .inl (fun _ => 0))), (g 3, .inr (0, [.ref (rb 3), .int (nI 0)])), (rb 3, .inl (ca 3, 300, .inl (fun _ => 0))), (sa 0, .inr (1, [.ref (sl 0), .int (nI 0), .int (nI 144), .int (nI 0), .int (nI 6), .int (nI 0), .int (nI 0), .int ((-1))])), (sl 0, .inl (ca 2, 25, .inr (.inl (Lf 0)))), (sa 1, .inr (1, [.ref (sl 1), .int (nI 0), .int (nI 144), .int (nI 0), .int (nI 6), .int (nI 0), .int (nI 0), .int ((-1))])), (sl 1, .inl (ca 2, 25, .inr (.inl (Lf 1)))), (sa 2, .inr (1, [.ref (sl 2), .int (nI 0), .int (nI 144), .int (nI 0), .int (nI 6), .int (nI 0), .int (nI 0), .int ((-1))])), (sl 2, .inl (ca 2, 25, .inr (.inl (Lf 2)))), (sa 3, .inr (1, [.ref (sl 3), .int (nI 0), .int (nI 144), .int (nI 0), .int (nI 6), .int (nI 0), .int (nI 0), .int ((-1))])), (sl 3, .inl (ca 2, 25, .inr (.inl (Lf 3)))), (g 5, .inr (1, [.ref (sl 4), .int (nI 0), .int (nI 144), .int (nI 0), .int (nI 6), .int (nI 0), .int (nI 0), .int ((-1))])), (sl 4, .inl (ca 2, 25, .inr (.inl (Lf 4)))), (g 6, .inr (1, [.ref (sl 5), .int (nI 0), .int (nI 144), .int (nI 0), .int (nI 6), .int (nI 0), .int (nI 0), .int ((-1))])), (sl 5, .inl (ca 2, 25, .inr (.inl (Lf 5)))), (h0, .inr (3, mF q (0) (0))), (q 0, .inl (ca 0, 300, .inl (fun _ => 0))), (q 1, .inl (ca 0, 3, .inl (fun _ => 0))), (q 2, .inl (ca 0, 900, .inl (fun _ => 0))), (q 3, .inl (ca 1, 9600, .inl (G 3))), (q 4, .inl (ca 0, 6, .inl (G 4))), (q 5, .inl (ca 0, 6, .inl (G 5))), (q 6, .inl (ca 0, 6, .inl (G 6))), (q 7, .inl (ca 1, 6, .inl (G 7))), (q 8, .inl (ca 0, 6, .inl (G 8))), (q 9, .inl (ca 0, 6, .inl (G 9))), (q 10, .inl (ca 1, 1600, .inl (G 10))), (q 11, .inl (ca 1, 1600, .inl (G 11))), (o, .inl (ca 2, 1, .inr (.inl (fun _ => 0))))] H locs := C
  refine lv_astore_n hx hb dL_law_19 rfl hl (Nat.le_of_ble_eq_true rfl) rfl (fun ls hl => ?_)
  replace hl : lv_has ls 8 [(3, .ref (o)), (2, .ref (h0)), (1, .ref (d)), (0, .ref (b))] := hl
  refine lv_iconst (v := nI 0) hx hb dL_law_20 (by decide) ?_
  refine lv_istore hx hb dL_law_21 hl (Nat.le_of_ble_eq_true rfl) rfl (fun ls hl => ?_)
  replace hl : lv_has ls 8 [(4, .int (nI 0)), (3, .ref (o)), (2, .ref (h0)), (1, .ref (d)), (0, .ref (b))] := hl
  replace C : Cx D ca s0 A s (LY ca d g sf rb noRows (fun _ _ => 0) sa sl 0 1 2 3 (fun _ => newSp) Lf (mk7 (nI 0) (nI 144) (nI 0) (nI 6) (nI 0) (nI 0) (-1)) (mk7 (nI 0) (nI 144) (nI 0) (nI 6) (nI 0) (nI 0) (-1)) h0 q 0 (nI (noRows 0).2) (hiF (fun _ _ => 0) G) o (fun _ => 0)) H locs := C.re [0, 1, 2, 3, 4, 5, 6, 7, 8, 9, 10, 11, 12, 13, 14, 15, 16, 17, 18, 19, 20, 21, 22, 23, 24, 25, 26, 27, 28, 29, 30, 31, 32, 33, 34, 35] rfl rfl
  have hok : spOk newSp := ⟨by decide, by decide, by decide, fun _ => by decide, Or.inl rfl⟩
  have G0 : Good sf sa noRows (fun _ _ => 0) (fun _ => newSp) Lf (hiF (fun _ _ => 0) G) := ⟨fun j _ => ⟨Nat.zero_le _, fun i hi => absurd hi (Nat.not_lt_zero i)⟩, fun i hi => absurd hi (Nat.not_lt_zero i), fun r _ => ⟨rfl, Nat.zero_le _, fun i hi => absurd hi (Nat.not_lt_zero i)⟩, fun k hk => ⟨hk1 k hk, hk2 k (by omega), hm1 k hk, hok⟩⟩
  refine law_loop p l e s m #[Value.ref b] below meth c _ D ca s0 a0 A S Z zt Zs hl0 sx Xs Xn b L xs hXX hbl hbA hL d g sf rb sa sl h0 q o ?_ (L + 1) 0 (by omega) (by omega) noRows (fun _ _ => 0) (fun _ => newSp) Lf (mk7 (nI 0) (nI 144) (nI 0) (nI 6) (nI 0) (nI 0) (-1)) (mk7 (nI 0) (nI 144) (nI 0) (nI 6) (nI 0) (nI 0) (-1)) 0 (hiF (fun _ _ => 0) G) (fun _ => 0) H locs ls G0 C (lv_sub hl [0, 4, 3, 2, 1] rfl)
  intro H locs ls t ht hlo
  refine lv_iconst (v := 1) hx hb dL_law_853 (by decide) ?_
  exact va_forget (fun q hq => by have := hlo q hq; rw [hA] at this; exact this) (W.widen (by omega) (by omega) (lw_ret hx hb hr hlk dL_law_854))

set_option maxHeartbeats 4000000 in
theorem lw_walk (l : Launch) (hl0 : l.stackTraces = false) (b : Addr) (xs : List Int32) : MetFree l x (headSpec (Jvm.Cond.code x code maxLocals ret :: tables_1) room_1) (lw_P b xs) (fun _ _ _ _ _ => True) lw_Q := by
  refine MetFree.of_bodyS (code := code) (maxLocals := maxLocals) (ret := ret) (by decide) ?_ ?_
  · intro args s m h hn
    obtain ⟨meth, c, h1, h2, h3, h4, h5, h6, -, -⟩ := Cond.code_spec hn (atoms_spec (ws := Jvm.Cond.code x code maxLocals ret :: tables_1) h _ List.mem_cons_self)
    exact ⟨meth, c, h1, h2, h3, h4, h5, h6⟩
  · intro p e s m args below meth c s₁ B hml0 hP _
    obtain ⟨rfl, hx, hbd, hgv⟩ := hP
    obtain ⟨scr, harrAt, hlist, hof, hsmall⟩ := hx
    obtain ⟨hcb, hkn, -, -⟩ := State.arrayAt?_spec harrAt
    have hown : s.vm.findClass R_law = some m.cls := findClass_of_methodNamed B.named
    have hts0 : ∀ c ∈ (Jvm.Cond.code x code maxLocals ret :: tables_1), c.before #[Value.ref b] s = true := atoms_spec (ws := Jvm.Cond.code x code maxLocals ret :: tables_1) B.pre
    have hts : ∀ w ∈ lw_tbl, w.before #[Value.ref b] s = true := k2_hts_sels lw_privs (fun w hw => hts0 w (List.mem_cons_of_mem _ hw)) lw_privs_ok
    have hml : c.maxLocals = 8 := B.maxLocals_eq (hts0 _ List.mem_cons_self)
    have X₀ : Stand p l e room_1 s m #[Value.ref b] below meth c s₁ [] 0 0 := Stand.of_body B
    have hh0 : s₁.heap = s.heap := by rw [B.state]; rfl
    have hsz : scr.slots.size = xs.length := by rw [← Array.length_toList, hlist, List.length_map]
    have hval : ∀ j : Nat, j < xs.length → scr.slots[j]? = some (.int (xs.getD j 0)) := fun j hj => by
      rw [← Array.getElem?_toList, hlist]
      simp [hj]
    have hbl : b < s.heap.size := (Array.getElem?_eq_some_iff.mp hcb).1
    have hX : va_X b xs.length (fun j => xs.getD j 0) s s.heap := ⟨scr, hcb, hof, hkn, hsz, hval⟩
    have K : W p l e room_1 s m #[Value.ref b] below meth c s₁.heap [] 0 0 (lw_Z below #[Value.ref b] s) (entryFrame m ([Value.ref b] : List Value).toArray 8) := by
      rw [hh0]
      exact whole_start l hl0 hbd ⟨B.exec, B.bytes, B.returns, hml, hown, hts, hX, hbl, B.notSynchronized, hgv⟩
    obtain ⟨t, a1, o, b1, b2, b3⟩ := K s₁ rfl X₀
    exact ⟨t, o, a1, b1, b2, b3⟩
theorem lw_pre_spec {args : Array Value} {s : State} (h : (Jvm.Cond.and given_1 narrow_1).before args s = true) (hr : rest_1_c.before args s = true) : ∃ (b : Addr) (xs : List Int32), lw_P b xs args s := by
  have hs := flat_of_before _ h
  have hq := flat_of_before _ hr
  have hc : (Cond.count 1).before args s = true := hs _ (by decide +kernel)
  have harr : (Cond.arrayOf (.arg 0) .int).before args s = true := hs _ (by decide +kernel)
  have hle : (Cond.le (.length (.arg 0)) (.int 2560)).before args s = true := hs _ (by decide +kernel)
  have hlen : (Cond.isInt (.length (.arg 0))).before args s = true := hq _ (by decide +kernel)
  have hall : (Cond.all (.arg 0) (.isInt (.elem (.arg 0) (.index 0)))).before args s = true := hq _ (by decide +kernel)
  obtain ⟨b, xs, hb, hx⟩ := State.ints_of_pre rfl harr hlen hall
  have hsm : xs.length < 2 ^ 31 := hx.choose_spec.2.2.2
  have hev : (Term.length (.arg 0)).eval args s none [] s = some (.int xs.length.toInt32) := hx.length_eval hb
  have hv := Cond.le_ints hev (show (Term.int 2560).eval args s none [] s = some (.int 2560) from rfl)
  have hd : xs.length.toInt32 ≤ 2560 := by
    simpa [Cond.before, Cond.holds, hv] using hle
  have hN : xs.length ≤ 2560 := (Int32.ofNat_le_ofNat hsm (by decide)).mp (show Int32.ofNat xs.length ≤ Int32.ofNat 2560 from hd)
  exact ⟨b, xs, Cond.one_arg hc (show args[0]? = some (.ref b) from hb), hx, hN, h⟩
theorem lw_comes (l : Launch) (hl0 : l.stackTraces = false) : Comes l x (Jvm.Cond.code x code maxLocals ret :: tables_1) room_1 (fun tb e args s => Calls_1 tb e args s ∧ rest_1 tb e args s ∧ Pre_1 tb e args s)
    (fun _ _ args s o t => lw_Q args s o t) := by
  intro p e ha hc hk s m args below hf hfit hheap happ hpre
  obtain ⟨b, xs, hP⟩ := lw_pre_spec hpre.2.2 hpre.2.1
  obtain ⟨k, o, h1, h2, h3, hQ⟩ := lw_walk l hl0 b xs p e ha hc hk s m args below hf ((Spec.applies_iff_loose hf).mp happ).1 hP trivial
  exact ⟨k, o, h1, h2, h3, hQ⟩
theorem lw_frame {s t : State} {o : Outcome} {args : Array Value} (h : Framed s o t [] 601024 7293034) :
    Framed s o t (fieldLocs frame_1_writes args s ++ arrayLocs frame_1_arrays args s ++ staticLocs frame_1_statics s) 601024 7293034 := h
theorem lw_limb (L : Cond) (hL : ∀ (args : Array Value) (s t : State), L.after args s (.returned (some (.int 1))) t = true) :
    ArmFor flags0 classFile x code maxLocals ret World_1 tables_1 room_1 Calls_1 rest_1 Pre_1
      (fun tb e a s o t => postC L tb e a s o t ∧ Framed s o t (fieldLocs frame_1_writes a s ++ arrayLocs frame_1_arrays a s ++ staticLocs frame_1_statics s) 601024 7293034) := by
  intro l hfl _ _ p e ha hc hk s m args below hf hfit hheap happ hpre
  have hl0 : l.stackTraces = false := by
    unfold Launch.stackTraces
    rw [hfl]
    decide +kernel
  obtain ⟨k, o, h1, h2, h3, rfl, hF⟩ := lw_comes l hl0 p e ha hc hk s m args below hf hfit hheap happ hpre
  exact ⟨k, _, h1, h2, h3, hL args s _, lw_frame hF⟩
theorem i_vc : Claimed_1_1 ∧ Claimed_1_2 := ⟨lw_limb limb_1_1 (fun args s t => by simp [limb_1_1, Cond.after, Cond.holds, Cond.value]), lw_limb limb_1_2 (fun args s t => Cond.after_iff.mpr (by
  first | (rw [show limb_1_2 = Cond.eq .result (.int 1) from rfl, Cond.eq_ints (x := 1) (y := 1) rfl rfl]; simp; done) | (simp [limb_1_2, Cond.value, Term.eval]; done)))⟩
