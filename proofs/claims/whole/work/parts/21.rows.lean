/-! Rows of our own over the kit's: one bundle for a walk's world, contracts in one form, numbers that stay natural. -/
abbrev kTys (ca : Nat → ClassId) : List (ClassId × FieldType) := [(ca 0, .int), (ca 1, .boolean), (ca 2, .long), (ca 3, .byte), (ca 4, .object "SpongeDesk$Sponge")]
abbrev KG (D : va_G) (ca : Nat → ClassId) (U : State) : Prop := va_K D vwCl (kTys ca) U
def Wd (a0 : Array Value) (s0 : State) : Prop := ∀ w ∈ lw_tbl, w.before a0 s0 = true
theorem gGood {ws : List Cond} (h : ∀ w ∈ ws, w ∈ lw_good) : GoodIn lw_good ws := fun w hw => ⟨h w hw, good_of_word (gd_all w (h w hw))⟩
theorem gS {own : String} {idx : Nat} {y : MethodName} {cd : Cond} (h1 : Cond.methodLink own idx y ∈ lw_good) (h2 : Cond.static y ∈ lw_good) (h3 : Cond.initialized own ∈ lw_good) (h4 : cd ∈ lw_good) : GoodIn lw_good (wsS own idx y [cd]) := gGood (fun w hw => by
  simp only [wsS, List.cons_append, List.nil_append, List.mem_cons, List.not_mem_nil, or_false] at hw
  rcases hw with rfl | rfl | rfl | rfl <;> assumption)
theorem gT {own : String} {idx : Nat} {y : MethodName} {cd : Cond} (h1 : Cond.methodLink own idx y ∈ lw_good) (h2 : Cond.static y ∈ lw_good) (h3 : Cond.initialized y.cls ∈ lw_good) (h4 : cd ∈ lw_good) : GoodIn lw_good (va_wsS own idx y [cd]) := gGood (fun w hw => by
  simp only [va_wsS, List.cons_append, List.nil_append, List.mem_cons, List.not_mem_nil, or_false] at hw
  rcases hw with rfl | rfl | rfl | rfl <;> assumption)
theorem gV {own C : String} {idx : Nat} {y : MethodName} {cd : Cond} (h1 : Cond.methodLink own idx y ∈ lw_good) (h2 : Cond.instanceMethod y ∈ lw_good) (h3 : Cond.selects C y y ∈ lw_good) (h4 : Cond.initialized C ∈ lw_good) (h5 : cd ∈ lw_good) : GoodIn lw_good (wsV own idx C y [cd]) := gGood (fun w hw => by
  simp only [wsV, List.cons_append, List.nil_append, List.mem_cons, List.not_mem_nil, or_false] at hw
  rcases hw with rfl | rfl | rfl | rfl | rfl <;> assumption)
theorem gI {cd : Cond} (h : cd ∈ lw_good) : GoodIn lw_good [cd] := gGood (fun w hw => by
  rw [List.mem_singleton.mp hw]
  exact h)
def GG (s0 : State) (A : Nat → Prop) (U : State) (H : Heap) : Prop := s0.WarmedH U.vm ∧ (∀ q, q < s0.heap.size → H[q]? = s0.heap[q]?) ∧ ∀ q, A q → s0.heap.size ≤ q
theorem GG.kept {s0 U : State} {A : Nat → Prop} {H H1 : Heap} (h : GG s0 A U H) (hq : ∀ a : Nat, a < H.size → ¬ A a → H1[a]? = H[a]?) : GG s0 A U H1 := by
  refine ⟨h.1, fun q hl => ?_, h.2.2⟩
  have h1 := h.2.1 q hl
  rw [Array.getElem?_eq_getElem hl] at h1
  rw [hq q (Array.getElem?_eq_some_iff.mp h1).1 (fun z => absurd (h.2.2 q z) (Nat.not_le.mpr hl))]
  exact h.2.1 q hl
theorem GG.narrow {s0 U : State} {A B : Nat → Prop} {H : Heap} (h : GG s0 A U H) (hAB : ∀ q, B q → A q) : GG s0 B U H := ⟨h.1, h.2.1, fun q z => h.2.2 q (hAB q z)⟩
theorem GG.warm {s0 s U : State} {A : Nat → Prop} {H : Heap} (h : GG s0 A s H) (hW : s.WarmedH U.vm) : GG s0 A U H := ⟨State.WarmedH.trans h.1 hW, h.2⟩
theorem GG.same {s0 s U : State} {A : Nat → Prop} {H : Heap} (h : GG s0 A s H) (hv : U.vm = s.vm) : GG s0 A U H := ⟨by rw [hv]; exact h.1, h.2⟩
/-- the world of a walk: the tables, the cells, that they are apart and ours, what stayed, the statics -/
def Cx (D : va_G) (ca : Nat → ClassId) (s0 : State) (A : Nat → Prop) (s : State) (ws : va_W) (H : Heap) (locs : List Loc) : Prop :=
  KG D ca s ∧ va_P D vwCl ws H ∧ va_D A ws ∧ va_S A s.heap H locs ∧ (∀ q, s.heap.size ≤ q → A q) ∧ GG s0 A s s.heap
theorem Cx.re {D : va_G} {ca : Nat → ClassId} {s0 : State} {A : Nat → Prop} {s : State} {ws ws' : va_W} {H : Heap} {locs : List Loc} (C : Cx D ca s0 A s ws H locs) (is : List Nat) (hs : is.map (fun i => ws[i]?) = ws'.map some) (hn : va_nd is = true) : Cx D ca s0 A s ws' H locs := by
  obtain ⟨h1, h2, h3, h4, h5, h6⟩ := C
  refine ⟨h1, h2.sub is ?_, h3.sub is hn hs, h4, h5, h6⟩
  have : ∀ (is : List Nat) (w : va_W), is.map (fun i => ws[i]?) = w.map some → is.filterMap (fun i => ws[i]?) = w := by
    intro is
    induction is with
    | nil => intro w h; cases w with
      | nil => rfl
      | cons a t => simp at h
    | cons i t ih => intro w h; cases w with
      | nil => simp at h
      | cons a u =>
        simp only [List.map_cons, List.cons.injEq] at h
        rw [List.filterMap_cons, h.1]
        simp only [ih u h.2]
  exact this is ws' hs
/-- a contract's start -/
def PreC (D : va_G) (ca : Nat → ClassId) (s0 : State) (av : List Value) (wc : va_W) (sz : Nat) : Array Value → State → Prop :=
  va_Pc av (fun U => U.heap.size = sz ∧ va_P D vwCl wc U.heap ∧ KG D ca U ∧ va_D (fun _ => True) wc ∧ GG s0 (va_A wc sz) U U.heap)
abbrev PostW {S : Type} (D : va_G) (wp : S → va_W) (A : Nat → Prop) : S → State → Prop := fun u t => va_P D vwCl (wp u) t.heap ∧ va_D A (wp u)
def CtI (l : Launch) (y : MethodName) (w : List Cond) (rm : Room) (mc ms : Nat) (D : va_G) (ca : Nat → ClassId) (s0 : State) (av : List Value) (wc : va_W) {S : Type} (post : Int32 → S → Prop) (wp : S → va_W) : Prop :=
  ∀ sz, Met l y w rm (PreC D ca s0 av wc sz) (va_Qi post (PostW D wp (va_A wc sz)) (va_A wc sz)) mc ms (va_A wc sz)
def CtL (l : Launch) (y : MethodName) (w : List Cond) (rm : Room) (mc ms : Nat) (D : va_G) (ca : Nat → ClassId) (s0 : State) (av : List Value) (wc : va_W) {S : Type} (post : Int64 → S → Prop) (wp : S → va_W) : Prop :=
  ∀ sz, Met l y w rm (PreC D ca s0 av wc sz) (va_Ql post (PostW D wp (va_A wc sz)) (va_A wc sz)) mc ms (va_A wc sz)
def CtV (l : Launch) (y : MethodName) (w : List Cond) (rm : Room) (mc ms : Nat) (D : va_G) (ca : Nat → ClassId) (s0 : State) (av : List Value) (wc : va_W) {S : Type} (post : S → Prop) (wp : S → va_W) : Prop :=
  ∀ sz, Met l y w rm (PreC D ca s0 av wc sz) (va_Qv post (PostW D wp (va_A wc sz)) (va_A wc sz)) mc ms (va_A wc sz)
theorem PreC.blind {D : va_G} {ca : Nat → ClassId} {s0 : State} {av : List Value} {wc : va_W} {sz : Nat} : FrameBlind (PreC D ca s0 av wc sz) := fun a U g mk q => by
  obtain ⟨q0, q1, q2, q3, q4, q5⟩ := q
  exact ⟨q0, q1, q2, va_K.moved (u := U) (U := U.calling g mk a) (Vm.Alike.refl U.vm) q3, q4, q5.same (U := U.calling g mk a) rfl⟩
theorem Cx.pre {D : va_G} {ca : Nat → ClassId} {s0 : State} {A : Nat → Prop} {s : State} {ws wc : va_W} {H : Heap} {locs : List Loc} (C : Cx D ca s0 A s ws H locs) (av : List Value) (is : List Nat) (hs : is.map (fun i => ws[i]?) = wc.map some) (hn : va_nd is = true) : FrameBlind (PreC D ca s0 av wc H.size) ∧ ∀ U : State, U.heap = H → s.WarmedH U.vm → PreC D ca s0 av wc H.size av.toArray U := by
  refine ⟨PreC.blind, fun U hU hW => ?_⟩
  have hF := va_free (wc := wc) C.2.2.1 C.2.2.2.1 C.2.2.2.2.1 is hs
  obtain ⟨h1, h2, h3, h4, h5, h6⟩ := C.re is hs hn
  exact ⟨rfl, by rw [hU], by rw [hU]; exact h2, va_K.moved hW.alike h1, h3.weaken (fun _ _ _ _ => trivial), by
    rw [hU]
    exact ((h6.kept h4.2.1).narrow hF).warm hW⟩
theorem Cx.join {D : va_G} {ca : Nat → ClassId} {s0 : State} {A : Nat → Prop} {s : State} {ws wc wr w1 : va_W} {H H1 : Heap} {locs locs1 : List Loc} (C : Cx D ca s0 A s ws H locs) (isC isR : List Nat) (hC : isC.map (fun i => ws[i]?) = wc.map some) (hR : isR.map (fun i => ws[i]?) = wr.map some) (hn : va_nd isR = true) (hdis : ∀ i ∈ isR, i ∉ isC)
    (hk : ∀ q : Nat, q < H.size → ¬ va_A wc H.size q → H1[q]? = H[q]?) (hP1 : va_P D vwCl w1 H1) (hD1 : va_D (va_A wc H.size) w1) (hS : va_S A s.heap H1 locs1) : Cx D ca s0 A s (wr ++ w1) H1 locs1 := by
  obtain ⟨h1, h2, h3, h4, h5, h6⟩ := C
  obtain ⟨g1, g2⟩ := va_join h2 h3 isC isR hC hR hn hdis hk (va_free h3 h4 h5 isC hC) hP1 hD1
  exact ⟨h1, g1, g2, hS, h5, h6⟩
section RW
variable {p : Program} {l : Launch} {e : Env} {R : Room} {s : State} {m : MethodId} {args : Array Value} {below : List Frame} {meth : Method} {c : Code} {H : Heap} {locs : List Loc} {cells slots : Nat} {Q : State → Prop}
variable {cc : ByteArray} {nL : Nat} {Ts : List Cond} {own : String} {pc : Nat} {ls : Array Slot} {rest st0 : List Value} {D : va_G} {ca : Nat → ClassId} {s0 : State} {A : Nat → Prop} {ws : va_W} {a : Nat}
theorem n_add (S : CallFix p m c cc nL s args Ts own) {x y : Nat} (hdg : decode cc pc = .ok (.iadd, 1)) (k : W p l e R s m args below meth c H locs cells slots Q (F0 m (pc + 1) ls (.int (nI (x + y)) :: rest))) : W p l e R s m args below meth c H locs cells slots Q (F0 m pc ls (.int (nI y) :: .int (nI x) :: rest)) := lv_iadd S.1 S.2.1 hdg (by rw [nI_add]; exact k)
theorem n_sub (S : CallFix p m c cc nL s args Ts own) {x y : Nat} (h : y ≤ x) (hdg : decode cc pc = .ok (.isub, 1)) (k : W p l e R s m args below meth c H locs cells slots Q (F0 m (pc + 1) ls (.int (nI (x - y)) :: rest))) : W p l e R s m args below meth c H locs cells slots Q (F0 m pc ls (.int (nI y) :: .int (nI x) :: rest)) := lv_isub S.1 S.2.1 hdg (by rw [pk_sub h]; exact k)
theorem n_mul (S : CallFix p m c cc nL s args Ts own) {x y : Nat} (hdg : decode cc pc = .ok (.imul, 1)) (k : W p l e R s m args below meth c H locs cells slots Q (F0 m (pc + 1) ls (.int (nI (x * y)) :: rest))) : W p l e R s m args below meth c H locs cells slots Q (F0 m pc ls (.int (nI y) :: .int (nI x) :: rest)) := lv_imul S.1 S.2.1 hdg (by rw [pk_mul]; exact k)
theorem n_div (S : CallFix p m c cc nL s args Ts own) {x y : Nat} (hx : x < 2 ^ 31) (h0 : 0 < y) (hy : y < 2 ^ 31) (hdg : decode cc pc = .ok (.idiv, 1)) (k : W p l e R s m args below meth c H locs cells slots Q (F0 m (pc + 1) ls (.int (nI (x / y)) :: rest))) : W p l e R s m args below meth c H locs cells slots Q (F0 m pc ls (.int (nI y) :: .int (nI x) :: rest)) := lv_idiv S.1 S.2.1 hdg (nI_ne0 h0 hy) (by rw [pk_div hx h0 hy]; exact k)
theorem n_rem (S : CallFix p m c cc nL s args Ts own) {x y : Nat} (hx : x < 2 ^ 31) (h0 : 0 < y) (hy : y < 2 ^ 31) (hdg : decode cc pc = .ok (.irem, 1)) (k : W p l e R s m args below meth c H locs cells slots Q (F0 m (pc + 1) ls (.int (nI (x % y)) :: rest))) : W p l e R s m args below meth c H locs cells slots Q (F0 m pc ls (.int (nI y) :: .int (nI x) :: rest)) := lv_irem S.1 S.2.1 hdg (nI_ne0 h0 hy) (by rw [pk_rem hx h0 hy]; exact k)
theorem n_s32 : ∀ n, n < 32 → ((nI n &&& 31).toBitVec.smod 32).toNat = n := by decide +kernel
theorem n_u32 : ∀ n, n < 32 → (((nI n).toUInt32 &&& Int32.toUInt32 31).toBitVec % 32).toNat = n := by decide +kernel
theorem n_shr (S : CallFix p m c cc nL s args Ts own) {x y : Nat} (hx : x < 2 ^ 31) (hy : y < 32) (hdg : decode cc pc = .ok (.ishr, 1)) (k : W p l e R s m args below meth c H locs cells slots Q (F0 m (pc + 1) ls (.int (nI (x / 2 ^ y)) :: rest))) : W p l e R s m args below meth c H locs cells slots Q (F0 m pc ls (.int (nI y) :: .int (nI x) :: rest)) := lv_ishr S.1 S.2.1 hdg (by rw [pk_shrN hx _ y (n_s32 y hy)]; exact k)
theorem n_shl (S : CallFix p m c cc nL s args Ts own) {x y : Nat} (hy : y < 32) (hx : x * 2 ^ y < 2 ^ 32) (hdg : decode cc pc = .ok (.ishl, 1)) (k : W p l e R s m args below meth c H locs cells slots Q (F0 m (pc + 1) ls (.int (nI (x * 2 ^ y)) :: rest))) : W p l e R s m args below meth c H locs cells slots Q (F0 m pc ls (.int (nI y) :: .int (nI x) :: rest)) := lv_ishl S.1 S.2.1 hdg (by rw [pk_shlN _ y (n_s32 y hy) hx]; exact k)
theorem n_ushr (S : CallFix p m c cc nL s args Ts own) {x y : Nat} (hx : x < 2 ^ 32) (hy : y < 32) (hdg : decode cc pc = .ok (.iushr, 1)) (k : W p l e R s m args below meth c H locs cells slots Q (F0 m (pc + 1) ls (.int (nI (x / 2 ^ y)) :: rest))) : W p l e R s m args below meth c H locs cells slots Q (F0 m pc ls (.int (nI y) :: .int (nI x) :: rest)) := lv_iushr S.1 S.2.1 hdg (pk_ushrN hx _ y (n_u32 y hy)) k
theorem n_and (S : CallFix p m c cc nL s args Ts own) {x y : Nat} (j : Nat) (hj : y = 2 ^ j - 1) (hx : x < 2 ^ 32) (hy : y < 2 ^ 32) (hdg : decode cc pc = .ok (.iand, 1)) (k : W p l e R s m args below meth c H locs cells slots Q (F0 m (pc + 1) ls (.int (nI (x % 2 ^ j)) :: rest))) : W p l e R s m args below meth c H locs cells slots Q (F0 m pc ls (.int (nI y) :: .int (nI x) :: rest)) := lv_iand S.1 S.2.1 hdg (by rw [pk_andN hx j (by rw [pk_tn hy, hj])]; exact k)
theorem n_icmp_lt (S : CallFix p m c cc nL s args Ts own) {x y : Nat} {off : Int} {tgt : Nat} (hx : x < 2 ^ 31) (hy : y < 2 ^ 31) (hdg : decode cc pc = .ok (.if_icmp .lt off, 3)) (ht : (pc : Int) + off = (tgt : Int)) (kt : x < y → W p l e R s m args below meth c H locs cells slots Q (F0 m tgt ls rest)) (kf : y ≤ x → W p l e R s m args below meth c H locs cells slots Q (F0 m (pc + 3) ls rest)) : W p l e R s m args below meth c H locs cells slots Q (F0 m pc ls (.int (nI y) :: .int (nI x) :: rest)) := lv_icmp_lt S.1 S.2.1 hdg ht (fun h => kt ((nI_ltI hx hy).mp h)) (fun h => kf (Nat.not_lt.mp (fun q => h ((nI_ltI hx hy).mpr q))))
theorem n_if_lt (S : CallFix p m c cc nL s args Ts own) {x : Nat} {off : Int} {tgt : Nat} (hx : x < 2 ^ 31) (hdg : decode cc pc = .ok (.ifCond .lt off, 3)) (ht : (pc : Int) + off = (tgt : Int)) (kt : False → W p l e R s m args below meth c H locs cells slots Q (F0 m tgt ls rest)) (kf : True → W p l e R s m args below meth c H locs cells slots Q (F0 m (pc + 3) ls rest)) : W p l e R s m args below meth c H locs cells slots Q (F0 m pc ls (.int (nI x) :: rest)) := lv_if_lt S.1 S.2.1 hdg ht (fun h => kt (nI_pos hx h)) (fun _ => kf trivial)
theorem n_icmp_ge (S : CallFix p m c cc nL s args Ts own) {x y : Nat} {off : Int} {tgt : Nat} (hx : x < 2 ^ 31) (hy : y < 2 ^ 31) (hdg : decode cc pc = .ok (.if_icmp .ge off, 3)) (ht : (pc : Int) + off = (tgt : Int)) (kt : y ≤ x → W p l e R s m args below meth c H locs cells slots Q (F0 m tgt ls rest)) (kf : x < y → W p l e R s m args below meth c H locs cells slots Q (F0 m (pc + 3) ls rest)) : W p l e R s m args below meth c H locs cells slots Q (F0 m pc ls (.int (nI y) :: .int (nI x) :: rest)) := lv_icmp_ge S.1 S.2.1 hdg ht (fun h => kt ((nI_leI hy hx).mp h)) (fun h => kf (Nat.not_le.mp (fun q => h ((nI_leI hy hx).mpr q))))
theorem n_if_ge (S : CallFix p m c cc nL s args Ts own) {x : Nat} {off : Int} {tgt : Nat} (hx : x < 2 ^ 31) (hdg : decode cc pc = .ok (.ifCond .ge off, 3)) (ht : (pc : Int) + off = (tgt : Int)) (kt : True → W p l e R s m args below meth c H locs cells slots Q (F0 m tgt ls rest)) (kf : False → W p l e R s m args below meth c H locs cells slots Q (F0 m (pc + 3) ls rest)) : W p l e R s m args below meth c H locs cells slots Q (F0 m pc ls (.int (nI x) :: rest)) := lv_if_ge S.1 S.2.1 hdg ht (fun _ => kt trivial) (fun h => kf (h (nI_pos' hx)))
theorem n_icmp_gt (S : CallFix p m c cc nL s args Ts own) {x y : Nat} {off : Int} {tgt : Nat} (hx : x < 2 ^ 31) (hy : y < 2 ^ 31) (hdg : decode cc pc = .ok (.if_icmp .gt off, 3)) (ht : (pc : Int) + off = (tgt : Int)) (kt : y < x → W p l e R s m args below meth c H locs cells slots Q (F0 m tgt ls rest)) (kf : x ≤ y → W p l e R s m args below meth c H locs cells slots Q (F0 m (pc + 3) ls rest)) : W p l e R s m args below meth c H locs cells slots Q (F0 m pc ls (.int (nI y) :: .int (nI x) :: rest)) := lv_icmp_gt S.1 S.2.1 hdg ht (fun h => kt ((nI_ltI hy hx).mp h)) (fun h => kf (Nat.not_lt.mp (fun q => h ((nI_ltI hy hx).mpr q))))
theorem n_if_gt (S : CallFix p m c cc nL s args Ts own) {x : Nat} {off : Int} {tgt : Nat} (hx : x < 2 ^ 31) (hdg : decode cc pc = .ok (.ifCond .gt off, 3)) (ht : (pc : Int) + off = (tgt : Int)) (kt : 0 < x → W p l e R s m args below meth c H locs cells slots Q (F0 m tgt ls rest)) (kf : x = 0 → W p l e R s m args below meth c H locs cells slots Q (F0 m (pc + 3) ls rest)) : W p l e R s m args below meth c H locs cells slots Q (F0 m pc ls (.int (nI x) :: rest)) := lv_if_gt S.1 S.2.1 hdg ht (fun h => kt ((nI_ltI (show 0 < 2 ^ 31 by decide) hx).mp h)) (fun h => kf (Nat.eq_zero_of_not_pos (fun q => h ((nI_ltI (show 0 < 2 ^ 31 by decide) hx).mpr q))))
theorem n_icmp_le (S : CallFix p m c cc nL s args Ts own) {x y : Nat} {off : Int} {tgt : Nat} (hx : x < 2 ^ 31) (hy : y < 2 ^ 31) (hdg : decode cc pc = .ok (.if_icmp .le off, 3)) (ht : (pc : Int) + off = (tgt : Int)) (kt : x ≤ y → W p l e R s m args below meth c H locs cells slots Q (F0 m tgt ls rest)) (kf : y < x → W p l e R s m args below meth c H locs cells slots Q (F0 m (pc + 3) ls rest)) : W p l e R s m args below meth c H locs cells slots Q (F0 m pc ls (.int (nI y) :: .int (nI x) :: rest)) := lv_icmp_le S.1 S.2.1 hdg ht (fun h => kt ((nI_leI hx hy).mp h)) (fun h => kf (Nat.not_le.mp (fun q => h ((nI_leI hx hy).mpr q))))
theorem n_if_le (S : CallFix p m c cc nL s args Ts own) {x : Nat} {off : Int} {tgt : Nat} (hx : x < 2 ^ 31) (hdg : decode cc pc = .ok (.ifCond .le off, 3)) (ht : (pc : Int) + off = (tgt : Int)) (kt : x = 0 → W p l e R s m args below meth c H locs cells slots Q (F0 m tgt ls rest)) (kf : 0 < x → W p l e R s m args below meth c H locs cells slots Q (F0 m (pc + 3) ls rest)) : W p l e R s m args below meth c H locs cells slots Q (F0 m pc ls (.int (nI x) :: rest)) := lv_if_le S.1 S.2.1 hdg ht (fun h => kt (Nat.le_zero.mp ((nI_leI hx (show 0 < 2 ^ 31 by decide)).mp h))) (fun h => kf (Nat.pos_of_ne_zero (fun q => h ((nI_leI hx (show 0 < 2 ^ 31 by decide)).mpr (Nat.le_zero.mpr q)))))
theorem n_icmp_eq (S : CallFix p m c cc nL s args Ts own) {x y : Nat} {off : Int} {tgt : Nat} (hx : x < 2 ^ 31) (hy : y < 2 ^ 31) (hdg : decode cc pc = .ok (.if_icmp .eq off, 3)) (ht : (pc : Int) + off = (tgt : Int)) (kt : x = y → W p l e R s m args below meth c H locs cells slots Q (F0 m tgt ls rest)) (kf : x ≠ y → W p l e R s m args below meth c H locs cells slots Q (F0 m (pc + 3) ls rest)) : W p l e R s m args below meth c H locs cells slots Q (F0 m pc ls (.int (nI y) :: .int (nI x) :: rest)) := lv_icmp_eq S.1 S.2.1 hdg ht (fun h => kt ((nI_eq hx hy).mp h)) (fun h => kf (fun q => h ((nI_eq hx hy).mpr q)))
theorem n_if_eq (S : CallFix p m c cc nL s args Ts own) {x : Nat} {off : Int} {tgt : Nat} (hx : x < 2 ^ 31) (hdg : decode cc pc = .ok (.ifCond .eq off, 3)) (ht : (pc : Int) + off = (tgt : Int)) (kt : x = 0 → W p l e R s m args below meth c H locs cells slots Q (F0 m tgt ls rest)) (kf : x ≠ 0 → W p l e R s m args below meth c H locs cells slots Q (F0 m (pc + 3) ls rest)) : W p l e R s m args below meth c H locs cells slots Q (F0 m pc ls (.int (nI x) :: rest)) := lv_if_eq S.1 S.2.1 hdg ht (fun h => kt ((nI_eq hx (show 0 < 2 ^ 31 by decide)).mp h)) (fun h => kf (fun q => h ((nI_eq hx (show 0 < 2 ^ 31 by decide)).mpr q)))
theorem n_icmp_ne (S : CallFix p m c cc nL s args Ts own) {x y : Nat} {off : Int} {tgt : Nat} (hx : x < 2 ^ 31) (hy : y < 2 ^ 31) (hdg : decode cc pc = .ok (.if_icmp .ne off, 3)) (ht : (pc : Int) + off = (tgt : Int)) (kt : x ≠ y → W p l e R s m args below meth c H locs cells slots Q (F0 m tgt ls rest)) (kf : x = y → W p l e R s m args below meth c H locs cells slots Q (F0 m (pc + 3) ls rest)) : W p l e R s m args below meth c H locs cells slots Q (F0 m pc ls (.int (nI y) :: .int (nI x) :: rest)) := lv_icmp_ne S.1 S.2.1 hdg ht (fun h => kt (fun q => h ((nI_eq hx hy).mpr q))) (fun h => kf ((nI_eq hx hy).mp h))
theorem n_if_ne (S : CallFix p m c cc nL s args Ts own) {x : Nat} {off : Int} {tgt : Nat} (hx : x < 2 ^ 31) (hdg : decode cc pc = .ok (.ifCond .ne off, 3)) (ht : (pc : Int) + off = (tgt : Int)) (kt : x ≠ 0 → W p l e R s m args below meth c H locs cells slots Q (F0 m tgt ls rest)) (kf : x = 0 → W p l e R s m args below meth c H locs cells slots Q (F0 m (pc + 3) ls rest)) : W p l e R s m args below meth c H locs cells slots Q (F0 m pc ls (.int (nI x) :: rest)) := lv_if_ne S.1 S.2.1 hdg ht (fun h => kt (fun q => h ((nI_eq hx (show 0 < 2 ^ 31 by decide)).mpr q))) (fun h => kf ((nI_eq hx (show 0 < 2 ^ 31 by decide)).mp h))
theorem n_bne (S : CallFix p m c cc nL s args Ts own) {x y : Bool} {o1 o2 : Int} (d1 : decode cc pc = .ok (.if_icmp .eq o1, 3)) (d2 : decode cc (pc + 3) = .ok (.iconst 1, 1)) (d3 : decode cc (pc + 4) = .ok (.goto o2, 3)) (d4 : decode cc (pc + 7) = .ok (.iconst 0, 1)) (t1 : (pc : Int) + o1 = ((pc + 7 : Nat) : Int)) (t2 : ((pc + 4 : Nat) : Int) + o2 = ((pc + 8 : Nat) : Int)) (k : W p l e R s m args below meth c H locs cells slots Q (F0 m (pc + 8) ls (.int (b2i (x ^^ y)) :: rest))) : W p l e R s m args below meth c H locs cells slots Q (F0 m pc ls (.int (b2i y) :: .int (b2i x) :: rest)) := by
  refine lv_icmp_eq S.1 S.2.1 d1 t1 (fun h => ?_) (fun h => ?_)
  · refine lv_iconst S.1 S.2.1 (v := b2i (x ^^ y)) d4 (by rw [b2i_xor_eq h]; rfl) k
  · refine lv_iconst S.1 S.2.1 (v := b2i (x ^^ y)) d2 (by rw [b2i_xor_ne h]; rfl) ?_
    exact lv_goto S.1 S.2.1 d3 t2 k
theorem n_bc_eq (S : CallFix p m c cc nL s args Ts own) {x y : Int32} {o1 o2 : Int} (b : Bool) (hb : b = true ↔ ¬ x = y) (d1 : decode cc pc = .ok (.if_icmp .eq o1, 3)) (d2 : decode cc (pc + 3) = .ok (.iconst 1, 1)) (d3 : decode cc (pc + 4) = .ok (.goto o2, 3)) (d4 : decode cc (pc + 7) = .ok (.iconst 0, 1)) (t1 : (pc : Int) + o1 = ((pc + 7 : Nat) : Int)) (t2 : ((pc + 4 : Nat) : Int) + o2 = ((pc + 8 : Nat) : Int)) (k : W p l e R s m args below meth c H locs cells slots Q (F0 m (pc + 8) ls (.int (b2i b) :: rest))) : W p l e R s m args below meth c H locs cells slots Q (F0 m pc ls (.int y :: .int x :: rest)) := by
  refine lv_icmp_eq S.1 S.2.1 d1 t1 (fun h => ?_) (fun h => ?_)
  · have hf : b = false := Bool.eq_false_iff.mpr (fun q => (hb.mp q) h)
    exact lv_iconst S.1 S.2.1 (v := b2i b) d4 (by rw [hf]; rfl) k
  · have hf : b = true := hb.mpr h
    refine lv_iconst S.1 S.2.1 (v := b2i b) d2 (by rw [hf]; rfl) ?_
    exact lv_goto S.1 S.2.1 d3 t2 k
theorem n_bz_eq (S : CallFix p m c cc nL s args Ts own) {x : Int32} {o1 o2 : Int} (b : Bool) (hb : b = true ↔ ¬ x = 0) (d1 : decode cc pc = .ok (.ifCond .eq o1, 3)) (d2 : decode cc (pc + 3) = .ok (.iconst 1, 1)) (d3 : decode cc (pc + 4) = .ok (.goto o2, 3)) (d4 : decode cc (pc + 7) = .ok (.iconst 0, 1)) (t1 : (pc : Int) + o1 = ((pc + 7 : Nat) : Int)) (t2 : ((pc + 4 : Nat) : Int) + o2 = ((pc + 8 : Nat) : Int)) (k : W p l e R s m args below meth c H locs cells slots Q (F0 m (pc + 8) ls (.int (b2i b) :: rest))) : W p l e R s m args below meth c H locs cells slots Q (F0 m pc ls (.int x :: rest)) := by
  refine lv_if_eq S.1 S.2.1 d1 t1 (fun h => ?_) (fun h => ?_)
  · have hf : b = false := Bool.eq_false_iff.mpr (fun q => (hb.mp q) h)
    exact lv_iconst S.1 S.2.1 (v := b2i b) d4 (by rw [hf]; rfl) k
  · have hf : b = true := hb.mpr h
    refine lv_iconst S.1 S.2.1 (v := b2i b) d2 (by rw [hf]; rfl) ?_
    exact lv_goto S.1 S.2.1 d3 t2 k
theorem n_bc_ne (S : CallFix p m c cc nL s args Ts own) {x y : Int32} {o1 o2 : Int} (b : Bool) (hb : b = true ↔ x = y) (d1 : decode cc pc = .ok (.if_icmp .ne o1, 3)) (d2 : decode cc (pc + 3) = .ok (.iconst 1, 1)) (d3 : decode cc (pc + 4) = .ok (.goto o2, 3)) (d4 : decode cc (pc + 7) = .ok (.iconst 0, 1)) (t1 : (pc : Int) + o1 = ((pc + 7 : Nat) : Int)) (t2 : ((pc + 4 : Nat) : Int) + o2 = ((pc + 8 : Nat) : Int)) (k : W p l e R s m args below meth c H locs cells slots Q (F0 m (pc + 8) ls (.int (b2i b) :: rest))) : W p l e R s m args below meth c H locs cells slots Q (F0 m pc ls (.int y :: .int x :: rest)) := by
  refine lv_icmp_ne S.1 S.2.1 d1 t1 (fun h => ?_) (fun h => ?_)
  · have hf : b = false := Bool.eq_false_iff.mpr (fun q => h (hb.mp q))
    exact lv_iconst S.1 S.2.1 (v := b2i b) d4 (by rw [hf]; rfl) k
  · have hf : b = true := hb.mpr h
    refine lv_iconst S.1 S.2.1 (v := b2i b) d2 (by rw [hf]; rfl) ?_
    exact lv_goto S.1 S.2.1 d3 t2 k
theorem n_bz_ne (S : CallFix p m c cc nL s args Ts own) {x : Int32} {o1 o2 : Int} (b : Bool) (hb : b = true ↔ x = 0) (d1 : decode cc pc = .ok (.ifCond .ne o1, 3)) (d2 : decode cc (pc + 3) = .ok (.iconst 1, 1)) (d3 : decode cc (pc + 4) = .ok (.goto o2, 3)) (d4 : decode cc (pc + 7) = .ok (.iconst 0, 1)) (t1 : (pc : Int) + o1 = ((pc + 7 : Nat) : Int)) (t2 : ((pc + 4 : Nat) : Int) + o2 = ((pc + 8 : Nat) : Int)) (k : W p l e R s m args below meth c H locs cells slots Q (F0 m (pc + 8) ls (.int (b2i b) :: rest))) : W p l e R s m args below meth c H locs cells slots Q (F0 m pc ls (.int x :: rest)) := by
  refine lv_if_ne S.1 S.2.1 d1 t1 (fun h => ?_) (fun h => ?_)
  · have hf : b = false := Bool.eq_false_iff.mpr (fun q => h (hb.mp q))
    exact lv_iconst S.1 S.2.1 (v := b2i b) d4 (by rw [hf]; rfl) k
  · have hf : b = true := hb.mpr h
    refine lv_iconst S.1 S.2.1 (v := b2i b) d2 (by rw [hf]; rfl) ?_
    exact lv_goto S.1 S.2.1 d3 t2 k
theorem n_bc_lt (S : CallFix p m c cc nL s args Ts own) {x y : Int32} {o1 o2 : Int} (b : Bool) (hb : b = true ↔ ¬ x < y) (d1 : decode cc pc = .ok (.if_icmp .lt o1, 3)) (d2 : decode cc (pc + 3) = .ok (.iconst 1, 1)) (d3 : decode cc (pc + 4) = .ok (.goto o2, 3)) (d4 : decode cc (pc + 7) = .ok (.iconst 0, 1)) (t1 : (pc : Int) + o1 = ((pc + 7 : Nat) : Int)) (t2 : ((pc + 4 : Nat) : Int) + o2 = ((pc + 8 : Nat) : Int)) (k : W p l e R s m args below meth c H locs cells slots Q (F0 m (pc + 8) ls (.int (b2i b) :: rest))) : W p l e R s m args below meth c H locs cells slots Q (F0 m pc ls (.int y :: .int x :: rest)) := by
  refine lv_icmp_lt S.1 S.2.1 d1 t1 (fun h => ?_) (fun h => ?_)
  · have hf : b = false := Bool.eq_false_iff.mpr (fun q => (hb.mp q) h)
    exact lv_iconst S.1 S.2.1 (v := b2i b) d4 (by rw [hf]; rfl) k
  · have hf : b = true := hb.mpr h
    refine lv_iconst S.1 S.2.1 (v := b2i b) d2 (by rw [hf]; rfl) ?_
    exact lv_goto S.1 S.2.1 d3 t2 k
theorem n_bz_lt (S : CallFix p m c cc nL s args Ts own) {x : Int32} {o1 o2 : Int} (b : Bool) (hb : b = true ↔ ¬ x < 0) (d1 : decode cc pc = .ok (.ifCond .lt o1, 3)) (d2 : decode cc (pc + 3) = .ok (.iconst 1, 1)) (d3 : decode cc (pc + 4) = .ok (.goto o2, 3)) (d4 : decode cc (pc + 7) = .ok (.iconst 0, 1)) (t1 : (pc : Int) + o1 = ((pc + 7 : Nat) : Int)) (t2 : ((pc + 4 : Nat) : Int) + o2 = ((pc + 8 : Nat) : Int)) (k : W p l e R s m args below meth c H locs cells slots Q (F0 m (pc + 8) ls (.int (b2i b) :: rest))) : W p l e R s m args below meth c H locs cells slots Q (F0 m pc ls (.int x :: rest)) := by
  refine lv_if_lt S.1 S.2.1 d1 t1 (fun h => ?_) (fun h => ?_)
  · have hf : b = false := Bool.eq_false_iff.mpr (fun q => (hb.mp q) h)
    exact lv_iconst S.1 S.2.1 (v := b2i b) d4 (by rw [hf]; rfl) k
  · have hf : b = true := hb.mpr h
    refine lv_iconst S.1 S.2.1 (v := b2i b) d2 (by rw [hf]; rfl) ?_
    exact lv_goto S.1 S.2.1 d3 t2 k
theorem n_bc_ge (S : CallFix p m c cc nL s args Ts own) {x y : Int32} {o1 o2 : Int} (b : Bool) (hb : b = true ↔ ¬ y ≤ x) (d1 : decode cc pc = .ok (.if_icmp .ge o1, 3)) (d2 : decode cc (pc + 3) = .ok (.iconst 1, 1)) (d3 : decode cc (pc + 4) = .ok (.goto o2, 3)) (d4 : decode cc (pc + 7) = .ok (.iconst 0, 1)) (t1 : (pc : Int) + o1 = ((pc + 7 : Nat) : Int)) (t2 : ((pc + 4 : Nat) : Int) + o2 = ((pc + 8 : Nat) : Int)) (k : W p l e R s m args below meth c H locs cells slots Q (F0 m (pc + 8) ls (.int (b2i b) :: rest))) : W p l e R s m args below meth c H locs cells slots Q (F0 m pc ls (.int y :: .int x :: rest)) := by
  refine lv_icmp_ge S.1 S.2.1 d1 t1 (fun h => ?_) (fun h => ?_)
  · have hf : b = false := Bool.eq_false_iff.mpr (fun q => (hb.mp q) h)
    exact lv_iconst S.1 S.2.1 (v := b2i b) d4 (by rw [hf]; rfl) k
  · have hf : b = true := hb.mpr h
    refine lv_iconst S.1 S.2.1 (v := b2i b) d2 (by rw [hf]; rfl) ?_
    exact lv_goto S.1 S.2.1 d3 t2 k
theorem n_bz_ge (S : CallFix p m c cc nL s args Ts own) {x : Int32} {o1 o2 : Int} (b : Bool) (hb : b = true ↔ ¬ 0 ≤ x) (d1 : decode cc pc = .ok (.ifCond .ge o1, 3)) (d2 : decode cc (pc + 3) = .ok (.iconst 1, 1)) (d3 : decode cc (pc + 4) = .ok (.goto o2, 3)) (d4 : decode cc (pc + 7) = .ok (.iconst 0, 1)) (t1 : (pc : Int) + o1 = ((pc + 7 : Nat) : Int)) (t2 : ((pc + 4 : Nat) : Int) + o2 = ((pc + 8 : Nat) : Int)) (k : W p l e R s m args below meth c H locs cells slots Q (F0 m (pc + 8) ls (.int (b2i b) :: rest))) : W p l e R s m args below meth c H locs cells slots Q (F0 m pc ls (.int x :: rest)) := by
  refine lv_if_ge S.1 S.2.1 d1 t1 (fun h => ?_) (fun h => ?_)
  · have hf : b = false := Bool.eq_false_iff.mpr (fun q => (hb.mp q) h)
    exact lv_iconst S.1 S.2.1 (v := b2i b) d4 (by rw [hf]; rfl) k
  · have hf : b = true := hb.mpr h
    refine lv_iconst S.1 S.2.1 (v := b2i b) d2 (by rw [hf]; rfl) ?_
    exact lv_goto S.1 S.2.1 d3 t2 k
theorem n_bc_gt (S : CallFix p m c cc nL s args Ts own) {x y : Int32} {o1 o2 : Int} (b : Bool) (hb : b = true ↔ ¬ y < x) (d1 : decode cc pc = .ok (.if_icmp .gt o1, 3)) (d2 : decode cc (pc + 3) = .ok (.iconst 1, 1)) (d3 : decode cc (pc + 4) = .ok (.goto o2, 3)) (d4 : decode cc (pc + 7) = .ok (.iconst 0, 1)) (t1 : (pc : Int) + o1 = ((pc + 7 : Nat) : Int)) (t2 : ((pc + 4 : Nat) : Int) + o2 = ((pc + 8 : Nat) : Int)) (k : W p l e R s m args below meth c H locs cells slots Q (F0 m (pc + 8) ls (.int (b2i b) :: rest))) : W p l e R s m args below meth c H locs cells slots Q (F0 m pc ls (.int y :: .int x :: rest)) := by
  refine lv_icmp_gt S.1 S.2.1 d1 t1 (fun h => ?_) (fun h => ?_)
  · have hf : b = false := Bool.eq_false_iff.mpr (fun q => (hb.mp q) h)
    exact lv_iconst S.1 S.2.1 (v := b2i b) d4 (by rw [hf]; rfl) k
  · have hf : b = true := hb.mpr h
    refine lv_iconst S.1 S.2.1 (v := b2i b) d2 (by rw [hf]; rfl) ?_
    exact lv_goto S.1 S.2.1 d3 t2 k
theorem n_bz_gt (S : CallFix p m c cc nL s args Ts own) {x : Int32} {o1 o2 : Int} (b : Bool) (hb : b = true ↔ ¬ 0 < x) (d1 : decode cc pc = .ok (.ifCond .gt o1, 3)) (d2 : decode cc (pc + 3) = .ok (.iconst 1, 1)) (d3 : decode cc (pc + 4) = .ok (.goto o2, 3)) (d4 : decode cc (pc + 7) = .ok (.iconst 0, 1)) (t1 : (pc : Int) + o1 = ((pc + 7 : Nat) : Int)) (t2 : ((pc + 4 : Nat) : Int) + o2 = ((pc + 8 : Nat) : Int)) (k : W p l e R s m args below meth c H locs cells slots Q (F0 m (pc + 8) ls (.int (b2i b) :: rest))) : W p l e R s m args below meth c H locs cells slots Q (F0 m pc ls (.int x :: rest)) := by
  refine lv_if_gt S.1 S.2.1 d1 t1 (fun h => ?_) (fun h => ?_)
  · have hf : b = false := Bool.eq_false_iff.mpr (fun q => (hb.mp q) h)
    exact lv_iconst S.1 S.2.1 (v := b2i b) d4 (by rw [hf]; rfl) k
  · have hf : b = true := hb.mpr h
    refine lv_iconst S.1 S.2.1 (v := b2i b) d2 (by rw [hf]; rfl) ?_
    exact lv_goto S.1 S.2.1 d3 t2 k
theorem n_bc_le (S : CallFix p m c cc nL s args Ts own) {x y : Int32} {o1 o2 : Int} (b : Bool) (hb : b = true ↔ ¬ x ≤ y) (d1 : decode cc pc = .ok (.if_icmp .le o1, 3)) (d2 : decode cc (pc + 3) = .ok (.iconst 1, 1)) (d3 : decode cc (pc + 4) = .ok (.goto o2, 3)) (d4 : decode cc (pc + 7) = .ok (.iconst 0, 1)) (t1 : (pc : Int) + o1 = ((pc + 7 : Nat) : Int)) (t2 : ((pc + 4 : Nat) : Int) + o2 = ((pc + 8 : Nat) : Int)) (k : W p l e R s m args below meth c H locs cells slots Q (F0 m (pc + 8) ls (.int (b2i b) :: rest))) : W p l e R s m args below meth c H locs cells slots Q (F0 m pc ls (.int y :: .int x :: rest)) := by
  refine lv_icmp_le S.1 S.2.1 d1 t1 (fun h => ?_) (fun h => ?_)
  · have hf : b = false := Bool.eq_false_iff.mpr (fun q => (hb.mp q) h)
    exact lv_iconst S.1 S.2.1 (v := b2i b) d4 (by rw [hf]; rfl) k
  · have hf : b = true := hb.mpr h
    refine lv_iconst S.1 S.2.1 (v := b2i b) d2 (by rw [hf]; rfl) ?_
    exact lv_goto S.1 S.2.1 d3 t2 k
theorem n_bz_le (S : CallFix p m c cc nL s args Ts own) {x : Int32} {o1 o2 : Int} (b : Bool) (hb : b = true ↔ ¬ x ≤ 0) (d1 : decode cc pc = .ok (.ifCond .le o1, 3)) (d2 : decode cc (pc + 3) = .ok (.iconst 1, 1)) (d3 : decode cc (pc + 4) = .ok (.goto o2, 3)) (d4 : decode cc (pc + 7) = .ok (.iconst 0, 1)) (t1 : (pc : Int) + o1 = ((pc + 7 : Nat) : Int)) (t2 : ((pc + 4 : Nat) : Int) + o2 = ((pc + 8 : Nat) : Int)) (k : W p l e R s m args below meth c H locs cells slots Q (F0 m (pc + 8) ls (.int (b2i b) :: rest))) : W p l e R s m args below meth c H locs cells slots Q (F0 m pc ls (.int x :: rest)) := by
  refine lv_if_le S.1 S.2.1 d1 t1 (fun h => ?_) (fun h => ?_)
  · have hf : b = false := Bool.eq_false_iff.mpr (fun q => (hb.mp q) h)
    exact lv_iconst S.1 S.2.1 (v := b2i b) d4 (by rw [hf]; rfl) k
  · have hf : b = true := hb.mpr h
    refine lv_iconst S.1 S.2.1 (v := b2i b) d2 (by rw [hf]; rfl) ?_
    exact lv_goto S.1 S.2.1 d3 t2 k
theorem n_iald (S : CallFix p m c cc nL s args Ts own) (C : Cx D ca s0 A s ws H locs) (q0 : Nat) {n : Nat} {f : Nat → Int32} (ha : ws[q0]? = some (a, .inl (ca 0, n, .inl f))) {i : Nat} (hi : i < n) (hn : n < 2 ^ 31) (hdg : decode cc pc = .ok (.iaload, 1)) (k : W p l e R s m args below meth c H locs cells slots Q (F0 m (pc + 1) ls (.int (f i) :: rest))) : W p l e R s m args below meth c H locs cells slots Q (F0 m pc ls (.int (nI i) :: .ref a :: rest)) := va_iald S.1 S.2.1 C.1 C.2.1 q0 0 ha rfl (vp_in_nI hi hn) hdg (by rw [nI_clamp (by omega)]; exact k)
theorem n_zald (S : CallFix p m c cc nL s args Ts own) (C : Cx D ca s0 A s ws H locs) (q0 : Nat) {n : Nat} {f : Nat → Int32} (ha : ws[q0]? = some (a, .inl (ca 1, n, .inl f))) {i : Nat} (hi : i < n) (hn : n < 2 ^ 31) (hdg : decode cc pc = .ok (.baload, 1)) (k : W p l e R s m args below meth c H locs cells slots Q (F0 m (pc + 1) ls (.int (f i) :: rest))) : W p l e R s m args below meth c H locs cells slots Q (F0 m pc ls (.int (nI i) :: .ref a :: rest)) := va_zald S.1 S.2.1 C.1 C.2.1 q0 1 ha rfl (vp_in_nI hi hn) hdg (by rw [nI_clamp (by omega)]; exact k)
theorem n_lald (S : CallFix p m c cc nL s args Ts own) (C : Cx D ca s0 A s ws H locs) (q0 : Nat) {n : Nat} {f : Nat → Int64} (ha : ws[q0]? = some (a, .inl (ca 2, n, .inr (.inl f)))) {i : Nat} (hi : i < n) (hn : n < 2 ^ 31) (hdg : decode cc pc = .ok (.laload, 1)) (k : W p l e R s m args below meth c H locs cells slots Q (F0 m (pc + 1) ls (.long (f i) :: rest))) : W p l e R s m args below meth c H locs cells slots Q (F0 m pc ls (.int (nI i) :: .ref a :: rest)) := va_lald S.1 S.2.1 C.1 C.2.1 q0 2 ha rfl (vp_in_nI hi hn) hdg (by rw [nI_clamp (by omega)]; exact k)
theorem n_bald (S : CallFix p m c cc nL s args Ts own) (C : Cx D ca s0 A s ws H locs) (q0 : Nat) {n : Nat} {f : Nat → Int32} (ha : ws[q0]? = some (a, .inl (ca 3, n, .inl f))) {i : Nat} (hi : i < n) (hn : n < 2 ^ 31) (hdg : decode cc pc = .ok (.baload, 1)) (k : W p l e R s m args below meth c H locs cells slots Q (F0 m (pc + 1) ls (.int (f i) :: rest))) : W p l e R s m args below meth c H locs cells slots Q (F0 m pc ls (.int (nI i) :: .ref a :: rest)) := va_bald S.1 S.2.1 C.1 C.2.1 q0 3 ha rfl (vp_in_nI hi hn) hdg (by rw [nI_clamp (by omega)]; exact k)
theorem n_iast (S : CallFix p m c cc nL s args Ts own) (C : Cx D ca s0 A s ws H locs) (q0 : Nat) {n : Nat} {f : Nat → Int32} (ha : ws[q0]? = some (a, .inl (ca 0, n, .inl f))) {i : Nat} {x : Int32} (hi : i < n) (hn : n < 2 ^ 31) (hdg : decode cc pc = .ok (.iastore, 1)) (k : ∀ (H1 : Heap) (locs1 : List Loc), Cx D ca s0 A s (ws.set q0 (a, .inl (ca 0, n, .inl (upd f i x)))) H1 locs1 → W p l e R s m args below meth c H1 locs1 cells slots Q (F0 m (pc + 1) ls rest)) : W p l e R s m args below meth c H locs cells slots Q (F0 m pc ls (.int x :: .int (nI i) :: .ref a :: rest)) := by
  obtain ⟨h1, h2, h3, h4, h5, h6⟩ := C
  refine va_iast S.1 S.2.1 h1 h2 h3 h4 q0 0 ha rfl (vp_in_nI hi hn) hdg (fun H1 locs1 g1 g2 g3 => ?_)
  rw [nI_clamp (by omega)] at g1 g2
  exact k H1 locs1 ⟨h1, g1, g2, g3, h5, h6⟩
theorem n_zast (S : CallFix p m c cc nL s args Ts own) (C : Cx D ca s0 A s ws H locs) (q0 : Nat) {n : Nat} {f : Nat → Int32} (ha : ws[q0]? = some (a, .inl (ca 1, n, .inl f))) {i : Nat} {x : Int32} (hi : i < n) (hn : n < 2 ^ 31) (hdg : decode cc pc = .ok (.bastore, 1)) (k : ∀ (H1 : Heap) (locs1 : List Loc), Cx D ca s0 A s (ws.set q0 (a, .inl (ca 1, n, .inl (upd f i (vp_nar .boolean x))))) H1 locs1 → W p l e R s m args below meth c H1 locs1 cells slots Q (F0 m (pc + 1) ls rest)) : W p l e R s m args below meth c H locs cells slots Q (F0 m pc ls (.int x :: .int (nI i) :: .ref a :: rest)) := by
  obtain ⟨h1, h2, h3, h4, h5, h6⟩ := C
  refine va_zast S.1 S.2.1 h1 h2 h3 h4 q0 1 ha rfl (vp_in_nI hi hn) hdg (fun H1 locs1 g1 g2 g3 => ?_)
  rw [nI_clamp (by omega)] at g1 g2
  exact k H1 locs1 ⟨h1, g1, g2, g3, h5, h6⟩
theorem n_last (S : CallFix p m c cc nL s args Ts own) (C : Cx D ca s0 A s ws H locs) (q0 : Nat) {n : Nat} {f : Nat → Int64} (ha : ws[q0]? = some (a, .inl (ca 2, n, .inr (.inl f)))) {i : Nat} {x : Int64} (hi : i < n) (hn : n < 2 ^ 31) (hdg : decode cc pc = .ok (.lastore, 1)) (k : ∀ (H1 : Heap) (locs1 : List Loc), Cx D ca s0 A s (ws.set q0 (a, .inl (ca 2, n, .inr (.inl (vp_updL f i x))))) H1 locs1 → W p l e R s m args below meth c H1 locs1 cells slots Q (F0 m (pc + 1) ls rest)) : W p l e R s m args below meth c H locs cells slots Q (F0 m pc ls (.long x :: .int (nI i) :: .ref a :: rest)) := by
  obtain ⟨h1, h2, h3, h4, h5, h6⟩ := C
  refine va_last S.1 S.2.1 h1 h2 h3 h4 q0 2 ha rfl (vp_in_nI hi hn) hdg (fun H1 locs1 g1 g2 g3 => ?_)
  rw [nI_clamp (by omega)] at g1 g2
  exact k H1 locs1 ⟨h1, g1, g2, g3, h5, h6⟩
theorem n_bast (S : CallFix p m c cc nL s args Ts own) (C : Cx D ca s0 A s ws H locs) (q0 : Nat) {n : Nat} {f : Nat → Int32} (ha : ws[q0]? = some (a, .inl (ca 3, n, .inl f))) {i : Nat} {x : Int32} (hi : i < n) (hn : n < 2 ^ 31) (hdg : decode cc pc = .ok (.bastore, 1)) (k : ∀ (H1 : Heap) (locs1 : List Loc), Cx D ca s0 A s (ws.set q0 (a, .inl (ca 3, n, .inl (upd f i (vp_nar .byte x))))) H1 locs1 → W p l e R s m args below meth c H1 locs1 cells slots Q (F0 m (pc + 1) ls rest)) : W p l e R s m args below meth c H locs cells slots Q (F0 m pc ls (.int x :: .int (nI i) :: .ref a :: rest)) := by
  obtain ⟨h1, h2, h3, h4, h5, h6⟩ := C
  refine va_bast S.1 S.2.1 h1 h2 h3 h4 q0 3 ha rfl (vp_in_nI hi hn) hdg (fun H1 locs1 g1 g2 g3 => ?_)
  rw [nI_clamp (by omega)] at g1 g2
  exact k H1 locs1 ⟨h1, g1, g2, g3, h5, h6⟩
theorem n_alen (S : CallFix p m c cc nL s args Ts own) (C : Cx D ca s0 A s ws H locs) (q0 t0 : Nat) {cA : ClassId} {x : vp_A} (ha : ws[q0]? = some (a, .inl (cA, x))) {ty : FieldType} (ht : (kTys ca)[t0]? = some (cA, ty)) (hdg : decode cc pc = .ok (.arraylength, 1)) (k : W p l e R s m args below meth c H locs cells slots Q (F0 m (pc + 1) ls (.int (nI x.1) :: rest))) : W p l e R s m args below meth c H locs cells slots Q (F0 m pc ls (.ref a :: rest)) := va_alen S.1 S.2.1 C.1 C.2.1 q0 t0 ha ht rfl hdg k
theorem n_get (S : CallFix p m c cc nL s args Ts own) (C : Cx D ca s0 A s ws H locs) {C0 : String} {T : u_T} {N ci index : Nat} (hin : ∀ w ∈ u_ws C0 T N, w ∈ Ts) (q0 : Nat) {fs : List Value} (he : ws[q0]? = some (a, .inr (ci, fs))) (hc : vwCl[ci]? = some (C0, T, N)) (k : Nat) (hk : k < N) (hlink : Cond.fieldLink own index (T k).1 (T k).2.1 (T k).2.2.1 ∈ Ts) {v : Value} (hv : fs[k]? = some v) (hdg : decode cc pc = .ok (.getfield index, 3)) (kk : W p l e R s m args below meth c H locs cells slots Q (F0 m (pc + 3) ls (v :: rest))) : W p l e R s m args below meth c H locs cells slots Q (F0 m pc ls (.ref a :: rest)) := va_get S.1 S.2.1 S.2.2.2.2 hin S.2.2.2.1 C.1 C.2.1 q0 he hc k hk (S.2.2.2.2 _ hlink) (fun _ h => h) hv hdg kk
theorem n_put (S : CallFix p m c cc nL s args Ts own) (C : Cx D ca s0 A s ws H locs) {C0 : String} {T : u_T} {N ci index : Nat} (hin : ∀ w ∈ u_ws C0 T N, w ∈ Ts) (ty0 : Nat → FieldType) (hty : ∀ k, k < N → parseFieldDescriptor (T k).2.2.1 = some (ty0 k)) (hnm : ∀ a, a < N → ∀ b, b < N → a ≠ b → (T a).2.1 ≠ (T b).2.1) (q0 : Nat) {fs : List Value} (he : ws[q0]? = some (a, .inr (ci, fs))) (hc : vwCl[ci]? = some (C0, T, N)) (k : Nat) (hk : k < N) (hlink : Cond.fieldLink own index (T k).1 (T k).2.1 (T k).2.2.1 ∈ Ts) (hfin : (T k).2.2.2 = false) {ty : FieldType} {v : Value} (hd : parseFieldDescriptor (T k).2.2.1 = some ty) (hn : narrow ty v = v) (hfit : fits ty v = true) (hl : k < fs.length) (hdg : decode cc pc = .ok (.putfield index, 3)) (kk : ∀ (H1 : Heap) (locs1 : List Loc), Cx D ca s0 A s (ws.set q0 (a, .inr (ci, fs.set k v))) H1 locs1 → W p l e R s m args below meth c H1 locs1 cells slots Q (F0 m (pc + 3) ls rest)) : W p l e R s m args below meth c H locs cells slots Q (F0 m pc ls (v :: .ref a :: rest)) := va_put S.1 S.2.1 S.2.2.2.2 hin ty0 hty hnm S.2.2.2.1 C.1 C.2.1 C.2.2.1 C.2.2.2.1 q0 he hc k hk (S.2.2.2.2 _ hlink) (fun _ h => h) hfin hd hn hfit hl hdg (fun H1 locs1 g1 g2 g3 => kk H1 locs1 ⟨C.1, g1, g2, g3, C.2.2.2.2⟩)
theorem n_putF (S : CallFix p m c cc nL s args Ts own) (C : Cx D ca s0 A s ws H locs) {C0 : String} {T : u_T} {N ci index : Nat} (hin : ∀ w ∈ u_ws C0 T N, w ∈ Ts) (ty0 : Nat → FieldType) (hty : ∀ k, k < N → parseFieldDescriptor (T k).2.2.1 = some (ty0 k)) (hnm : ∀ a, a < N → ∀ b, b < N → a ≠ b → (T a).2.1 ≠ (T b).2.1) (q0 : Nat) {fs : List Value} (he : ws[q0]? = some (a, .inr (ci, fs))) (hc : vwCl[ci]? = some (C0, T, N)) (k : Nat) (hk : k < N) (hlink : Cond.fieldLink own index (T k).1 (T k).2.1 (T k).2.2.1 ∈ Ts) (hfin : (T k).2.2.2 = true) (hin2 : meth.name = "<init>") (hdecl : (T k).1 = own) {ty : FieldType} {v : Value} (hd : parseFieldDescriptor (T k).2.2.1 = some ty) (hn : narrow ty v = v) (hfit : fits ty v = true) (hl : k < fs.length) (hdg : decode cc pc = .ok (.putfield index, 3)) (kk : ∀ (H1 : Heap) (locs1 : List Loc), Cx D ca s0 A s (ws.set q0 (a, .inr (ci, fs.set k v))) H1 locs1 → W p l e R s m args below meth c H1 locs1 cells slots Q (F0 m (pc + 3) ls rest)) : W p l e R s m args below meth c H locs cells slots Q (F0 m pc ls (v :: .ref a :: rest)) := va_putF S.1 S.2.1 S.2.2.2.2 hin ty0 hty hnm S.2.2.2.1 C.1 C.2.1 C.2.2.1 C.2.2.2.1 q0 he hc k hk (S.2.2.2.2 _ hlink) (fun _ h => h) hfin hin2 hdecl hd hn hfit hl hdg (fun H1 locs1 g1 g2 g3 => kk H1 locs1 ⟨C.1, g1, g2, g3, C.2.2.2.2⟩)
theorem n_recv (C : Cx D ca s0 A s ws H locs) (q0 ci : Nat) {q : vw_C} {fs : List Value} (hc : vwCl[ci]? = some q) (he : ws[q0]? = some (a, .inr (ci, fs))) : ∃ cell : Cell, H[a]? = some cell ∧ cell.vm.isStatics = false ∧ s.vm.findClass q.1 = some cell.cls := va_recv C.1 C.2.1 hc he
theorem n_callI {S0 : Type} {post : Int32 → S0 → Prop} {wp : S0 → va_W} {wc wr : va_W} {av : List Value} {mc ms : Nat} {aa : Array Value} (C : Cx D ca s0 A s ws H locs) (isC isR : List Nat) (hC : isC.map (fun i => ws[i]?) = wc.map some) (hR : isR.map (fun i => ws[i]?) = wr.map some) (hnC : va_nd isC = true) (hnR : va_nd isR = true) (hdis : ∀ i ∈ isR, i ∉ isC) (hrun : (FrameBlind (PreC D ca s0 av wc H.size) ∧ ∀ U : State, U.heap = H → s.WarmedH U.vm → PreC D ca s0 av wc H.size av.toArray U) → va_Run p l e R s m args below meth c H locs cells slots mc ms (F0 m pc ls st0) rest (va_Qi post (PostW D wp (va_A wc H.size)) (va_A wc H.size) aa) (va_A wc H.size)) (kk : ∀ (r : Int32) (u : S0) (H1 : Heap) (locs1 : List Loc), post r u → Cx D ca s0 A s (wr ++ wp u) H1 locs1 → W p l e R s m args below meth c H1 locs1 (cells + mc) (slots + ms) Q (F0 m (pc + 3) ls (.int r :: rest))) : W p l e R s m args below meth c H locs cells slots Q (F0 m pc ls st0) := by
  have hF := va_free (wc := wc) C.2.2.1 C.2.2.2.1 C.2.2.2.2.1 isC hC
  refine va_calli (hrun (C.pre av isC hC hnC)) C.2.2.2.1 (fun q _ h => hF q h) hF (fun r u t H1 locs1 ht hvm hw hB hz1 hk1 hS => ?_)
  obtain ⟨hP1, hD1⟩ := hB
  rw [ht] at hP1
  exact kk r u H1 locs1 hw (C.join isC isR hC hR hnR hdis hk1 hP1 hD1 hS)
theorem n_callL {S0 : Type} {post : Int64 → S0 → Prop} {wp : S0 → va_W} {wc wr : va_W} {av : List Value} {mc ms : Nat} {aa : Array Value} (C : Cx D ca s0 A s ws H locs) (isC isR : List Nat) (hC : isC.map (fun i => ws[i]?) = wc.map some) (hR : isR.map (fun i => ws[i]?) = wr.map some) (hnC : va_nd isC = true) (hnR : va_nd isR = true) (hdis : ∀ i ∈ isR, i ∉ isC) (hrun : (FrameBlind (PreC D ca s0 av wc H.size) ∧ ∀ U : State, U.heap = H → s.WarmedH U.vm → PreC D ca s0 av wc H.size av.toArray U) → va_Run p l e R s m args below meth c H locs cells slots mc ms (F0 m pc ls st0) rest (va_Ql post (PostW D wp (va_A wc H.size)) (va_A wc H.size) aa) (va_A wc H.size)) (kk : ∀ (r : Int64) (u : S0) (H1 : Heap) (locs1 : List Loc), post r u → Cx D ca s0 A s (wr ++ wp u) H1 locs1 → W p l e R s m args below meth c H1 locs1 (cells + mc) (slots + ms) Q (F0 m (pc + 3) ls (.long r :: rest))) : W p l e R s m args below meth c H locs cells slots Q (F0 m pc ls st0) := by
  have hF := va_free (wc := wc) C.2.2.1 C.2.2.2.1 C.2.2.2.2.1 isC hC
  refine va_calll (hrun (C.pre av isC hC hnC)) C.2.2.2.1 (fun q _ h => hF q h) hF (fun r u t H1 locs1 ht hvm hw hB hz1 hk1 hS => ?_)
  obtain ⟨hP1, hD1⟩ := hB
  rw [ht] at hP1
  exact kk r u H1 locs1 hw (C.join isC isR hC hR hnR hdis hk1 hP1 hD1 hS)
theorem n_callV {S0 : Type} {post : S0 → Prop} {wp : S0 → va_W} {wc wr : va_W} {av : List Value} {mc ms : Nat} {aa : Array Value} (C : Cx D ca s0 A s ws H locs) (isC isR : List Nat) (hC : isC.map (fun i => ws[i]?) = wc.map some) (hR : isR.map (fun i => ws[i]?) = wr.map some) (hnC : va_nd isC = true) (hnR : va_nd isR = true) (hdis : ∀ i ∈ isR, i ∉ isC) (hrun : (FrameBlind (PreC D ca s0 av wc H.size) ∧ ∀ U : State, U.heap = H → s.WarmedH U.vm → PreC D ca s0 av wc H.size av.toArray U) → va_Run p l e R s m args below meth c H locs cells slots mc ms (F0 m pc ls st0) rest (va_Qv post (PostW D wp (va_A wc H.size)) (va_A wc H.size) aa) (va_A wc H.size)) (kk : ∀ (u : S0) (H1 : Heap) (locs1 : List Loc), post u → Cx D ca s0 A s (wr ++ wp u) H1 locs1 → W p l e R s m args below meth c H1 locs1 (cells + mc) (slots + ms) Q (F0 m (pc + 3) ls (rest))) : W p l e R s m args below meth c H locs cells slots Q (F0 m pc ls st0) := by
  have hF := va_free (wc := wc) C.2.2.1 C.2.2.2.1 C.2.2.2.2.1 isC hC
  refine va_callv (hrun (C.pre av isC hC hnC)) C.2.2.2.1 (fun q _ h => hF q h) hF (fun u t H1 locs1 ht hvm hw hB hz1 hk1 hS => ?_)
  obtain ⟨hP1, hD1⟩ := hB
  rw [ht] at hP1
  exact kk u H1 locs1 hw (C.join isC isR hC hR hnR hdis hk1 hP1 hD1 hS)
theorem n_callP {S0 : Type} {post : Int32 → S0 → Prop} {av : List Value} {mc ms : Nat} {aa : Array Value} (C : Cx D ca s0 A s ws H locs) (hrun : (FrameBlind (PreC D ca s0 av [] H.size) ∧ ∀ U : State, U.heap = H → s.WarmedH U.vm → PreC D ca s0 av [] H.size av.toArray U) → va_Run p l e R s m args below meth c H locs cells slots mc ms (F0 m pc ls st0) rest (va_Qi post (PostW D (fun _ => []) (va_A [] H.size)) (va_A [] H.size) aa) (va_A [] H.size)) (kk : ∀ (r : Int32) (u : S0) (H1 : Heap) (locs1 : List Loc), post r u → Cx D ca s0 A s ws H1 locs1 → W p l e R s m args below meth c H1 locs1 (cells + mc) (slots + ms) Q (F0 m (pc + 3) ls (.int r :: rest))) : W p l e R s m args below meth c H locs cells slots Q (F0 m pc ls st0) := by
  have hF : ∀ q, va_A [] H.size q → A q := va_free (wc := []) C.2.2.1 C.2.2.2.1 C.2.2.2.2.1 [] rfl
  refine va_calli (hrun (C.pre av [] rfl rfl)) C.2.2.2.1 (fun q _ h => hF q h) hF (fun r u t H1 locs1 ht hvm hw hB hz1 hk1 hS => ?_)
  refine kk r u H1 locs1 hw ⟨C.1, C.2.1.kept (fun k q hk => hk1 q.1 (C.2.1 k q hk).lt (fun z => ?_)), C.2.2.1, hS, C.2.2.2.2⟩
  rcases z with ⟨k2, e2, h2⟩ | h2
  · simp at h2
  · exact absurd (C.2.1 k q hk).lt (Nat.not_lt.mpr h2)
end RW
theorem ctI_of {l : Launch} {y : MethodName} {w w' : List Cond} {rm : Room} {mc ms : Nat} {D : va_G} {ca : Nat → ClassId} {s0 : State} {av : List Value} {wc : va_W} {S0 : Type} {post : Int32 → S0 → Prop} {wp : S0 → va_W} {cc : ByteArray} {maxL : Nat} {own : String} {a0 : Array Value} (Z : Wd a0 s0) (ho : y.cls = own) (hy : plainName y.cls = true) (hw : w = Cond.code y cc maxL (some .int) :: w') (hn : (lg_sl av).length ≤ maxL)
    (body : ∀ (p : Program) (e : Env) (s : State) (m : MethodId) (args : Array Value) (below : List Frame) (meth : Method) (c : Code) (A : Nat → Prop) (ls : Array Slot) (Q : State → Prop), CallFix p m c cc maxL s args lw_good own → meth.name = y.name →
      (∀ (r : Int32) (u : S0) (pc : Nat) (ls : Array Slot) (H : Heap) (locs : List Loc) (cells slots : Nat), cells ≤ mc → slots ≤ ms → post r u → Cx D ca s0 A s (wp u) H locs → decode cc pc = .ok (.ireturn, 1) → W p l e rm s m args below meth c H locs cells slots Q (F0 m pc ls [.int r])) →
      Cx D ca s0 A s wc s.heap [] → lv_has ls maxL (lv_args 0 av) → W p l e rm s m args below meth c s.heap [] 0 0 Q (F0 m 0 ls [])) : CtI l y w rm mc ms D ca s0 av wc post wp := by
  intro sz
  refine Met.ofW (cc := cc) (maxL := maxL) (ret := (some .int)) hy hw ?_
  intro p e s m args below meth c s₁ B hml hv
  obtain ⟨rfl, hsz, hP, hK, hD0, hG⟩ := hv
  subst hsz
  have hl := lv_entry av (n := maxL) hn
  have hts : ∀ w ∈ lw_good, w.before av.toArray s = true := fun w hw => word_at hG.1 (good_of_word (gd_all w hw)) (Z w (gd_in w hw))
  rw [lg_entry_eq]
  refine body p e s m _ below meth c (va_A wc s.heap.size) _ _ ⟨B.exec, B.bytes, hml, by rw [← ho]; exact findClass_of_methodNamed B.named, hts⟩ (name_of_methodNamed B.named B.method).1 ?_ ⟨hK, hP, hD0.self, va_S.rf, fun q h => Or.inr h, hG⟩ hl
  intro r u pc ls H locs cells slots h1 h2 hp C hdg
  have hlk : meth.locks = false := B.notSynchronized
  exact W.widen h1 h2 (W.iret B.exec B.bytes B.returns (fun t ht _ => ⟨⟨r, u, rfl, hp, by rw [ht]; exact C.2.1, C.2.2.1⟩, C.2.2.2.1.F ht⟩) C.2.2.2.1.2.2 hdg hlk)
theorem ctZ_of {l : Launch} {y : MethodName} {w w' : List Cond} {rm : Room} {mc ms : Nat} {D : va_G} {ca : Nat → ClassId} {s0 : State} {av : List Value} {wc : va_W} {S0 : Type} {post : Int32 → S0 → Prop} {wp : S0 → va_W} {cc : ByteArray} {maxL : Nat} {own : String} {a0 : Array Value} (Z : Wd a0 s0) (ho : y.cls = own) (hy : plainName y.cls = true) (hw : w = Cond.code y cc maxL (some .boolean) :: w') (hn : (lg_sl av).length ≤ maxL)
    (body : ∀ (p : Program) (e : Env) (s : State) (m : MethodId) (args : Array Value) (below : List Frame) (meth : Method) (c : Code) (A : Nat → Prop) (ls : Array Slot) (Q : State → Prop), CallFix p m c cc maxL s args lw_good own → meth.name = y.name →
      (∀ (r : Int32) (u : S0) (pc : Nat) (ls : Array Slot) (H : Heap) (locs : List Loc) (cells slots : Nat), (hz : narrow .boolean (.int r) = .int r) → cells ≤ mc → slots ≤ ms → post r u → Cx D ca s0 A s (wp u) H locs → decode cc pc = .ok (.ireturn, 1) → W p l e rm s m args below meth c H locs cells slots Q (F0 m pc ls [.int r])) →
      Cx D ca s0 A s wc s.heap [] → lv_has ls maxL (lv_args 0 av) → W p l e rm s m args below meth c s.heap [] 0 0 Q (F0 m 0 ls [])) : CtI l y w rm mc ms D ca s0 av wc post wp := by
  intro sz
  refine Met.ofW (cc := cc) (maxL := maxL) (ret := (some .boolean)) hy hw ?_
  intro p e s m args below meth c s₁ B hml hv
  obtain ⟨rfl, hsz, hP, hK, hD0, hG⟩ := hv
  subst hsz
  have hl := lv_entry av (n := maxL) hn
  have hts : ∀ w ∈ lw_good, w.before av.toArray s = true := fun w hw => word_at hG.1 (good_of_word (gd_all w hw)) (Z w (gd_in w hw))
  rw [lg_entry_eq]
  refine body p e s m _ below meth c (va_A wc s.heap.size) _ _ ⟨B.exec, B.bytes, hml, by rw [← ho]; exact findClass_of_methodNamed B.named, hts⟩ (name_of_methodNamed B.named B.method).1 ?_ ⟨hK, hP, hD0.self, va_S.rf, fun q h => Or.inr h, hG⟩ hl
  intro r u pc ls H locs cells slots hz h1 h2 hp C hdg
  have hlk : meth.locks = false := B.notSynchronized
  exact W.widen h1 h2 (W.zret B.exec B.bytes B.returns hz (fun t ht _ => ⟨⟨r, u, rfl, hp, by rw [ht]; exact C.2.1, C.2.2.1⟩, C.2.2.2.1.F ht⟩) C.2.2.2.1.2.2 hdg hlk)
theorem ctL_of {l : Launch} {y : MethodName} {w w' : List Cond} {rm : Room} {mc ms : Nat} {D : va_G} {ca : Nat → ClassId} {s0 : State} {av : List Value} {wc : va_W} {S0 : Type} {post : Int64 → S0 → Prop} {wp : S0 → va_W} {cc : ByteArray} {maxL : Nat} {own : String} {a0 : Array Value} (Z : Wd a0 s0) (ho : y.cls = own) (hy : plainName y.cls = true) (hw : w = Cond.code y cc maxL (some .long) :: w') (hn : (lg_sl av).length ≤ maxL)
    (body : ∀ (p : Program) (e : Env) (s : State) (m : MethodId) (args : Array Value) (below : List Frame) (meth : Method) (c : Code) (A : Nat → Prop) (ls : Array Slot) (Q : State → Prop), CallFix p m c cc maxL s args lw_good own → meth.name = y.name →
      (∀ (r : Int64) (u : S0) (pc : Nat) (ls : Array Slot) (H : Heap) (locs : List Loc) (cells slots : Nat), cells ≤ mc → slots ≤ ms → post r u → Cx D ca s0 A s (wp u) H locs → decode cc pc = .ok (.lreturn, 1) → W p l e rm s m args below meth c H locs cells slots Q (F0 m pc ls [.long r])) →
      Cx D ca s0 A s wc s.heap [] → lv_has ls maxL (lv_args 0 av) → W p l e rm s m args below meth c s.heap [] 0 0 Q (F0 m 0 ls [])) : CtL l y w rm mc ms D ca s0 av wc post wp := by
  intro sz
  refine Met.ofW (cc := cc) (maxL := maxL) (ret := (some .long)) hy hw ?_
  intro p e s m args below meth c s₁ B hml hv
  obtain ⟨rfl, hsz, hP, hK, hD0, hG⟩ := hv
  subst hsz
  have hl := lv_entry av (n := maxL) hn
  have hts : ∀ w ∈ lw_good, w.before av.toArray s = true := fun w hw => word_at hG.1 (good_of_word (gd_all w hw)) (Z w (gd_in w hw))
  rw [lg_entry_eq]
  refine body p e s m _ below meth c (va_A wc s.heap.size) _ _ ⟨B.exec, B.bytes, hml, by rw [← ho]; exact findClass_of_methodNamed B.named, hts⟩ (name_of_methodNamed B.named B.method).1 ?_ ⟨hK, hP, hD0.self, va_S.rf, fun q h => Or.inr h, hG⟩ hl
  intro r u pc ls H locs cells slots h1 h2 hp C hdg
  have hlk : meth.locks = false := B.notSynchronized
  exact W.widen h1 h2 (W.lret B.exec B.bytes B.returns (fun t ht _ => ⟨⟨r, u, rfl, hp, by rw [ht]; exact C.2.1, C.2.2.1⟩, C.2.2.2.1.F ht⟩) C.2.2.2.1.2.2 hdg hlk)
theorem ctV_of {l : Launch} {y : MethodName} {w w' : List Cond} {rm : Room} {mc ms : Nat} {D : va_G} {ca : Nat → ClassId} {s0 : State} {av : List Value} {wc : va_W} {S0 : Type} {post : S0 → Prop} {wp : S0 → va_W} {cc : ByteArray} {maxL : Nat} {own : String} {a0 : Array Value} (Z : Wd a0 s0) (ho : y.cls = own) (hy : plainName y.cls = true) (hw : w = Cond.code y cc maxL none :: w') (hn : (lg_sl av).length ≤ maxL)
    (body : ∀ (p : Program) (e : Env) (s : State) (m : MethodId) (args : Array Value) (below : List Frame) (meth : Method) (c : Code) (A : Nat → Prop) (ls : Array Slot) (Q : State → Prop), CallFix p m c cc maxL s args lw_good own → meth.name = y.name →
      (∀ (u : S0) (pc : Nat) (ls : Array Slot) (H : Heap) (locs : List Loc) (cells slots : Nat), cells ≤ mc → slots ≤ ms → post u → Cx D ca s0 A s (wp u) H locs → decode cc pc = .ok (.return_, 1) → W p l e rm s m args below meth c H locs cells slots Q (F0 m pc ls [])) →
      Cx D ca s0 A s wc s.heap [] → lv_has ls maxL (lv_args 0 av) → W p l e rm s m args below meth c s.heap [] 0 0 Q (F0 m 0 ls [])) : CtV l y w rm mc ms D ca s0 av wc post wp := by
  intro sz
  refine Met.ofW (cc := cc) (maxL := maxL) (ret := none) hy hw ?_
  intro p e s m args below meth c s₁ B hml hv
  obtain ⟨rfl, hsz, hP, hK, hD0, hG⟩ := hv
  subst hsz
  have hl := lv_entry av (n := maxL) hn
  have hts : ∀ w ∈ lw_good, w.before av.toArray s = true := fun w hw => word_at hG.1 (good_of_word (gd_all w hw)) (Z w (gd_in w hw))
  rw [lg_entry_eq]
  refine body p e s m _ below meth c (va_A wc s.heap.size) _ _ ⟨B.exec, B.bytes, hml, by rw [← ho]; exact findClass_of_methodNamed B.named, hts⟩ (name_of_methodNamed B.named B.method).1 ?_ ⟨hK, hP, hD0.self, va_S.rf, fun q h => Or.inr h, hG⟩ hl
  intro u pc ls H locs cells slots h1 h2 hp C hdg
  have hlk : meth.locks = false := B.notSynchronized
  exact W.widen h1 h2 (W.vret B.exec B.bytes B.returns (fun t ht _ => ⟨⟨u, rfl, hp, by rw [ht]; exact C.2.1, C.2.2.1⟩, C.2.2.2.1.F ht⟩) C.2.2.2.1.2.2 hdg hlk)
