/-! Refusals: methods that throw, in one form; a method that answers a cell. -/
abbrev xNm : List String := ["java/lang/RuntimeException", "java/lang/Exception"]
def okW : Cond → Bool
  | .declares _ => true
  | .castable _ _ => true
  | w => goodWord w
theorem okW_at {a0 args : Array Value} {s0 s : State} {w : Cond} (hW : s0.WarmedH s.vm) (ho : okW w = true) (h : w.before a0 s0 = true) : w.before args s = true := by
  cases w
  case declares x => exact va_Nw.use rfl (va_Nw.warmD hW (va_Nw.of rfl h))
  case castable a b => exact va_Nw.use rfl (va_Nw.warmC hW (va_Nw.of rfl h))
  all_goals exact word_at hW (good_of_word ho) h
theorem Wd.tab {a0 : Array Value} {s0 : State} (Z : Wd a0 s0) {w : Cond} (h : w ∈ tables_1) : w.before a0 s0 = true := Z w (List.mem_append_right _ h)
theorem x_at {a0 args : Array Value} {s0 s : State} {L : List Cond} (Z : Wd a0 s0) (hW : s0.WarmedH s.vm) (hm : L.all (fun w => decide (w ∈ tables_1)) = true) (ho : L.all okW = true) : ∀ w ∈ L, w.before args s = true := fun w hw => okW_at hW (List.all_eq_true.mp ho w hw) (Z.tab (of_decide_eq_true (List.all_eq_true.mp hm w hw)))
/-- what a refusal needs of the start -/
def XZ (s0 : State) : Prop := vx_Zq Bundle.tN "UNASSIGNED_STACK" Bundle.steD (A0 s0) s0 s0.heap ∧ vx_Zq Bundle.tN "SUPPRESSED_SENTINEL" Bundle.listD (A0 s0) s0 s0.heap
theorem GG.X {s0 s : State} {A : Nat → Prop} {H : Heap} (G : GG s0 A s H) {C n d : String} (h : vx_Zq C n d (A0 s0) s0 s0.heap) : vx_Zq C n d A s H := ((vx_Zq.moved G.1.alike h).kept (fun a ha _ => G.2.1 a ha)).narrow G.2.2
abbrev xE (i : Nat) : String := (["java/lang/IndexOutOfBoundsException", "java/lang/IllegalArgumentException", "java/lang/IllegalStateException"] : List String).getD i ""
def XS (sx : Nat → Nat) (s0 : State) : Prop := XZ s0 ∧ vk_R RK 133 "there is no such sponge" (sx 0) s0 ∧ vk_R RK 140 "an argument is out of its range" (sx 1) s0 ∧ vk_R RK 145 "the sponge can't do this now" (sx 2) s0
abbrev xL (i ik ic : Nat) : List Cond := Cond.classLink RK ik (xE i) :: Cond.initialized (xE i) :: vx_atS RK ic (xE i) xNm
theorem xm_0 : (xL 0 131 135).all (fun w => decide (w ∈ tables_1)) = true := by decide +kernel
theorem xm_1 : (xL 1 138 142).all (fun w => decide (w ∈ tables_1)) = true := by decide +kernel
theorem xm_2 : (xL 2 143 147).all (fun w => decide (w ∈ tables_1)) = true := by decide +kernel
theorem xo_0 : (xL 0 131 135).all okW = true := by decide +kernel
theorem xo_1 : (xL 1 138 142).all okW = true := by decide +kernel
theorem xo_2 : (xL 2 143 147).all okW = true := by decide +kernel
theorem xt_0 : (xL 0 131 135).all vx_ot = true := by decide +kernel
theorem xt_1 : (xL 1 138 142).all vx_ot = true := by decide +kernel
theorem xt_2 : (xL 2 143 147).all vx_ot = true := by decide +kernel
abbrev QNo (A : Nat → Prop) : Array Value → State → Outcome → State → Prop := va_Qv (fun _ : Unit => False) (fun _ _ => True) A
abbrev XCt (D : va_G) (wc : va_W) (sz : Nat) (E : String) : String → State → State → Prop := vx_X (fun _ : Unit => True) (fun E1 _ t => E1 = E ∧ va_P D vwCl wc t.heap ∧ va_D (va_A wc sz) wc) (va_A wc sz)
/-- the method throws E, and its world is as it was -/
def CtX (l : Launch) (y : MethodName) (w : List Cond) (rm : Room) (mc ms : Nat) (D : va_G) (ca : Nat → ClassId) (s0 : State) (av : List Value) (wc : va_W) (E : String) : Prop :=
  ∀ sz, vx_Met l y w rm (PreC D ca s0 av wc sz) (QNo (va_A wc sz)) (XCt D wc sz E) mc ms (va_A wc sz)
/-- the method answers the cell h, and its world is as it was -/
def CtR (l : Launch) (y : MethodName) (w : List Cond) (rm : Room) (mc ms : Nat) (D : va_G) (ca : Nat → ClassId) (s0 : State) (av : List Value) (wc : va_W) (h : Nat) : Prop :=
  ∀ sz, Met l y w rm (PreC D ca s0 av wc sz) (va_Qr (fun _ : Unit => True) (fun _ a t => a = h ∧ va_P D vwCl wc t.heap ∧ va_D (va_A wc sz) wc) (va_A wc sz)) mc ms (va_A wc sz)
section RX
variable {p : Program} {l : Launch} {e : Env} {R : Room} {s : State} {m : MethodId} {args : Array Value} {below : List Frame} {meth : Method} {c : Code} {H : Heap} {locs : List Loc} {cells slots : Nat} {Q : State → Prop}
variable {cc : ByteArray} {nL : Nat} {own : String} {pc : Nat} {ls : Array Slot} {rest st0 : List Value} {D : va_G} {ca : Nat → ClassId} {s0 : State} {a0 : Array Value} {A : Nat → Prop} {ws : va_W} {a : Nat}
theorem n_throwS {wc : va_W} {i ik is ic sa mc ms : Nat} {text : String} {Qc : Array Value → State → Outcome → State → Prop} (S : CallFix p m c cc nL s args lw_good RK) (C : Cx D ca s0 (va_A wc s.heap.size) s wc H locs) (Z : Wd a0 s0) (hl0 : l.stackTraces = false) (X2 : XZ s0) (hstr : vk_R RK is text sa s0) (hm : (xL i ik ic).all (fun w => decide (w ∈ tables_1)) = true) (ho : (xL i ik ic).all okW = true) (ht : (xL i ik ic).all vx_ot = true) (hcls : Bundle.fit (xE i) = true) (hsz : ls.size = nL)
    (d0 : decode cc pc = .ok (.new ik, 3)) (d3 : decode cc (pc + 3) = .ok (.dup, 1)) (d4 : decode cc (pc + 4) = .ok (.ldc is, 2)) (d6 : decode cc (pc + 6) = .ok (.invokespecial ic, 3)) (d9 : decode cc (pc + 9) = .ok (.athrow, 1))
    (hout : ∀ x ∈ c.exceptionTable.toList, False) (hRf : 5 < R.frames) (hRl : (rest.map fun v => v.category).sum + 82 ≤ R.locals) (hRc : cells + 1 ≤ R.cells) (hRs : slots + 6 ≤ R.slots) (hlk : meth.locks = false) (hc : cells + 1 ≤ mc) (hs : slots + 6 ≤ ms) :
    W p l e R s m args below meth c H locs cells slots (vx_MQ below Qc (XCt D wc s.heap.size (xE i)) args s mc ms (va_A wc s.heap.size)) (F0 m pc ls rest) := by
  have G := C.2.2.2.2.2
  have hat := x_at (args := args) Z G.1 hm ho
  refine vx_throwS (sa := sa) (text := text) (names := xNm) (A := va_A wc s.heap.size) S.1 S.2.1 hl0 S.2.2.2.1 hcls (by decide +kernel) (hat _ List.mem_cons_self) (hat _ (List.mem_cons_of_mem _ List.mem_cons_self)) (vk_R.warm G.1 hstr) (fun w hw => hat w (List.mem_cons_of_mem _ (List.mem_cons_of_mem _ hw))) (fun w hw => List.all_eq_true.mp ht w hw) (G.X X2.1) (G.X X2.2) C.2.2.2.1 (hsz.trans S.2.2.1.symm) d0 d3 d4 d6 d9 (fun x hx => (hout x hx).elim) hRf hRl hRc hRs hlk ?_ C.2.2.2.1.2.2 hc hs
  intro t hv hz hk
  have hS := C.2.2.2.1
  exact ⟨(), trivial, ⟨rfl, C.2.1.kept (fun k q hq => hk q.1 (C.2.1 k q hq).lt), C.2.2.1⟩, Nat.le_trans hS.1 hz, fun q h1 h2 => (hk q (Nat.lt_of_lt_of_le h1 hS.1)).trans (hS.2.1 q h1 h2)⟩
theorem n_callX {wc wr : va_W} {av : List Value} {mc ms : Nat} {aa : Array Value} {E : String} (C : Cx D ca s0 A s ws H locs) (isC isR : List Nat) (hC : isC.map (fun i => ws[i]?) = wc.map some) (hR : isR.map (fun i => ws[i]?) = wr.map some) (hnC : va_nd isC = true) (hnR : va_nd isR = true) (hdis : ∀ i ∈ isR, i ∉ isC) (hrun : (FrameBlind (PreC D ca s0 av wc H.size) ∧ ∀ U : State, U.heap = H → s.WarmedH U.vm → PreC D ca s0 av wc H.size av.toArray U) → vx_Run p l e R s m args below meth c H locs cells slots mc ms (F0 m pc ls st0) rest (QNo (va_A wc H.size) aa) (XCt D wc H.size E) (va_A wc H.size))
    (kx : ∀ (q : Addr) (ce : Cell) (H1 : Heap) (locs1 : List Loc), Cx D ca s0 A s (wr ++ wc) H1 locs1 → H1[q]? = some ce → ce.vm = .none → s.vm.findClass E = some ce.cls → vx_W p l e R s m args below meth c H1 locs1 (cells + mc) (slots + ms) Q (F0 m pc ls rest) q) : W p l e R s m args below meth c H locs cells slots Q (F0 m pc ls st0) := by
  have hF := va_free (wc := wc) C.2.2.1 C.2.2.2.1 C.2.2.2.2.1 isC hC
  refine vx_callv (hrun (C.pre av isC hC hnC)) C.2.2.2.1 (fun q _ h => hF q h) hF (fun q _ h => hF q h) (fun E1 ce q9 u t H1 locs1 ht hvm _ hB hz1 hk1 hS h1 h2 h3 => ?_) (fun u t H1 locs1 ht hvm hw => hw.elim)
  obtain ⟨rfl, hP1, hD1⟩ := hB
  rw [ht] at hP1
  exact kx q9 ce H1 locs1 (C.join isC isR hC hR hnR hdis hk1 hP1 hD1 hS) h1 h2 h3
theorem n_callXP {av : List Value} {mc ms : Nat} {aa : Array Value} {E : String} (C : Cx D ca s0 A s ws H locs) (hrun : (FrameBlind (PreC D ca s0 av [] H.size) ∧ ∀ U : State, U.heap = H → s.WarmedH U.vm → PreC D ca s0 av [] H.size av.toArray U) → vx_Run p l e R s m args below meth c H locs cells slots mc ms (F0 m pc ls st0) rest (QNo (va_A [] H.size) aa) (XCt D [] H.size E) (va_A [] H.size))
    (kx : ∀ (q : Addr) (ce : Cell) (H1 : Heap) (locs1 : List Loc), Cx D ca s0 A s ws H1 locs1 → H1[q]? = some ce → ce.vm = .none → s.vm.findClass E = some ce.cls → vx_W p l e R s m args below meth c H1 locs1 (cells + mc) (slots + ms) Q (F0 m pc ls rest) q) : W p l e R s m args below meth c H locs cells slots Q (F0 m pc ls st0) := by
  have hF : ∀ q, va_A [] H.size q → A q := va_free (wc := []) C.2.2.1 C.2.2.2.1 C.2.2.2.2.1 [] rfl
  refine vx_callv (hrun (C.pre av [] rfl rfl)) C.2.2.2.1 (fun q _ h => hF q h) hF (fun q _ h => hF q h) (fun E1 ce q9 u t H1 locs1 ht hvm _ hB hz1 hk1 hS h1 h2 h3 => ?_) (fun u t H1 locs1 ht hvm hw => hw.elim)
  obtain ⟨rfl, -, -⟩ := hB
  refine kx q9 ce H1 locs1 ⟨C.1, C.2.1.kept (fun k q hk => hk1 q.1 (C.2.1 k q hk).lt (fun z => ?_)), C.2.2.1, hS, C.2.2.2.2⟩ h1 h2 h3
  rcases z with ⟨k2, e2, h2⟩ | h2
  · simp at h2
  · exact absurd (C.2.1 k q hk).lt (Nat.not_lt.mpr h2)
theorem n_callPV {S0 : Type} {post : S0 → Prop} {av : List Value} {mc ms : Nat} {aa : Array Value} (C : Cx D ca s0 A s ws H locs) (hrun : (FrameBlind (PreC D ca s0 av [] H.size) ∧ ∀ U : State, U.heap = H → s.WarmedH U.vm → PreC D ca s0 av [] H.size av.toArray U) → va_Run p l e R s m args below meth c H locs cells slots mc ms (F0 m pc ls st0) rest (va_Qv post (PostW D (fun _ => []) (va_A [] H.size)) (va_A [] H.size) aa) (va_A [] H.size)) (kk : ∀ (u : S0) (H1 : Heap) (locs1 : List Loc), post u → Cx D ca s0 A s ws H1 locs1 → W p l e R s m args below meth c H1 locs1 (cells + mc) (slots + ms) Q (F0 m (pc + 3) ls rest)) : W p l e R s m args below meth c H locs cells slots Q (F0 m pc ls st0) := by
  have hF : ∀ q, va_A [] H.size q → A q := va_free (wc := []) C.2.2.1 C.2.2.2.1 C.2.2.2.2.1 [] rfl
  refine va_callv (hrun (C.pre av [] rfl rfl)) C.2.2.2.1 (fun q _ h => hF q h) hF (fun u t H1 locs1 ht hvm hw hB hz1 hk1 hS => ?_)
  refine kk u H1 locs1 hw ⟨C.1, C.2.1.kept (fun k q hk => hk1 q.1 (C.2.1 k q hk).lt (fun z => ?_)), C.2.2.1, hS, C.2.2.2.2⟩
  rcases z with ⟨k2, e2, h2⟩ | h2
  · simp at h2
  · exact absurd (C.2.1 k q hk).lt (Nat.not_lt.mpr h2)
theorem n_callR {wc wr : va_W} {av : List Value} {mc ms hh : Nat} {aa : Array Value} (C : Cx D ca s0 A s ws H locs) (isC isR : List Nat) (hC : isC.map (fun i => ws[i]?) = wc.map some) (hR : isR.map (fun i => ws[i]?) = wr.map some) (hnC : va_nd isC = true) (hnR : va_nd isR = true) (hdis : ∀ i ∈ isR, i ∉ isC) (hrun : (FrameBlind (PreC D ca s0 av wc H.size) ∧ ∀ U : State, U.heap = H → s.WarmedH U.vm → PreC D ca s0 av wc H.size av.toArray U) → va_Run p l e R s m args below meth c H locs cells slots mc ms (F0 m pc ls st0) rest (va_Qr (fun _ : Unit => True) (fun _ a t => a = hh ∧ va_P D vwCl wc t.heap ∧ va_D (va_A wc H.size) wc) (va_A wc H.size) aa) (va_A wc H.size))
    (kk : ∀ (H1 : Heap) (locs1 : List Loc), Cx D ca s0 A s (wr ++ wc) H1 locs1 → W p l e R s m args below meth c H1 locs1 (cells + mc) (slots + ms) Q (F0 m (pc + 3) ls (.ref hh :: rest))) : W p l e R s m args below meth c H locs cells slots Q (F0 m pc ls st0) := by
  have hF := va_free (wc := wc) C.2.2.1 C.2.2.2.1 C.2.2.2.2.1 isC hC
  refine va_callr (hrun (C.pre av isC hC hnC)) C.2.2.2.1 (fun q _ h => hF q h) hF (fun u ra t H1 locs1 ht hvm hw hB hz1 hk1 hS => ?_)
  obtain ⟨rfl, hP1, hD1⟩ := hB
  rw [ht] at hP1
  exact kk H1 locs1 (C.join isC isR hC hR hnR hdis hk1 hP1 hD1 hS)
/-- a place of the row of sponges -/
theorem n_aald (S : CallFix p m c cc nL s args lw_good own) (C : Cx D ca s0 A s ws H locs) (q0 : Nat) {n i hh : Nat} {f : Nat → Option Nat} (ha : ws[q0]? = some (a, .inl (ca 4, n, .inr (.inr (.inr (.inr f)))))) (hi : i < n) (hn : n < 2 ^ 31) (hf : f i = some hh) (hdg : decode cc pc = .ok (.aaload, 1)) (kk : W p l e R s m args below meth c H locs cells slots Q (F0 m (pc + 1) ls (.ref hh :: rest))) : W p l e R s m args below meth c H locs cells slots Q (F0 m pc ls (.int (nI i) :: .ref a :: rest)) :=
  va_aldq S.1 S.2.1 C.1 C.2.1 q0 4 ha rfl (vp_in_nI hi hn) hdg (by rw [nI_clamp (by omega), hf]; exact kk)
end RX
theorem ctX_of {l : Launch} {y : MethodName} {w w' : List Cond} {rm : Room} {mc ms : Nat} {D : va_G} {ca : Nat → ClassId} {s0 : State} {av : List Value} {wc : va_W} {E : String} {cc : ByteArray} {maxL : Nat} {own : String} {a0 : Array Value} {ret : Option FieldType} (Z : Wd a0 s0) (ho : y.cls = own) (hy : plainName y.cls = true) (hw : w = Cond.code y cc maxL ret :: w') (hn : (lg_sl av).length ≤ maxL)
    (body : ∀ (p : Program) (e : Env) (s : State) (m : MethodId) (args : Array Value) (below : List Frame) (meth : Method) (c : Code) (A : Nat → Prop) (ls : Array Slot) (Q : State → Prop), CallFix p m c cc maxL s args lw_good own → (∀ x ∈ c.exceptionTable.toList, False) → meth.locks = false → A = va_A wc s.heap.size → Q = vx_MQ below (QNo (va_A wc s.heap.size)) (XCt D wc s.heap.size E) args s mc ms (va_A wc s.heap.size) →
      (∀ (q : Addr) (ce : Cell) (pc : Nat) (ls : Array Slot) (rest : List Value) (H : Heap) (locs : List Loc) (cells slots : Nat), cells ≤ mc → slots ≤ ms → Cx D ca s0 A s wc H locs → H[q]? = some ce → ce.vm = .none → s.vm.findClass E = some ce.cls → vx_W p l e rm s m args below meth c H locs cells slots Q (F0 m pc ls rest) q) →
      Cx D ca s0 A s wc s.heap [] → lv_has ls maxL (lv_args 0 av) → W p l e rm s m args below meth c s.heap [] 0 0 Q (F0 m 0 ls [])) : CtX l y w rm mc ms D ca s0 av wc E := by
  intro sz
  refine vx_ofW (cc := cc) (maxL := maxL) (ret := ret) hy hw ?_
  intro p e s m args below meth c s₁ B hml ht hv
  obtain ⟨rfl, hsz, hP, hK, hD0, hG⟩ := hv
  subst hsz
  have hl := lv_entry av (n := maxL) hn
  have hts : ∀ w ∈ lw_good, w.before av.toArray s = true := fun w hw => word_at hG.1 (good_of_word (gd_all w hw)) (Z w (gd_in w hw))
  have hlk : meth.locks = false := B.notSynchronized
  rw [lg_entry_eq]
  refine body p e s m _ below meth c (va_A wc s.heap.size) _ _ ⟨B.exec, B.bytes, hml, by rw [← ho]; exact findClass_of_methodNamed B.named, hts⟩ ht hlk rfl rfl ?_ ⟨hK, hP, hD0.self, va_S.rf, fun q h => Or.inr h, hG⟩ hl
  intro q ce pc ls rest H locs cells slots h1 h2 C c1 c2 c3
  exact vx_out (fun x hx => (ht x hx).elim) hlk c1 c2 c3 (fun t ht _ => ⟨(), trivial, ⟨rfl, by rw [ht]; exact C.2.1, C.2.2.1⟩, C.2.2.2.1.F ht⟩) C.2.2.2.1.2.2 h1 h2
theorem ctR_of {l : Launch} {y : MethodName} {w w' : List Cond} {rm : Room} {mc ms : Nat} {D : va_G} {ca : Nat → ClassId} {s0 : State} {av : List Value} {wc : va_W} {hh : Nat} {cc : ByteArray} {maxL : Nat} {own : String} {a0 : Array Value} {rt : FieldType} (hrt : ∃ n, rt = .object n) (Z : Wd a0 s0) (ho : y.cls = own) (hy : plainName y.cls = true) (hw : w = Cond.code y cc maxL (some rt) :: w') (hn : (lg_sl av).length ≤ maxL)
    (body : ∀ (p : Program) (e : Env) (s : State) (m : MethodId) (args : Array Value) (below : List Frame) (meth : Method) (c : Code) (A : Nat → Prop) (ls : Array Slot) (Q : State → Prop), CallFix p m c cc maxL s args lw_good own →
      (∀ (pc : Nat) (ls : Array Slot) (H : Heap) (locs : List Loc) (cells slots : Nat), cells ≤ mc → slots ≤ ms → Cx D ca s0 A s wc H locs → decode cc pc = .ok (.areturn, 1) → W p l e rm s m args below meth c H locs cells slots Q (F0 m pc ls [.ref hh])) →
      Cx D ca s0 A s wc s.heap [] → lv_has ls maxL (lv_args 0 av) → W p l e rm s m args below meth c s.heap [] 0 0 Q (F0 m 0 ls [])) : CtR l y w rm mc ms D ca s0 av wc hh := by
  intro sz
  refine Met.ofW (cc := cc) (maxL := maxL) (ret := (some rt)) hy hw ?_
  intro p e s m args below meth c s₁ B hml hv
  obtain ⟨rfl, hsz, hP, hK, hD0, hG⟩ := hv
  subst hsz
  have hl := lv_entry av (n := maxL) hn
  have hts : ∀ w ∈ lw_good, w.before av.toArray s = true := fun w hw => word_at hG.1 (good_of_word (gd_all w hw)) (Z w (gd_in w hw))
  rw [lg_entry_eq]
  refine body p e s m _ below meth c (va_A wc s.heap.size) _ _ ⟨B.exec, B.bytes, hml, by rw [← ho]; exact findClass_of_methodNamed B.named, hts⟩ ?_ ⟨hK, hP, hD0.self, va_S.rf, fun q h => Or.inr h, hG⟩ hl
  intro pc ls H locs cells slots h1 h2 C hdg
  have hlk : meth.locks = false := B.notSynchronized
  exact W.widen h1 h2 (W.aret B.exec B.bytes B.returns (Or.inl hrt) (Or.inr ⟨hh, rfl⟩) (fun t ht _ => ⟨⟨(), hh, rfl, trivial, rfl, by rw [ht]; exact C.2.1, C.2.2.1⟩, C.2.2.2.1.F ht⟩) C.2.2.2.1.2.2 hdg hlk)
