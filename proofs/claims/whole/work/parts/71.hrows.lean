/-! Methods that catch. -/
def XN (s0 : State) : Prop := va_Nc (xE 1) (xE 0) s0 ∧ va_Nc (xE 2) (xE 0) s0 ∧ va_Nc (xE 2) (xE 1) s0
theorem xc_0 : Cond.castable (xE 0) (xE 0) ∈ tables_1 := by decide +kernel
theorem xc_1 : Cond.castable (xE 1) (xE 1) ∈ tables_1 := by decide +kernel
theorem xc_2 : Cond.castable (xE 2) (xE 2) ∈ tables_1 := by decide +kernel
def bL (b : Bool) : Int64 := if b = true then 1 else 0
section RH
variable {p : Program} {l : Launch} {e : Env} {R : Room} {s : State} {m : MethodId} {args : Array Value} {below : List Frame} {meth : Method} {c : Code} {H : Heap} {locs : List Loc} {cells slots : Nat} {Q : State → Prop}
variable {cc : ByteArray} {nL : Nat} {own : String} {pc : Nat} {ls : Array Slot} {rest st0 : List Value} {D : va_G} {ca : Nat → ClassId} {s0 : State} {a0 : Array Value} {A : Nat → Prop} {ws : va_W} {a : Nat}
theorem n_catch (S : CallFix p m c cc nL s args lw_good own) (C : Cx D ca s0 A s ws H locs) (Z : Wd a0 s0) {hh : List (Nat × Nat × Nat × Nat)} (htb : c.exceptionTable.toList = tableOf hh) (i : Nat) (hcs : Cond.castable (xE i) (xE i) ∈ tables_1) (pre : List ExceptionTableEntry) (x : ExceptionTableEntry) (suf : List ExceptionTableEntry) (hsplit : tableOf hh = pre ++ x :: suf) (hpass : ∀ z ∈ pre, z.catchType ≠ 0 ∧ ∃ nm : String, Cond.classLink own z.catchType nm ∈ lw_good ∧ va_Nc (xE i) nm s0) (hx : covers x pc = true) (h0 : x.catchType ≠ 0) (hlink : Cond.classLink own x.catchType (xE i) ∈ lw_good) {q : Addr} {ce : Cell} (c1 : H[q]? = some ce) (c2 : ce.vm = .none) (c3 : s.vm.findClass (xE i) = some ce.cls)
    (kk : W p l e R s m args below meth c H locs cells slots Q (F0 m x.handlerPc ls [.ref q])) : vx_W p l e R s m args below meth c H locs cells slots Q (F0 m pc ls rest) q := by
  have G := C.2.2.2.2.2
  refine vx_catch (E := xE i) S.2.2.2.1 pre x suf (htb.trans hsplit) (fun z hz => ?_) hx h0 (S.2.2.2.2 _ hlink) (okW_at G.1 rfl (Z.tab hcs)) c1 c2 c3 kk
  obtain ⟨h1, nm, h2, h3⟩ := hpass z hz
  exact Or.inr ⟨h1, nm, S.2.2.2.2 _ h2, va_Nc.moved G.1.alike h3⟩
end RH
theorem ctH_of {l : Launch} {y : MethodName} {w w' : List Cond} {rm : Room} {mc ms : Nat} {D : va_G} {ca : Nat → ClassId} {s0 : State} {av : List Value} {wc : va_W} {S0 : Type} {post : Int32 → S0 → Prop} {wp : S0 → va_W} {cc : ByteArray} {maxL : Nat} {own : String} {a0 : Array Value} {hh : List (Nat × Nat × Nat × Nat)} (Z : Wd a0 s0) (ho : y.cls = own) (hy : plainName y.cls = true) (hw : w = Cond.codeWith y cc maxL (some .int) hh :: w') (hn : (lg_sl av).length ≤ maxL)
    (body : ∀ (p : Program) (e : Env) (s : State) (m : MethodId) (args : Array Value) (below : List Frame) (meth : Method) (c : Code) (A : Nat → Prop) (ls : Array Slot) (Q : State → Prop), CallFix p m c cc maxL s args lw_good own → c.exceptionTable.toList = tableOf hh →
      (∀ (r : Int32) (u : S0) (pc : Nat) (ls : Array Slot) (H : Heap) (locs : List Loc) (cells slots : Nat), cells ≤ mc → slots ≤ ms → post r u → Cx D ca s0 A s (wp u) H locs → decode cc pc = .ok (.ireturn, 1) → W p l e rm s m args below meth c H locs cells slots Q (F0 m pc ls [.int r])) →
      Cx D ca s0 A s wc s.heap [] → lv_has ls maxL (lv_args 0 av) → W p l e rm s m args below meth c s.heap [] 0 0 Q (F0 m 0 ls [])) : CtI l y w rm mc ms D ca s0 av wc post wp := by
  intro sz
  refine va_MetW (cc := cc) (maxL := maxL) (ret := (some .int)) (hh := hh) hy hw ?_
  intro p e s m args below meth c s₁ B hml hv
  have htb : c.exceptionTable.toList = tableOf hh := vx_table (x := y) B (atoms_spec (ws := w) B.pre _ (by rw [hw]; exact List.mem_cons_self))
  obtain ⟨rfl, hsz, hP, hK, hD0, hG⟩ := hv
  subst hsz
  have hl := lv_entry av (n := maxL) hn
  have hts : ∀ w ∈ lw_good, w.before av.toArray s = true := fun w hw => word_at hG.1 (good_of_word (gd_all w hw)) (Z w (gd_in w hw))
  rw [lg_entry_eq]
  refine body p e s m _ below meth c (va_A wc s.heap.size) _ _ ⟨B.exec, B.bytes, hml, by rw [← ho]; exact findClass_of_methodNamed B.named, hts⟩ htb ?_ ⟨hK, hP, hD0.self, va_S.rf, fun q h => Or.inr h, hG⟩ hl
  intro r u pc ls H locs cells slots h1 h2 hp C hdg
  have hlk : meth.locks = false := B.notSynchronized
  exact W.widen h1 h2 (W.iret B.exec B.bytes B.returns (fun t ht _ => ⟨⟨r, u, rfl, hp, by rw [ht]; exact C.2.1, C.2.2.1⟩, C.2.2.2.1.F ht⟩) C.2.2.2.1.2.2 hdg hlk)
