/-! The law's whole world, and rows for it. -/
theorem rc_1 : room_1.cells = 601024 := rfl
theorem rs_1 : room_1.slots = 7293034 := rfl
def lv2 (a b : Int32) : Int64 := lShl a.toInt64 32 ||| (b.toInt64 &&& 4294967295)
abbrev spCell (a l : Nat) (y : Sp) : Nat × va_E := (a, .inr (1, [.ref l, .int (nI y.2.1), .int (nI (wid y.2.1)), .int (nI y.1.2), .int (nI y.2.2.1), .int y.2.2.2.1, .int (b2i y.2.2.2.2.1), .int y.2.2.2.2.2]))
abbrev laCell (ca : Nat → ClassId) (l : Nat) (L : Nat → Int64) : Nat × va_E := (l, .inl (ca 2, 25, .inr (.inl L)))
abbrev roCell (a rb : Nat) (R : Rw) : Nat × va_E := (a, .inr (0, [.ref rb, .int (nI R.2)]))
abbrev byCell (ca : Nat → ClassId) (rb : Nat) (f : Nat → Int32) : Nat × va_E := (rb, .inl (ca 3, 300, .inl f))
abbrev zCell (a l : Nat) (z : Nat → Int32) : Nat × va_E := (a, .inr (1, [.ref l, .int (z 0), .int (z 1), .int (z 2), .int (z 3), .int (z 4), .int (z 5), .int (z 6)]))
abbrev LA (ca : Nat → ClassId) (d : Nat) (g : Nat → Nat) (sf : Nat → Option Nat) (rb : Nat → Nat) (R : Nat → Rw) (rf : Nat → Nat → Int32) (sa sl : Nat → Nat) (i0 i1 i2 i3 : Nat) (y0 y1 y2 y3 : Sp) (L0 L1 L2 L3 : Nat → Int64) (z4 z5 : Nat → Int32) (L4 L5 : Nat → Int64) (h0 : Nat) (q : Nat → Nat) (th tz : Int32) (F : MFn) (o : Nat) (fo : Nat → Int64) : va_W :=
  [(d, .inr (2, kF g)), (g 4, .inl (ca 4, 4, .inr (.inr (.inr (.inr sf))))), roCell (g 0) (rb 0) (R 0), byCell ca (rb 0) (rf 0), roCell (g 1) (rb 1) (R 1), byCell ca (rb 1) (rf 1), roCell (g 2) (rb 2) (R 2), byCell ca (rb 2) (rf 2), roCell (g 3) (rb 3) (R 3), byCell ca (rb 3) (rf 3),
   spCell (sa i0) (sl i0) y0, laCell ca (sl i0) L0, spCell (sa i1) (sl i1) y1, laCell ca (sl i1) L1, spCell (sa i2) (sl i2) y2, laCell ca (sl i2) L2, spCell (sa i3) (sl i3) y3, laCell ca (sl i3) L3,
   zCell (g 5) (sl 4) z4, laCell ca (sl 4) L4, zCell (g 6) (sl 5) z5, laCell ca (sl 5) L5,
   (h0, .inr (3, mF q th tz)), (q 0, .inl (ca 0, 300, .inl (F 0))), (q 1, .inl (ca 0, 3, .inl (F 1))), (q 2, .inl (ca 0, 900, .inl (F 2))), (q 3, .inl (ca 1, 9600, .inl (F 3))), (q 4, .inl (ca 0, 6, .inl (F 4))), (q 5, .inl (ca 0, 6, .inl (F 5))), (q 6, .inl (ca 0, 6, .inl (F 6))), (q 7, .inl (ca 1, 6, .inl (F 7))), (q 8, .inl (ca 0, 6, .inl (F 8))), (q 9, .inl (ca 0, 6, .inl (F 9))), (q 10, .inl (ca 1, 1600, .inl (F 10))), (q 11, .inl (ca 1, 1600, .inl (F 11))),
   (o, .inl (ca 2, 1, .inr (.inl fo)))]
/-- the arrays of the sponges out of u, the others as they were -/
def hiF (F u : MFn) : MFn := fun i => if i < 3 then F i else u i
def miF (F u : MFn) : MFn := fun i => if i < 3 then F i else if i < 10 then u i else F i
def upF (F : MFn) (k : Nat) (f : Nat → Int32) : MFn := fun i => if i = k then f else F i
def mk7 (a b c d e f g : Int32) : Nat → Int32 := fun i => match i with
  | 0 => a
  | 1 => b
  | 2 => c
  | 3 => d
  | 4 => e
  | 5 => f
  | _ => g
def upR (R : Nat → Rw) (j : Nat) (v : Rw) : Nat → Rw := fun i => if i = j then v else R i
def upf (f : Nat → Nat → Int32) (j : Nat) (v : Nat → Int32) : Nat → Nat → Int32 := fun i => if i = j then v else f i
section RL
variable {p : Program} {l : Launch} {e : Env} {R : Room} {s : State} {m : MethodId} {args : Array Value} {below : List Frame} {meth : Method} {c : Code} {H : Heap} {locs : List Loc} {cells slots : Nat} {Q : State → Prop}
variable {cc : ByteArray} {nL : Nat} {own : String} {pc : Nat} {ls : Array Slot} {rest st0 : List Value} {D : va_G} {ca : Nat → ClassId} {s0 : State} {a0 : Array Value} {A : Nat → Prop} {ws : va_W} {a : Nat}
theorem n_sld (S : CallFix p m c cc nL s args lw_good own) (C : Cx D ca s0 A s ws H locs) {b L : Nat} {xs : Nat → Int32} (hX : va_X b L xs s s.heap) (hbl : b < s.heap.size) (hbA : ¬ A b) {i : Nat} (hi : i < L) (hL : L ≤ 2560) (hdg : decode cc pc = .ok (.iaload, 1))
    (kk : W p l e R s m args below meth c H locs cells slots Q (F0 m (pc + 1) ls (.int (xs i) :: rest))) : W p l e R s m args below meth c H locs cells slots Q (F0 m pc ls (.int (nI i) :: .ref b :: rest)) :=
  va_sld S.1 S.2.1 hX hbl hbA C.2.2.2.1 (vp_in_nI hi (by omega)) hdg (by rw [nI_clamp (by omega)]; exact kk)
theorem n_slen (S : CallFix p m c cc nL s args lw_good own) (C : Cx D ca s0 A s ws H locs) {b L : Nat} {xs : Nat → Int32} (hX : va_X b L xs s s.heap) (hbl : b < s.heap.size) (hbA : ¬ A b) (hdg : decode cc pc = .ok (.arraylength, 1))
    (kk : W p l e R s m args below meth c H locs cells slots Q (F0 m (pc + 1) ls (.int (nI L) :: rest))) : W p l e R s m args below meth c H locs cells slots Q (F0 m pc ls (.ref b :: rest)) :=
  va_slen S.1 S.2.1 hX hbl hbA C.2.2.2.1 hdg kk
end RL
/-! A world and the rest of it. -/
def apart (a b : va_W) : Prop := ∀ p ∈ a, ∀ q ∈ b, p.1 ≠ q.1
theorem ga_l {a b : va_W} {k : Nat} {q : Nat × va_E} (h : a[k]? = some q) : (a ++ b)[k]? = some q := by
  rw [List.getElem?_append_left (List.getElem?_eq_some_iff.mp h).1]
  exact h
theorem ga_r {a b : va_W} {k : Nat} {q : Nat × va_E} (h : b[k]? = some q) : (a ++ b)[a.length + k]? = some q := by
  rw [List.getElem?_append_right (by omega), Nat.add_sub_cancel_left]
  exact h
theorem ga_c {a b : va_W} {k : Nat} {q : Nat × va_E} (h : (a ++ b)[k]? = some q) : (k < a.length ∧ a[k]? = some q) ∨ (a.length ≤ k ∧ b[k - a.length]? = some q) := by
  by_cases hk : k < a.length
  · rw [List.getElem?_append_left hk] at h
    exact Or.inl ⟨hk, h⟩
  · rw [List.getElem?_append_right (by omega)] at h
    exact Or.inr ⟨by omega, h⟩
theorem im_mem {is : List Nat} {ws wc : va_W} (h : is.map (fun i => ws[i]?) = wc.map some) {p : Nat × va_E} (hp : p ∈ wc) : p ∈ ws := by
  have h1 : some p ∈ is.map (fun i => ws[i]?) := by
    rw [h]
    exact List.mem_map.mpr ⟨p, hp, rfl⟩
  obtain ⟨i, -, hi⟩ := List.mem_map.mp h1
  exact List.mem_of_getElem? hi
section CA
variable {D : va_G} {ca : Nat → ClassId} {s0 : State} {A : Nat → Prop} {s : State} {a b : va_W} {H : Heap} {locs : List Loc}
theorem Cx.left (C : Cx D ca s0 A s (a ++ b) H locs) : Cx D ca s0 A s a H locs :=
  ⟨C.1, fun k q hk => C.2.1 k q (ga_l hk), ⟨fun i j p q hi hj e => C.2.2.1.1 i j p q (ga_l hi) (ga_l hj) e, fun k q hk => C.2.2.1.2 k q (ga_l hk)⟩, C.2.2.2⟩
theorem Cx.right (C : Cx D ca s0 A s (a ++ b) H locs) : va_P D vwCl b H ∧ va_D A b ∧ apart a b := by
  refine ⟨fun k q hk => C.2.1 _ q (ga_r hk), ⟨fun i j p q hi hj e => ?_, fun k q hk => C.2.2.1.2 _ q (ga_r hk)⟩, fun p hp q hq e => ?_⟩
  · have := C.2.2.1.1 _ _ p q (ga_r hi) (ga_r hj) e
    omega
  · obtain ⟨i, hi⟩ := List.mem_iff_getElem?.mp hp
    obtain ⟨j, hj⟩ := List.mem_iff_getElem?.mp hq
    have h1 := C.2.2.1.1 _ _ p q (ga_l hi) (ga_r hj) e
    have h2 := (List.getElem?_eq_some_iff.mp hi).1
    omega
theorem Cx.app (C : Cx D ca s0 A s a H locs) (hP : va_P D vwCl b H) (hD : va_D A b) (hap : apart a b) : Cx D ca s0 A s (a ++ b) H locs := by
  refine ⟨C.1, fun k q hk => ?_, ⟨fun i j p q hi hj e => ?_, fun k q hk => ?_⟩, C.2.2.2⟩
  · rcases ga_c hk with ⟨_, h⟩ | ⟨_, h⟩
    · exact C.2.1 _ q h
    · exact hP _ q h
  · rcases ga_c hi with ⟨l1, h1⟩ | ⟨l1, h1⟩ <;> rcases ga_c hj with ⟨l2, h2⟩ | ⟨l2, h2⟩
    · exact C.2.2.1.1 i j p q h1 h2 e
    · exact absurd e (hap p (List.mem_of_getElem? h1) q (List.mem_of_getElem? h2))
    · exact absurd e.symm (hap q (List.mem_of_getElem? h2) p (List.mem_of_getElem? h1))
    · have := hD.1 _ _ p q h1 h2 e
      omega
  · rcases ga_c hk with ⟨_, h⟩ | ⟨_, h⟩
    · exact C.2.2.1.2 _ q h
    · exact hD.2 _ q h
theorem Cx.joinR {wl rest wc wr w1 : va_W} {H1 : Heap} {locs1 : List Loc} (C : Cx D ca s0 A s (wl ++ rest) H locs) (isC isR : List Nat) (hC : isC.map (fun i => wl[i]?) = wc.map some) (hR : isR.map (fun i => wl[i]?) = wr.map some) (hn : va_nd isR = true) (hdis : ∀ i ∈ isR, i ∉ isC)
    (hk : ∀ q : Nat, q < H.size → ¬ va_A wc H.size q → H1[q]? = H[q]?) (hP1 : va_P D vwCl w1 H1) (hD1 : va_D (va_A wc H.size) w1) (hS : va_S A s.heap H1 locs1) : Cx D ca s0 A s ((wr ++ w1) ++ rest) H1 locs1 := by
  obtain ⟨rP, rD, rap⟩ := C.right
  have hno : ∀ (k : Nat) (q : Nat × va_E), rest[k]? = some q → ¬ va_A wc H.size q.1 := by
    intro k q hq z
    rcases z with ⟨k2, e2, h2⟩ | h2
    · exact rap _ (im_mem hC (List.mem_of_getElem? h2)) q (List.mem_of_getElem? hq) rfl
    · exact absurd (rP k q hq).lt (Nat.not_lt.mpr h2)
  refine Cx.app (C.left.join isC isR hC hR hn hdis hk hP1 hD1 hS) (rP.kept (fun k q hq => hk q.1 (rP k q hq).lt (hno k q hq))) rD (fun p hp q hq e => ?_)
  obtain ⟨j, hj⟩ := List.mem_iff_getElem?.mp hq
  rcases List.mem_append.mp hp with h | h
  · exact rap p (im_mem hR h) q hq e
  · obtain ⟨i, hi⟩ := List.mem_iff_getElem?.mp h
    have h1 := hD1.2 i p hi
    rw [e] at h1
    exact hno j q hj h1
theorem Cx.reA {wl wl2 rest : va_W} (C : Cx D ca s0 A s (wl ++ rest) H locs) (is : List Nat) (hs : is.map (fun i => wl[i]?) = wl2.map some) (hn : va_nd is = true) : Cx D ca s0 A s (wl2 ++ rest) H locs := by
  obtain ⟨rP, rD, rap⟩ := C.right
  exact Cx.app (C.left.re is hs hn) rP rD (fun p hp q hq => rap p (im_mem hs hp) q hq)
end CA
section RL
variable {p : Program} {l : Launch} {e : Env} {R : Room} {s : State} {m : MethodId} {args : Array Value} {below : List Frame} {meth : Method} {c : Code} {H : Heap} {locs : List Loc} {cells slots : Nat} {Q : State → Prop}
variable {cc : ByteArray} {nL : Nat} {own : String} {pc : Nat} {ls : Array Slot} {rest st0 : List Value} {D : va_G} {ca : Nat → ClassId} {s0 : State} {a0 : Array Value} {A : Nat → Prop} {ws : va_W} {a : Nat}
theorem n_callI5 {S0 : Type} {post : Int32 → S0 → Prop} {wp : S0 → va_W} {wl rst wc wr : va_W} {av : List Value} {mc ms : Nat} {aa : Array Value} (C : Cx D ca s0 A s (wl ++ rst) H locs) (isC isR : List Nat) (hC : isC.map (fun i => wl[i]?) = wc.map some) (hR : isR.map (fun i => wl[i]?) = wr.map some) (hnC : va_nd isC = true) (hnR : va_nd isR = true) (hdis : ∀ i ∈ isR, i ∉ isC) (hrun : (FrameBlind (PreC D ca s0 av wc H.size) ∧ ∀ U : State, U.heap = H → s.WarmedH U.vm → PreC D ca s0 av wc H.size av.toArray U) → va_Run p l e R s m args below meth c H locs cells slots mc ms (F0 m pc ls st0) rest (va_Qi post (PostW D wp (va_A wc H.size)) (va_A wc H.size) aa) (va_A wc H.size)) (kk : ∀ (r : Int32) (u : S0) (H1 : Heap) (locs1 : List Loc), post r u → Cx D ca s0 A s ((wr ++ wp u) ++ rst) H1 locs1 → W p l e R s m args below meth c H1 locs1 (cells + mc) (slots + ms) Q (F0 m (pc + 3) ls (.int r :: rest))) : W p l e R s m args below meth c H locs cells slots Q (F0 m pc ls st0) := by
  have hF := va_free (wc := wc) C.left.2.2.1 C.2.2.2.1 C.2.2.2.2.1 isC hC
  refine va_calli (hrun (C.left.pre av isC hC hnC)) C.2.2.2.1 (fun q _ h => hF q h) hF (fun r u t H1 locs1 ht hvm hw hB hz1 hk1 hS => ?_)
  obtain ⟨hP1, hD1⟩ := hB
  rw [ht] at hP1
  exact kk r u H1 locs1 hw (C.joinR isC isR hC hR hnR hdis hk1 hP1 hD1 hS)
theorem n_callL5 {S0 : Type} {post : Int64 → S0 → Prop} {wp : S0 → va_W} {wl rst wc wr : va_W} {av : List Value} {mc ms : Nat} {aa : Array Value} (C : Cx D ca s0 A s (wl ++ rst) H locs) (isC isR : List Nat) (hC : isC.map (fun i => wl[i]?) = wc.map some) (hR : isR.map (fun i => wl[i]?) = wr.map some) (hnC : va_nd isC = true) (hnR : va_nd isR = true) (hdis : ∀ i ∈ isR, i ∉ isC) (hrun : (FrameBlind (PreC D ca s0 av wc H.size) ∧ ∀ U : State, U.heap = H → s.WarmedH U.vm → PreC D ca s0 av wc H.size av.toArray U) → va_Run p l e R s m args below meth c H locs cells slots mc ms (F0 m pc ls st0) rest (va_Ql post (PostW D wp (va_A wc H.size)) (va_A wc H.size) aa) (va_A wc H.size)) (kk : ∀ (r : Int64) (u : S0) (H1 : Heap) (locs1 : List Loc), post r u → Cx D ca s0 A s ((wr ++ wp u) ++ rst) H1 locs1 → W p l e R s m args below meth c H1 locs1 (cells + mc) (slots + ms) Q (F0 m (pc + 3) ls (.long r :: rest))) : W p l e R s m args below meth c H locs cells slots Q (F0 m pc ls st0) := by
  have hF := va_free (wc := wc) C.left.2.2.1 C.2.2.2.1 C.2.2.2.2.1 isC hC
  refine va_calll (hrun (C.left.pre av isC hC hnC)) C.2.2.2.1 (fun q _ h => hF q h) hF (fun r u t H1 locs1 ht hvm hw hB hz1 hk1 hS => ?_)
  obtain ⟨hP1, hD1⟩ := hB
  rw [ht] at hP1
  exact kk r u H1 locs1 hw (C.joinR isC isR hC hR hnR hdis hk1 hP1 hD1 hS)
theorem n_callV5 {S0 : Type} {post : S0 → Prop} {wp : S0 → va_W} {wl rst wc wr : va_W} {av : List Value} {mc ms : Nat} {aa : Array Value} (C : Cx D ca s0 A s (wl ++ rst) H locs) (isC isR : List Nat) (hC : isC.map (fun i => wl[i]?) = wc.map some) (hR : isR.map (fun i => wl[i]?) = wr.map some) (hnC : va_nd isC = true) (hnR : va_nd isR = true) (hdis : ∀ i ∈ isR, i ∉ isC) (hrun : (FrameBlind (PreC D ca s0 av wc H.size) ∧ ∀ U : State, U.heap = H → s.WarmedH U.vm → PreC D ca s0 av wc H.size av.toArray U) → va_Run p l e R s m args below meth c H locs cells slots mc ms (F0 m pc ls st0) rest (va_Qv post (PostW D wp (va_A wc H.size)) (va_A wc H.size) aa) (va_A wc H.size)) (kk : ∀ (u : S0) (H1 : Heap) (locs1 : List Loc), post u → Cx D ca s0 A s ((wr ++ wp u) ++ rst) H1 locs1 → W p l e R s m args below meth c H1 locs1 (cells + mc) (slots + ms) Q (F0 m (pc + 3) ls (rest))) : W p l e R s m args below meth c H locs cells slots Q (F0 m pc ls st0) := by
  have hF := va_free (wc := wc) C.left.2.2.1 C.2.2.2.1 C.2.2.2.2.1 isC hC
  refine va_callv (hrun (C.left.pre av isC hC hnC)) C.2.2.2.1 (fun q _ h => hF q h) hF (fun u t H1 locs1 ht hvm hw hB hz1 hk1 hS => ?_)
  obtain ⟨hP1, hD1⟩ := hB
  rw [ht] at hP1
  exact kk u H1 locs1 hw (C.joinR isC isR hC hR hnR hdis hk1 hP1 hD1 hS)
end RL
