/-! What the law's entry gives: classes, arrays, statics, texts. -/
abbrev hyps1 : List Cond := flatC (Jvm.Cond.and given_1 narrow_1)
theorem x_eval {args : Array Value} {s : State} {a b : Term} {v : Value} (h : (Cond.eq a b).before args s = true) (hb : b.eval args s none [] s = some v) : a.eval args s none [] s = some v := by
  obtain ⟨w, h1, h2⟩ := Cond.eq_one (show (Cond.eq a b).holds args s none s [] = true from h)
  cases hb.symm.trans h2
  exact h1
theorem ZA_of {args : Array Value} {s : State} {C n d : String} {ty : FieldType} {N : Nat} {f : Nat → Value} (tv : Nat → Term) (Z : Wd args s) (hq : ∀ c ∈ hyps1, c.before args s = true) (hN : N < 2 ^ 31) (hl : Cond.laysStatic C n d ∈ tables_1) (hini : Cond.initialized C ∈ tables_1) (harr : Cond.arrayOf (.static C n d) ty ∈ hyps1) (hlen : Cond.eq (.length (.static C n d)) (.int (Int32.ofNat N)) ∈ hyps1) (hel : ∀ j, j < N → Cond.eq (.elem (.static C n d) (.int (Int32.ofNat j))) (tv j) ∈ hyps1) (htv : ∀ j, j < N → (tv j).eval args s none [] s = some (f j)) : ∃ t, ZA C n d ty t N f s := by
  have hA : ∀ a : Nat, a < s.heap.size → ¬ A0 s a := fun a h => Nat.not_le.mpr h
  obtain ⟨t, ht, hT⟩ := va_Tof (A := A0 s) (f := f) hN (hq _ harr) (x_eval (hq _ hlen) rfl) (fun j hj => x_eval (hq _ (hel j hj)) (htv j hj)) hA
  exact ⟨t, va_Zref (Z.tab hl) (Z.tab hini) ht hA, hT⟩
theorem el_PATH : ∀ j, j < 24 → Cond.eq (.elem (.static "SpongeDesk$Permutation" "PATH" "[I") (.int (Int32.ofNat j))) (.int (nI (pPath j))) ∈ hyps1 := by decide +kernel
theorem el_TURNS : ∀ j, j < 24 → Cond.eq (.elem (.static "SpongeDesk$Permutation" "TURNS" "[I") (.int (Int32.ofNat j))) (.int (nI (pTurn j))) ∈ hyps1 := by decide +kernel
theorem el_ROUND : ∀ j, j < 24 → Cond.eq (.elem (.static "SpongeDesk$Permutation" "ROUND_BITS" "[J") (.int (Int32.ofNat j))) (.long (pRc j)) ∈ hyps1 := by decide +kernel
theorem el_WIDTHS : ∀ j, j < 16 → Cond.eq (.elem (.static "SpongeDesk" "WIDTHS" "[I") (.int (Int32.ofNat j))) (.int (nI (wid j))) ∈ hyps1 := by decide +kernel
theorem el_LENGTHS : ∀ j, j < 16 → Cond.eq (.elem (.static "SpongeDesk" "LENGTHS" "[I") (.int (Int32.ofNat j))) (.int (pLen j)) ∈ hyps1 := by decide +kernel
theorem el_KEYED : ∀ j, j < 4 → Cond.eq (.elem (.static "SpongeDesk" "KEYED_NAME" "[B") (.int (Int32.ofNat j))) (.int (nI (pKey j))) ∈ hyps1 := by decide +kernel
theorem el_TUPLE : ∀ j, j < 9 → Cond.eq (.elem (.static "SpongeDesk" "TUPLE_NAME" "[B") (.int (Int32.ofNat j))) (.int (nI (pTup j))) ∈ hyps1 := by decide +kernel
theorem ZS_ex {args : Array Value} {s : State} (Z : Wd args s) (hq : ∀ c ∈ hyps1, c.before args s = true) : ∃ tz, ZS tz s := by
  obtain ⟨t0, h0⟩ := ZA_of (f := fun j => .int (nI (pPath j))) (N := 24) (ty := .int) (fun j => .int (nI (pPath j))) Z hq (by decide) (by decide +kernel) (by decide +kernel) (by decide +kernel) (by decide +kernel) el_PATH (fun _ _ => rfl)
  obtain ⟨t1, h1⟩ := ZA_of (f := fun j => .int (nI (pTurn j))) (N := 24) (ty := .int) (fun j => .int (nI (pTurn j))) Z hq (by decide) (by decide +kernel) (by decide +kernel) (by decide +kernel) (by decide +kernel) el_TURNS (fun _ _ => rfl)
  obtain ⟨t2, h2⟩ := ZA_of (f := fun j => .long (pRc j)) (N := 24) (ty := .long) (fun j => .long (pRc j)) Z hq (by decide) (by decide +kernel) (by decide +kernel) (by decide +kernel) (by decide +kernel) el_ROUND (fun _ _ => rfl)
  obtain ⟨t3, h3⟩ := ZA_of (f := fun j => .int (nI (wid j))) (N := 16) (ty := .int) (fun j => .int (nI (wid j))) Z hq (by decide) (by decide +kernel) (by decide +kernel) (by decide +kernel) (by decide +kernel) el_WIDTHS (fun _ _ => rfl)
  obtain ⟨t4, h4⟩ := ZA_of (f := fun j => .int (pLen j)) (N := 16) (ty := .int) (fun j => .int (pLen j)) Z hq (by decide) (by decide +kernel) (by decide +kernel) (by decide +kernel) (by decide +kernel) el_LENGTHS (fun _ _ => rfl)
  obtain ⟨t5, h5⟩ := ZA_of (f := fun j => .int (nI (pKey j))) (N := 4) (ty := .byte) (fun j => .int (nI (pKey j))) Z hq (by decide) (by decide +kernel) (by decide +kernel) (by decide +kernel) (by decide +kernel) el_KEYED (fun _ _ => rfl)
  obtain ⟨t6, h6⟩ := ZA_of (f := fun j => .int (nI (pTup j))) (N := 9) (ty := .byte) (fun j => .int (nI (pTup j))) Z hq (by decide) (by decide +kernel) (by decide +kernel) (by decide +kernel) (by decide +kernel) el_TUPLE (fun _ _ => rfl)
  exact ⟨mkQ t0 t1 t2 t3 t4 t5 t6 0 0 0 0 0, h0, h1, h2, h3, h4, h5, h6⟩
theorem vk_ex {args : Array Value} {s : State} (Z : Wd args s) (hq : ∀ c ∈ hyps1, c.before args s = true) {k : Nat} {tx : String} (h1 : Cond.stringRef RK k tx ∈ tables_1) (h2 : Cond.exactly (.string RK k) "java/lang/String" ∈ hyps1) : ∃ a, vk_R RK k tx a s := by
  obtain ⟨a, _, _, _, ha, _⟩ := Cond.exactly_spec (show (Cond.exactly (.string RK k) "java/lang/String").holds args s none s [] = true from hq _ h2)
  exact ⟨a, vk_R.of (Z.tab h1) ha⟩
theorem XS_ex {args : Array Value} {s : State} (Z : Wd args s) (hq : ∀ c ∈ hyps1, c.before args s = true) : ∃ sx, XS sx s := by
  have hA : ∀ a : Nat, a < s.heap.size → ¬ A0 s a := fun a h => Nat.not_le.mpr h
  obtain ⟨a0, h0⟩ := vk_ex Z hq (k := 133) (tx := "there is no such sponge") (by decide +kernel) (by decide +kernel)
  obtain ⟨a1, h1⟩ := vk_ex Z hq (k := 140) (tx := "an argument is out of its range") (by decide +kernel) (by decide +kernel)
  obtain ⟨a2, h2⟩ := vk_ex Z hq (k := 145) (tx := "the sponge can't do this now") (by decide +kernel) (by decide +kernel)
  exact ⟨mkQ a0 a1 a2 0 0 0 0 0 0 0 0 0, ⟨vx_Zqof (Z.tab (by decide +kernel)) (Z.tab (by decide +kernel)) (hq _ (by decide +kernel)) hA, vx_Zqof (Z.tab (by decide +kernel)) (Z.tab (by decide +kernel)) (hq _ (by decide +kernel)) hA⟩, h0, h1, h2⟩
theorem XN_of {args : Array Value} {s : State} (hq : ∀ c ∈ hyps1, c.before args s = true) : XN s :=
  ⟨va_Nc.of (hq (.not (.castable (xE 1) (xE 0))) (by decide +kernel)), va_Nc.of (hq (.not (.castable (xE 2) (xE 0))) (by decide +kernel)), va_Nc.of (hq (.not (.castable (xE 2) (xE 1))) (by decide +kernel))⟩
theorem arr_ex {args : Array Value} {s : State} {ty : FieldType} (h : (Cond.arrayClass ty).before args s = true) : ∃ c, ArrOfT s c ty ∧ s.vm.findClass ("[" ++ ty.toString) = some c := by
  obtain ⟨c, k, comp, h1, h2, h3⟩ := Cond.arrayClass_spec (show (Cond.arrayClass ty).holds args s none s [] = true from h)
  exact ⟨c, fun N z => ⟨(fun k h => by cases h), k, h2, comp, h3⟩, h1⟩
theorem kg_ex {args : Array Value} {s : State} (Z : Wd args s) (hts : ∀ w ∈ lw_good, w.before args s = true) : ∃ D ca, KG D ca s := by
  obtain ⟨c0, i0, h0⟩ := u_known (C := RR) (T := TR) (N := 2) (n := 2) hts hin_R (Z.tab (by decide +kernel))
  obtain ⟨c1, i1, h1⟩ := u_known (C := RS) (T := TS) (N := 8) (n := 8) hts hin_S (Z.tab (by decide +kernel))
  obtain ⟨c2, i2, h2⟩ := u_known (C := RK) (T := TK) (N := 7) (n := 7) hts hin_K (Z.tab (by decide +kernel))
  obtain ⟨c3, i3, h3⟩ := u_known (C := RM) (T := TM) (N := 14) (n := 14) hts hin_M (Z.tab (by decide +kernel))
  obtain ⟨a0, p0, q0⟩ := arr_ex (Z.tab (show Cond.arrayClass .int ∈ tables_1 by decide +kernel))
  obtain ⟨a1, p1, q1⟩ := arr_ex (Z.tab (show Cond.arrayClass .boolean ∈ tables_1 by decide +kernel))
  obtain ⟨a2, p2, q2⟩ := arr_ex (Z.tab (show Cond.arrayClass .long ∈ tables_1 by decide +kernel))
  obtain ⟨a3, p3, q3⟩ := arr_ex (Z.tab (show Cond.arrayClass .byte ∈ tables_1 by decide +kernel))
  obtain ⟨comp, a4, k4, e1, -, e3, e4, e5⟩ := Cond.arrayOver_spec (show (Cond.arrayOver (.object "SpongeDesk$Sponge")).holds args s none s [] = true from Z.tab ao_in)
  refine ⟨(fun c => match c with | 0 => c0 | 1 => c1 | 2 => c2 | _ => c3, fun c => match c with | 0 => i0 | 1 => i1 | 2 => i2 | _ => i3), fun c => match c with | 0 => a0 | 1 => a1 | 2 => a2 | 3 => a3 | _ => a4, fun c q hq => ?_, fun k q hk => ?_⟩
  · have hl : c < 4 := (List.getElem?_eq_some_iff.mp hq).1
    obtain rfl | rfl | rfl | rfl : c = 0 ∨ c = 1 ∨ c = 2 ∨ c = 3 := by omega
    · cases hq; exact h0
    · cases hq; exact h1
    · cases hq; exact h2
    · cases hq; exact h3
  · have hl : k < 5 := (List.getElem?_eq_some_iff.mp hk).1
    obtain rfl | rfl | rfl | rfl | rfl : k = 0 ∨ k = 1 ∨ k = 2 ∨ k = 3 ∨ k = 4 := by omega
    · cases hk; exact ⟨p0, q0⟩
    · cases hk; exact ⟨p1, q1⟩
    · cases hk; exact ⟨p2, q2⟩
    · cases hk; exact ⟨p3, q3⟩
    · cases hk; exact ⟨fun N z => ⟨(fun k h => by cases h), k4, e3, comp, e4⟩, k4, comp, e3, e4, e1, e5⟩
