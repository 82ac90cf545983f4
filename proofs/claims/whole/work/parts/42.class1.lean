abbrev rm_P_mixColumns : Room := { frames := 0, cells := 0, slots := 0, locals := 0 }
set_option maxHeartbeats 4000000 in
set_option maxRecDepth 100000 in
theorem c_P_mixColumns (l : Launch) (D : va_G) (ca : Nat → ClassId) (s0 : State) (a0 : Array Value) (Z : Wd a0 s0) (a : Nat) (L : Nat → Int64) : CtV l yP_mixColumns [.code yP_mixColumns cP_mixColumns 22 none] rm_P_mixColumns 0 0 D ca s0 [.ref (a)] [(a, .inl (ca 2, 25, .inr (.inl (L))))] (S := Nat → Int64) (fun M => kEq (lb M) (kTheta (lb L))) (fun M => [(a, .inl (ca 2, 25, .inr (.inl M)))]) := by
  refine ctV_of (cc := cP_mixColumns) (maxL := 22) (own := RP) Z rfl (by decide) rfl (Nat.le_of_ble_eq_true rfl) ?_
  intro p e s m args below meth c A ls Q S hnm ret C hl
  have hx := S.1
  have hb := S.2.1
  have hown := S.2.2.2.1
  have hts := S.2.2.2.2
  generalize s.heap = H at C ⊢
  generalize ([] : List Loc) = locs at C ⊢
  replace hl : lv_has ls 22 [(0, .ref (a))] := hl
  refine lv_aload_n hx hb dP_mixColumns_0 rfl (lv_at hl 0 rfl) ?_
  refine lv_iconst (v := nI 0) hx hb dP_mixColumns_1 (by decide) ?_
  refine n_lald S C 0 rfl (i := 0) (by omega) (by decide) dP_mixColumns_2 ?_
  refine lv_aload_n hx hb dP_mixColumns_3 rfl (lv_at hl 0 rfl) ?_
  refine lv_iconst (v := nI 5) hx hb dP_mixColumns_4 (by decide) ?_
  refine n_lald S C 0 rfl (i := 5) (by omega) (by decide) dP_mixColumns_5 ?_
  refine lv_lxor hx hb dP_mixColumns_6 ?_
  refine lv_aload_n hx hb dP_mixColumns_7 rfl (lv_at hl 0 rfl) ?_
  refine lv_bipush (v := nI 10) hx hb dP_mixColumns_8 (by decide) ?_
  refine n_lald S C 0 rfl (i := 10) (by omega) (by decide) dP_mixColumns_10 ?_
  refine lv_lxor hx hb dP_mixColumns_11 ?_
  refine lv_aload_n hx hb dP_mixColumns_12 rfl (lv_at hl 0 rfl) ?_
  refine lv_bipush (v := nI 15) hx hb dP_mixColumns_13 (by decide) ?_
  refine n_lald S C 0 rfl (i := 15) (by omega) (by decide) dP_mixColumns_15 ?_
  refine lv_lxor hx hb dP_mixColumns_16 ?_
  refine lv_aload_n hx hb dP_mixColumns_17 rfl (lv_at hl 0 rfl) ?_
  refine lv_bipush (v := nI 20) hx hb dP_mixColumns_18 (by decide) ?_
  refine n_lald S C 0 rfl (i := 20) (by omega) (by decide) dP_mixColumns_20 ?_
  refine lv_lxor hx hb dP_mixColumns_21 ?_
  refine lv_topl (nm_r (e' := lC L 0) rfl ?_)
  refine lv_lstore_n hx hb dP_mixColumns_22 rfl hl (Nat.le_of_ble_eq_true rfl) rfl (fun ls hl => ?_)
  replace hl : lv_has ls 22 [(1, .long (lC L 0)), (0, .ref (a))] := hl
  refine lv_aload_n hx hb dP_mixColumns_23 rfl (lv_at hl 1 rfl) ?_
  refine lv_iconst (v := nI 1) hx hb dP_mixColumns_24 (by decide) ?_
  refine n_lald S C 0 rfl (i := 1) (by omega) (by decide) dP_mixColumns_25 ?_
  refine lv_aload_n hx hb dP_mixColumns_26 rfl (lv_at hl 1 rfl) ?_
  refine lv_bipush (v := nI 6) hx hb dP_mixColumns_27 (by decide) ?_
  refine n_lald S C 0 rfl (i := 6) (by omega) (by decide) dP_mixColumns_29 ?_
  refine lv_lxor hx hb dP_mixColumns_30 ?_
  refine lv_aload_n hx hb dP_mixColumns_31 rfl (lv_at hl 1 rfl) ?_
  refine lv_bipush (v := nI 11) hx hb dP_mixColumns_32 (by decide) ?_
  refine n_lald S C 0 rfl (i := 11) (by omega) (by decide) dP_mixColumns_34 ?_
  refine lv_lxor hx hb dP_mixColumns_35 ?_
  refine lv_aload_n hx hb dP_mixColumns_36 rfl (lv_at hl 1 rfl) ?_
  refine lv_bipush (v := nI 16) hx hb dP_mixColumns_37 (by decide) ?_
  refine n_lald S C 0 rfl (i := 16) (by omega) (by decide) dP_mixColumns_39 ?_
  refine lv_lxor hx hb dP_mixColumns_40 ?_
  refine lv_aload_n hx hb dP_mixColumns_41 rfl (lv_at hl 1 rfl) ?_
  refine lv_bipush (v := nI 21) hx hb dP_mixColumns_42 (by decide) ?_
  refine n_lald S C 0 rfl (i := 21) (by omega) (by decide) dP_mixColumns_44 ?_
  refine lv_lxor hx hb dP_mixColumns_45 ?_
  refine lv_topl (nm_r (e' := lC L 1) rfl ?_)
  refine lv_lstore_n hx hb dP_mixColumns_46 rfl hl (Nat.le_of_ble_eq_true rfl) rfl (fun ls hl => ?_)
  replace hl : lv_has ls 22 [(3, .long (lC L 1)), (1, .long (lC L 0)), (0, .ref (a))] := hl
  refine lv_aload_n hx hb dP_mixColumns_47 rfl (lv_at hl 2 rfl) ?_
  refine lv_iconst (v := nI 2) hx hb dP_mixColumns_48 (by decide) ?_
  refine n_lald S C 0 rfl (i := 2) (by omega) (by decide) dP_mixColumns_49 ?_
  refine lv_aload_n hx hb dP_mixColumns_50 rfl (lv_at hl 2 rfl) ?_
  refine lv_bipush (v := nI 7) hx hb dP_mixColumns_51 (by decide) ?_
  refine n_lald S C 0 rfl (i := 7) (by omega) (by decide) dP_mixColumns_53 ?_
  refine lv_lxor hx hb dP_mixColumns_54 ?_
  refine lv_aload_n hx hb dP_mixColumns_55 rfl (lv_at hl 2 rfl) ?_
  refine lv_bipush (v := nI 12) hx hb dP_mixColumns_56 (by decide) ?_
  refine n_lald S C 0 rfl (i := 12) (by omega) (by decide) dP_mixColumns_58 ?_
  refine lv_lxor hx hb dP_mixColumns_59 ?_
  refine lv_aload_n hx hb dP_mixColumns_60 rfl (lv_at hl 2 rfl) ?_
  refine lv_bipush (v := nI 17) hx hb dP_mixColumns_61 (by decide) ?_
  refine n_lald S C 0 rfl (i := 17) (by omega) (by decide) dP_mixColumns_63 ?_
  refine lv_lxor hx hb dP_mixColumns_64 ?_
  refine lv_aload_n hx hb dP_mixColumns_65 rfl (lv_at hl 2 rfl) ?_
  refine lv_bipush (v := nI 22) hx hb dP_mixColumns_66 (by decide) ?_
  refine n_lald S C 0 rfl (i := 22) (by omega) (by decide) dP_mixColumns_68 ?_
  refine lv_lxor hx hb dP_mixColumns_69 ?_
  refine lv_topl (nm_r (e' := lC L 2) rfl ?_)
  refine lv_lstore hx hb dP_mixColumns_70 hl (Nat.le_of_ble_eq_true rfl) rfl (fun ls hl => ?_)
  replace hl : lv_has ls 22 [(5, .long (lC L 2)), (3, .long (lC L 1)), (1, .long (lC L 0)), (0, .ref (a))] := hl
  refine lv_aload_n hx hb dP_mixColumns_72 rfl (lv_at hl 3 rfl) ?_
  refine lv_iconst (v := nI 3) hx hb dP_mixColumns_73 (by decide) ?_
  refine n_lald S C 0 rfl (i := 3) (by omega) (by decide) dP_mixColumns_74 ?_
  refine lv_aload_n hx hb dP_mixColumns_75 rfl (lv_at hl 3 rfl) ?_
  refine lv_bipush (v := nI 8) hx hb dP_mixColumns_76 (by decide) ?_
  refine n_lald S C 0 rfl (i := 8) (by omega) (by decide) dP_mixColumns_78 ?_
  refine lv_lxor hx hb dP_mixColumns_79 ?_
  refine lv_aload_n hx hb dP_mixColumns_80 rfl (lv_at hl 3 rfl) ?_
  refine lv_bipush (v := nI 13) hx hb dP_mixColumns_81 (by decide) ?_
  refine n_lald S C 0 rfl (i := 13) (by omega) (by decide) dP_mixColumns_83 ?_
  refine lv_lxor hx hb dP_mixColumns_84 ?_
  refine lv_aload_n hx hb dP_mixColumns_85 rfl (lv_at hl 3 rfl) ?_
  refine lv_bipush (v := nI 18) hx hb dP_mixColumns_86 (by decide) ?_
  refine n_lald S C 0 rfl (i := 18) (by omega) (by decide) dP_mixColumns_88 ?_
  refine lv_lxor hx hb dP_mixColumns_89 ?_
  refine lv_aload_n hx hb dP_mixColumns_90 rfl (lv_at hl 3 rfl) ?_
  refine lv_bipush (v := nI 23) hx hb dP_mixColumns_91 (by decide) ?_
  refine n_lald S C 0 rfl (i := 23) (by omega) (by decide) dP_mixColumns_93 ?_
  refine lv_lxor hx hb dP_mixColumns_94 ?_
  refine lv_topl (nm_r (e' := lC L 3) rfl ?_)
  refine lv_lstore hx hb dP_mixColumns_95 hl (Nat.le_of_ble_eq_true rfl) rfl (fun ls hl => ?_)
  replace hl : lv_has ls 22 [(7, .long (lC L 3)), (5, .long (lC L 2)), (3, .long (lC L 1)), (1, .long (lC L 0)), (0, .ref (a))] := hl
  refine lv_aload_n hx hb dP_mixColumns_97 rfl (lv_at hl 4 rfl) ?_
  refine lv_iconst (v := nI 4) hx hb dP_mixColumns_98 (by decide) ?_
  refine n_lald S C 0 rfl (i := 4) (by omega) (by decide) dP_mixColumns_99 ?_
  refine lv_aload_n hx hb dP_mixColumns_100 rfl (lv_at hl 4 rfl) ?_
  refine lv_bipush (v := nI 9) hx hb dP_mixColumns_101 (by decide) ?_
  refine n_lald S C 0 rfl (i := 9) (by omega) (by decide) dP_mixColumns_103 ?_
  refine lv_lxor hx hb dP_mixColumns_104 ?_
  refine lv_aload_n hx hb dP_mixColumns_105 rfl (lv_at hl 4 rfl) ?_
  refine lv_bipush (v := nI 14) hx hb dP_mixColumns_106 (by decide) ?_
  refine n_lald S C 0 rfl (i := 14) (by omega) (by decide) dP_mixColumns_108 ?_
  refine lv_lxor hx hb dP_mixColumns_109 ?_
  refine lv_aload_n hx hb dP_mixColumns_110 rfl (lv_at hl 4 rfl) ?_
  refine lv_bipush (v := nI 19) hx hb dP_mixColumns_111 (by decide) ?_
  refine n_lald S C 0 rfl (i := 19) (by omega) (by decide) dP_mixColumns_113 ?_
  refine lv_lxor hx hb dP_mixColumns_114 ?_
  refine lv_aload_n hx hb dP_mixColumns_115 rfl (lv_at hl 4 rfl) ?_
  refine lv_bipush (v := nI 24) hx hb dP_mixColumns_116 (by decide) ?_
  refine n_lald S C 0 rfl (i := 24) (by omega) (by decide) dP_mixColumns_118 ?_
  refine lv_lxor hx hb dP_mixColumns_119 ?_
  refine lv_topl (nm_r (e' := lC L 4) rfl ?_)
  refine lv_lstore hx hb dP_mixColumns_120 hl (Nat.le_of_ble_eq_true rfl) rfl (fun ls hl => ?_)
  replace hl : lv_has ls 22 [(9, .long (lC L 4)), (7, .long (lC L 3)), (5, .long (lC L 2)), (3, .long (lC L 1)), (1, .long (lC L 0)), (0, .ref (a))] := hl
  refine lv_lload hx hb dP_mixColumns_122 (lv_at hl 0 rfl) ?_
  refine lv_lload_n hx hb dP_mixColumns_124 rfl (lv_at hl 3 rfl) ?_
  refine lv_iconst (v := nI 1) hx hb dP_mixColumns_125 (by decide) ?_
  refine lv_lshl (v := lShl (lC L 1) 1) hx hb dP_mixColumns_126 rfl ?_
  refine lv_lload_n hx hb dP_mixColumns_127 rfl (lv_at hl 3 rfl) ?_
  refine lv_bipush (v := nI 63) hx hb dP_mixColumns_128 (by decide) ?_
  refine lv_lushr (v := lShr (lC L 1) 63) hx hb dP_mixColumns_130 rfl ?_
  refine lv_lor hx hb dP_mixColumns_131 ?_
  refine lv_lxor hx hb dP_mixColumns_132 ?_
  refine lv_topl (nm_r (e' := lD L 0) rfl ?_)
  refine lv_lstore hx hb dP_mixColumns_133 hl (Nat.le_of_ble_eq_true rfl) rfl (fun ls hl => ?_)
  replace hl : lv_has ls 22 [(11, .long (lD L 0)), (9, .long (lC L 4)), (7, .long (lC L 3)), (5, .long (lC L 2)), (3, .long (lC L 1)), (1, .long (lC L 0)), (0, .ref (a))] := hl
  refine lv_lload_n hx hb dP_mixColumns_135 rfl (lv_at hl 5 rfl) ?_
  refine lv_lload hx hb dP_mixColumns_136 (lv_at hl 3 rfl) ?_
  refine lv_iconst (v := nI 1) hx hb dP_mixColumns_138 (by decide) ?_
  refine lv_lshl (v := lShl (lC L 2) 1) hx hb dP_mixColumns_139 rfl ?_
  refine lv_lload hx hb dP_mixColumns_140 (lv_at hl 3 rfl) ?_
  refine lv_bipush (v := nI 63) hx hb dP_mixColumns_142 (by decide) ?_
  refine lv_lushr (v := lShr (lC L 2) 63) hx hb dP_mixColumns_144 rfl ?_
  refine lv_lor hx hb dP_mixColumns_145 ?_
  refine lv_lxor hx hb dP_mixColumns_146 ?_
  refine lv_topl (nm_r (e' := lD L 1) rfl ?_)
  refine lv_lstore hx hb dP_mixColumns_147 hl (Nat.le_of_ble_eq_true rfl) rfl (fun ls hl => ?_)
  replace hl : lv_has ls 22 [(13, .long (lD L 1)), (11, .long (lD L 0)), (9, .long (lC L 4)), (7, .long (lC L 3)), (5, .long (lC L 2)), (3, .long (lC L 1)), (1, .long (lC L 0)), (0, .ref (a))] := hl
  refine lv_lload_n hx hb dP_mixColumns_149 rfl (lv_at hl 5 rfl) ?_
  refine lv_lload hx hb dP_mixColumns_150 (lv_at hl 3 rfl) ?_
  refine lv_iconst (v := nI 1) hx hb dP_mixColumns_152 (by decide) ?_
  refine lv_lshl (v := lShl (lC L 3) 1) hx hb dP_mixColumns_153 rfl ?_
  refine lv_lload hx hb dP_mixColumns_154 (lv_at hl 3 rfl) ?_
  refine lv_bipush (v := nI 63) hx hb dP_mixColumns_156 (by decide) ?_
  refine lv_lushr (v := lShr (lC L 3) 63) hx hb dP_mixColumns_158 rfl ?_
  refine lv_lor hx hb dP_mixColumns_159 ?_
  refine lv_lxor hx hb dP_mixColumns_160 ?_
  refine lv_topl (nm_r (e' := lD L 2) rfl ?_)
  refine lv_lstore hx hb dP_mixColumns_161 hl (Nat.le_of_ble_eq_true rfl) rfl (fun ls hl => ?_)
  replace hl : lv_has ls 22 [(15, .long (lD L 2)), (13, .long (lD L 1)), (11, .long (lD L 0)), (9, .long (lC L 4)), (7, .long (lC L 3)), (5, .long (lC L 2)), (3, .long (lC L 1)), (1, .long (lC L 0)), (0, .ref (a))] := hl
  refine lv_lload hx hb dP_mixColumns_163 (lv_at hl 5 rfl) ?_
  refine lv_lload hx hb dP_mixColumns_165 (lv_at hl 3 rfl) ?_
  refine lv_iconst (v := nI 1) hx hb dP_mixColumns_167 (by decide) ?_
  refine lv_lshl (v := lShl (lC L 4) 1) hx hb dP_mixColumns_168 rfl ?_
  refine lv_lload hx hb dP_mixColumns_169 (lv_at hl 3 rfl) ?_
  refine lv_bipush (v := nI 63) hx hb dP_mixColumns_171 (by decide) ?_
  refine lv_lushr (v := lShr (lC L 4) 63) hx hb dP_mixColumns_173 rfl ?_
  refine lv_lor hx hb dP_mixColumns_174 ?_
  refine lv_lxor hx hb dP_mixColumns_175 ?_
  refine lv_topl (nm_r (e' := lD L 3) rfl ?_)
  refine lv_lstore hx hb dP_mixColumns_176 hl (Nat.le_of_ble_eq_true rfl) rfl (fun ls hl => ?_)
  replace hl : lv_has ls 22 [(17, .long (lD L 3)), (15, .long (lD L 2)), (13, .long (lD L 1)), (11, .long (lD L 0)), (9, .long (lC L 4)), (7, .long (lC L 3)), (5, .long (lC L 2)), (3, .long (lC L 1)), (1, .long (lC L 0)), (0, .ref (a))] := hl
  refine lv_lload hx hb dP_mixColumns_178 (lv_at hl 5 rfl) ?_
  refine lv_lload_n hx hb dP_mixColumns_180 rfl (lv_at hl 8 rfl) ?_
  refine lv_iconst (v := nI 1) hx hb dP_mixColumns_181 (by decide) ?_
  refine lv_lshl (v := lShl (lC L 0) 1) hx hb dP_mixColumns_182 rfl ?_
  refine lv_lload_n hx hb dP_mixColumns_183 rfl (lv_at hl 8 rfl) ?_
  refine lv_bipush (v := nI 63) hx hb dP_mixColumns_184 (by decide) ?_
  refine lv_lushr (v := lShr (lC L 0) 63) hx hb dP_mixColumns_186 rfl ?_
  refine lv_lor hx hb dP_mixColumns_187 ?_
  refine lv_lxor hx hb dP_mixColumns_188 ?_
  refine lv_topl (nm_r (e' := lD L 4) rfl ?_)
  refine lv_lstore hx hb dP_mixColumns_189 hl (Nat.le_of_ble_eq_true rfl) rfl (fun ls hl => ?_)
  replace hl : lv_has ls 22 [(19, .long (lD L 4)), (17, .long (lD L 3)), (15, .long (lD L 2)), (13, .long (lD L 1)), (11, .long (lD L 0)), (9, .long (lC L 4)), (7, .long (lC L 3)), (5, .long (lC L 2)), (3, .long (lC L 1)), (1, .long (lC L 0)), (0, .ref (a))] := hl
  refine lv_iconst (v := nI 0) hx hb dP_mixColumns_191 (by decide) ?_
  refine lv_istore hx hb dP_mixColumns_192 hl (Nat.le_of_ble_eq_true rfl) rfl (fun ls hl => ?_)
  replace hl : lv_has ls 22 [(21, .int (nI 0)), (19, .long (lD L 4)), (17, .long (lD L 3)), (15, .long (lD L 2)), (13, .long (lD L 1)), (11, .long (lD L 0)), (9, .long (lC L 4)), (7, .long (lC L 3)), (5, .long (lC L 2)), (3, .long (lC L 1)), (1, .long (lC L 0)), (0, .ref (a))] := hl
  have lp194 : ∀ (nf : Nat) (y : Nat) (M : Nat → Int64) (H : Heap) (locs : List Loc) (ls : Array Slot), 5 - y < nf → y ≤ 5 → rowsDone (lTheta L) L M y → Cx D ca s0 A s [(a, .inl (ca 2, 25, .inr (.inl (M))))] H locs → lv_has ls 22 [(21, .int (nI (5 * y))), (19, .long (lD L 4)), (17, .long (lD L 3)), (15, .long (lD L 2)), (13, .long (lD L 1)), (11, .long (lD L 0)), (9, .long (lC L 4)), (7, .long (lC L 3)), (5, .long (lC L 2)), (3, .long (lC L 1)), (1, .long (lC L 0)), (0, .ref (a))] → W p l e rm_P_mixColumns s m args below meth c H locs 0 0 Q (F0 m 194 ls []) := by
    intro nf
    induction nf with
    | zero => intro y M H locs ls hn; exact absurd hn (Nat.not_lt_zero _)
    | succ nf ih_lp194 =>
      intro y M H locs ls hn lp194_le hM C hl
      refine lv_iload hx hb dP_mixColumns_194 (lv_at hl 0 rfl) ?_
      refine lv_bipush (v := nI 25) hx hb dP_mixColumns_196 (by decide) ?_
      refine n_icmp_ge (tgt := 260) S (by omega) (by omega) dP_mixColumns_198 (by decide) (fun hc198 => ?_) (fun hc198 => ?_)
      · skip
        exact ret M _ _ _ _ _ _ (Nat.le_refl _) (Nat.le_refl _) ((rd_end (eq_of_le (show 5 ≤ y by omega) lp194_le ▸ hM)).tr (lTheta_ok L)) C dP_mixColumns_260
      · skip
        refine lv_aload_n hx hb dP_mixColumns_201 rfl (lv_at hl 11 rfl) ?_
        refine lv_iload hx hb dP_mixColumns_202 (lv_at hl 0 rfl) ?_
        refine lv_dup2_11 hx hb dP_mixColumns_204 rfl rfl ?_
        refine n_lald S C 0 rfl (i := 5 * y) (by omega) (by decide) dP_mixColumns_205 ?_
        refine lv_topl (nm_r (e' := L (5 * y)) (hM.2 _ (by omega)) ?_)
        refine lv_lload hx hb dP_mixColumns_206 (lv_at hl 5 rfl) ?_
        refine lv_lxor hx hb dP_mixColumns_208 ?_
        refine n_last S C 0 rfl (i := 5 * y) (by omega) (by decide) dP_mixColumns_209 (fun H locs C => ?_)
        replace C : Cx D ca s0 A s [(a, .inl (ca 2, 25, .inr (.inl (vp_updL M (5 * y) ((L (5 * y)) ^^^ (lD L 0))))))] H locs := C
        refine lv_aload_n hx hb dP_mixColumns_210 rfl (lv_at hl 11 rfl) ?_
        refine lv_iload hx hb dP_mixColumns_211 (lv_at hl 0 rfl) ?_
        refine lv_iconst (v := nI 1) hx hb dP_mixColumns_213 (by decide) ?_
        refine n_add S dP_mixColumns_214 ?_
        refine lv_dup2_11 hx hb dP_mixColumns_215 rfl rfl ?_
        refine n_lald S C 0 rfl (i := (5 * y) + 1) (by omega) (by decide) dP_mixColumns_216 ?_
        refine lv_topl (nm_r (e' := L (5 * y + 1)) (by rw [pk_uLn (by omega)]; exact hM.2 _ (by omega)) ?_)
        refine lv_lload hx hb dP_mixColumns_217 (lv_at hl 4 rfl) ?_
        refine lv_lxor hx hb dP_mixColumns_219 ?_
        refine n_last S C 0 rfl (i := (5 * y) + 1) (by omega) (by decide) dP_mixColumns_220 (fun H locs C => ?_)
        replace C : Cx D ca s0 A s [(a, .inl (ca 2, 25, .inr (.inl (vp_updL (vp_updL M (5 * y) ((L (5 * y)) ^^^ (lD L 0))) ((5 * y) + 1) ((L (5 * y + 1)) ^^^ (lD L 1))))))] H locs := C
        refine lv_aload_n hx hb dP_mixColumns_221 rfl (lv_at hl 11 rfl) ?_
        refine lv_iload hx hb dP_mixColumns_222 (lv_at hl 0 rfl) ?_
        refine lv_iconst (v := nI 2) hx hb dP_mixColumns_224 (by decide) ?_
        refine n_add S dP_mixColumns_225 ?_
        refine lv_dup2_11 hx hb dP_mixColumns_226 rfl rfl ?_
        refine n_lald S C 0 rfl (i := (5 * y) + 2) (by omega) (by decide) dP_mixColumns_227 ?_
        refine lv_topl (nm_r (e' := L (5 * y + 2)) (by rw [pk_uLn (by omega), pk_uLn (by omega)]; exact hM.2 _ (by omega)) ?_)
        refine lv_lload hx hb dP_mixColumns_228 (lv_at hl 3 rfl) ?_
        refine lv_lxor hx hb dP_mixColumns_230 ?_
        refine n_last S C 0 rfl (i := (5 * y) + 2) (by omega) (by decide) dP_mixColumns_231 (fun H locs C => ?_)
        replace C : Cx D ca s0 A s [(a, .inl (ca 2, 25, .inr (.inl (vp_updL (vp_updL (vp_updL M (5 * y) ((L (5 * y)) ^^^ (lD L 0))) ((5 * y) + 1) ((L (5 * y + 1)) ^^^ (lD L 1))) ((5 * y) + 2) ((L (5 * y + 2)) ^^^ (lD L 2))))))] H locs := C
        refine lv_aload_n hx hb dP_mixColumns_232 rfl (lv_at hl 11 rfl) ?_
        refine lv_iload hx hb dP_mixColumns_233 (lv_at hl 0 rfl) ?_
        refine lv_iconst (v := nI 3) hx hb dP_mixColumns_235 (by decide) ?_
        refine n_add S dP_mixColumns_236 ?_
        refine lv_dup2_11 hx hb dP_mixColumns_237 rfl rfl ?_
        refine n_lald S C 0 rfl (i := (5 * y) + 3) (by omega) (by decide) dP_mixColumns_238 ?_
        refine lv_topl (nm_r (e' := L (5 * y + 3)) (by rw [pk_uLn (by omega), pk_uLn (by omega), pk_uLn (by omega)]; exact hM.2 _ (by omega)) ?_)
        refine lv_lload hx hb dP_mixColumns_239 (lv_at hl 2 rfl) ?_
        refine lv_lxor hx hb dP_mixColumns_241 ?_
        refine n_last S C 0 rfl (i := (5 * y) + 3) (by omega) (by decide) dP_mixColumns_242 (fun H locs C => ?_)
        replace C : Cx D ca s0 A s [(a, .inl (ca 2, 25, .inr (.inl (vp_updL (vp_updL (vp_updL (vp_updL M (5 * y) ((L (5 * y)) ^^^ (lD L 0))) ((5 * y) + 1) ((L (5 * y + 1)) ^^^ (lD L 1))) ((5 * y) + 2) ((L (5 * y + 2)) ^^^ (lD L 2))) ((5 * y) + 3) ((L (5 * y + 3)) ^^^ (lD L 3))))))] H locs := C
        refine lv_aload_n hx hb dP_mixColumns_243 rfl (lv_at hl 11 rfl) ?_
        refine lv_iload hx hb dP_mixColumns_244 (lv_at hl 0 rfl) ?_
        refine lv_iconst (v := nI 4) hx hb dP_mixColumns_246 (by decide) ?_
        refine n_add S dP_mixColumns_247 ?_
        refine lv_dup2_11 hx hb dP_mixColumns_248 rfl rfl ?_
        refine n_lald S C 0 rfl (i := (5 * y) + 4) (by omega) (by decide) dP_mixColumns_249 ?_
        refine lv_topl (nm_r (e' := L (5 * y + 4)) (by rw [pk_uLn (by omega), pk_uLn (by omega), pk_uLn (by omega), pk_uLn (by omega)]; exact hM.2 _ (by omega)) ?_)
        refine lv_lload hx hb dP_mixColumns_250 (lv_at hl 1 rfl) ?_
        refine lv_lxor hx hb dP_mixColumns_252 ?_
        refine n_last S C 0 rfl (i := (5 * y) + 4) (by omega) (by decide) dP_mixColumns_253 (fun H locs C => ?_)
        replace C : Cx D ca s0 A s [(a, .inl (ca 2, 25, .inr (.inl (vp_updL (vp_updL (vp_updL (vp_updL (vp_updL M (5 * y) ((L (5 * y)) ^^^ (lD L 0))) ((5 * y) + 1) ((L (5 * y + 1)) ^^^ (lD L 1))) ((5 * y) + 2) ((L (5 * y + 2)) ^^^ (lD L 2))) ((5 * y) + 3) ((L (5 * y + 3)) ^^^ (lD L 3))) ((5 * y) + 4) ((L (5 * y + 4)) ^^^ (lD L 4))))))] H locs := C
        refine lv_iinc (k := 0) (v := nI (5 * (y + 1))) hx hb dP_mixColumns_254 hl rfl (n_inc5 _) (Nat.le_of_ble_eq_true rfl) rfl (fun ls hl => ?_)
        replace hl : lv_has ls 22 [(21, .int (nI (5 * (y + 1)))), (19, .long (lD L 4)), (17, .long (lD L 3)), (15, .long (lD L 2)), (13, .long (lD L 1)), (11, .long (lD L 0)), (9, .long (lC L 4)), (7, .long (lC L 3)), (5, .long (lC L 2)), (3, .long (lC L 1)), (1, .long (lC L 0)), (0, .ref (a))] := hl
        refine lv_goto (tgt := 194) hx hb dP_mixColumns_257 (by decide) ?_
        exact ih_lp194 (y + 1) _ _ _ _ (by omega) (by omega) (rowsDone_s hM (lTheta_row L y 0 (by decide)) (lTheta_row L y 1 (by decide)) (lTheta_row L y 2 (by decide)) (lTheta_row L y 3 (by decide)) (lTheta_row L y 4 (by decide))) C (lv_sub hl [0, 1, 2, 3, 4, 5, 6, 7, 8, 9, 10, 11] rfl)
  exact lp194 (5 + 1) 0 _ _ _ _ (by omega) (by omega) (rowsDone_0 _ _) C (lv_sub hl [0, 1, 2, 3, 4, 5, 6, 7, 8, 9, 10, 11] rfl)
abbrev rm_P_moveLanes : Room := { frames := 0, cells := 0, slots := 0, locals := 0 }
set_option maxHeartbeats 4000000 in
set_option maxRecDepth 100000 in
theorem c_P_moveLanes (l : Launch) (D : va_G) (ca : Nat → ClassId) (s0 : State) (a0 : Array Value) (Z : Wd a0 s0) (tz : Nat → Nat) (Zs : ZS tz s0) (a : Nat) (L : Nat → Int64) : CtV l yP_moveLanes [.code yP_moveLanes cP_moveLanes 8 none] rm_P_moveLanes 0 0 D ca s0 [.ref (a)] [(a, .inl (ca 2, 25, .inr (.inl (L))))] (S := Nat → Int64) (fun M => kEq (lb M) (kPi (kRho (lb L)))) (fun M => [(a, .inl (ca 2, 25, .inr (.inl M)))]) := by
  refine ctV_of (cc := cP_moveLanes) (maxL := 8) (own := RP) Z rfl (by decide) rfl (Nat.le_of_ble_eq_true rfl) ?_
  intro p e s m args below meth c A ls Q S hnm ret C hl
  have hx := S.1
  have hb := S.2.1
  have hown := S.2.2.2.1
  have hts := S.2.2.2.2
  generalize s.heap = H at C ⊢
  generalize ([] : List Loc) = locs at C ⊢
  replace hl : lv_has ls 8 [(0, .ref (a))] := hl
  refine lv_aload_n hx hb dP_moveLanes_0 rfl (lv_at hl 0 rfl) ?_
  refine lv_iconst (v := nI 1) hx hb dP_moveLanes_1 (by decide) ?_
  refine n_lald S C 0 rfl (i := 1) (by omega) (by decide) dP_moveLanes_2 ?_
  refine lv_lstore_n hx hb dP_moveLanes_3 rfl hl (Nat.le_of_ble_eq_true rfl) rfl (fun ls hl => ?_)
  replace hl : lv_has ls 8 [(1, .long (L 1)), (0, .ref (a))] := hl
  refine lv_iconst (v := nI 0) hx hb dP_moveLanes_4 (by decide) ?_
  refine lv_istore_n hx hb dP_moveLanes_5 rfl hl (Nat.le_of_ble_eq_true rfl) rfl (fun ls hl => ?_)
  replace hl : lv_has ls 8 [(3, .int (nI 0)), (1, .long (L 1)), (0, .ref (a))] := hl
  have lp6 : ∀ (nf : Nat) (t : Nat) (H : Heap) (locs : List Loc) (ls : Array Slot), 24 - t < nf → t ≤ 24 → Cx D ca s0 A s [(a, .inl (ca 2, 25, .inr (.inl (lMove L t))))] H locs → lv_has ls 8 [(3, .int (nI t)), (1, .long (L (lPrev t))), (0, .ref (a))] → W p l e rm_P_moveLanes s m args below meth c H locs 0 0 Q (F0 m 6 ls []) := by
    intro nf
    induction nf with
    | zero => intro t H locs ls hn; exact absurd hn (Nat.not_lt_zero _)
    | succ nf ih_lp6 =>
      intro t H locs ls hn lp6_le  C hl
      refine lv_iload_n hx hb dP_moveLanes_6 rfl (lv_at hl 0 rfl) ?_
      refine n_gets S C Zs.1 g_209 dP_moveLanes_7 ?_
      refine n_tlen S C Zs.1 dP_moveLanes_10 ?_
      refine n_icmp_ge (tgt := 59) S (by omega) (by omega) dP_moveLanes_11 (by decide) (fun hc11 => ?_) (fun hc11 => ?_)
      · skip
        exact ret (lMove L t) _ _ _ _ _ _ (Nat.le_refl _) (Nat.le_refl _) (by rw [show t = 24 by omega]; exact lMove_ok L) C dP_moveLanes_59
      · skip
        have hpk := pPath_ok t (by omega)
        refine n_gets S C Zs.1 g_209 dP_moveLanes_14 ?_
        refine lv_iload_n hx hb dP_moveLanes_17 rfl (lv_at hl 0 rfl) ?_
        refine n_tiald S C Zs.1 (i := t) (by omega) (by decide) rfl dP_moveLanes_18 ?_
        refine lv_istore hx hb dP_moveLanes_19 hl (Nat.le_of_ble_eq_true rfl) rfl (fun ls hl => ?_)
        replace hl : lv_has ls 8 [(4, .int (nI (pPath t))), (3, .int (nI t)), (1, .long (L (lPrev t))), (0, .ref (a))] := hl
        refine n_gets S C Zs.2.1 g_210 dP_moveLanes_21 ?_
        refine lv_iload_n hx hb dP_moveLanes_24 rfl (lv_at hl 1 rfl) ?_
        refine n_tiald S C Zs.2.1 (i := t) (by omega) (by decide) rfl dP_moveLanes_25 ?_
        refine lv_istore hx hb dP_moveLanes_26 hl (Nat.le_of_ble_eq_true rfl) rfl (fun ls hl => ?_)
        replace hl : lv_has ls 8 [(5, .int (nI (pTurn t))), (4, .int (nI (pPath t))), (3, .int (nI t)), (1, .long (L (lPrev t))), (0, .ref (a))] := hl
        refine lv_aload_n hx hb dP_moveLanes_28 rfl (lv_at hl 4 rfl) ?_
        refine lv_iload hx hb dP_moveLanes_29 (lv_at hl 1 rfl) ?_
        refine n_lald S C 0 rfl (i := pPath t) hpk.2.2.2.2.1 (by decide) dP_moveLanes_31 ?_
        refine lv_topl (nm_r (e' := L (pPath t)) (lMove_un L _ t (fun u hu e => absurd (pPath_inj u (by omega) t (by omega) e) (by omega))) ?_)
        refine lv_lstore hx hb dP_moveLanes_32 hl (Nat.le_of_ble_eq_true rfl) rfl (fun ls hl => ?_)
        replace hl : lv_has ls 8 [(6, .long (L (pPath t))), (5, .int (nI (pTurn t))), (4, .int (nI (pPath t))), (3, .int (nI t)), (1, .long (L (lPrev t))), (0, .ref (a))] := hl
        refine lv_aload_n hx hb dP_moveLanes_34 rfl (lv_at hl 5 rfl) ?_
        refine lv_iload hx hb dP_moveLanes_35 (lv_at hl 2 rfl) ?_
        refine lv_lload_n hx hb dP_moveLanes_37 rfl (lv_at hl 4 rfl) ?_
        refine lv_iload hx hb dP_moveLanes_38 (lv_at hl 1 rfl) ?_
        refine lv_lshl (v := lShl (L (lPrev t)) (pTurn t)) hx hb dP_moveLanes_40 rfl ?_
        refine lv_lload_n hx hb dP_moveLanes_41 rfl (lv_at hl 4 rfl) ?_
        refine lv_bipush (v := nI 64) hx hb dP_moveLanes_42 (by decide) ?_
        refine lv_iload hx hb dP_moveLanes_44 (lv_at hl 1 rfl) ?_
        refine n_sub S (by omega) dP_moveLanes_46 ?_
        refine lv_lushr (v := lShr (L (lPrev t)) (64 - (pTurn t))) hx hb dP_moveLanes_47 rfl ?_
        refine lv_lor hx hb dP_moveLanes_48 ?_
        refine lv_topl (nm_r (e' := lRot (L (lPrev t)) (pTurn t)) rfl ?_)
        refine n_last S C 0 rfl (i := pPath t) hpk.2.2.2.2.1 (by decide) dP_moveLanes_49 (fun H locs C => ?_)
        replace C : Cx D ca s0 A s [(a, .inl (ca 2, 25, .inr (.inl (vp_updL (lMove L t) (pPath t) (lRot (L (lPrev t)) (pTurn t))))))] H locs := C
        refine lv_lload hx hb dP_moveLanes_50 (lv_at hl 0 rfl) ?_
        refine lv_topl (nm_r (e' := L (lPrev (t + 1))) (congrArg L (lPrev_s t).symm) ?_)
        refine lv_lstore_n hx hb dP_moveLanes_52 rfl hl (Nat.le_of_ble_eq_true rfl) rfl (fun ls hl => ?_)
        replace hl : lv_has ls 8 [(1, .long (L (lPrev (t + 1)))), (6, .long (L (pPath t))), (5, .int (nI (pTurn t))), (4, .int (nI (pPath t))), (3, .int (nI t)), (0, .ref (a))] := hl
        refine lv_iinc (k := 4) (v := nI (t + 1)) hx hb dP_moveLanes_53 hl rfl (n_inc1 _) (Nat.le_of_ble_eq_true rfl) rfl (fun ls hl => ?_)
        replace hl : lv_has ls 8 [(3, .int (nI (t + 1))), (1, .long (L (lPrev (t + 1)))), (6, .long (L (pPath t))), (5, .int (nI (pTurn t))), (4, .int (nI (pPath t))), (0, .ref (a))] := hl
        refine lv_goto (tgt := 6) hx hb dP_moveLanes_56 (by decide) ?_
        exact ih_lp6 (t + 1) _ _ _ (by omega) (by omega) C (lv_sub hl [0, 1, 5] rfl)
  exact lp6 (24 + 1) 0 _ _ _ (by omega) (by omega) C (lv_sub hl [0, 1, 2] rfl)
abbrev rm_P_mixRows : Room := { frames := 0, cells := 0, slots := 0, locals := 0 }
set_option maxHeartbeats 4000000 in
set_option maxRecDepth 100000 in
theorem c_P_mixRows (l : Launch) (D : va_G) (ca : Nat → ClassId) (s0 : State) (a0 : Array Value) (Z : Wd a0 s0) (a : Nat) (L : Nat → Int64) : CtV l yP_mixRows [.code yP_mixRows cP_mixRows 12 none] rm_P_mixRows 0 0 D ca s0 [.ref (a)] [(a, .inl (ca 2, 25, .inr (.inl (L))))] (S := Nat → Int64) (fun M => kEq (lb M) (kChi (lb L))) (fun M => [(a, .inl (ca 2, 25, .inr (.inl M)))]) := by
  refine ctV_of (cc := cP_mixRows) (maxL := 12) (own := RP) Z rfl (by decide) rfl (Nat.le_of_ble_eq_true rfl) ?_
  intro p e s m args below meth c A ls Q S hnm ret C hl
  have hx := S.1
  have hb := S.2.1
  have hown := S.2.2.2.1
  have hts := S.2.2.2.2
  generalize s.heap = H at C ⊢
  generalize ([] : List Loc) = locs at C ⊢
  replace hl : lv_has ls 12 [(0, .ref (a))] := hl
  refine lv_iconst (v := nI 0) hx hb dP_mixRows_0 (by decide) ?_
  refine lv_istore_n hx hb dP_mixRows_1 rfl hl (Nat.le_of_ble_eq_true rfl) rfl (fun ls hl => ?_)
  replace hl : lv_has ls 12 [(1, .int (nI 0)), (0, .ref (a))] := hl
  have lp2 : ∀ (nf : Nat) (y : Nat) (M : Nat → Int64) (H : Heap) (locs : List Loc) (ls : Array Slot), 5 - y < nf → y ≤ 5 → rowsDone (lChi L) L M y → Cx D ca s0 A s [(a, .inl (ca 2, 25, .inr (.inl (M))))] H locs → lv_has ls 12 [(1, .int (nI (5 * y))), (0, .ref (a))] → W p l e rm_P_mixRows s m args below meth c H locs 0 0 Q (F0 m 2 ls []) := by
    intro nf
    induction nf with
    | zero => intro y M H locs ls hn; exact absurd hn (Nat.not_lt_zero _)
    | succ nf ih_lp2 =>
      intro y M H locs ls hn lp2_le hM C hl
      refine lv_iload_n hx hb dP_mixRows_2 rfl (lv_at hl 0 rfl) ?_
      refine lv_bipush (v := nI 25) hx hb dP_mixRows_3 (by decide) ?_
      refine n_icmp_ge (tgt := 126) S (by omega) (by omega) dP_mixRows_5 (by decide) (fun hc5 => ?_) (fun hc5 => ?_)
      · skip
        exact ret M _ _ _ _ _ _ (Nat.le_refl _) (Nat.le_refl _) ((rd_end (eq_of_le (show 5 ≤ y by omega) lp2_le ▸ hM)).tr (lChi_ok L)) C dP_mixRows_126
      · skip
        refine lv_aload_n hx hb dP_mixRows_8 rfl (lv_at hl 1 rfl) ?_
        refine lv_iload_n hx hb dP_mixRows_9 rfl (lv_at hl 0 rfl) ?_
        refine n_lald S C 0 rfl (i := 5 * y) (by omega) (by decide) dP_mixRows_10 ?_
        refine lv_topl (nm_r (e' := L (5 * y)) (hM.2 _ (by omega)) ?_)
        refine lv_lstore_n hx hb dP_mixRows_11 rfl hl (Nat.le_of_ble_eq_true rfl) rfl (fun ls hl => ?_)
        replace hl : lv_has ls 12 [(2, .long (L (5 * y))), (1, .int (nI (5 * y))), (0, .ref (a))] := hl
        refine lv_aload_n hx hb dP_mixRows_12 rfl (lv_at hl 2 rfl) ?_
        refine lv_iload_n hx hb dP_mixRows_13 rfl (lv_at hl 1 rfl) ?_
        refine lv_iconst (v := nI 1) hx hb dP_mixRows_14 (by decide) ?_
        refine n_add S dP_mixRows_15 ?_
        refine n_lald S C 0 rfl (i := (5 * y) + 1) (by omega) (by decide) dP_mixRows_16 ?_
        refine lv_topl (nm_r (e' := L (5 * y + 1)) (hM.2 _ (by omega)) ?_)
        refine lv_lstore hx hb dP_mixRows_17 hl (Nat.le_of_ble_eq_true rfl) rfl (fun ls hl => ?_)
        replace hl : lv_has ls 12 [(4, .long (L (5 * y + 1))), (2, .long (L (5 * y))), (1, .int (nI (5 * y))), (0, .ref (a))] := hl
        refine lv_aload_n hx hb dP_mixRows_19 rfl (lv_at hl 3 rfl) ?_
        refine lv_iload_n hx hb dP_mixRows_20 rfl (lv_at hl 2 rfl) ?_
        refine lv_iconst (v := nI 2) hx hb dP_mixRows_21 (by decide) ?_
        refine n_add S dP_mixRows_22 ?_
        refine n_lald S C 0 rfl (i := (5 * y) + 2) (by omega) (by decide) dP_mixRows_23 ?_
        refine lv_topl (nm_r (e' := L (5 * y + 2)) (hM.2 _ (by omega)) ?_)
        refine lv_lstore hx hb dP_mixRows_24 hl (Nat.le_of_ble_eq_true rfl) rfl (fun ls hl => ?_)
        replace hl : lv_has ls 12 [(6, .long (L (5 * y + 2))), (4, .long (L (5 * y + 1))), (2, .long (L (5 * y))), (1, .int (nI (5 * y))), (0, .ref (a))] := hl
        refine lv_aload_n hx hb dP_mixRows_26 rfl (lv_at hl 4 rfl) ?_
        refine lv_iload_n hx hb dP_mixRows_27 rfl (lv_at hl 3 rfl) ?_
        refine lv_iconst (v := nI 3) hx hb dP_mixRows_28 (by decide) ?_
        refine n_add S dP_mixRows_29 ?_
        refine n_lald S C 0 rfl (i := (5 * y) + 3) (by omega) (by decide) dP_mixRows_30 ?_
        refine lv_topl (nm_r (e' := L (5 * y + 3)) (hM.2 _ (by omega)) ?_)
        refine lv_lstore hx hb dP_mixRows_31 hl (Nat.le_of_ble_eq_true rfl) rfl (fun ls hl => ?_)
        replace hl : lv_has ls 12 [(8, .long (L (5 * y + 3))), (6, .long (L (5 * y + 2))), (4, .long (L (5 * y + 1))), (2, .long (L (5 * y))), (1, .int (nI (5 * y))), (0, .ref (a))] := hl
        refine lv_aload_n hx hb dP_mixRows_33 rfl (lv_at hl 5 rfl) ?_
        refine lv_iload_n hx hb dP_mixRows_34 rfl (lv_at hl 4 rfl) ?_
        refine lv_iconst (v := nI 4) hx hb dP_mixRows_35 (by decide) ?_
        refine n_add S dP_mixRows_36 ?_
        refine n_lald S C 0 rfl (i := (5 * y) + 4) (by omega) (by decide) dP_mixRows_37 ?_
        refine lv_topl (nm_r (e' := L (5 * y + 4)) (hM.2 _ (by omega)) ?_)
        refine lv_lstore hx hb dP_mixRows_38 hl (Nat.le_of_ble_eq_true rfl) rfl (fun ls hl => ?_)
        replace hl : lv_has ls 12 [(10, .long (L (5 * y + 4))), (8, .long (L (5 * y + 3))), (6, .long (L (5 * y + 2))), (4, .long (L (5 * y + 1))), (2, .long (L (5 * y))), (1, .int (nI (5 * y))), (0, .ref (a))] := hl
        refine lv_aload_n hx hb dP_mixRows_40 rfl (lv_at hl 6 rfl) ?_
        refine lv_iload_n hx hb dP_mixRows_41 rfl (lv_at hl 5 rfl) ?_
        refine lv_lload_n hx hb dP_mixRows_42 rfl (lv_at hl 4 rfl) ?_
        refine lv_lload hx hb dP_mixRows_43 (lv_at hl 3 rfl) ?_
        refine lv_ldc2 (v := -1) hx hb hown (hts _ g_214) dP_mixRows_45 ?_
        refine lv_lxor hx hb dP_mixRows_48 ?_
        refine lv_lload hx hb dP_mixRows_49 (lv_at hl 2 rfl) ?_
        refine lv_land hx hb dP_mixRows_51 ?_
        refine lv_lxor hx hb dP_mixRows_52 ?_
        refine n_last S C 0 rfl (i := 5 * y) (by omega) (by decide) dP_mixRows_53 (fun H locs C => ?_)
        replace C : Cx D ca s0 A s [(a, .inl (ca 2, 25, .inr (.inl (vp_updL M (5 * y) ((L (5 * y)) ^^^ (((L (5 * y + 1)) ^^^ ((-1))) &&& (L (5 * y + 2))))))))] H locs := C
        refine lv_aload_n hx hb dP_mixRows_54 rfl (lv_at hl 6 rfl) ?_
        refine lv_iload_n hx hb dP_mixRows_55 rfl (lv_at hl 5 rfl) ?_
        refine lv_iconst (v := nI 1) hx hb dP_mixRows_56 (by decide) ?_
        refine n_add S dP_mixRows_57 ?_
        refine lv_lload hx hb dP_mixRows_58 (lv_at hl 3 rfl) ?_
        refine lv_lload hx hb dP_mixRows_60 (lv_at hl 2 rfl) ?_
        refine lv_ldc2 (v := -1) hx hb hown (hts _ g_214) dP_mixRows_62 ?_
        refine lv_lxor hx hb dP_mixRows_65 ?_
        refine lv_lload hx hb dP_mixRows_66 (lv_at hl 1 rfl) ?_
        refine lv_land hx hb dP_mixRows_68 ?_
        refine lv_lxor hx hb dP_mixRows_69 ?_
        refine n_last S C 0 rfl (i := (5 * y) + 1) (by omega) (by decide) dP_mixRows_70 (fun H locs C => ?_)
        replace C : Cx D ca s0 A s [(a, .inl (ca 2, 25, .inr (.inl (vp_updL (vp_updL M (5 * y) ((L (5 * y)) ^^^ (((L (5 * y + 1)) ^^^ ((-1))) &&& (L (5 * y + 2))))) ((5 * y) + 1) ((L (5 * y + 1)) ^^^ (((L (5 * y + 2)) ^^^ ((-1))) &&& (L (5 * y + 3))))))))] H locs := C
        refine lv_aload_n hx hb dP_mixRows_71 rfl (lv_at hl 6 rfl) ?_
        refine lv_iload_n hx hb dP_mixRows_72 rfl (lv_at hl 5 rfl) ?_
        refine lv_iconst (v := nI 2) hx hb dP_mixRows_73 (by decide) ?_
        refine n_add S dP_mixRows_74 ?_
        refine lv_lload hx hb dP_mixRows_75 (lv_at hl 2 rfl) ?_
        refine lv_lload hx hb dP_mixRows_77 (lv_at hl 1 rfl) ?_
        refine lv_ldc2 (v := -1) hx hb hown (hts _ g_214) dP_mixRows_79 ?_
        refine lv_lxor hx hb dP_mixRows_82 ?_
        refine lv_lload hx hb dP_mixRows_83 (lv_at hl 0 rfl) ?_
        refine lv_land hx hb dP_mixRows_85 ?_
        refine lv_lxor hx hb dP_mixRows_86 ?_
        refine n_last S C 0 rfl (i := (5 * y) + 2) (by omega) (by decide) dP_mixRows_87 (fun H locs C => ?_)
        replace C : Cx D ca s0 A s [(a, .inl (ca 2, 25, .inr (.inl (vp_updL (vp_updL (vp_updL M (5 * y) ((L (5 * y)) ^^^ (((L (5 * y + 1)) ^^^ ((-1))) &&& (L (5 * y + 2))))) ((5 * y) + 1) ((L (5 * y + 1)) ^^^ (((L (5 * y + 2)) ^^^ ((-1))) &&& (L (5 * y + 3))))) ((5 * y) + 2) ((L (5 * y + 2)) ^^^ (((L (5 * y + 3)) ^^^ ((-1))) &&& (L (5 * y + 4))))))))] H locs := C
        refine lv_aload_n hx hb dP_mixRows_88 rfl (lv_at hl 6 rfl) ?_
        refine lv_iload_n hx hb dP_mixRows_89 rfl (lv_at hl 5 rfl) ?_
        refine lv_iconst (v := nI 3) hx hb dP_mixRows_90 (by decide) ?_
        refine n_add S dP_mixRows_91 ?_
        refine lv_lload hx hb dP_mixRows_92 (lv_at hl 1 rfl) ?_
        refine lv_lload hx hb dP_mixRows_94 (lv_at hl 0 rfl) ?_
        refine lv_ldc2 (v := -1) hx hb hown (hts _ g_214) dP_mixRows_96 ?_
        refine lv_lxor hx hb dP_mixRows_99 ?_
        refine lv_lload_n hx hb dP_mixRows_100 rfl (lv_at hl 4 rfl) ?_
        refine lv_land hx hb dP_mixRows_101 ?_
        refine lv_lxor hx hb dP_mixRows_102 ?_
        refine n_last S C 0 rfl (i := (5 * y) + 3) (by omega) (by decide) dP_mixRows_103 (fun H locs C => ?_)
        replace C : Cx D ca s0 A s [(a, .inl (ca 2, 25, .inr (.inl (vp_updL (vp_updL (vp_updL (vp_updL M (5 * y) ((L (5 * y)) ^^^ (((L (5 * y + 1)) ^^^ ((-1))) &&& (L (5 * y + 2))))) ((5 * y) + 1) ((L (5 * y + 1)) ^^^ (((L (5 * y + 2)) ^^^ ((-1))) &&& (L (5 * y + 3))))) ((5 * y) + 2) ((L (5 * y + 2)) ^^^ (((L (5 * y + 3)) ^^^ ((-1))) &&& (L (5 * y + 4))))) ((5 * y) + 3) ((L (5 * y + 3)) ^^^ (((L (5 * y + 4)) ^^^ ((-1))) &&& (L (5 * y))))))))] H locs := C
        refine lv_aload_n hx hb dP_mixRows_104 rfl (lv_at hl 6 rfl) ?_
        refine lv_iload_n hx hb dP_mixRows_105 rfl (lv_at hl 5 rfl) ?_
        refine lv_iconst (v := nI 4) hx hb dP_mixRows_106 (by decide) ?_
        refine n_add S dP_mixRows_107 ?_
        refine lv_lload hx hb dP_mixRows_108 (lv_at hl 0 rfl) ?_
        refine lv_lload_n hx hb dP_mixRows_110 rfl (lv_at hl 4 rfl) ?_
        refine lv_ldc2 (v := -1) hx hb hown (hts _ g_214) dP_mixRows_111 ?_
        refine lv_lxor hx hb dP_mixRows_114 ?_
        refine lv_lload hx hb dP_mixRows_115 (lv_at hl 3 rfl) ?_
        refine lv_land hx hb dP_mixRows_117 ?_
        refine lv_lxor hx hb dP_mixRows_118 ?_
        refine n_last S C 0 rfl (i := (5 * y) + 4) (by omega) (by decide) dP_mixRows_119 (fun H locs C => ?_)
        replace C : Cx D ca s0 A s [(a, .inl (ca 2, 25, .inr (.inl (vp_updL (vp_updL (vp_updL (vp_updL (vp_updL M (5 * y) ((L (5 * y)) ^^^ (((L (5 * y + 1)) ^^^ ((-1))) &&& (L (5 * y + 2))))) ((5 * y) + 1) ((L (5 * y + 1)) ^^^ (((L (5 * y + 2)) ^^^ ((-1))) &&& (L (5 * y + 3))))) ((5 * y) + 2) ((L (5 * y + 2)) ^^^ (((L (5 * y + 3)) ^^^ ((-1))) &&& (L (5 * y + 4))))) ((5 * y) + 3) ((L (5 * y + 3)) ^^^ (((L (5 * y + 4)) ^^^ ((-1))) &&& (L (5 * y))))) ((5 * y) + 4) ((L (5 * y + 4)) ^^^ (((L (5 * y)) ^^^ ((-1))) &&& (L (5 * y + 1))))))))] H locs := C
        refine lv_iinc (k := 5) (v := nI (5 * (y + 1))) hx hb dP_mixRows_120 hl rfl (n_inc5 _) (Nat.le_of_ble_eq_true rfl) rfl (fun ls hl => ?_)
        replace hl : lv_has ls 12 [(1, .int (nI (5 * (y + 1)))), (10, .long (L (5 * y + 4))), (8, .long (L (5 * y + 3))), (6, .long (L (5 * y + 2))), (4, .long (L (5 * y + 1))), (2, .long (L (5 * y))), (0, .ref (a))] := hl
        refine lv_goto (tgt := 2) hx hb dP_mixRows_123 (by decide) ?_
        exact ih_lp2 (y + 1) _ _ _ _ (by omega) (by omega) (rowsDone_s hM (lChi_row L y 0 1 2 (by decide) rfl rfl) (lChi_row L y 1 2 3 (by decide) rfl rfl) (lChi_row L y 2 3 4 (by decide) rfl rfl) (lChi_row L y 3 4 0 (by decide) rfl rfl) (lChi_row L y 4 0 1 (by decide) rfl rfl)) C (lv_sub hl [0, 6] rfl)
  exact lp2 (5 + 1) 0 _ _ _ _ (by omega) (by omega) (rowsDone_0 _ _) C (lv_sub hl [0, 1] rfl)
abbrev rm_S_permute : Room := { frames := 1, cells := 0, slots := 0, locals := 41 }
set_option maxHeartbeats 4000000 in
set_option maxRecDepth 100000 in
theorem c_S_permute (l : Launch) (D : va_G) (ca : Nat → ClassId) (s0 : State) (a0 : Array Value) (Z : Wd a0 s0) (tz : Nat → Nat) (Zs : ZS tz s0) (h b : Nat) (L : Nat → Int64) (kd wd pl en tk dn rm : Int32) (B : Nat → Bool) (hL : kEq (lb L) B) : CtV l yS_permute [.code yS_permute cS_permute 2 none] rm_S_permute 0 0 D ca s0 [.ref (h)] [(h, .inr (1, [.ref (b), .int (kd), .int (wd), .int (pl), .int (en), .int (tk), .int (dn), .int (rm)])), (b, .inl (ca 2, 25, .inr (.inl (L))))] (S := Nat → Int64) (fun M => kEq (lb M) (kecc B)) (fun M => [(h, .inr (1, [.ref (b), .int (kd), .int (wd), .int (nI 0), .int (en), .int (tk), .int (dn), .int (rm)])), (b, .inl (ca 2, 25, .inr (.inl M)))]) := by
  refine ctV_of (cc := cS_permute) (maxL := 2) (own := RS) Z rfl (by decide) rfl (Nat.le_of_ble_eq_true rfl) ?_
  intro p e s m args below meth c A ls Q S hnm ret C hl
  have hx := S.1
  have hb := S.2.1
  have hown := S.2.2.2.1
  have hts := S.2.2.2.2
  generalize s.heap = H at C ⊢
  generalize ([] : List Loc) = locs at C ⊢
  replace hl : lv_has ls 2 [(0, .ref (h))] := hl
  refine lv_iconst (v := nI 0) hx hb dS_permute_0 (by decide) ?_
  refine lv_istore_n hx hb dS_permute_1 rfl hl (Nat.le_of_ble_eq_true rfl) rfl (fun ls hl => ?_)
  replace hl : lv_has ls 2 [(1, .int (nI 0)), (0, .ref (h))] := hl
  have lp2 : ∀ (nf : Nat) (r : Nat) (M : Nat → Int64) (H : Heap) (locs : List Loc) (ls : Array Slot), 24 - r < nf → r ≤ 24 → kEq (lb M) (kRounds B r) → Cx D ca s0 A s [(h, .inr (1, [.ref (b), .int (kd), .int (wd), .int (pl), .int (en), .int (tk), .int (dn), .int (rm)])), (b, .inl (ca 2, 25, .inr (.inl (M))))] H locs → lv_has ls 2 [(1, .int (nI r)), (0, .ref (h))] → W p l e rm_S_permute s m args below meth c H locs 0 0 Q (F0 m 2 ls []) := by
    intro nf
    induction nf with
    | zero => intro r M H locs ls hn; exact absurd hn (Nat.not_lt_zero _)
    | succ nf ih_lp2 =>
      intro r M H locs ls hn lp2_le hR C hl
      refine lv_iload_n hx hb dS_permute_2 rfl (lv_at hl 0 rfl) ?_
      refine lv_bipush (v := nI 24) hx hb dS_permute_3 (by decide) ?_
      refine n_icmp_ge (tgt := 49) S (by omega) (by omega) dS_permute_5 (by decide) (fun hc5 => ?_) (fun hc5 => ?_)
      · skip
        refine lv_aload_n hx hb dS_permute_49 rfl (lv_at hl 1 rfl) ?_
        refine lv_iconst (v := nI 0) hx hb dS_permute_50 (by decide) ?_
        refine n_put S C hin_S tyS tyS_ok nmS 0 rfl rfl 3 (by decide) g_76 rfl rfl rfl rfl (Nat.le_of_ble_eq_true rfl) dS_permute_51 (fun H locs C => ?_)
        replace C : Cx D ca s0 A s [(h, .inr (1, [.ref (b), .int (kd), .int (wd), .int (nI 0), .int (en), .int (tk), .int (dn), .int (rm)])), (b, .inl (ca 2, 25, .inr (.inl (M))))] H locs := C
        exact ret M _ _ _ _ _ _ (Nat.le_refl _) (Nat.le_refl _) (by have hz := hR; rw [show r = 24 by omega] at hz; exact hz) C dS_permute_54
      · skip
        refine lv_aload_n hx hb dS_permute_8 rfl (lv_at hl 1 rfl) ?_
        refine n_get S C hin_S 0 rfl rfl 0 (by decide) g_73 rfl dS_permute_9 ?_
        refine n_callV (wc := [(b, .inl (ca 2, 25, .inr (.inl (M))))]) (wr := [(h, .inr (1, [.ref (b), .int (kd), .int (wd), .int (pl), .int (en), .int (tk), .int (dn), .int (rm)]))]) C [1] [0] rfl rfl rfl rfl (by decide) (fun hp => va_runS (rest := []) S (c_P_mixColumns l D ca s0 a0 Z b M _) (va_cwS 1 hts (gT g_203 g_204 g_41 g_205) rfl rfl rfl (by decide +kernel) ⟨Nat.le_of_ble_eq_true rfl, Nat.le_of_ble_eq_true rfl⟩) hp rfl rfl hl.1 rfl (lv_room (Nat.le_of_ble_eq_true rfl)) dS_permute_12 ⟨Nat.le_of_ble_eq_true rfl, Nat.le_of_ble_eq_true rfl⟩) (fun u H locs hp C => ?_)
        replace C : Cx D ca s0 A s [(h, .inr (1, [.ref (b), .int (kd), .int (wd), .int (pl), .int (en), .int (tk), .int (dn), .int (rm)])), (b, .inl (ca 2, 25, .inr (.inl (u))))] H locs := C.re [0, 1] rfl rfl
        obtain ⟨M1, rfl⟩ : ∃ z, z = u := ⟨_, rfl⟩
        have h1 := hp
        refine lv_aload_n hx hb dS_permute_15 rfl (lv_at hl 1 rfl) ?_
        refine n_get S C hin_S 0 rfl rfl 0 (by decide) g_73 rfl dS_permute_16 ?_
        refine n_callV (wc := [(b, .inl (ca 2, 25, .inr (.inl (M1))))]) (wr := [(h, .inr (1, [.ref (b), .int (kd), .int (wd), .int (pl), .int (en), .int (tk), .int (dn), .int (rm)]))]) C [1] [0] rfl rfl rfl rfl (by decide) (fun hp => va_runS (rest := []) S (c_P_moveLanes l D ca s0 a0 Z tz Zs b M1 _) (va_cwS 1 hts (gT g_206 g_207 g_41 g_208) rfl rfl rfl (by decide +kernel) ⟨Nat.le_of_ble_eq_true rfl, Nat.le_of_ble_eq_true rfl⟩) hp rfl rfl hl.1 rfl (lv_room (Nat.le_of_ble_eq_true rfl)) dS_permute_19 ⟨Nat.le_of_ble_eq_true rfl, Nat.le_of_ble_eq_true rfl⟩) (fun u H locs hp C => ?_)
        replace C : Cx D ca s0 A s [(h, .inr (1, [.ref (b), .int (kd), .int (wd), .int (pl), .int (en), .int (tk), .int (dn), .int (rm)])), (b, .inl (ca 2, 25, .inr (.inl (u))))] H locs := C.re [0, 1] rfl rfl
        obtain ⟨M2, rfl⟩ : ∃ z, z = u := ⟨_, rfl⟩
        have h2 := hp
        refine lv_aload_n hx hb dS_permute_22 rfl (lv_at hl 1 rfl) ?_
        refine n_get S C hin_S 0 rfl rfl 0 (by decide) g_73 rfl dS_permute_23 ?_
        refine n_callV (wc := [(b, .inl (ca 2, 25, .inr (.inl (M2))))]) (wr := [(h, .inr (1, [.ref (b), .int (kd), .int (wd), .int (pl), .int (en), .int (tk), .int (dn), .int (rm)]))]) C [1] [0] rfl rfl rfl rfl (by decide) (fun hp => va_runS (rest := []) S (c_P_mixRows l D ca s0 a0 Z b M2 _) (va_cwS 1 hts (gT g_211 g_212 g_41 g_213) rfl rfl rfl (by decide +kernel) ⟨Nat.le_of_ble_eq_true rfl, Nat.le_of_ble_eq_true rfl⟩) hp rfl rfl hl.1 rfl (lv_room (Nat.le_of_ble_eq_true rfl)) dS_permute_26 ⟨Nat.le_of_ble_eq_true rfl, Nat.le_of_ble_eq_true rfl⟩) (fun u H locs hp C => ?_)
        replace C : Cx D ca s0 A s [(h, .inr (1, [.ref (b), .int (kd), .int (wd), .int (pl), .int (en), .int (tk), .int (dn), .int (rm)])), (b, .inl (ca 2, 25, .inr (.inl (u))))] H locs := C.re [0, 1] rfl rfl
        obtain ⟨M3, rfl⟩ : ∃ z, z = u := ⟨_, rfl⟩
        have h3 := hp
        refine lv_aload_n hx hb dS_permute_29 rfl (lv_at hl 1 rfl) ?_
        refine n_get S C hin_S 0 rfl rfl 0 (by decide) g_73 rfl dS_permute_30 ?_
        refine lv_iconst (v := nI 0) hx hb dS_permute_33 (by decide) ?_
        refine lv_dup2_11 hx hb dS_permute_34 rfl rfl ?_
        refine n_lald S C 1 rfl (i := 0) (by omega) (by decide) dS_permute_35 ?_
        refine n_getsN S C Z Zs.2.2.1 t_8 dS_permute_36 ?_
        refine lv_iload_n hx hb dS_permute_39 rfl (lv_at hl 0 rfl) ?_
        refine n_tlald S C Zs.2.2.1 (i := r) (by omega) (by decide) rfl dS_permute_40 ?_
        refine lv_lxor hx hb dS_permute_41 ?_
        refine n_last S C 1 rfl (i := 0) (by omega) (by decide) dS_permute_42 (fun H locs C => ?_)
        replace C : Cx D ca s0 A s [(h, .inr (1, [.ref (b), .int (kd), .int (wd), .int (pl), .int (en), .int (tk), .int (dn), .int (rm)])), (b, .inl (ca 2, 25, .inr (.inl (vp_updL M3 0 ((M3 0) ^^^ (pRc r))))))] H locs := C
        refine lv_iinc (k := 0) (v := nI (r + 1)) hx hb dS_permute_43 hl rfl (n_inc1 _) (Nat.le_of_ble_eq_true rfl) rfl (fun ls hl => ?_)
        replace hl : lv_has ls 2 [(1, .int (nI (r + 1))), (0, .ref (h))] := hl
        refine lv_goto (tgt := 2) hx hb dS_permute_46 (by decide) ?_
        exact ih_lp2 (r + 1) _ _ _ _ (by omega) (by omega) (lRound_ok (A := M) (by omega) hR h1 h2 h3) C (lv_sub hl [0, 1] rfl)
  exact lp2 (24 + 1) 0 _ _ _ _ (by omega) (by omega) hL C (lv_sub hl [0, 1] rfl)
