/-- one turn of the loop of Reader.readClass: X says what must hold at its head again -/
def wt_Reader_readClass_1 (n1 n2 : Nat) (X : mm_i → mm_j → mm_a → mm_b → Int32 → Int32 → Int32 → Prop) (i : mm_i) (l : mm_j) (a : mm_a) (b : mm_b) (z1 : Int32) (z2 : Int32) (z3 : Int32) (K : Int32 → mm_i → mm_j → mm_a → mm_b → Prop) : Prop :=
  ((32 : Int32) ≤ z3 → (z2 = 0 → wp_Reader_refuse_1 n1 n2 i l a b (fun r1 i1 l1 a1 b1 => K r1 i1 l1 a1 b1)) ∧ (¬ z2 = 0 → wp_Reader_ahead_1 n1 n2 i l a b 0 (fun r2 i2 l2 a2 b2 => (r2 = (93 : Int32) → (z1 = 0 → wp_Reader_appendItem_1 n1 n2 (upd i2 23 ((i2 23) + (1 : Int32))) l2 a2 b2 0 z2 (fun r3 i3 l3 a3 b3 => K r3 i3 l3 a3 b3)) ∧ (¬ z1 = 0 → wp_Reader_appendItem_1 n1 n2 (upd i2 23 ((i2 23) + (1 : Int32))) l2 a2 b2 0 ((67108863 : Int32) &&& (z2 ^^^ ((-1) : Int32))) (fun r4 i4 l4 a4 b4 => K r4 i4 l4 a4 b4))) ∧ (¬ r2 = (93 : Int32) → wp_Reader_refuse_1 n1 n2 i2 l2 a2 b2 (fun r5 i5 l5 a5 b5 => K r5 i5 l5 a5 b5))))) ∧ (¬ (32 : Int32) ≤ z3 → ((i 26) = 0 → (z2 = 0 → wp_Reader_refuse_1 n1 n2 i l a b (fun r6 i6 l6 a6 b6 => K r6 i6 l6 a6 b6)) ∧ (¬ z2 = 0 → wp_Reader_ahead_1 n1 n2 i l a b 0 (fun r7 i7 l7 a7 b7 => (r7 = (93 : Int32) → (z1 = 0 → wp_Reader_appendItem_1 n1 n2 (upd i7 23 ((i7 23) + (1 : Int32))) l7 a7 b7 0 z2 (fun r8 i8 l8 a8 b8 => K r8 i8 l8 a8 b8)) ∧ (¬ z1 = 0 → wp_Reader_appendItem_1 n1 n2 (upd i7 23 ((i7 23) + (1 : Int32))) l7 a7 b7 0 ((67108863 : Int32) &&& (z2 ^^^ ((-1) : Int32))) (fun r9 i9 l9 a9 b9 => K r9 i9 l9 a9 b9))) ∧ (¬ r7 = (93 : Int32) → wp_Reader_refuse_1 n1 n2 i7 l7 a7 b7 (fun r10 i10 l10 a10 b10 => K r10 i10 l10 a10 b10))))) ∧ (¬ (i 26) = 0 → wp_Reader_ahead_1 n1 n2 i l a b 0 (fun r11 i11 l11 a11 b11 => wp_Bench_isLetter n1 n2 i11 l11 a11 b11 r11 (fun r12 i12 l12 a12 b12 => (r12 = 0 → (z2 = 0 → wp_Reader_refuse_1 n1 n2 i12 l12 a12 b12 (fun r13 i13 l13 a13 b13 => K r13 i13 l13 a13 b13)) ∧ (¬ z2 = 0 → wp_Reader_ahead_1 n1 n2 i12 l12 a12 b12 0 (fun r14 i14 l14 a14 b14 => (r14 = (93 : Int32) → (z1 = 0 → wp_Reader_appendItem_1 n1 n2 (upd i14 23 ((i14 23) + (1 : Int32))) l14 a14 b14 0 z2 (fun r15 i15 l15 a15 b15 => K r15 i15 l15 a15 b15)) ∧ (¬ z1 = 0 → wp_Reader_appendItem_1 n1 n2 (upd i14 23 ((i14 23) + (1 : Int32))) l14 a14 b14 0 ((67108863 : Int32) &&& (z2 ^^^ ((-1) : Int32))) (fun r16 i16 l16 a16 b16 => K r16 i16 l16 a16 b16))) ∧ (¬ r14 = (93 : Int32) → wp_Reader_refuse_1 n1 n2 i14 l14 a14 b14 (fun r17 i17 l17 a17 b17 => K r17 i17 l17 a17 b17))))) ∧ (¬ r12 = 0 → wp_Reader_readClassPart_1 n1 n2 i12 l12 a12 b12 (fun r18 i18 l18 a18 b18 => X i18 l18 a18 b18 z1 (z2 ||| r18) (z3 + 1)))))))
def wl_Reader_readClass_1 (n1 n2 : Nat) (K : Int32 → mm_i → mm_j → mm_a → mm_b → Prop) : Nat → mm_i → mm_j → mm_a → mm_b → Int32 → Int32 → Int32 → Prop
  | 0 => fun _ _ _ _ _ _ _ => False
  | n + 1 => fun i l a b z1 z2 z3 => wt_Reader_readClass_1 n1 n2 (wl_Reader_readClass_1 n1 n2 K n) i l a b z1 z2 z3 K
def wp_Reader_readClass_1 (n1 n2 : Nat) (i : mm_i) (l : mm_j) (a : mm_a) (b : mm_b)  (K : Int32 → mm_i → mm_j → mm_a → mm_b → Prop) : Prop :=
  wp_Reader_ahead_1 n1 n2 i l a b 1 (fun r1 i1 l1 a1 b1 => (¬ r1 = (94 : Int32) → ∃ n, wl_Reader_readClass_1 n1 n2 K n (upd i1 23 ((i1 23) + (1 : Int32))) l1 a1 b1 0 0 0) ∧ (r1 = (94 : Int32) → ∃ n, wl_Reader_readClass_1 n1 n2 K n (upd i1 23 ((i1 23) + (2 : Int32))) l1 a1 b1 1 0 0))
set_option maxRecDepth 100000 in
set_option maxHeartbeats 4000000 in
theorem vt_Reader_readClass_1 {n1 n2 k0 : Nat} {t : mm_H} {K : Int32 → mm_i → mm_j → mm_a → mm_b → Prop} {X : mm_i → mm_j → mm_a → mm_b → Int32 → Int32 → Int32 → Prop} (hX : ∀ {i l a b z1 z2 z3}, X i l a b z1 z2 z3 → mm_V M_Reader_readClass 3 k0 (mm_PI n1 n2 t K) 0 0 38 [some (.ref 1), some (.int z1), some (.int z2), some (.int z3)] [] (Wd 4 22 n1 n2 i l a b ++ t)) {i : mm_i} {l : mm_j} {a : mm_a} {b : mm_b} {z1 : Int32} {z2 : Int32} {z3 : Int32} (h : wt_Reader_readClass_1 n1 n2 X i l a b z1 z2 z3 K) : mm_V M_Reader_readClass 3 k0 (mm_PI n1 n2 t K) 0 0 38 [some (.ref 1), some (.int z1), some (.int z2), some (.int z3)] [] (Wd 4 22 n1 n2 i l a b ++ t) := by
  unfold wt_Reader_readClass_1 at h
  refine mm_iload_n (M := M_Reader_readClass) d_Reader_readClass_38 rfl ?_
  refine mm_bipush (M := M_Reader_readClass) (v := 32) d_Reader_readClass_39 (by decide) ?_
  refine mm_icmp_ge (M := M_Reader_readClass) 75 d_Reader_readClass_41 (by decide) (fun c => ?_) (fun c => ?_)
  · have h := h.1 c
    refine mm_iload_n (M := M_Reader_readClass) d_Reader_readClass_75 rfl ?_
    refine mm_if_eq (M := M_Reader_readClass) 89 d_Reader_readClass_76 (by decide) (fun c => ?_) (fun c => ?_)
    · have h := h.1 c
      refine mm_aload_n (M := M_Reader_readClass) d_Reader_readClass_89 rfl ?_
      refine mm_eqs (st2 := [].reverse ++ .ref 1 :: []) rfl ?_
      refine mm_callV (M := M_Reader_readClass) (y := y_Reader_refuse) (M' := M_Reader_refuse) (d' := 0) (kc := 0) (ks := 0) (kc' := 0) (ks' := 0) (n := 0) d_Reader_readClass_90 ok_Reader_refuse ml_Reader_124 (by decide) rfl (Nat.le_of_ble_eq_true rfl) ⟨tw_453, ts_Reader_refuse⟩ wg_1 rfl (ct_Reader_refuse_1 h) (fun v w h => ?_)
      obtain ⟨r1, i1, l1, a1, b1, rfl, rfl, h⟩ := h
      refine mm_eqs (st2 := [.int r1]) rfl ?_
      exact mm_retv (M := M_Reader_readClass) ⟨_, rfl, rfl, d_Reader_readClass_93⟩ ⟨_, _, _, _, _, rfl, rfl, h⟩
    · have h := h.2 c
      refine mm_aload_n (M := M_Reader_readClass) d_Reader_readClass_79 rfl ?_
      refine mm_iconst (M := M_Reader_readClass) (v := 0) d_Reader_readClass_80 (by decide) ?_
      refine mm_eqs (st2 := [.int 0].reverse ++ .ref 1 :: []) rfl ?_
      refine mm_callV (M := M_Reader_readClass) (y := y_Reader_ahead) (M' := M_Reader_ahead) (d' := 1) (kc := 0) (ks := 0) (kc' := 0) (ks' := 0) (n := 1) d_Reader_readClass_81 ok_Reader_ahead ml_Reader_83 (by decide) rfl (Nat.le_of_ble_eq_true rfl) ⟨tw_437, ts_Reader_ahead⟩ wg_1 rfl (ct_Reader_ahead_1 h) (fun v w h => ?_)
      obtain ⟨r2, i2, l2, a2, b2, rfl, rfl, h⟩ := h
      refine mm_eqs (st2 := [.int r2]) rfl ?_
      refine mm_bipush (M := M_Reader_readClass) (v := 93) d_Reader_readClass_84 (by decide) ?_
      refine mm_icmp_eq (M := M_Reader_readClass) 94 d_Reader_readClass_86 (by decide) (fun c => ?_) (fun c => ?_)
      · have h := h.1 c
        refine mm_aload_n (M := M_Reader_readClass) d_Reader_readClass_94 rfl ?_
        refine mm_dup (M := M_Reader_readClass) d_Reader_readClass_95 rfl ?_
        refine mm_getf (M := M_Reader_readClass) (u := .int (i2 23)) 2 7 d_Reader_readClass_96 fl_Reader_44 wg_1 rfl ?_
        refine mm_iconst (M := M_Reader_readClass) (v := 1) d_Reader_readClass_99 (by decide) ?_
        refine mm_iadd (M := M_Reader_readClass) d_Reader_readClass_100 ?_
        refine mm_putf (M := M_Reader_readClass) 2 7 .int d_Reader_readClass_101 fl_Reader_44 fp_Reader_44 ft_2_7 wg_1 (Nat.le_of_ble_eq_true rfl) trivial ?_
        refine mm_eqw ws_23 ?_
        refine mm_aload_n (M := M_Reader_readClass) d_Reader_readClass_104 rfl ?_
        refine mm_iconst (M := M_Reader_readClass) (v := 0) d_Reader_readClass_105 (by decide) ?_
        refine mm_iload_n (M := M_Reader_readClass) d_Reader_readClass_106 rfl ?_
        refine mm_if_eq (M := M_Reader_readClass) 119 d_Reader_readClass_107 (by decide) (fun c => ?_) (fun c => ?_)
        · have h := h.1 c
          refine mm_iload_n (M := M_Reader_readClass) d_Reader_readClass_119 rfl ?_
          refine mm_eqs (st2 := [.int 0, .int z2].reverse ++ .ref 1 :: []) rfl ?_
          refine mm_callV (M := M_Reader_readClass) (y := y_Reader_appendItem) (M' := M_Reader_appendItem) (d' := 1) (kc := 0) (ks := 0) (kc' := 0) (ks' := 0) (n := 2) d_Reader_readClass_120 ok_Reader_appendItem ml_Reader_127 (by decide) rfl (Nat.le_of_ble_eq_true rfl) ⟨tw_463, ts_Reader_appendItem⟩ wg_1 rfl (ct_Reader_appendItem_1 h) (fun v w h => ?_)
          obtain ⟨r3, i3, l3, a3, b3, rfl, rfl, h⟩ := h
          refine mm_eqs (st2 := [.int r3]) rfl ?_
          exact mm_retv (M := M_Reader_readClass) ⟨_, rfl, rfl, d_Reader_readClass_123⟩ ⟨_, _, _, _, _, rfl, rfl, h⟩
        · have h := h.2 c
          refine mm_ldc (M := M_Reader_readClass) (v := 67108863) d_Reader_readClass_110 tw_489 ?_
          refine mm_iload_n (M := M_Reader_readClass) d_Reader_readClass_112 rfl ?_
          refine mm_iconst (M := M_Reader_readClass) (v := (-1)) d_Reader_readClass_113 (by decide) ?_
          refine mm_ixor (M := M_Reader_readClass) d_Reader_readClass_114 ?_
          refine mm_iand (M := M_Reader_readClass) d_Reader_readClass_115 ?_
          refine mm_goto (M := M_Reader_readClass) (tgt := 120) d_Reader_readClass_116 (by decide) ?_
          refine mm_eqs (st2 := [.int 0, .int ((67108863 : Int32) &&& (z2 ^^^ ((-1) : Int32)))].reverse ++ .ref 1 :: []) rfl ?_
          refine mm_callV (M := M_Reader_readClass) (y := y_Reader_appendItem) (M' := M_Reader_appendItem) (d' := 1) (kc := 0) (ks := 0) (kc' := 0) (ks' := 0) (n := 2) d_Reader_readClass_120 ok_Reader_appendItem ml_Reader_127 (by decide) rfl (Nat.le_of_ble_eq_true rfl) ⟨tw_463, ts_Reader_appendItem⟩ wg_1 rfl (ct_Reader_appendItem_1 h) (fun v w h => ?_)
          obtain ⟨r4, i4, l4, a4, b4, rfl, rfl, h⟩ := h
          refine mm_eqs (st2 := [.int r4]) rfl ?_
          exact mm_retv (M := M_Reader_readClass) ⟨_, rfl, rfl, d_Reader_readClass_123⟩ ⟨_, _, _, _, _, rfl, rfl, h⟩
      · have h := h.2 c
        refine mm_aload_n (M := M_Reader_readClass) d_Reader_readClass_89 rfl ?_
        refine mm_eqs (st2 := [].reverse ++ .ref 1 :: []) rfl ?_
        refine mm_callV (M := M_Reader_readClass) (y := y_Reader_refuse) (M' := M_Reader_refuse) (d' := 0) (kc := 0) (ks := 0) (kc' := 0) (ks' := 0) (n := 0) d_Reader_readClass_90 ok_Reader_refuse ml_Reader_124 (by decide) rfl (Nat.le_of_ble_eq_true rfl) ⟨tw_453, ts_Reader_refuse⟩ wg_1 rfl (ct_Reader_refuse_1 h) (fun v w h => ?_)
        obtain ⟨r5, i5, l5, a5, b5, rfl, rfl, h⟩ := h
        refine mm_eqs (st2 := [.int r5]) rfl ?_
        exact mm_retv (M := M_Reader_readClass) ⟨_, rfl, rfl, d_Reader_readClass_93⟩ ⟨_, _, _, _, _, rfl, rfl, h⟩
  · have h := h.2 c
    refine mm_aload_n (M := M_Reader_readClass) d_Reader_readClass_44 rfl ?_
    refine mm_getf (M := M_Reader_readClass) (u := .int (i 26)) 2 10 d_Reader_readClass_45 fl_Reader_53 wg_1 rfl ?_
    refine mm_if_eq (M := M_Reader_readClass) 75 d_Reader_readClass_48 (by decide) (fun c => ?_) (fun c => ?_)
    · have h := h.1 c
      refine mm_iload_n (M := M_Reader_readClass) d_Reader_readClass_75 rfl ?_
      refine mm_if_eq (M := M_Reader_readClass) 89 d_Reader_readClass_76 (by decide) (fun c => ?_) (fun c => ?_)
      · have h := h.1 c
        refine mm_aload_n (M := M_Reader_readClass) d_Reader_readClass_89 rfl ?_
        refine mm_eqs (st2 := [].reverse ++ .ref 1 :: []) rfl ?_
        refine mm_callV (M := M_Reader_readClass) (y := y_Reader_refuse) (M' := M_Reader_refuse) (d' := 0) (kc := 0) (ks := 0) (kc' := 0) (ks' := 0) (n := 0) d_Reader_readClass_90 ok_Reader_refuse ml_Reader_124 (by decide) rfl (Nat.le_of_ble_eq_true rfl) ⟨tw_453, ts_Reader_refuse⟩ wg_1 rfl (ct_Reader_refuse_1 h) (fun v w h => ?_)
        obtain ⟨r6, i6, l6, a6, b6, rfl, rfl, h⟩ := h
        refine mm_eqs (st2 := [.int r6]) rfl ?_
        exact mm_retv (M := M_Reader_readClass) ⟨_, rfl, rfl, d_Reader_readClass_93⟩ ⟨_, _, _, _, _, rfl, rfl, h⟩
      · have h := h.2 c
        refine mm_aload_n (M := M_Reader_readClass) d_Reader_readClass_79 rfl ?_
        refine mm_iconst (M := M_Reader_readClass) (v := 0) d_Reader_readClass_80 (by decide) ?_
        refine mm_eqs (st2 := [.int 0].reverse ++ .ref 1 :: []) rfl ?_
        refine mm_callV (M := M_Reader_readClass) (y := y_Reader_ahead) (M' := M_Reader_ahead) (d' := 1) (kc := 0) (ks := 0) (kc' := 0) (ks' := 0) (n := 1) d_Reader_readClass_81 ok_Reader_ahead ml_Reader_83 (by decide) rfl (Nat.le_of_ble_eq_true rfl) ⟨tw_437, ts_Reader_ahead⟩ wg_1 rfl (ct_Reader_ahead_1 h) (fun v w h => ?_)
        obtain ⟨r7, i7, l7, a7, b7, rfl, rfl, h⟩ := h
        refine mm_eqs (st2 := [.int r7]) rfl ?_
        refine mm_bipush (M := M_Reader_readClass) (v := 93) d_Reader_readClass_84 (by decide) ?_
        refine mm_icmp_eq (M := M_Reader_readClass) 94 d_Reader_readClass_86 (by decide) (fun c => ?_) (fun c => ?_)
        · have h := h.1 c
          refine mm_aload_n (M := M_Reader_readClass) d_Reader_readClass_94 rfl ?_
          refine mm_dup (M := M_Reader_readClass) d_Reader_readClass_95 rfl ?_
          refine mm_getf (M := M_Reader_readClass) (u := .int (i7 23)) 2 7 d_Reader_readClass_96 fl_Reader_44 wg_1 rfl ?_
          refine mm_iconst (M := M_Reader_readClass) (v := 1) d_Reader_readClass_99 (by decide) ?_
          refine mm_iadd (M := M_Reader_readClass) d_Reader_readClass_100 ?_
          refine mm_putf (M := M_Reader_readClass) 2 7 .int d_Reader_readClass_101 fl_Reader_44 fp_Reader_44 ft_2_7 wg_1 (Nat.le_of_ble_eq_true rfl) trivial ?_
          refine mm_eqw ws_23 ?_
          refine mm_aload_n (M := M_Reader_readClass) d_Reader_readClass_104 rfl ?_
          refine mm_iconst (M := M_Reader_readClass) (v := 0) d_Reader_readClass_105 (by decide) ?_
          refine mm_iload_n (M := M_Reader_readClass) d_Reader_readClass_106 rfl ?_
          refine mm_if_eq (M := M_Reader_readClass) 119 d_Reader_readClass_107 (by decide) (fun c => ?_) (fun c => ?_)
          · have h := h.1 c
            refine mm_iload_n (M := M_Reader_readClass) d_Reader_readClass_119 rfl ?_
            refine mm_eqs (st2 := [.int 0, .int z2].reverse ++ .ref 1 :: []) rfl ?_
            refine mm_callV (M := M_Reader_readClass) (y := y_Reader_appendItem) (M' := M_Reader_appendItem) (d' := 1) (kc := 0) (ks := 0) (kc' := 0) (ks' := 0) (n := 2) d_Reader_readClass_120 ok_Reader_appendItem ml_Reader_127 (by decide) rfl (Nat.le_of_ble_eq_true rfl) ⟨tw_463, ts_Reader_appendItem⟩ wg_1 rfl (ct_Reader_appendItem_1 h) (fun v w h => ?_)
            obtain ⟨r8, i8, l8, a8, b8, rfl, rfl, h⟩ := h
            refine mm_eqs (st2 := [.int r8]) rfl ?_
            exact mm_retv (M := M_Reader_readClass) ⟨_, rfl, rfl, d_Reader_readClass_123⟩ ⟨_, _, _, _, _, rfl, rfl, h⟩
          · have h := h.2 c
            refine mm_ldc (M := M_Reader_readClass) (v := 67108863) d_Reader_readClass_110 tw_489 ?_
            refine mm_iload_n (M := M_Reader_readClass) d_Reader_readClass_112 rfl ?_
            refine mm_iconst (M := M_Reader_readClass) (v := (-1)) d_Reader_readClass_113 (by decide) ?_
            refine mm_ixor (M := M_Reader_readClass) d_Reader_readClass_114 ?_
            refine mm_iand (M := M_Reader_readClass) d_Reader_readClass_115 ?_
            refine mm_goto (M := M_Reader_readClass) (tgt := 120) d_Reader_readClass_116 (by decide) ?_
            refine mm_eqs (st2 := [.int 0, .int ((67108863 : Int32) &&& (z2 ^^^ ((-1) : Int32)))].reverse ++ .ref 1 :: []) rfl ?_
            refine mm_callV (M := M_Reader_readClass) (y := y_Reader_appendItem) (M' := M_Reader_appendItem) (d' := 1) (kc := 0) (ks := 0) (kc' := 0) (ks' := 0) (n := 2) d_Reader_readClass_120 ok_Reader_appendItem ml_Reader_127 (by decide) rfl (Nat.le_of_ble_eq_true rfl) ⟨tw_463, ts_Reader_appendItem⟩ wg_1 rfl (ct_Reader_appendItem_1 h) (fun v w h => ?_)
            obtain ⟨r9, i9, l9, a9, b9, rfl, rfl, h⟩ := h
            refine mm_eqs (st2 := [.int r9]) rfl ?_
            exact mm_retv (M := M_Reader_readClass) ⟨_, rfl, rfl, d_Reader_readClass_123⟩ ⟨_, _, _, _, _, rfl, rfl, h⟩
        · have h := h.2 c
          refine mm_aload_n (M := M_Reader_readClass) d_Reader_readClass_89 rfl ?_
          refine mm_eqs (st2 := [].reverse ++ .ref 1 :: []) rfl ?_
          refine mm_callV (M := M_Reader_readClass) (y := y_Reader_refuse) (M' := M_Reader_refuse) (d' := 0) (kc := 0) (ks := 0) (kc' := 0) (ks' := 0) (n := 0) d_Reader_readClass_90 ok_Reader_refuse ml_Reader_124 (by decide) rfl (Nat.le_of_ble_eq_true rfl) ⟨tw_453, ts_Reader_refuse⟩ wg_1 rfl (ct_Reader_refuse_1 h) (fun v w h => ?_)
          obtain ⟨r10, i10, l10, a10, b10, rfl, rfl, h⟩ := h
          refine mm_eqs (st2 := [.int r10]) rfl ?_
          exact mm_retv (M := M_Reader_readClass) ⟨_, rfl, rfl, d_Reader_readClass_93⟩ ⟨_, _, _, _, _, rfl, rfl, h⟩
    · have h := h.2 c
      refine mm_aload_n (M := M_Reader_readClass) d_Reader_readClass_51 rfl ?_
      refine mm_iconst (M := M_Reader_readClass) (v := 0) d_Reader_readClass_52 (by decide) ?_
      refine mm_eqs (st2 := [.int 0].reverse ++ .ref 1 :: []) rfl ?_
      refine mm_callV (M := M_Reader_readClass) (y := y_Reader_ahead) (M' := M_Reader_ahead) (d' := 1) (kc := 0) (ks := 0) (kc' := 0) (ks' := 0) (n := 1) d_Reader_readClass_53 ok_Reader_ahead ml_Reader_83 (by decide) rfl (Nat.le_of_ble_eq_true rfl) ⟨tw_437, ts_Reader_ahead⟩ wg_1 rfl (ct_Reader_ahead_1 h) (fun v w h => ?_)
      obtain ⟨r11, i11, l11, a11, b11, rfl, rfl, h⟩ := h
      refine mm_eqs (st2 := [.int r11]) rfl ?_
      refine mm_eqs (st2 := [.int r11].reverse ++ []) rfl ?_
      refine mm_callS (M := M_Reader_readClass) (y := y_Bench_isLetter) (M' := M_Bench_isLetter) (d' := 0) (kc := 0) (ks := 0) (kc' := 0) (ks' := 0) (n := 1) d_Reader_readClass_56 ok_Bench_isLetter ml_Reader_139 (by decide) rfl (Nat.le_of_ble_eq_true rfl) tw_313 (ct_Bench_isLetter h) (fun v w h => ?_)
      obtain ⟨r12, i12, l12, a12, b12, rfl, rfl, h⟩ := h
      refine mm_eqs (st2 := [.int r12]) rfl ?_
      refine mm_if_eq (M := M_Reader_readClass) 75 d_Reader_readClass_59 (by decide) (fun c => ?_) (fun c => ?_)
      · have h := h.1 c
        refine mm_iload_n (M := M_Reader_readClass) d_Reader_readClass_75 rfl ?_
        refine mm_if_eq (M := M_Reader_readClass) 89 d_Reader_readClass_76 (by decide) (fun c => ?_) (fun c => ?_)
        · have h := h.1 c
          refine mm_aload_n (M := M_Reader_readClass) d_Reader_readClass_89 rfl ?_
          refine mm_eqs (st2 := [].reverse ++ .ref 1 :: []) rfl ?_
          refine mm_callV (M := M_Reader_readClass) (y := y_Reader_refuse) (M' := M_Reader_refuse) (d' := 0) (kc := 0) (ks := 0) (kc' := 0) (ks' := 0) (n := 0) d_Reader_readClass_90 ok_Reader_refuse ml_Reader_124 (by decide) rfl (Nat.le_of_ble_eq_true rfl) ⟨tw_453, ts_Reader_refuse⟩ wg_1 rfl (ct_Reader_refuse_1 h) (fun v w h => ?_)
          obtain ⟨r13, i13, l13, a13, b13, rfl, rfl, h⟩ := h
          refine mm_eqs (st2 := [.int r13]) rfl ?_
          exact mm_retv (M := M_Reader_readClass) ⟨_, rfl, rfl, d_Reader_readClass_93⟩ ⟨_, _, _, _, _, rfl, rfl, h⟩
        · have h := h.2 c
          refine mm_aload_n (M := M_Reader_readClass) d_Reader_readClass_79 rfl ?_
          refine mm_iconst (M := M_Reader_readClass) (v := 0) d_Reader_readClass_80 (by decide) ?_
          refine mm_eqs (st2 := [.int 0].reverse ++ .ref 1 :: []) rfl ?_
          refine mm_callV (M := M_Reader_readClass) (y := y_Reader_ahead) (M' := M_Reader_ahead) (d' := 1) (kc := 0) (ks := 0) (kc' := 0) (ks' := 0) (n := 1) d_Reader_readClass_81 ok_Reader_ahead ml_Reader_83 (by decide) rfl (Nat.le_of_ble_eq_true rfl) ⟨tw_437, ts_Reader_ahead⟩ wg_1 rfl (ct_Reader_ahead_1 h) (fun v w h => ?_)
          obtain ⟨r14, i14, l14, a14, b14, rfl, rfl, h⟩ := h
          refine mm_eqs (st2 := [.int r14]) rfl ?_
          refine mm_bipush (M := M_Reader_readClass) (v := 93) d_Reader_readClass_84 (by decide) ?_
          refine mm_icmp_eq (M := M_Reader_readClass) 94 d_Reader_readClass_86 (by decide) (fun c => ?_) (fun c => ?_)
          · have h := h.1 c
            refine mm_aload_n (M := M_Reader_readClass) d_Reader_readClass_94 rfl ?_
            refine mm_dup (M := M_Reader_readClass) d_Reader_readClass_95 rfl ?_
            refine mm_getf (M := M_Reader_readClass) (u := .int (i14 23)) 2 7 d_Reader_readClass_96 fl_Reader_44 wg_1 rfl ?_
            refine mm_iconst (M := M_Reader_readClass) (v := 1) d_Reader_readClass_99 (by decide) ?_
            refine mm_iadd (M := M_Reader_readClass) d_Reader_readClass_100 ?_
            refine mm_putf (M := M_Reader_readClass) 2 7 .int d_Reader_readClass_101 fl_Reader_44 fp_Reader_44 ft_2_7 wg_1 (Nat.le_of_ble_eq_true rfl) trivial ?_
            refine mm_eqw ws_23 ?_
            refine mm_aload_n (M := M_Reader_readClass) d_Reader_readClass_104 rfl ?_
            refine mm_iconst (M := M_Reader_readClass) (v := 0) d_Reader_readClass_105 (by decide) ?_
            refine mm_iload_n (M := M_Reader_readClass) d_Reader_readClass_106 rfl ?_
            refine mm_if_eq (M := M_Reader_readClass) 119 d_Reader_readClass_107 (by decide) (fun c => ?_) (fun c => ?_)
            · have h := h.1 c
              refine mm_iload_n (M := M_Reader_readClass) d_Reader_readClass_119 rfl ?_
              refine mm_eqs (st2 := [.int 0, .int z2].reverse ++ .ref 1 :: []) rfl ?_
              refine mm_callV (M := M_Reader_readClass) (y := y_Reader_appendItem) (M' := M_Reader_appendItem) (d' := 1) (kc := 0) (ks := 0) (kc' := 0) (ks' := 0) (n := 2) d_Reader_readClass_120 ok_Reader_appendItem ml_Reader_127 (by decide) rfl (Nat.le_of_ble_eq_true rfl) ⟨tw_463, ts_Reader_appendItem⟩ wg_1 rfl (ct_Reader_appendItem_1 h) (fun v w h => ?_)
              obtain ⟨r15, i15, l15, a15, b15, rfl, rfl, h⟩ := h
              refine mm_eqs (st2 := [.int r15]) rfl ?_
              exact mm_retv (M := M_Reader_readClass) ⟨_, rfl, rfl, d_Reader_readClass_123⟩ ⟨_, _, _, _, _, rfl, rfl, h⟩
            · have h := h.2 c
              refine mm_ldc (M := M_Reader_readClass) (v := 67108863) d_Reader_readClass_110 tw_489 ?_
              refine mm_iload_n (M := M_Reader_readClass) d_Reader_readClass_112 rfl ?_
              refine mm_iconst (M := M_Reader_readClass) (v := (-1)) d_Reader_readClass_113 (by decide) ?_
              refine mm_ixor (M := M_Reader_readClass) d_Reader_readClass_114 ?_
              refine mm_iand (M := M_Reader_readClass) d_Reader_readClass_115 ?_
              refine mm_goto (M := M_Reader_readClass) (tgt := 120) d_Reader_readClass_116 (by decide) ?_
              refine mm_eqs (st2 := [.int 0, .int ((67108863 : Int32) &&& (z2 ^^^ ((-1) : Int32)))].reverse ++ .ref 1 :: []) rfl ?_
              refine mm_callV (M := M_Reader_readClass) (y := y_Reader_appendItem) (M' := M_Reader_appendItem) (d' := 1) (kc := 0) (ks := 0) (kc' := 0) (ks' := 0) (n := 2) d_Reader_readClass_120 ok_Reader_appendItem ml_Reader_127 (by decide) rfl (Nat.le_of_ble_eq_true rfl) ⟨tw_463, ts_Reader_appendItem⟩ wg_1 rfl (ct_Reader_appendItem_1 h) (fun v w h => ?_)
              obtain ⟨r16, i16, l16, a16, b16, rfl, rfl, h⟩ := h
              refine mm_eqs (st2 := [.int r16]) rfl ?_
              exact mm_retv (M := M_Reader_readClass) ⟨_, rfl, rfl, d_Reader_readClass_123⟩ ⟨_, _, _, _, _, rfl, rfl, h⟩
          · have h := h.2 c
            refine mm_aload_n (M := M_Reader_readClass) d_Reader_readClass_89 rfl ?_
            refine mm_eqs (st2 := [].reverse ++ .ref 1 :: []) rfl ?_
            refine mm_callV (M := M_Reader_readClass) (y := y_Reader_refuse) (M' := M_Reader_refuse) (d' := 0) (kc := 0) (ks := 0) (kc' := 0) (ks' := 0) (n := 0) d_Reader_readClass_90 ok_Reader_refuse ml_Reader_124 (by decide) rfl (Nat.le_of_ble_eq_true rfl) ⟨tw_453, ts_Reader_refuse⟩ wg_1 rfl (ct_Reader_refuse_1 h) (fun v w h => ?_)
            obtain ⟨r17, i17, l17, a17, b17, rfl, rfl, h⟩ := h
            refine mm_eqs (st2 := [.int r17]) rfl ?_
            exact mm_retv (M := M_Reader_readClass) ⟨_, rfl, rfl, d_Reader_readClass_93⟩ ⟨_, _, _, _, _, rfl, rfl, h⟩
      · have h := h.2 c
        refine mm_iload_n (M := M_Reader_readClass) d_Reader_readClass_62 rfl ?_
        refine mm_aload_n (M := M_Reader_readClass) d_Reader_readClass_63 rfl ?_
        refine mm_eqs (st2 := [].reverse ++ .ref 1 :: [.int z2]) rfl ?_
        refine mm_callV (M := M_Reader_readClass) (y := y_Reader_readClassPart) (M' := M_Reader_readClassPart) (d' := 2) (kc := 0) (ks := 0) (kc' := 0) (ks' := 0) (n := 0) d_Reader_readClass_64 ok_Reader_readClassPart ml_Reader_146 (by decide) rfl (Nat.le_of_ble_eq_true rfl) ⟨tw_484, ts_Reader_readClassPart⟩ wg_1 rfl (ct_Reader_readClassPart_1 h) (fun v w h => ?_)
        obtain ⟨r18, i18, l18, a18, b18, rfl, rfl, h⟩ := h
        refine mm_eqs (st2 := [.int r18, .int z2]) rfl ?_
        refine mm_ior (M := M_Reader_readClass) d_Reader_readClass_67 ?_
        refine mm_istore_n (M := M_Reader_readClass) d_Reader_readClass_68 (Nat.le_of_ble_eq_true rfl) ?_
        refine mm_eqL (L' := [some (.ref 1), some (.int z1), some (.int (z2 ||| r18)), some (.int z3)]) rfl ?_
        refine mm_iinc (M := M_Reader_readClass) (v := 1) d_Reader_readClass_69 rfl (by decide) (Nat.le_of_ble_eq_true rfl) ?_
        refine mm_eqL (L' := [some (.ref 1), some (.int z1), some (.int (z2 ||| r18)), some (.int (z3 + 1))]) rfl ?_
        refine mm_goto (M := M_Reader_readClass) (tgt := 38) d_Reader_readClass_72 (by decide) ?_
        refine mm_drop (L' := [some (.ref 1), some (.int z1), some (.int (z2 ||| r18)), some (.int (z3 + 1))]) ⟨rfl, ⟨rfl, ⟨rfl, ⟨rfl, trivial⟩⟩⟩⟩ ?_
        exact hX h
theorem vl_Reader_readClass_1 {n1 n2 k0 : Nat} {t : mm_H} {K : Int32 → mm_i → mm_j → mm_a → mm_b → Prop} : ∀ (n : Nat) {i : mm_i} {l : mm_j} {a : mm_a} {b : mm_b} {z1 : Int32} {z2 : Int32} {z3 : Int32}, wl_Reader_readClass_1 n1 n2 K n i l a b z1 z2 z3 → mm_V M_Reader_readClass 3 k0 (mm_PI n1 n2 t K) 0 0 38 [some (.ref 1), some (.int z1), some (.int z2), some (.int z3)] [] (Wd 4 22 n1 n2 i l a b ++ t)
  | 0, _, _, _, _, _, _, _, h => h.elim
  | n + 1, _, _, _, _, _, _, _, h => vt_Reader_readClass_1 (fun h => vl_Reader_readClass_1 n h) h
set_option maxRecDepth 100000 in
set_option maxHeartbeats 4000000 in
theorem ct_Reader_readClass_1 {n1 n2 : Nat} {i : mm_i} {l : mm_j} {a : mm_a} {b : mm_b} {t : mm_H}  {K : Int32 → mm_i → mm_j → mm_a → mm_b → Prop} (h : wp_Reader_readClass_1 n1 n2 i l a b  K) : mm_Ct y_Reader_readClass M_Reader_readClass 3 0 0 [.ref 1] (Wd 4 22 n1 n2 i l a b ++ t) (mm_PI n1 n2 t K) := by
  refine mm_Ct.of (by decide) rfl (fun q => absurd q (by decide)) (Nat.le_of_ble_eq_true rfl) ?_
  unfold wp_Reader_readClass_1 at h
  refine mm_eqL (L' := [some (.ref 1), none, none, none]) rfl ?_
  refine mm_aload_n (M := M_Reader_readClass) d_Reader_readClass_0 rfl ?_
  refine mm_iconst (M := M_Reader_readClass) (v := 1) d_Reader_readClass_1 (by decide) ?_
  refine mm_eqs (st2 := [.int 1].reverse ++ .ref 1 :: []) rfl ?_
  refine mm_callV (M := M_Reader_readClass) (y := y_Reader_ahead) (M' := M_Reader_ahead) (d' := 1) (kc := 0) (ks := 0) (kc' := 0) (ks' := 0) (n := 1) d_Reader_readClass_2 ok_Reader_ahead ml_Reader_83 (by decide) rfl (Nat.le_of_ble_eq_true rfl) ⟨tw_437, ts_Reader_ahead⟩ wg_1 rfl (ct_Reader_ahead_1 h) (fun v w h => ?_)
  obtain ⟨r1, i1, l1, a1, b1, rfl, rfl, h⟩ := h
  refine mm_eqs (st2 := [.int r1]) rfl ?_
  refine mm_bipush (M := M_Reader_readClass) (v := 94) d_Reader_readClass_5 (by decide) ?_
  refine mm_icmp_ne (M := M_Reader_readClass) 14 d_Reader_readClass_7 (by decide) (fun c => ?_) (fun c => ?_)
  · have h := h.1 c
    refine mm_iconst (M := M_Reader_readClass) (v := 0) d_Reader_readClass_14 (by decide) ?_
    refine mm_istore_n (M := M_Reader_readClass) d_Reader_readClass_15 (Nat.le_of_ble_eq_true rfl) ?_
    refine mm_eqL (L' := [some (.ref 1), some (.int 0), none, none]) rfl ?_
    refine mm_aload_n (M := M_Reader_readClass) d_Reader_readClass_16 rfl ?_
    refine mm_dup (M := M_Reader_readClass) d_Reader_readClass_17 rfl ?_
    refine mm_getf (M := M_Reader_readClass) (u := .int (i1 23)) 2 7 d_Reader_readClass_18 fl_Reader_44 wg_1 rfl ?_
    refine mm_iload_n (M := M_Reader_readClass) d_Reader_readClass_21 rfl ?_
    refine mm_if_eq (M := M_Reader_readClass) 29 d_Reader_readClass_22 (by decide) (fun c => ?_) (fun c => absurd c (by decide))
    refine mm_iconst (M := M_Reader_readClass) (v := 1) d_Reader_readClass_29 (by decide) ?_
    refine mm_iadd (M := M_Reader_readClass) d_Reader_readClass_30 ?_
    refine mm_putf (M := M_Reader_readClass) 2 7 .int d_Reader_readClass_31 fl_Reader_44 fp_Reader_44 ft_2_7 wg_1 (Nat.le_of_ble_eq_true rfl) trivial ?_
    refine mm_eqw ws_23 ?_
    refine mm_iconst (M := M_Reader_readClass) (v := 0) d_Reader_readClass_34 (by decide) ?_
    refine mm_istore_n (M := M_Reader_readClass) d_Reader_readClass_35 (Nat.le_of_ble_eq_true rfl) ?_
    refine mm_eqL (L' := [some (.ref 1), some (.int 0), some (.int 0), none]) rfl ?_
    refine mm_iconst (M := M_Reader_readClass) (v := 0) d_Reader_readClass_36 (by decide) ?_
    refine mm_istore_n (M := M_Reader_readClass) d_Reader_readClass_37 (Nat.le_of_ble_eq_true rfl) ?_
    refine mm_eqL (L' := [some (.ref 1), some (.int 0), some (.int 0), some (.int 0)]) rfl ?_
    obtain ⟨n, h⟩ := h
    refine mm_drop (L' := [some (.ref 1), some (.int 0), some (.int 0), some (.int 0)]) ⟨rfl, ⟨rfl, ⟨rfl, ⟨rfl, trivial⟩⟩⟩⟩ ?_
    exact (vl_Reader_readClass_1 n) h
  · have h := h.2 c
    refine mm_iconst (M := M_Reader_readClass) (v := 1) d_Reader_readClass_10 (by decide) ?_
    refine mm_goto (M := M_Reader_readClass) (tgt := 15) d_Reader_readClass_11 (by decide) ?_
    refine mm_istore_n (M := M_Reader_readClass) d_Reader_readClass_15 (Nat.le_of_ble_eq_true rfl) ?_
    refine mm_eqL (L' := [some (.ref 1), some (.int 1), none, none]) rfl ?_
    refine mm_aload_n (M := M_Reader_readClass) d_Reader_readClass_16 rfl ?_
    refine mm_dup (M := M_Reader_readClass) d_Reader_readClass_17 rfl ?_
    refine mm_getf (M := M_Reader_readClass) (u := .int (i1 23)) 2 7 d_Reader_readClass_18 fl_Reader_44 wg_1 rfl ?_
    refine mm_iload_n (M := M_Reader_readClass) d_Reader_readClass_21 rfl ?_
    refine mm_if_eq (M := M_Reader_readClass) 29 d_Reader_readClass_22 (by decide) (fun c => absurd c (by decide)) (fun c => ?_)
    refine mm_iconst (M := M_Reader_readClass) (v := 2) d_Reader_readClass_25 (by decide) ?_
    refine mm_goto (M := M_Reader_readClass) (tgt := 30) d_Reader_readClass_26 (by decide) ?_
    refine mm_iadd (M := M_Reader_readClass) d_Reader_readClass_30 ?_
    refine mm_putf (M := M_Reader_readClass) 2 7 .int d_Reader_readClass_31 fl_Reader_44 fp_Reader_44 ft_2_7 wg_1 (Nat.le_of_ble_eq_true rfl) trivial ?_
    refine mm_eqw ws_23 ?_
    refine mm_iconst (M := M_Reader_readClass) (v := 0) d_Reader_readClass_34 (by decide) ?_
    refine mm_istore_n (M := M_Reader_readClass) d_Reader_readClass_35 (Nat.le_of_ble_eq_true rfl) ?_
    refine mm_eqL (L' := [some (.ref 1), some (.int 1), some (.int 0), none]) rfl ?_
    refine mm_iconst (M := M_Reader_readClass) (v := 0) d_Reader_readClass_36 (by decide) ?_
    refine mm_istore_n (M := M_Reader_readClass) d_Reader_readClass_37 (Nat.le_of_ble_eq_true rfl) ?_
    refine mm_eqL (L' := [some (.ref 1), some (.int 1), some (.int 0), some (.int 0)]) rfl ?_
    obtain ⟨n, h⟩ := h
    refine mm_drop (L' := [some (.ref 1), some (.int 1), some (.int 0), some (.int 0)]) ⟨rfl, ⟨rfl, ⟨rfl, ⟨rfl, trivial⟩⟩⟩⟩ ?_
    exact (vl_Reader_readClass_1 n) h
def wp_Reader_readPart_1 (n1 n2 : Nat) (i : mm_i) (l : mm_j) (a : mm_a) (b : mm_b)  (K : Int32 → mm_i → mm_j → mm_a → mm_b → Prop) : Prop :=
  wp_Reader_ahead_1 n1 n2 i l a b 0 (fun r1 i1 l1 a1 b1 => (r1 = 40 → wp_Reader_ahead_1 n1 n2 i1 l1 a1 b1 1 (fun r2 i2 l2 a2 b2 => (¬ r2 = (63 : Int32) → wp_Reader_openChoice_1 n1 n2 i2 l2 a2 b2 (fun r3 i3 l3 a3 b3 => K r3 i3 l3 a3 b3)) ∧ (r2 = (63 : Int32) → wp_Reader_ahead_1 n1 n2 i2 l2 a2 b2 2 (fun r4 i4 l4 a4 b4 => wp_Bench_isDigit n1 n2 i4 l4 a4 b4 r4 (fun r5 i5 l5 a5 b5 => (r5 = 0 → wp_Reader_openChoice_1 n1 n2 i5 l5 a5 b5 (fun r6 i6 l6 a6 b6 => K r6 i6 l6 a6 b6)) ∧ (¬ r5 = 0 → wp_Reader_readCall_1 n1 n2 i5 l5 a5 b5 (fun r7 i7 l7 a7 b7 => K r7 i7 l7 a7 b7))))))) ∧ (¬ r1 = 40 → (r1 = 41 → wp_Reader_closeChoice_1 n1 n2 i1 l1 a1 b1 (fun r8 i8 l8 a8 b8 => K r8 i8 l8 a8 b8)) ∧ (¬ r1 = 41 → (r1 = 91 → wp_Reader_readClass_1 n1 n2 i1 l1 a1 b1 (fun r9 i9 l9 a9 b9 => K r9 i9 l9 a9 b9)) ∧ (¬ r1 = 91 → (r1 = 92 → wp_Reader_readReference_1 n1 n2 i1 l1 a1 b1 (fun r10 i10 l10 a10 b10 => K r10 i10 l10 a10 b10)) ∧ (¬ r1 = 92 → (r1 = 124 → wp_Reader_openNextRow_1 n1 n2 i1 l1 a1 b1 (fun r11 i11 l11 a11 b11 => K r11 i11 l11 a11 b11)) ∧ (¬ r1 = 124 → wp_Reader_readSign_1 n1 n2 i1 l1 a1 b1 (fun r12 i12 l12 a12 b12 => K r12 i12 l12 a12 b12)))))))
set_option maxRecDepth 100000 in
set_option maxHeartbeats 4000000 in
theorem ct_Reader_readPart_1 {n1 n2 : Nat} {i : mm_i} {l : mm_j} {a : mm_a} {b : mm_b} {t : mm_H}  {K : Int32 → mm_i → mm_j → mm_a → mm_b → Prop} (h : wp_Reader_readPart_1 n1 n2 i l a b  K) : mm_Ct y_Reader_readPart M_Reader_readPart 4 0 0 [.ref 1] (Wd 4 22 n1 n2 i l a b ++ t) (mm_PI n1 n2 t K) := by
  refine mm_Ct.of (by decide) rfl (fun q => absurd q (by decide)) (Nat.le_of_ble_eq_true rfl) ?_
  unfold wp_Reader_readPart_1 at h
  refine mm_eqL (L' := [some (.ref 1)]) rfl ?_
  refine mm_aload_n (M := M_Reader_readPart) d_Reader_readPart_0 rfl ?_
  refine mm_iconst (M := M_Reader_readPart) (v := 0) d_Reader_readPart_1 (by decide) ?_
  refine mm_eqs (st2 := [.int 0].reverse ++ .ref 1 :: []) rfl ?_
  refine mm_callV (M := M_Reader_readPart) (y := y_Reader_ahead) (M' := M_Reader_ahead) (d' := 1) (kc := 0) (ks := 0) (kc' := 0) (ks' := 0) (n := 1) d_Reader_readPart_2 ok_Reader_ahead ml_Reader_83 (by decide) rfl (Nat.le_of_ble_eq_true rfl) ⟨tw_437, ts_Reader_ahead⟩ wg_1 rfl (ct_Reader_ahead_1 h) (fun v w h => ?_)
  obtain ⟨r1, i1, l1, a1, b1, rfl, rfl, h⟩ := h
  refine mm_eqs (st2 := [.int r1]) rfl ?_
  refine mm_lookup (M := M_Reader_readPart) [(40, 66), (41, 61), (91, 99), (92, 104), (124, 56)] 109 d_Reader_readPart_5 (by decide) (by decide +kernel) (by decide) ⟨fun c0 => ?_, fun c0 => ⟨fun c1 => ?_, fun c1 => ⟨fun c2 => ?_, fun c2 => ⟨fun c3 => ?_, fun c3 => ⟨fun c4 => ?_, fun c4 => ?_⟩⟩⟩⟩⟩
  · have h := h.1 c0
    refine mm_aload_n (M := M_Reader_readPart) d_Reader_readPart_66 rfl ?_
    refine mm_iconst (M := M_Reader_readPart) (v := 1) d_Reader_readPart_67 (by decide) ?_
    refine mm_eqs (st2 := [.int 1].reverse ++ .ref 1 :: []) rfl ?_
    refine mm_callV (M := M_Reader_readPart) (y := y_Reader_ahead) (M' := M_Reader_ahead) (d' := 1) (kc := 0) (ks := 0) (kc' := 0) (ks' := 0) (n := 1) d_Reader_readPart_68 ok_Reader_ahead ml_Reader_83 (by decide) rfl (Nat.le_of_ble_eq_true rfl) ⟨tw_437, ts_Reader_ahead⟩ wg_1 rfl (ct_Reader_ahead_1 h) (fun v w h => ?_)
    obtain ⟨r2, i2, l2, a2, b2, rfl, rfl, h⟩ := h
    refine mm_eqs (st2 := [.int r2]) rfl ?_
    refine mm_bipush (M := M_Reader_readPart) (v := 63) d_Reader_readPart_71 (by decide) ?_
    refine mm_icmp_ne (M := M_Reader_readPart) 94 d_Reader_readPart_73 (by decide) (fun c => ?_) (fun c => ?_)
    · have h := h.1 c
      refine mm_aload_n (M := M_Reader_readPart) d_Reader_readPart_94 rfl ?_
      refine mm_eqs (st2 := [].reverse ++ .ref 1 :: []) rfl ?_
      refine mm_callV (M := M_Reader_readPart) (y := y_Reader_openChoice) (M' := M_Reader_openChoice) (d' := 3) (kc := 0) (ks := 0) (kc' := 0) (ks' := 0) (n := 0) d_Reader_readPart_95 ok_Reader_openChoice ml_Reader_100 (by decide) rfl (Nat.le_of_ble_eq_true rfl) ⟨tw_471, ts_Reader_openChoice⟩ wg_1 rfl (ct_Reader_openChoice_1 h) (fun v w h => ?_)
      obtain ⟨r3, i3, l3, a3, b3, rfl, rfl, h⟩ := h
      refine mm_eqs (st2 := [.int r3]) rfl ?_
      exact mm_retv (M := M_Reader_readPart) ⟨_, rfl, rfl, d_Reader_readPart_98⟩ ⟨_, _, _, _, _, rfl, rfl, h⟩
    · have h := h.2 c
      refine mm_aload_n (M := M_Reader_readPart) d_Reader_readPart_76 rfl ?_
      refine mm_iconst (M := M_Reader_readPart) (v := 2) d_Reader_readPart_77 (by decide) ?_
      refine mm_eqs (st2 := [.int 2].reverse ++ .ref 1 :: []) rfl ?_
      refine mm_callV (M := M_Reader_readPart) (y := y_Reader_ahead) (M' := M_Reader_ahead) (d' := 1) (kc := 0) (ks := 0) (kc' := 0) (ks' := 0) (n := 1) d_Reader_readPart_78 ok_Reader_ahead ml_Reader_83 (by decide) rfl (Nat.le_of_ble_eq_true rfl) ⟨tw_437, ts_Reader_ahead⟩ wg_1 rfl (ct_Reader_ahead_1 h) (fun v w h => ?_)
      obtain ⟨r4, i4, l4, a4, b4, rfl, rfl, h⟩ := h
      refine mm_eqs (st2 := [.int r4]) rfl ?_
      refine mm_eqs (st2 := [.int r4].reverse ++ []) rfl ?_
      refine mm_callS (M := M_Reader_readPart) (y := y_Bench_isDigit) (M' := M_Bench_isDigit) (d' := 0) (kc := 0) (ks := 0) (kc' := 0) (ks' := 0) (n := 1) d_Reader_readPart_81 ok_Bench_isDigit ml_Reader_93 (by decide) rfl (Nat.le_of_ble_eq_true rfl) tw_316 (ct_Bench_isDigit h) (fun v w h => ?_)
      obtain ⟨r5, i5, l5, a5, b5, rfl, rfl, h⟩ := h
      refine mm_eqs (st2 := [.int r5]) rfl ?_
      refine mm_if_eq (M := M_Reader_readPart) 94 d_Reader_readPart_84 (by decide) (fun c => ?_) (fun c => ?_)
      · have h := h.1 c
        refine mm_aload_n (M := M_Reader_readPart) d_Reader_readPart_94 rfl ?_
        refine mm_eqs (st2 := [].reverse ++ .ref 1 :: []) rfl ?_
        refine mm_callV (M := M_Reader_readPart) (y := y_Reader_openChoice) (M' := M_Reader_openChoice) (d' := 3) (kc := 0) (ks := 0) (kc' := 0) (ks' := 0) (n := 0) d_Reader_readPart_95 ok_Reader_openChoice ml_Reader_100 (by decide) rfl (Nat.le_of_ble_eq_true rfl) ⟨tw_471, ts_Reader_openChoice⟩ wg_1 rfl (ct_Reader_openChoice_1 h) (fun v w h => ?_)
        obtain ⟨r6, i6, l6, a6, b6, rfl, rfl, h⟩ := h
        refine mm_eqs (st2 := [.int r6]) rfl ?_
        exact mm_retv (M := M_Reader_readPart) ⟨_, rfl, rfl, d_Reader_readPart_98⟩ ⟨_, _, _, _, _, rfl, rfl, h⟩
      · have h := h.2 c
        refine mm_aload_n (M := M_Reader_readPart) d_Reader_readPart_87 rfl ?_
        refine mm_eqs (st2 := [].reverse ++ .ref 1 :: []) rfl ?_
        refine mm_callV (M := M_Reader_readPart) (y := y_Reader_readCall) (M' := M_Reader_readCall) (d' := 2) (kc := 0) (ks := 0) (kc' := 0) (ks' := 0) (n := 0) d_Reader_readPart_88 ok_Reader_readCall ml_Reader_97 (by decide) rfl (Nat.le_of_ble_eq_true rfl) ⟨tw_458, ts_Reader_readCall⟩ wg_1 rfl (ct_Reader_readCall_1 h) (fun v w h => ?_)
        obtain ⟨r7, i7, l7, a7, b7, rfl, rfl, h⟩ := h
        refine mm_eqs (st2 := [.int r7]) rfl ?_
        refine mm_goto (M := M_Reader_readPart) (tgt := 98) d_Reader_readPart_91 (by decide) ?_
        exact mm_retv (M := M_Reader_readPart) ⟨_, rfl, rfl, d_Reader_readPart_98⟩ ⟨_, _, _, _, _, rfl, rfl, h⟩
  · have h := (h.2 c0).1 c1
    refine mm_aload_n (M := M_Reader_readPart) d_Reader_readPart_61 rfl ?_
    refine mm_eqs (st2 := [].reverse ++ .ref 1 :: []) rfl ?_
    refine mm_callV (M := M_Reader_readPart) (y := y_Reader_closeChoice) (M' := M_Reader_closeChoice) (d' := 1) (kc := 0) (ks := 0) (kc' := 0) (ks' := 0) (n := 0) d_Reader_readPart_62 ok_Reader_closeChoice ml_Reader_90 (by decide) rfl (Nat.le_of_ble_eq_true rfl) ⟨tw_449, ts_Reader_closeChoice⟩ wg_1 rfl (ct_Reader_closeChoice_1 h) (fun v w h => ?_)
    obtain ⟨r8, i8, l8, a8, b8, rfl, rfl, h⟩ := h
    refine mm_eqs (st2 := [.int r8]) rfl ?_
    exact mm_retv (M := M_Reader_readPart) ⟨_, rfl, rfl, d_Reader_readPart_65⟩ ⟨_, _, _, _, _, rfl, rfl, h⟩
  · have h := ((h.2 c0).2 c1).1 c2
    refine mm_aload_n (M := M_Reader_readPart) d_Reader_readPart_99 rfl ?_
    refine mm_eqs (st2 := [].reverse ++ .ref 1 :: []) rfl ?_
    refine mm_callV (M := M_Reader_readPart) (y := y_Reader_readClass) (M' := M_Reader_readClass) (d' := 3) (kc := 0) (ks := 0) (kc' := 0) (ks' := 0) (n := 0) d_Reader_readPart_100 ok_Reader_readClass ml_Reader_103 (by decide) rfl (Nat.le_of_ble_eq_true rfl) ⟨tw_479, ts_Reader_readClass⟩ wg_1 rfl (ct_Reader_readClass_1 h) (fun v w h => ?_)
    obtain ⟨r9, i9, l9, a9, b9, rfl, rfl, h⟩ := h
    refine mm_eqs (st2 := [.int r9]) rfl ?_
    exact mm_retv (M := M_Reader_readPart) ⟨_, rfl, rfl, d_Reader_readPart_103⟩ ⟨_, _, _, _, _, rfl, rfl, h⟩
  · have h := (((h.2 c0).2 c1).2 c2).1 c3
    refine mm_aload_n (M := M_Reader_readPart) d_Reader_readPart_104 rfl ?_
    refine mm_eqs (st2 := [].reverse ++ .ref 1 :: []) rfl ?_
    refine mm_callV (M := M_Reader_readPart) (y := y_Reader_readReference) (M' := M_Reader_readReference) (d' := 2) (kc := 0) (ks := 0) (kc' := 0) (ks' := 0) (n := 0) d_Reader_readPart_105 ok_Reader_readReference ml_Reader_106 (by decide) rfl (Nat.le_of_ble_eq_true rfl) ⟨tw_492, ts_Reader_readReference⟩ wg_1 rfl (ct_Reader_readReference_1 h) (fun v w h => ?_)
    obtain ⟨r10, i10, l10, a10, b10, rfl, rfl, h⟩ := h
    refine mm_eqs (st2 := [.int r10]) rfl ?_
    exact mm_retv (M := M_Reader_readPart) ⟨_, rfl, rfl, d_Reader_readPart_108⟩ ⟨_, _, _, _, _, rfl, rfl, h⟩
  · have h := ((((h.2 c0).2 c1).2 c2).2 c3).1 c4
    refine mm_aload_n (M := M_Reader_readPart) d_Reader_readPart_56 rfl ?_
    refine mm_eqs (st2 := [].reverse ++ .ref 1 :: []) rfl ?_
    refine mm_callV (M := M_Reader_readPart) (y := y_Reader_openNextRow) (M' := M_Reader_openNextRow) (d' := 1) (kc := 0) (ks := 0) (kc' := 0) (ks' := 0) (n := 0) d_Reader_readPart_57 ok_Reader_openNextRow ml_Reader_87 (by decide) rfl (Nat.le_of_ble_eq_true rfl) ⟨tw_445, ts_Reader_openNextRow⟩ wg_1 rfl (ct_Reader_openNextRow_1 h) (fun v w h => ?_)
    obtain ⟨r11, i11, l11, a11, b11, rfl, rfl, h⟩ := h
    refine mm_eqs (st2 := [.int r11]) rfl ?_
    exact mm_retv (M := M_Reader_readPart) ⟨_, rfl, rfl, d_Reader_readPart_60⟩ ⟨_, _, _, _, _, rfl, rfl, h⟩
  · have h := (((((h.2 c0).2 c1).2 c2).2 c3).2 c4)
    refine mm_aload_n (M := M_Reader_readPart) d_Reader_readPart_109 rfl ?_
    refine mm_eqs (st2 := [].reverse ++ .ref 1 :: []) rfl ?_
    refine mm_callV (M := M_Reader_readPart) (y := y_Reader_readSign) (M' := M_Reader_readSign) (d' := 2) (kc := 0) (ks := 0) (kc' := 0) (ks' := 0) (n := 0) d_Reader_readPart_110 ok_Reader_readSign ml_Reader_109 (by decide) rfl (Nat.le_of_ble_eq_true rfl) ⟨tw_496, ts_Reader_readSign⟩ wg_1 rfl (ct_Reader_readSign_1 h) (fun v w h => ?_)
    obtain ⟨r12, i12, l12, a12, b12, rfl, rfl, h⟩ := h
    refine mm_eqs (st2 := [.int r12]) rfl ?_
    exact mm_retv (M := M_Reader_readPart) ⟨_, rfl, rfl, d_Reader_readPart_113⟩ ⟨_, _, _, _, _, rfl, rfl, h⟩
/-- one turn of the loop of Reader.read: X says what must hold at its head again -/
def wt_Reader_read_1 (n1 n2 : Nat) (X : mm_i → mm_j → mm_a → mm_b → Int32 → Prop) (i : mm_i) (l : mm_j) (a : mm_a) (b : mm_b) (z1 : Int32) (K : Int32 → mm_i → mm_j → mm_a → mm_b → Prop) : Prop :=
  ((32 : Int32) ≤ z1 → vp_in 0 7 ∧ (((i 26) = 0 → K 0 (upd i 77 ((a 18) (0 : Int32).toNatClampNeg)) l a b) ∧ (¬ (i 26) = 0 → (¬ (i 22) = 0 → K 0 (upd i 77 ((a 18) (0 : Int32).toNatClampNeg)) l a b) ∧ ((i 22) = 0 → ((i 76) < (i 25) → K 0 (upd i 77 ((a 18) (0 : Int32).toNatClampNeg)) l a b) ∧ (¬ (i 76) < (i 25) → K 1 (upd i 77 ((a 18) (0 : Int32).toNatClampNeg)) l a b))))) ∧ (¬ (32 : Int32) ≤ z1 → ((i 26) = 0 → vp_in 0 7 ∧ (((i 26) = 0 → K 0 (upd i 77 ((a 18) (0 : Int32).toNatClampNeg)) l a b) ∧ (¬ (i 26) = 0 → (¬ (i 22) = 0 → K 0 (upd i 77 ((a 18) (0 : Int32).toNatClampNeg)) l a b) ∧ ((i 22) = 0 → ((i 76) < (i 25) → K 0 (upd i 77 ((a 18) (0 : Int32).toNatClampNeg)) l a b) ∧ (¬ (i 76) < (i 25) → K 1 (upd i 77 ((a 18) (0 : Int32).toNatClampNeg)) l a b))))) ∧ (¬ (i 26) = 0 → ((i 33) ≤ (i 23) → vp_in 0 7 ∧ (((i 26) = 0 → K 0 (upd i 77 ((a 18) (0 : Int32).toNatClampNeg)) l a b) ∧ (¬ (i 26) = 0 → (¬ (i 22) = 0 → K 0 (upd i 77 ((a 18) (0 : Int32).toNatClampNeg)) l a b) ∧ ((i 22) = 0 → ((i 76) < (i 25) → K 0 (upd i 77 ((a 18) (0 : Int32).toNatClampNeg)) l a b) ∧ (¬ (i 76) < (i 25) → K 1 (upd i 77 ((a 18) (0 : Int32).toNatClampNeg)) l a b))))) ∧ (¬ (i 33) ≤ (i 23) → wp_Reader_readPart_1 n1 n2 i l a b (fun r1 i1 l1 a1 b1 => (r1 = ((-1) : Int32) → X i1 l1 a1 b1 (z1 + 1)) ∧ (¬ r1 = ((-1) : Int32) → wp_Reader_readRepeat_1 n1 n2 i1 l1 a1 b1 r1 (fun i2 l2 a2 b2 => X i2 l2 a2 b2 (z1 + 1)))))))
def wl_Reader_read_1 (n1 n2 : Nat) (K : Int32 → mm_i → mm_j → mm_a → mm_b → Prop) : Nat → mm_i → mm_j → mm_a → mm_b → Int32 → Prop
  | 0 => fun _ _ _ _ _ => False
  | n + 1 => fun i l a b z1 => wt_Reader_read_1 n1 n2 (wl_Reader_read_1 n1 n2 K n) i l a b z1 K
def wp_Reader_read_1 (n1 n2 : Nat) (i : mm_i) (l : mm_j) (a : mm_a) (b : mm_b)  (K : Int32 → mm_i → mm_j → mm_a → mm_b → Prop) : Prop :=
  wp_Program_empty_4 n1 n2 i l a b (fun i1 l1 a1 b1 => wp_Reader_openLevel_1 n1 n2 (upd (upd (upd i1 23 0) 25 0) 26 1) l1 a1 b1 0 (-1) (fun i2 l2 a2 b2 => vp_in 0 7 ∧ (vp_in 0 5 ∧ (∃ n, wl_Reader_read_1 n1 n2 K n i2 l2 (mm_ua a2 14 (upd (a2 14) (0 : Int32).toNatClampNeg ((a2 16) (0 : Int32).toNatClampNeg))) b2 0))))
set_option maxRecDepth 100000 in
set_option maxHeartbeats 4000000 in
theorem vt_Reader_read_1 {n1 n2 k0 : Nat} {t : mm_H} {K : Int32 → mm_i → mm_j → mm_a → mm_b → Prop} {X : mm_i → mm_j → mm_a → mm_b → Int32 → Prop} (hX : ∀ {i l a b z1}, X i l a b z1 → mm_V M_Reader_read 5 k0 (mm_PI n1 n2 t K) 0 0 45 [some (.ref 1), some (.int z1), none] [] (Wd 4 22 n1 n2 i l a b ++ t)) {i : mm_i} {l : mm_j} {a : mm_a} {b : mm_b} {z1 : Int32} (h : wt_Reader_read_1 n1 n2 X i l a b z1 K) : mm_V M_Reader_read 5 k0 (mm_PI n1 n2 t K) 0 0 45 [some (.ref 1), some (.int z1), none] [] (Wd 4 22 n1 n2 i l a b ++ t) := by
  unfold wt_Reader_read_1 at h
  refine mm_iload_n (M := M_Reader_read) d_Reader_read_45 rfl ?_
  refine mm_bipush (M := M_Reader_read) (v := 32) d_Reader_read_46 (by decide) ?_
  refine mm_icmp_ge (M := M_Reader_read) 93 d_Reader_read_48 (by decide) (fun c => ?_) (fun c => ?_)
  · have h := h.1 c
    refine mm_aload_n (M := M_Reader_read) d_Reader_read_93 rfl ?_
    refine mm_getf (M := M_Reader_read) (u := .ref 4) 2 1 d_Reader_read_94 fl_Reader_23 wg_1 rfl ?_
    refine mm_aload_n (M := M_Reader_read) d_Reader_read_97 rfl ?_
    refine mm_getf (M := M_Reader_read) (u := .ref 18) 2 5 d_Reader_read_98 fl_Reader_37 wg_1 rfl ?_
    refine mm_iconst (M := M_Reader_read) (v := 0) d_Reader_read_101 (by decide) ?_
    obtain ⟨hin, h⟩ := h
    refine mm_iald (M := M_Reader_read) (f := (a 18)) d_Reader_read_102 wg_18 hin ?_
    refine mm_putf (M := M_Reader_read) 1 13 .int d_Reader_read_103 fl_Reader_77 fp_Reader_77 ft_1_13 wg_4 (Nat.le_of_ble_eq_true rfl) trivial ?_
    refine mm_eqw ws_77 ?_
    refine mm_aload_n (M := M_Reader_read) d_Reader_read_106 rfl ?_
    refine mm_getf (M := M_Reader_read) (u := .int (i 26)) 2 10 d_Reader_read_107 fl_Reader_53 wg_1 rfl ?_
    refine mm_if_eq (M := M_Reader_read) 138 d_Reader_read_110 (by decide) (fun c => ?_) (fun c => ?_)
    · have h := h.1 c
      refine mm_iconst (M := M_Reader_read) (v := 0) d_Reader_read_138 (by decide) ?_
      exact mm_retv (M := M_Reader_read) ⟨_, rfl, (by decide), d_Reader_read_139⟩ ⟨_, _, _, _, _, rfl, rfl, h⟩
    · have h := h.2 c
      refine mm_aload_n (M := M_Reader_read) d_Reader_read_113 rfl ?_
      refine mm_getf (M := M_Reader_read) (u := .int (i 22)) 2 6 d_Reader_read_114 fl_Reader_40 wg_1 rfl ?_
      refine mm_if_ne (M := M_Reader_read) 138 d_Reader_read_117 (by decide) (fun c => ?_) (fun c => ?_)
      · have h := h.1 c
        refine mm_iconst (M := M_Reader_read) (v := 0) d_Reader_read_138 (by decide) ?_
        exact mm_retv (M := M_Reader_read) ⟨_, rfl, (by decide), d_Reader_read_139⟩ ⟨_, _, _, _, _, rfl, rfl, h⟩
      · have h := h.2 c
        refine mm_aload_n (M := M_Reader_read) d_Reader_read_120 rfl ?_
        refine mm_getf (M := M_Reader_read) (u := .int (i 25)) 2 9 d_Reader_read_121 fl_Reader_50 wg_1 rfl ?_
        refine mm_aload_n (M := M_Reader_read) d_Reader_read_124 rfl ?_
        refine mm_getf (M := M_Reader_read) (u := .ref 4) 2 1 d_Reader_read_125 fl_Reader_23 wg_1 rfl ?_
        refine mm_getf (M := M_Reader_read) (u := .int (i 76)) 1 12 d_Reader_read_128 fl_Reader_80 wg_4 rfl ?_
        refine mm_icmp_gt (M := M_Reader_read) 138 d_Reader_read_131 (by decide) (fun c => ?_) (fun c => ?_)
        · have h := h.1 c
          refine mm_iconst (M := M_Reader_read) (v := 0) d_Reader_read_138 (by decide) ?_
          exact mm_retv (M := M_Reader_read) ⟨_, rfl, (by decide), d_Reader_read_139⟩ ⟨_, _, _, _, _, rfl, rfl, h⟩
        · have h := h.2 c
          refine mm_iconst (M := M_Reader_read) (v := 1) d_Reader_read_134 (by decide) ?_
          refine mm_goto (M := M_Reader_read) (tgt := 139) d_Reader_read_135 (by decide) ?_
          exact mm_retv (M := M_Reader_read) ⟨_, rfl, (by decide), d_Reader_read_139⟩ ⟨_, _, _, _, _, rfl, rfl, h⟩
  · have h := h.2 c
    refine mm_aload_n (M := M_Reader_read) d_Reader_read_51 rfl ?_
    refine mm_getf (M := M_Reader_read) (u := .int (i 26)) 2 10 d_Reader_read_52 fl_Reader_53 wg_1 rfl ?_
    refine mm_if_eq (M := M_Reader_read) 93 d_Reader_read_55 (by decide) (fun c => ?_) (fun c => ?_)
    · have h := h.1 c
      refine mm_aload_n (M := M_Reader_read) d_Reader_read_93 rfl ?_
      refine mm_getf (M := M_Reader_read) (u := .ref 4) 2 1 d_Reader_read_94 fl_Reader_23 wg_1 rfl ?_
      refine mm_aload_n (M := M_Reader_read) d_Reader_read_97 rfl ?_
      refine mm_getf (M := M_Reader_read) (u := .ref 18) 2 5 d_Reader_read_98 fl_Reader_37 wg_1 rfl ?_
      refine mm_iconst (M := M_Reader_read) (v := 0) d_Reader_read_101 (by decide) ?_
      obtain ⟨hin, h⟩ := h
      refine mm_iald (M := M_Reader_read) (f := (a 18)) d_Reader_read_102 wg_18 hin ?_
      refine mm_putf (M := M_Reader_read) 1 13 .int d_Reader_read_103 fl_Reader_77 fp_Reader_77 ft_1_13 wg_4 (Nat.le_of_ble_eq_true rfl) trivial ?_
      refine mm_eqw ws_77 ?_
      refine mm_aload_n (M := M_Reader_read) d_Reader_read_106 rfl ?_
      refine mm_getf (M := M_Reader_read) (u := .int (i 26)) 2 10 d_Reader_read_107 fl_Reader_53 wg_1 rfl ?_
      refine mm_if_eq (M := M_Reader_read) 138 d_Reader_read_110 (by decide) (fun c => ?_) (fun c => ?_)
      · have h := h.1 c
        refine mm_iconst (M := M_Reader_read) (v := 0) d_Reader_read_138 (by decide) ?_
        exact mm_retv (M := M_Reader_read) ⟨_, rfl, (by decide), d_Reader_read_139⟩ ⟨_, _, _, _, _, rfl, rfl, h⟩
      · have h := h.2 c
        refine mm_aload_n (M := M_Reader_read) d_Reader_read_113 rfl ?_
        refine mm_getf (M := M_Reader_read) (u := .int (i 22)) 2 6 d_Reader_read_114 fl_Reader_40 wg_1 rfl ?_
        refine mm_if_ne (M := M_Reader_read) 138 d_Reader_read_117 (by decide) (fun c => ?_) (fun c => ?_)
        · have h := h.1 c
          refine mm_iconst (M := M_Reader_read) (v := 0) d_Reader_read_138 (by decide) ?_
          exact mm_retv (M := M_Reader_read) ⟨_, rfl, (by decide), d_Reader_read_139⟩ ⟨_, _, _, _, _, rfl, rfl, h⟩
        · have h := h.2 c
          refine mm_aload_n (M := M_Reader_read) d_Reader_read_120 rfl ?_
          refine mm_getf (M := M_Reader_read) (u := .int (i 25)) 2 9 d_Reader_read_121 fl_Reader_50 wg_1 rfl ?_
          refine mm_aload_n (M := M_Reader_read) d_Reader_read_124 rfl ?_
          refine mm_getf (M := M_Reader_read) (u := .ref 4) 2 1 d_Reader_read_125 fl_Reader_23 wg_1 rfl ?_
          refine mm_getf (M := M_Reader_read) (u := .int (i 76)) 1 12 d_Reader_read_128 fl_Reader_80 wg_4 rfl ?_
          refine mm_icmp_gt (M := M_Reader_read) 138 d_Reader_read_131 (by decide) (fun c => ?_) (fun c => ?_)
          · have h := h.1 c
            refine mm_iconst (M := M_Reader_read) (v := 0) d_Reader_read_138 (by decide) ?_
            exact mm_retv (M := M_Reader_read) ⟨_, rfl, (by decide), d_Reader_read_139⟩ ⟨_, _, _, _, _, rfl, rfl, h⟩
          · have h := h.2 c
            refine mm_iconst (M := M_Reader_read) (v := 1) d_Reader_read_134 (by decide) ?_
            refine mm_goto (M := M_Reader_read) (tgt := 139) d_Reader_read_135 (by decide) ?_
            exact mm_retv (M := M_Reader_read) ⟨_, rfl, (by decide), d_Reader_read_139⟩ ⟨_, _, _, _, _, rfl, rfl, h⟩
    · have h := h.2 c
      refine mm_aload_n (M := M_Reader_read) d_Reader_read_58 rfl ?_
      refine mm_getf (M := M_Reader_read) (u := .int (i 23)) 2 7 d_Reader_read_59 fl_Reader_44 wg_1 rfl ?_
      refine mm_aload_n (M := M_Reader_read) d_Reader_read_62 rfl ?_
      refine mm_getf (M := M_Reader_read) (u := .ref 2) 2 0 d_Reader_read_63 fl_Reader_14 wg_1 rfl ?_
      refine mm_getf (M := M_Reader_read) (u := .int (i 33)) 0 1 d_Reader_read_66 fl_Reader_67 wg_2 rfl ?_
      refine mm_icmp_ge (M := M_Reader_read) 93 d_Reader_read_69 (by decide) (fun c => ?_) (fun c => ?_)
      · have h := h.1 c
        refine mm_aload_n (M := M_Reader_read) d_Reader_read_93 rfl ?_
        refine mm_getf (M := M_Reader_read) (u := .ref 4) 2 1 d_Reader_read_94 fl_Reader_23 wg_1 rfl ?_
        refine mm_aload_n (M := M_Reader_read) d_Reader_read_97 rfl ?_
        refine mm_getf (M := M_Reader_read) (u := .ref 18) 2 5 d_Reader_read_98 fl_Reader_37 wg_1 rfl ?_
        refine mm_iconst (M := M_Reader_read) (v := 0) d_Reader_read_101 (by decide) ?_
        obtain ⟨hin, h⟩ := h
        refine mm_iald (M := M_Reader_read) (f := (a 18)) d_Reader_read_102 wg_18 hin ?_
        refine mm_putf (M := M_Reader_read) 1 13 .int d_Reader_read_103 fl_Reader_77 fp_Reader_77 ft_1_13 wg_4 (Nat.le_of_ble_eq_true rfl) trivial ?_
        refine mm_eqw ws_77 ?_
        refine mm_aload_n (M := M_Reader_read) d_Reader_read_106 rfl ?_
        refine mm_getf (M := M_Reader_read) (u := .int (i 26)) 2 10 d_Reader_read_107 fl_Reader_53 wg_1 rfl ?_
        refine mm_if_eq (M := M_Reader_read) 138 d_Reader_read_110 (by decide) (fun c => ?_) (fun c => ?_)
        · have h := h.1 c
          refine mm_iconst (M := M_Reader_read) (v := 0) d_Reader_read_138 (by decide) ?_
          exact mm_retv (M := M_Reader_read) ⟨_, rfl, (by decide), d_Reader_read_139⟩ ⟨_, _, _, _, _, rfl, rfl, h⟩
        · have h := h.2 c
          refine mm_aload_n (M := M_Reader_read) d_Reader_read_113 rfl ?_
          refine mm_getf (M := M_Reader_read) (u := .int (i 22)) 2 6 d_Reader_read_114 fl_Reader_40 wg_1 rfl ?_
          refine mm_if_ne (M := M_Reader_read) 138 d_Reader_read_117 (by decide) (fun c => ?_) (fun c => ?_)
          · have h := h.1 c
            refine mm_iconst (M := M_Reader_read) (v := 0) d_Reader_read_138 (by decide) ?_
            exact mm_retv (M := M_Reader_read) ⟨_, rfl, (by decide), d_Reader_read_139⟩ ⟨_, _, _, _, _, rfl, rfl, h⟩
          · have h := h.2 c
            refine mm_aload_n (M := M_Reader_read) d_Reader_read_120 rfl ?_
            refine mm_getf (M := M_Reader_read) (u := .int (i 25)) 2 9 d_Reader_read_121 fl_Reader_50 wg_1 rfl ?_
            refine mm_aload_n (M := M_Reader_read) d_Reader_read_124 rfl ?_
            refine mm_getf (M := M_Reader_read) (u := .ref 4) 2 1 d_Reader_read_125 fl_Reader_23 wg_1 rfl ?_
            refine mm_getf (M := M_Reader_read) (u := .int (i 76)) 1 12 d_Reader_read_128 fl_Reader_80 wg_4 rfl ?_
            refine mm_icmp_gt (M := M_Reader_read) 138 d_Reader_read_131 (by decide) (fun c => ?_) (fun c => ?_)
            · have h := h.1 c
              refine mm_iconst (M := M_Reader_read) (v := 0) d_Reader_read_138 (by decide) ?_
              exact mm_retv (M := M_Reader_read) ⟨_, rfl, (by decide), d_Reader_read_139⟩ ⟨_, _, _, _, _, rfl, rfl, h⟩
            · have h := h.2 c
              refine mm_iconst (M := M_Reader_read) (v := 1) d_Reader_read_134 (by decide) ?_
              refine mm_goto (M := M_Reader_read) (tgt := 139) d_Reader_read_135 (by decide) ?_
              exact mm_retv (M := M_Reader_read) ⟨_, rfl, (by decide), d_Reader_read_139⟩ ⟨_, _, _, _, _, rfl, rfl, h⟩
      · have h := h.2 c
        refine mm_aload_n (M := M_Reader_read) d_Reader_read_72 rfl ?_
        refine mm_eqs (st2 := [].reverse ++ .ref 1 :: []) rfl ?_
        refine mm_callV (M := M_Reader_read) (y := y_Reader_readPart) (M' := M_Reader_readPart) (d' := 4) (kc := 0) (ks := 0) (kc' := 0) (ks' := 0) (n := 0) d_Reader_read_73 ok_Reader_readPart ml_Reader_70 (by decide) rfl (Nat.le_of_ble_eq_true rfl) ⟨tw_433, ts_Reader_readPart⟩ wg_1 rfl (ct_Reader_readPart_1 h) (fun v w h => ?_)
        obtain ⟨r1, i1, l1, a1, b1, rfl, rfl, h⟩ := h
        refine mm_eqs (st2 := [.int r1]) rfl ?_
        refine mm_istore_n (M := M_Reader_read) d_Reader_read_76 (Nat.le_of_ble_eq_true rfl) ?_
        refine mm_eqL (L' := [some (.ref 1), some (.int z1), some (.int r1)]) rfl ?_
        refine mm_iload_n (M := M_Reader_read) d_Reader_read_77 rfl ?_
        refine mm_iconst (M := M_Reader_read) (v := (-1)) d_Reader_read_78 (by decide) ?_
        refine mm_icmp_eq (M := M_Reader_read) 87 d_Reader_read_79 (by decide) (fun c => ?_) (fun c => ?_)
        · have h := h.1 c
          refine mm_iinc (M := M_Reader_read) (v := 1) d_Reader_read_87 rfl (by decide) (Nat.le_of_ble_eq_true rfl) ?_
          refine mm_eqL (L' := [some (.ref 1), some (.int (z1 + 1)), some (.int r1)]) rfl ?_
          refine mm_goto (M := M_Reader_read) (tgt := 45) d_Reader_read_90 (by decide) ?_
          refine mm_drop (L' := [some (.ref 1), some (.int (z1 + 1)), none]) ⟨rfl, ⟨rfl, trivial⟩⟩ ?_
          exact hX h
        · have h := h.2 c
          refine mm_aload_n (M := M_Reader_read) d_Reader_read_82 rfl ?_
          refine mm_iload_n (M := M_Reader_read) d_Reader_read_83 rfl ?_
          refine mm_eqs (st2 := [.int r1].reverse ++ .ref 1 :: []) rfl ?_
          refine mm_callV (M := M_Reader_read) (y := y_Reader_readRepeat) (M' := M_Reader_readRepeat) (d' := 4) (kc := 0) (ks := 0) (kc' := 0) (ks' := 0) (n := 1) d_Reader_read_84 ok_Reader_readRepeat ml_Reader_74 (by decide) rfl (Nat.le_of_ble_eq_true rfl) ⟨tw_500, ts_Reader_readRepeat⟩ wg_1 rfl (ct_Reader_readRepeat_1 h) (fun v w h => ?_)
          obtain ⟨i2, l2, a2, b2, rfl, rfl, h⟩ := h
          refine mm_eqs (st2 := []) rfl ?_
          refine mm_iinc (M := M_Reader_read) (v := 1) d_Reader_read_87 rfl (by decide) (Nat.le_of_ble_eq_true rfl) ?_
          refine mm_eqL (L' := [some (.ref 1), some (.int (z1 + 1)), some (.int r1)]) rfl ?_
          refine mm_goto (M := M_Reader_read) (tgt := 45) d_Reader_read_90 (by decide) ?_
          refine mm_drop (L' := [some (.ref 1), some (.int (z1 + 1)), none]) ⟨rfl, ⟨rfl, trivial⟩⟩ ?_
          exact hX h
theorem vl_Reader_read_1 {n1 n2 k0 : Nat} {t : mm_H} {K : Int32 → mm_i → mm_j → mm_a → mm_b → Prop} : ∀ (n : Nat) {i : mm_i} {l : mm_j} {a : mm_a} {b : mm_b} {z1 : Int32}, wl_Reader_read_1 n1 n2 K n i l a b z1 → mm_V M_Reader_read 5 k0 (mm_PI n1 n2 t K) 0 0 45 [some (.ref 1), some (.int z1), none] [] (Wd 4 22 n1 n2 i l a b ++ t)
  | 0, _, _, _, _, _, h => h.elim
  | n + 1, _, _, _, _, _, h => vt_Reader_read_1 (fun h => vl_Reader_read_1 n h) h
set_option maxRecDepth 100000 in
set_option maxHeartbeats 4000000 in
theorem ct_Reader_read_1 {n1 n2 : Nat} {i : mm_i} {l : mm_j} {a : mm_a} {b : mm_b} {t : mm_H}  {K : Int32 → mm_i → mm_j → mm_a → mm_b → Prop} (h : wp_Reader_read_1 n1 n2 i l a b  K) : mm_Ct y_Reader_read M_Reader_read 5 0 0 [.ref 1] (Wd 4 22 n1 n2 i l a b ++ t) (mm_PI n1 n2 t K) := by
  refine mm_Ct.of (by decide) rfl (fun q => absurd q (by decide)) (Nat.le_of_ble_eq_true rfl) ?_
  unfold wp_Reader_read_1 at h
  refine mm_eqL (L' := [some (.ref 1), none, none]) rfl ?_
  refine mm_aload_n (M := M_Reader_read) d_Reader_read_0 rfl ?_
  refine mm_getf (M := M_Reader_read) (u := .ref 4) 2 1 d_Reader_read_1 fl_Reader_23 wg_1 rfl ?_
  refine mm_eqs (st2 := [].reverse ++ .ref 4 :: []) rfl ?_
  refine mm_callV (M := M_Reader_read) (y := y_Program_empty) (M' := M_Program_empty) (d' := 0) (kc := 0) (ks := 0) (kc' := 0) (ks' := 0) (n := 0) d_Reader_read_4 ok_Program_empty ml_Reader_57 (by decide) rfl (Nat.le_of_ble_eq_true rfl) ⟨tw_420, tw_421⟩ wg_4 rfl (ct_Program_empty_4 h) (fun v w h => ?_)
  obtain ⟨i1, l1, a1, b1, rfl, rfl, h⟩ := h
  refine mm_eqs (st2 := []) rfl ?_
  refine mm_aload_n (M := M_Reader_read) d_Reader_read_7 rfl ?_
  refine mm_iconst (M := M_Reader_read) (v := 0) d_Reader_read_8 (by decide) ?_
  refine mm_putf (M := M_Reader_read) 2 7 .int d_Reader_read_9 fl_Reader_44 fp_Reader_44 ft_2_7 wg_1 (Nat.le_of_ble_eq_true rfl) trivial ?_
  refine mm_eqw ws_23 ?_
  refine mm_aload_n (M := M_Reader_read) d_Reader_read_12 rfl ?_
  refine mm_iconst (M := M_Reader_read) (v := 0) d_Reader_read_13 (by decide) ?_
  refine mm_putf (M := M_Reader_read) 2 9 .int d_Reader_read_14 fl_Reader_50 fp_Reader_50 ft_2_9 wg_1 (Nat.le_of_ble_eq_true rfl) trivial ?_
  refine mm_eqw ws_25 ?_
  refine mm_aload_n (M := M_Reader_read) d_Reader_read_17 rfl ?_
  refine mm_iconst (M := M_Reader_read) (v := 1) d_Reader_read_18 (by decide) ?_
  refine mm_putf (M := M_Reader_read) 2 10 .boolean d_Reader_read_19 fl_Reader_53 fp_Reader_53 ft_2_10 wg_1 (Nat.le_of_ble_eq_true rfl) (Or.inr rfl) ?_
  refine mm_eqw ws_26 ?_
  refine mm_aload_n (M := M_Reader_read) d_Reader_read_22 rfl ?_
  refine mm_iconst (M := M_Reader_read) (v := 0) d_Reader_read_23 (by decide) ?_
  refine mm_iconst (M := M_Reader_read) (v := (-1)) d_Reader_read_24 (by decide) ?_
  refine mm_eqs (st2 := [.int 0, .int (-1)].reverse ++ .ref 1 :: []) rfl ?_
  refine mm_callV (M := M_Reader_read) (y := y_Reader_openLevel) (M' := M_Reader_openLevel) (d' := 1) (kc := 0) (ks := 0) (kc' := 0) (ks' := 0) (n := 2) d_Reader_read_25 ok_Reader_openLevel ml_Reader_60 (by decide) rfl (Nat.le_of_ble_eq_true rfl) ⟨tw_425, ts_Reader_openLevel⟩ wg_1 rfl (ct_Reader_openLevel_1 h) (fun v w h => ?_)
  obtain ⟨i2, l2, a2, b2, rfl, rfl, h⟩ := h
  refine mm_eqs (st2 := []) rfl ?_
  refine mm_aload_n (M := M_Reader_read) d_Reader_read_28 rfl ?_
  refine mm_getf (M := M_Reader_read) (u := .ref 4) 2 1 d_Reader_read_29 fl_Reader_23 wg_1 rfl ?_
  refine mm_getf (M := M_Reader_read) (u := .ref 14) 1 9 d_Reader_read_32 fl_Reader_64 wg_4 rfl ?_
  refine mm_iconst (M := M_Reader_read) (v := 0) d_Reader_read_35 (by decide) ?_
  refine mm_aload_n (M := M_Reader_read) d_Reader_read_36 rfl ?_
  refine mm_getf (M := M_Reader_read) (u := .ref 16) 2 3 d_Reader_read_37 fl_Reader_31 wg_1 rfl ?_
  refine mm_iconst (M := M_Reader_read) (v := 0) d_Reader_read_40 (by decide) ?_
  obtain ⟨hin, h⟩ := h
  refine mm_iald (M := M_Reader_read) (f := (a2 16)) d_Reader_read_41 wg_16 hin ?_
  obtain ⟨hin, h⟩ := h
  refine mm_iast (M := M_Reader_read) (f := (a2 14)) d_Reader_read_42 wg_14 hin ?_
  refine mm_eqw wa_14 ?_
  refine mm_iconst (M := M_Reader_read) (v := 0) d_Reader_read_43 (by decide) ?_
  refine mm_istore_n (M := M_Reader_read) d_Reader_read_44 (Nat.le_of_ble_eq_true rfl) ?_
  refine mm_eqL (L' := [some (.ref 1), some (.int 0), none]) rfl ?_
  obtain ⟨n, h⟩ := h
  refine mm_drop (L' := [some (.ref 1), some (.int 0), none]) ⟨rfl, ⟨rfl, trivial⟩⟩ ?_
  exact (vl_Reader_read_1 n) h
/-- behind the inner loop of find -/
def we_Matcher_find_19 (n1 n2 : Nat) (Y : mm_i → mm_j → mm_a → mm_b → Int32 → Prop) (i : mm_i) (l : mm_j) (a : mm_a) (b : mm_b) (z2 : Int32) (K : Int32 → mm_i → mm_j → mm_a → mm_b → Prop) : Prop :=
  ((i 309) = (9 : Int32) → Y i l a b (z2 + 1)) ∧ (¬ (i 309) = (9 : Int32) → (¬ (i 309) = (8 : Int32) → K (-5) i l a b) ∧ ((i 309) = (8 : Int32) → K z2 i l a b))
/-- one turn of the inner loop -/
def wj_Matcher_find_19 (n1 n2 : Nat) (X : mm_i → mm_j → mm_a → mm_b → Int32 → Int32 → Prop) (E : mm_i → mm_j → mm_a → mm_b → Int32 → Prop) (i : mm_i) (l : mm_j) (a : mm_a) (b : mm_b) (z2 z3 : Int32) : Prop :=
  ((1000000 : Int32) ≤ z3 → E i l a b z2) ∧ (¬ (1000000 : Int32) ≤ z3 → wp_Matcher_goesOn_19 n1 n2 i l a b (fun r1 i1 l1 a1 b1 => (r1 = 0 → E i1 l1 a1 b1 z2) ∧ (¬ r1 = 0 → wp_Matcher_takeTurn_19 n1 n2 i1 l1 a1 b1 (fun i2 l2 a2 b2 => X i2 l2 a2 b2 z2 (z3 + 1)))))
def wi_Matcher_find_19 (n1 n2 : Nat) (E : mm_i → mm_j → mm_a → mm_b → Int32 → Prop) : Nat → mm_i → mm_j → mm_a → mm_b → Int32 → Int32 → Prop
  | 0 => fun _ _ _ _ _ _ => False
  | n + 1 => fun i l a b z2 z3 => wj_Matcher_find_19 n1 n2 (wi_Matcher_find_19 n1 n2 E n) E i l a b z2 z3
/-- one turn of the outer loop -/
def wt_Matcher_find_19 (n1 n2 : Nat) (Y : mm_i → mm_j → mm_a → mm_b → Int32 → Prop) (i : mm_i) (l : mm_j) (a : mm_a) (b : mm_b) (z2 : Int32) (K : Int32 → mm_i → mm_j → mm_a → mm_b → Prop) : Prop :=
  ((i 321) < z2 → K (-4) i l a b) ∧ (¬ (i 321) < z2 → wp_Matcher_beginAt_19 n1 n2 i l a b z2 (fun i1 l1 a1 b1 => ∃ n, wi_Matcher_find_19 n1 n2 (fun i l a b z2 => we_Matcher_find_19 n1 n2 Y i l a b z2 K) n i1 l1 a1 b1 z2 0))
def wl_Matcher_find_19 (n1 n2 : Nat) (K : Int32 → mm_i → mm_j → mm_a → mm_b → Prop) : Nat → mm_i → mm_j → mm_a → mm_b → Int32 → Prop
  | 0 => fun _ _ _ _ _ => False
  | n + 1 => fun i l a b z2 => wt_Matcher_find_19 n1 n2 (wl_Matcher_find_19 n1 n2 K n) i l a b z2 K
def wp_Matcher_find_19 (n1 n2 : Nat) (i : mm_i) (l : mm_j) (a : mm_a) (b : mm_b) (x1 : Int32) (K : Int32 → mm_i → mm_j → mm_a → mm_b → Prop) : Prop :=
  ∃ n, wl_Matcher_find_19 n1 n2 K n (upd i 314 0) l a b x1
set_option maxRecDepth 100000 in
set_option maxHeartbeats 4000000 in
theorem ve_Matcher_find_19 {n1 n2 k0 : Nat} {t : mm_H} {K : Int32 → mm_i → mm_j → mm_a → mm_b → Prop} {Y : mm_i → mm_j → mm_a → mm_b → Int32 → Prop} (hY : ∀ {i l a b z2}, Y i l a b z2 → mm_V M_Matcher_find 4 k0 (mm_PI n1 n2 t K) 0 0 7 [some (.ref 19), none, some (.int z2), none] [] (Wd 4 22 n1 n2 i l a b ++ t)) {i : mm_i} {l : mm_j} {a : mm_a} {b : mm_b} {z2 : Int32} (h : we_Matcher_find_19 n1 n2 Y i l a b z2 K) : mm_V M_Matcher_find 4 k0 (mm_PI n1 n2 t K) 0 0 48 [some (.ref 19), none, some (.int z2), none] [] (Wd 4 22 n1 n2 i l a b ++ t) := by
  unfold we_Matcher_find_19 at h
  refine mm_aload_n (M := M_Matcher_find) d_Matcher_find_48 rfl ?_
  refine mm_getf (M := M_Matcher_find) (u := .int (i 309)) 5 5 d_Matcher_find_49 fl_Matcher_27 wg_19 rfl ?_
  refine mm_bipush (M := M_Matcher_find) (v := 9) d_Matcher_find_52 (by decide) ?_
  refine mm_icmp_eq (M := M_Matcher_find) 73 d_Matcher_find_54 (by decide) (fun c => ?_) (fun c => ?_)
  · have h := h.1 c
    refine mm_iinc (M := M_Matcher_find) (v := 1) d_Matcher_find_73 rfl (by decide) (Nat.le_of_ble_eq_true rfl) ?_
    refine mm_eqL (L' := [some (.ref 19), none, some (.int (z2 + 1)), none]) rfl ?_
    refine mm_goto (M := M_Matcher_find) (tgt := 7) d_Matcher_find_76 (by decide) ?_
    refine mm_drop (L' := [some (.ref 19), none, some (.int (z2 + 1)), none]) ⟨rfl, ⟨rfl, trivial⟩⟩ ?_
    exact hY h
  · have h := h.2 c
    refine mm_aload_n (M := M_Matcher_find) d_Matcher_find_57 rfl ?_
    refine mm_getf (M := M_Matcher_find) (u := .int (i 309)) 5 5 d_Matcher_find_58 fl_Matcher_27 wg_19 rfl ?_
    refine mm_bipush (M := M_Matcher_find) (v := 8) d_Matcher_find_61 (by decide) ?_
    refine mm_icmp_ne (M := M_Matcher_find) 70 d_Matcher_find_63 (by decide) (fun c => ?_) (fun c => ?_)
    · have h := h.1 c
      refine mm_bipush (M := M_Matcher_find) (v := (-5)) d_Matcher_find_70 (by decide) ?_
      exact mm_retv (M := M_Matcher_find) ⟨_, rfl, rfl, d_Matcher_find_72⟩ ⟨_, _, _, _, _, rfl, rfl, h⟩
    · have h := h.2 c
      refine mm_iload_n (M := M_Matcher_find) d_Matcher_find_66 rfl ?_
      refine mm_goto (M := M_Matcher_find) (tgt := 72) d_Matcher_find_67 (by decide) ?_
      exact mm_retv (M := M_Matcher_find) ⟨_, rfl, rfl, d_Matcher_find_72⟩ ⟨_, _, _, _, _, rfl, rfl, h⟩
set_option maxRecDepth 100000 in
set_option maxHeartbeats 4000000 in
theorem vj_Matcher_find_19 {n1 n2 k0 : Nat} {t : mm_H} {K : Int32 → mm_i → mm_j → mm_a → mm_b → Prop} {X : mm_i → mm_j → mm_a → mm_b → Int32 → Int32 → Prop} {E : mm_i → mm_j → mm_a → mm_b → Int32 → Prop} (hX : ∀ {i l a b z2 z3}, X i l a b z2 z3 → mm_V M_Matcher_find 4 k0 (mm_PI n1 n2 t K) 0 0 25 [some (.ref 19), none, some (.int z2), some (.int z3)] [] (Wd 4 22 n1 n2 i l a b ++ t)) (hE : ∀ {i l a b z2}, E i l a b z2 → mm_V M_Matcher_find 4 k0 (mm_PI n1 n2 t K) 0 0 48 [some (.ref 19), none, some (.int z2), none] [] (Wd 4 22 n1 n2 i l a b ++ t)) {i : mm_i} {l : mm_j} {a : mm_a} {b : mm_b} {z2 z3 : Int32} (h : wj_Matcher_find_19 n1 n2 X E i l a b z2 z3) : mm_V M_Matcher_find 4 k0 (mm_PI n1 n2 t K) 0 0 25 [some (.ref 19), none, some (.int z2), some (.int z3)] [] (Wd 4 22 n1 n2 i l a b ++ t) := by
  unfold wj_Matcher_find_19 at h
  refine mm_iload_n (M := M_Matcher_find) d_Matcher_find_25 rfl ?_
  refine mm_ldc (M := M_Matcher_find) (v := 1000000) d_Matcher_find_26 tw_546 ?_
  refine mm_icmp_ge (M := M_Matcher_find) 48 d_Matcher_find_28 (by decide) (fun c => ?_) (fun c => ?_)
  · have h := h.1 c
    refine mm_drop (L' := [some (.ref 19), none, some (.int z2), none]) ⟨rfl, ⟨rfl, trivial⟩⟩ ?_
    exact hE h
  · have h := h.2 c
    refine mm_aload_n (M := M_Matcher_find) d_Matcher_find_31 rfl ?_
    refine mm_eqs (st2 := [].reverse ++ .ref 19 :: []) rfl ?_
    refine mm_callV (M := M_Matcher_find) (y := y_Matcher_goesOn) (M' := M_Matcher_goesOn) (d' := 1) (kc := 0) (ks := 0) (kc' := 0) (ks' := 0) (n := 0) d_Matcher_find_32 ok_Matcher_goesOn ml_Matcher_71 (by decide) rfl (Nat.le_of_ble_eq_true rfl) ⟨tw_549, ts_Matcher_goesOn⟩ wg_19 rfl (ct_Matcher_goesOn_19 h) (fun v w h => ?_)
    obtain ⟨r1, i1, l1, a1, b1, rfl, rfl, h⟩ := h
    refine mm_eqs (st2 := [.int r1]) rfl ?_
    refine mm_if_eq (M := M_Matcher_find) 48 d_Matcher_find_35 (by decide) (fun c => ?_) (fun c => ?_)
    · have h := h.1 c
      refine mm_drop (L' := [some (.ref 19), none, some (.int z2), none]) ⟨rfl, ⟨rfl, trivial⟩⟩ ?_
      exact hE h
    · have h := h.2 c
      refine mm_aload_n (M := M_Matcher_find) d_Matcher_find_38 rfl ?_
      refine mm_eqs (st2 := [].reverse ++ .ref 19 :: []) rfl ?_
      refine mm_callV (M := M_Matcher_find) (y := y_Matcher_takeTurn) (M' := M_Matcher_takeTurn) (d' := 3) (kc := 0) (ks := 0) (kc' := 0) (ks' := 0) (n := 0) d_Matcher_find_39 ok_Matcher_takeTurn ml_Matcher_75 (by decide) rfl (Nat.le_of_ble_eq_true rfl) ⟨tw_561, ts_Matcher_takeTurn⟩ wg_19 rfl (ct_Matcher_takeTurn_19 h) (fun v w h => ?_)
      obtain ⟨i2, l2, a2, b2, rfl, rfl, h⟩ := h
      refine mm_eqs (st2 := []) rfl ?_
      refine mm_iinc (M := M_Matcher_find) (v := 1) d_Matcher_find_42 rfl (by decide) (Nat.le_of_ble_eq_true rfl) ?_
      refine mm_eqL (L' := [some (.ref 19), none, some (.int z2), some (.int (z3 + 1))]) rfl ?_
      refine mm_goto (M := M_Matcher_find) (tgt := 25) d_Matcher_find_45 (by decide) ?_
      refine mm_drop (L' := [some (.ref 19), none, some (.int z2), some (.int (z3 + 1))]) ⟨rfl, ⟨rfl, ⟨rfl, trivial⟩⟩⟩ ?_
      exact hX h
theorem vi_Matcher_find_19 {n1 n2 k0 : Nat} {t : mm_H} {K : Int32 → mm_i → mm_j → mm_a → mm_b → Prop} {E : mm_i → mm_j → mm_a → mm_b → Int32 → Prop} (hE : ∀ {i l a b z2}, E i l a b z2 → mm_V M_Matcher_find 4 k0 (mm_PI n1 n2 t K) 0 0 48 [some (.ref 19), none, some (.int z2), none] [] (Wd 4 22 n1 n2 i l a b ++ t)) : ∀ (n : Nat) {i : mm_i} {l : mm_j} {a : mm_a} {b : mm_b} {z2 z3 : Int32}, wi_Matcher_find_19 n1 n2 E n i l a b z2 z3 → mm_V M_Matcher_find 4 k0 (mm_PI n1 n2 t K) 0 0 25 [some (.ref 19), none, some (.int z2), some (.int z3)] [] (Wd 4 22 n1 n2 i l a b ++ t)
  | 0, _, _, _, _, _, _, h => h.elim
  | n + 1, _, _, _, _, _, _, h => vj_Matcher_find_19 (fun h => vi_Matcher_find_19 hE n h) hE h
set_option maxRecDepth 100000 in
set_option maxHeartbeats 4000000 in
theorem vt_Matcher_find_19 {n1 n2 k0 : Nat} {t : mm_H} {K : Int32 → mm_i → mm_j → mm_a → mm_b → Prop} {Y : mm_i → mm_j → mm_a → mm_b → Int32 → Prop} (hY : ∀ {i l a b z2}, Y i l a b z2 → mm_V M_Matcher_find 4 k0 (mm_PI n1 n2 t K) 0 0 7 [some (.ref 19), none, some (.int z2), none] [] (Wd 4 22 n1 n2 i l a b ++ t)) {i : mm_i} {l : mm_j} {a : mm_a} {b : mm_b} {z2 : Int32} (h : wt_Matcher_find_19 n1 n2 Y i l a b z2 K) : mm_V M_Matcher_find 4 k0 (mm_PI n1 n2 t K) 0 0 7 [some (.ref 19), none, some (.int z2), none] [] (Wd 4 22 n1 n2 i l a b ++ t) := by
  unfold wt_Matcher_find_19 at h
  refine mm_iload_n (M := M_Matcher_find) d_Matcher_find_7 rfl ?_
  refine mm_aload_n (M := M_Matcher_find) d_Matcher_find_8 rfl ?_
  refine mm_getf (M := M_Matcher_find) (u := .ref 20) 5 0 d_Matcher_find_9 fl_Matcher_14 wg_19 rfl ?_
  refine mm_getf (M := M_Matcher_find) (u := .int (i 321)) 0 1 d_Matcher_find_12 fl_Matcher_64 wg_20 rfl ?_
  refine mm_icmp_gt (M := M_Matcher_find) 79 d_Matcher_find_15 (by decide) (fun c => ?_) (fun c => ?_)
  · have h := h.1 c
    refine mm_bipush (M := M_Matcher_find) (v := (-4)) d_Matcher_find_79 (by decide) ?_
    exact mm_retv (M := M_Matcher_find) ⟨_, rfl, rfl, d_Matcher_find_81⟩ ⟨_, _, _, _, _, rfl, rfl, h⟩
  · have h := h.2 c
    refine mm_aload_n (M := M_Matcher_find) d_Matcher_find_18 rfl ?_
    refine mm_iload_n (M := M_Matcher_find) d_Matcher_find_19 rfl ?_
    refine mm_eqs (st2 := [.int z2].reverse ++ .ref 19 :: []) rfl ?_
    refine mm_callV (M := M_Matcher_find) (y := y_Matcher_beginAt) (M' := M_Matcher_beginAt) (d' := 1) (kc := 0) (ks := 0) (kc' := 0) (ks' := 0) (n := 1) d_Matcher_find_20 ok_Matcher_beginAt ml_Matcher_67 (by decide) rfl (Nat.le_of_ble_eq_true rfl) ⟨tw_532, ts_Matcher_beginAt⟩ wg_19 rfl (ct_Matcher_beginAt_19 h) (fun v w h => ?_)
    obtain ⟨i1, l1, a1, b1, rfl, rfl, h⟩ := h
    refine mm_eqs (st2 := []) rfl ?_
    refine mm_iconst (M := M_Matcher_find) (v := 0) d_Matcher_find_23 (by decide) ?_
    refine mm_istore_n (M := M_Matcher_find) d_Matcher_find_24 (Nat.le_of_ble_eq_true rfl) ?_
    refine mm_eqL (L' := [some (.ref 19), none, some (.int z2), some (.int 0)]) rfl ?_
    obtain ⟨n, h⟩ := h
    refine mm_drop (L' := [some (.ref 19), none, some (.int z2), some (.int 0)]) ⟨rfl, ⟨rfl, ⟨rfl, trivial⟩⟩⟩ ?_
    exact (vi_Matcher_find_19 (fun h => ve_Matcher_find_19 hY h) n) h
theorem vl_Matcher_find_19 {n1 n2 k0 : Nat} {t : mm_H} {K : Int32 → mm_i → mm_j → mm_a → mm_b → Prop} : ∀ (n : Nat) {i : mm_i} {l : mm_j} {a : mm_a} {b : mm_b} {z2 : Int32}, wl_Matcher_find_19 n1 n2 K n i l a b z2 → mm_V M_Matcher_find 4 k0 (mm_PI n1 n2 t K) 0 0 7 [some (.ref 19), none, some (.int z2), none] [] (Wd 4 22 n1 n2 i l a b ++ t)
  | 0, _, _, _, _, _, h => h.elim
  | n + 1, _, _, _, _, _, h => vt_Matcher_find_19 (fun h => vl_Matcher_find_19 n h) h
set_option maxRecDepth 100000 in
set_option maxHeartbeats 4000000 in
theorem ct_Matcher_find_19 {n1 n2 : Nat} {i : mm_i} {l : mm_j} {a : mm_a} {b : mm_b} {t : mm_H} {x1 : Int32} {K : Int32 → mm_i → mm_j → mm_a → mm_b → Prop} (h : wp_Matcher_find_19 n1 n2 i l a b x1 K) : mm_Ct y_Matcher_find M_Matcher_find 4 0 0 [.ref 19, .int x1] (Wd 4 22 n1 n2 i l a b ++ t) (mm_PI n1 n2 t K) := by
  refine mm_Ct.of (by decide) rfl (fun q => absurd q (by decide)) (Nat.le_of_ble_eq_true rfl) ?_
  unfold wp_Matcher_find_19 at h
  refine mm_eqL (L' := [some (.ref 19), some (.int x1), none, none]) rfl ?_
  refine mm_aload_n (M := M_Matcher_find) d_Matcher_find_0 rfl ?_
  refine mm_iconst (M := M_Matcher_find) (v := 0) d_Matcher_find_1 (by decide) ?_
  refine mm_putf (M := M_Matcher_find) 5 10 .int d_Matcher_find_2 fl_Matcher_44 fp_Matcher_44 ft_5_10 wg_19 (Nat.le_of_ble_eq_true rfl) trivial ?_
  refine mm_eqw ws_314 ?_
  refine mm_iload_n (M := M_Matcher_find) d_Matcher_find_5 rfl ?_
  refine mm_istore_n (M := M_Matcher_find) d_Matcher_find_6 (Nat.le_of_ble_eq_true rfl) ?_
  refine mm_eqL (L' := [some (.ref 19), some (.int x1), some (.int x1), none]) rfl ?_
  obtain ⟨n, h⟩ := h
  refine mm_drop (L' := [some (.ref 19), none, some (.int x1), none]) ⟨rfl, ⟨rfl, trivial⟩⟩ ?_
  exact (vl_Matcher_find_19 n) h
def wp_Bench_searchFrom_0 (n1 n2 : Nat) (i : mm_i) (l : mm_j) (a : mm_a) (b : mm_b) (x1 : Int32) (K : Int32 → mm_i → mm_j → mm_a → mm_b → Prop) : Prop :=
  wp_Matcher_find_19 n1 n2 i l a b x1 (fun r1 i1 l1 a1 b1 => (r1 < 0 → K r1 (upd (upd (upd (upd i1 3 0) 4 r1) 5 (i1 312)) 7 (i1 314)) (vp_updL l1 6 (l1 313)) a1 b1) ∧ (¬ r1 < 0 → K r1 (upd (upd (upd (upd i1 3 1) 4 r1) 5 (i1 312)) 7 (i1 314)) (vp_updL l1 6 (l1 313)) a1 b1))
set_option maxRecDepth 100000 in
set_option maxHeartbeats 4000000 in
theorem ct_Bench_searchFrom_0 {n1 n2 : Nat} {i : mm_i} {l : mm_j} {a : mm_a} {b : mm_b} {t : mm_H} {x1 : Int32} {K : Int32 → mm_i → mm_j → mm_a → mm_b → Prop} (h : wp_Bench_searchFrom_0 n1 n2 i l a b x1 K) : mm_Ct y_Bench_searchFrom M_Bench_searchFrom 5 0 0 [.ref 0, .int x1] (Wd 4 22 n1 n2 i l a b ++ t) (mm_PI n1 n2 t K) := by
  refine mm_Ct.of (by decide) rfl (fun q => absurd q (by decide)) (Nat.le_of_ble_eq_true rfl) ?_
  unfold wp_Bench_searchFrom_0 at h
  refine mm_eqL (L' := [some (.ref 0), some (.int x1), none]) rfl ?_
  refine mm_aload_n (M := M_Bench_searchFrom) d_Bench_searchFrom_0 rfl ?_
  refine mm_getf (M := M_Bench_searchFrom) (u := .ref 19) 6 1 d_Bench_searchFrom_1 fl_Bench_51 wg_0 rfl ?_
  refine mm_iload_n (M := M_Bench_searchFrom) d_Bench_searchFrom_4 rfl ?_
  refine mm_eqs (st2 := [.int x1].reverse ++ .ref 19 :: []) rfl ?_
  refine mm_callV (M := M_Bench_searchFrom) (y := y_Matcher_find) (M' := M_Matcher_find) (d' := 4) (kc := 0) (ks := 0) (kc' := 0) (ks' := 0) (n := 1) d_Bench_searchFrom_5 ok_Matcher_find ml_Bench_114 (by decide) rfl (Nat.le_of_ble_eq_true rfl) ⟨tw_527, tw_528⟩ wg_19 rfl (ct_Matcher_find_19 h) (fun v w h => ?_)
  obtain ⟨r1, i1, l1, a1, b1, rfl, rfl, h⟩ := h
  refine mm_eqs (st2 := [.int r1]) rfl ?_
  refine mm_istore_n (M := M_Bench_searchFrom) d_Bench_searchFrom_8 (Nat.le_of_ble_eq_true rfl) ?_
  refine mm_eqL (L' := [some (.ref 0), some (.int x1), some (.int r1)]) rfl ?_
  refine mm_aload_n (M := M_Bench_searchFrom) d_Bench_searchFrom_9 rfl ?_
  refine mm_iload_n (M := M_Bench_searchFrom) d_Bench_searchFrom_10 rfl ?_
  refine mm_if_lt (M := M_Bench_searchFrom) 18 d_Bench_searchFrom_11 (by decide) (fun c => ?_) (fun c => ?_)
  · have h := h.1 c
    refine mm_iconst (M := M_Bench_searchFrom) (v := 0) d_Bench_searchFrom_18 (by decide) ?_
    refine mm_putf (M := M_Bench_searchFrom) 6 3 .boolean d_Bench_searchFrom_19 fl_Bench_20 fp_Bench_20 ft_6_3 wg_0 (Nat.le_of_ble_eq_true rfl) (Or.inl rfl) ?_
    refine mm_eqw ws_3 ?_
    refine mm_aload_n (M := M_Bench_searchFrom) d_Bench_searchFrom_22 rfl ?_
    refine mm_iload_n (M := M_Bench_searchFrom) d_Bench_searchFrom_23 rfl ?_
    refine mm_putf (M := M_Bench_searchFrom) 6 4 .int d_Bench_searchFrom_24 fl_Bench_23 fp_Bench_23 ft_6_4 wg_0 (Nat.le_of_ble_eq_true rfl) trivial ?_
    refine mm_eqw ws_4 ?_
    refine mm_aload_n (M := M_Bench_searchFrom) d_Bench_searchFrom_27 rfl ?_
    refine mm_aload_n (M := M_Bench_searchFrom) d_Bench_searchFrom_28 rfl ?_
    refine mm_getf (M := M_Bench_searchFrom) (u := .ref 19) 6 1 d_Bench_searchFrom_29 fl_Bench_51 wg_0 rfl ?_
    refine mm_getf (M := M_Bench_searchFrom) (u := .int (i1 312)) 5 8 d_Bench_searchFrom_32 fl_Bench_117 wg_19 rfl ?_
    refine mm_putf (M := M_Bench_searchFrom) 6 5 .int d_Bench_searchFrom_35 fl_Bench_27 fp_Bench_27 ft_6_5 wg_0 (Nat.le_of_ble_eq_true rfl) trivial ?_
    refine mm_eqw ws_5 ?_
    refine mm_aload_n (M := M_Bench_searchFrom) d_Bench_searchFrom_38 rfl ?_
    refine mm_aload_n (M := M_Bench_searchFrom) d_Bench_searchFrom_39 rfl ?_
    refine mm_getf (M := M_Bench_searchFrom) (u := .ref 19) 6 1 d_Bench_searchFrom_40 fl_Bench_51 wg_0 rfl ?_
    refine mm_getf (M := M_Bench_searchFrom) (u := .long (l1 313)) 5 9 d_Bench_searchFrom_43 fl_Bench_120 wg_19 rfl ?_
    refine mm_putf (M := M_Bench_searchFrom) 6 6 .long d_Bench_searchFrom_46 fl_Bench_30 fp_Bench_30 ft_6_6 wg_0 (Nat.le_of_ble_eq_true rfl) trivial ?_
    refine mm_eqw ws_6 ?_
    refine mm_aload_n (M := M_Bench_searchFrom) d_Bench_searchFrom_49 rfl ?_
    refine mm_aload_n (M := M_Bench_searchFrom) d_Bench_searchFrom_50 rfl ?_
    refine mm_getf (M := M_Bench_searchFrom) (u := .ref 19) 6 1 d_Bench_searchFrom_51 fl_Bench_51 wg_0 rfl ?_
    refine mm_getf (M := M_Bench_searchFrom) (u := .int (i1 314)) 5 10 d_Bench_searchFrom_54 fl_Bench_123 wg_19 rfl ?_
    refine mm_putf (M := M_Bench_searchFrom) 6 7 .int d_Bench_searchFrom_57 fl_Bench_34 fp_Bench_34 ft_6_7 wg_0 (Nat.le_of_ble_eq_true rfl) trivial ?_
    refine mm_eqw ws_7 ?_
    refine mm_iload_n (M := M_Bench_searchFrom) d_Bench_searchFrom_60 rfl ?_
    exact mm_retv (M := M_Bench_searchFrom) ⟨_, rfl, rfl, d_Bench_searchFrom_61⟩ ⟨_, _, _, _, _, rfl, rfl, h⟩
  · have h := h.2 c
    refine mm_iconst (M := M_Bench_searchFrom) (v := 1) d_Bench_searchFrom_14 (by decide) ?_
    refine mm_goto (M := M_Bench_searchFrom) (tgt := 19) d_Bench_searchFrom_15 (by decide) ?_
    refine mm_putf (M := M_Bench_searchFrom) 6 3 .boolean d_Bench_searchFrom_19 fl_Bench_20 fp_Bench_20 ft_6_3 wg_0 (Nat.le_of_ble_eq_true rfl) (Or.inr rfl) ?_
    refine mm_eqw ws_3 ?_
    refine mm_aload_n (M := M_Bench_searchFrom) d_Bench_searchFrom_22 rfl ?_
    refine mm_iload_n (M := M_Bench_searchFrom) d_Bench_searchFrom_23 rfl ?_
    refine mm_putf (M := M_Bench_searchFrom) 6 4 .int d_Bench_searchFrom_24 fl_Bench_23 fp_Bench_23 ft_6_4 wg_0 (Nat.le_of_ble_eq_true rfl) trivial ?_
    refine mm_eqw ws_4 ?_
    refine mm_aload_n (M := M_Bench_searchFrom) d_Bench_searchFrom_27 rfl ?_
    refine mm_aload_n (M := M_Bench_searchFrom) d_Bench_searchFrom_28 rfl ?_
    refine mm_getf (M := M_Bench_searchFrom) (u := .ref 19) 6 1 d_Bench_searchFrom_29 fl_Bench_51 wg_0 rfl ?_
    refine mm_getf (M := M_Bench_searchFrom) (u := .int (i1 312)) 5 8 d_Bench_searchFrom_32 fl_Bench_117 wg_19 rfl ?_
    refine mm_putf (M := M_Bench_searchFrom) 6 5 .int d_Bench_searchFrom_35 fl_Bench_27 fp_Bench_27 ft_6_5 wg_0 (Nat.le_of_ble_eq_true rfl) trivial ?_
    refine mm_eqw ws_5 ?_
    refine mm_aload_n (M := M_Bench_searchFrom) d_Bench_searchFrom_38 rfl ?_
    refine mm_aload_n (M := M_Bench_searchFrom) d_Bench_searchFrom_39 rfl ?_
    refine mm_getf (M := M_Bench_searchFrom) (u := .ref 19) 6 1 d_Bench_searchFrom_40 fl_Bench_51 wg_0 rfl ?_
    refine mm_getf (M := M_Bench_searchFrom) (u := .long (l1 313)) 5 9 d_Bench_searchFrom_43 fl_Bench_120 wg_19 rfl ?_
    refine mm_putf (M := M_Bench_searchFrom) 6 6 .long d_Bench_searchFrom_46 fl_Bench_30 fp_Bench_30 ft_6_6 wg_0 (Nat.le_of_ble_eq_true rfl) trivial ?_
    refine mm_eqw ws_6 ?_
    refine mm_aload_n (M := M_Bench_searchFrom) d_Bench_searchFrom_49 rfl ?_
    refine mm_aload_n (M := M_Bench_searchFrom) d_Bench_searchFrom_50 rfl ?_
    refine mm_getf (M := M_Bench_searchFrom) (u := .ref 19) 6 1 d_Bench_searchFrom_51 fl_Bench_51 wg_0 rfl ?_
    refine mm_getf (M := M_Bench_searchFrom) (u := .int (i1 314)) 5 10 d_Bench_searchFrom_54 fl_Bench_123 wg_19 rfl ?_
    refine mm_putf (M := M_Bench_searchFrom) 6 7 .int d_Bench_searchFrom_57 fl_Bench_34 fp_Bench_34 ft_6_7 wg_0 (Nat.le_of_ble_eq_true rfl) trivial ?_
    refine mm_eqw ws_7 ?_
    refine mm_iload_n (M := M_Bench_searchFrom) d_Bench_searchFrom_60 rfl ?_
    exact mm_retv (M := M_Bench_searchFrom) ⟨_, rfl, rfl, d_Bench_searchFrom_61⟩ ⟨_, _, _, _, _, rfl, rfl, h⟩
def wp_Bench_search_0 (n1 n2 : Nat) (i : mm_i) (l : mm_j) (a : mm_a) (b : mm_b) (x1 : Int32) (K : Int32 → mm_i → mm_j → mm_a → mm_b → Prop) : Prop :=
  (x1 < 0 → K (-1) i l a b) ∧ (¬ x1 < 0 → ((i 321) < x1 → K (-1) i l a b) ∧ (¬ (i 321) < x1 → (¬ (i 2) = 0 → wp_Bench_searchFrom_0 n1 n2 i l a b x1 (fun r1 i1 l1 a1 b1 => K r1 i1 l1 a1 b1)) ∧ ((i 2) = 0 → K (-1) i l a b)))
set_option maxRecDepth 100000 in
set_option maxHeartbeats 4000000 in
theorem ct_Bench_search_0 {n1 n2 : Nat} {i : mm_i} {l : mm_j} {a : mm_a} {b : mm_b} {t : mm_H} {x1 : Int32} {K : Int32 → mm_i → mm_j → mm_a → mm_b → Prop} (h : wp_Bench_search_0 n1 n2 i l a b x1 K) : mm_Ct y_Bench_search M_Bench_search 6 0 0 [.ref 0, .int x1] (Wd 4 22 n1 n2 i l a b ++ t) (mm_PI n1 n2 t K) := by
  refine mm_Ct.of (by decide) rfl (fun q => absurd q (by decide)) (Nat.le_of_ble_eq_true rfl) ?_
  unfold wp_Bench_search_0 at h
  refine mm_eqL (L' := [some (.ref 0), some (.int x1)]) rfl ?_
  refine mm_iload_n (M := M_Bench_search) d_Bench_search_0 rfl ?_
  refine mm_if_lt (M := M_Bench_search) 25 d_Bench_search_1 (by decide) (fun c => ?_) (fun c => ?_)
  · have h := h.1 c
    refine mm_iconst (M := M_Bench_search) (v := (-1)) d_Bench_search_25 (by decide) ?_
    exact mm_retv (M := M_Bench_search) ⟨_, rfl, rfl, d_Bench_search_26⟩ ⟨_, _, _, _, _, rfl, rfl, h⟩
  · have h := h.2 c
    refine mm_iload_n (M := M_Bench_search) d_Bench_search_4 rfl ?_
    refine mm_aload_n (M := M_Bench_search) d_Bench_search_5 rfl ?_
    refine mm_getf (M := M_Bench_search) (u := .ref 19) 6 1 d_Bench_search_6 fl_Bench_51 wg_0 rfl ?_
    refine mm_getf (M := M_Bench_search) (u := .ref 20) 5 0 d_Bench_search_9 fl_Bench_95 wg_19 rfl ?_
    refine mm_getf (M := M_Bench_search) (u := .int (i 321)) 0 1 d_Bench_search_12 fl_Bench_76 wg_20 rfl ?_
    refine mm_icmp_gt (M := M_Bench_search) 25 d_Bench_search_15 (by decide) (fun c => ?_) (fun c => ?_)
    · have h := h.1 c
      refine mm_iconst (M := M_Bench_search) (v := (-1)) d_Bench_search_25 (by decide) ?_
      exact mm_retv (M := M_Bench_search) ⟨_, rfl, rfl, d_Bench_search_26⟩ ⟨_, _, _, _, _, rfl, rfl, h⟩
    · have h := h.2 c
      refine mm_aload_n (M := M_Bench_search) d_Bench_search_18 rfl ?_
      refine mm_getf (M := M_Bench_search) (u := .int (i 2)) 6 2 d_Bench_search_19 fl_Bench_16 wg_0 rfl ?_
      refine mm_if_ne (M := M_Bench_search) 27 d_Bench_search_22 (by decide) (fun c => ?_) (fun c => ?_)
      · have h := h.1 c
        refine mm_aload_n (M := M_Bench_search) d_Bench_search_27 rfl ?_
        refine mm_iload_n (M := M_Bench_search) d_Bench_search_28 rfl ?_
        refine mm_eqs (st2 := [.int x1].reverse ++ .ref 0 :: []) rfl ?_
        refine mm_callV (M := M_Bench_search) (y := y_Bench_searchFrom) (M' := M_Bench_searchFrom) (d' := 5) (kc := 0) (ks := 0) (kc' := 0) (ks' := 0) (n := 1) d_Bench_search_29 ok_Bench_searchFrom ml_Bench_98 (by decide) rfl (Nat.le_of_ble_eq_true rfl) ⟨tw_524, ts_Bench_searchFrom⟩ wg_0 rfl (ct_Bench_searchFrom_0 h) (fun v w h => ?_)
        obtain ⟨r1, i1, l1, a1, b1, rfl, rfl, h⟩ := h
        refine mm_eqs (st2 := [.int r1]) rfl ?_
        exact mm_retv (M := M_Bench_search) ⟨_, rfl, rfl, d_Bench_search_32⟩ ⟨_, _, _, _, _, rfl, rfl, h⟩
      · have h := h.2 c
        refine mm_iconst (M := M_Bench_search) (v := (-1)) d_Bench_search_25 (by decide) ?_
        exact mm_retv (M := M_Bench_search) ⟨_, rfl, rfl, d_Bench_search_26⟩ ⟨_, _, _, _, _, rfl, rfl, h⟩
def wp_Bench_again_0 (n1 n2 : Nat) (i : mm_i) (l : mm_j) (a : mm_a) (b : mm_b)  (K : Int32 → mm_i → mm_j → mm_a → mm_b → Prop) : Prop :=
  wp_Bench_placeBehindMatch_0 n1 n2 i l a b (fun r1 i1 l1 a1 b1 => ((i1 3) = 0 → K (-4) (upd (upd i1 3 0) 7 0) l1 a1 b1) ∧ (¬ (i1 3) = 0 → (r1 ≤ (i1 321) → wp_Bench_searchFrom_0 n1 n2 i1 l1 a1 b1 r1 (fun r2 i2 l2 a2 b2 => K r2 i2 l2 a2 b2)) ∧ (¬ r1 ≤ (i1 321) → K (-4) (upd (upd i1 3 0) 7 0) l1 a1 b1)))
set_option maxRecDepth 100000 in
set_option maxHeartbeats 4000000 in
theorem ct_Bench_again_0 {n1 n2 : Nat} {i : mm_i} {l : mm_j} {a : mm_a} {b : mm_b} {t : mm_H}  {K : Int32 → mm_i → mm_j → mm_a → mm_b → Prop} (h : wp_Bench_again_0 n1 n2 i l a b  K) : mm_Ct y_Bench_again M_Bench_again 6 0 0 [.ref 0] (Wd 4 22 n1 n2 i l a b ++ t) (mm_PI n1 n2 t K) := by
  refine mm_Ct.of (by decide) rfl (fun q => absurd q (by decide)) (Nat.le_of_ble_eq_true rfl) ?_
  unfold wp_Bench_again_0 at h
  refine mm_eqL (L' := [some (.ref 0), none]) rfl ?_
  refine mm_aload_n (M := M_Bench_again) d_Bench_again_0 rfl ?_
  refine mm_eqs (st2 := [].reverse ++ .ref 0 :: []) rfl ?_
  refine mm_callV (M := M_Bench_again) (y := y_Bench_placeBehindMatch) (M' := M_Bench_placeBehindMatch) (d' := 0) (kc := 0) (ks := 0) (kc' := 0) (ks' := 0) (n := 0) d_Bench_again_1 ok_Bench_placeBehindMatch ml_Bench_101 (by decide) rfl (Nat.le_of_ble_eq_true rfl) ⟨tw_652, ts_Bench_placeBehindMatch⟩ wg_0 rfl (ct_Bench_placeBehindMatch_0 h) (fun v w h => ?_)
  obtain ⟨r1, i1, l1, a1, b1, rfl, rfl, h⟩ := h
  refine mm_eqs (st2 := [.int r1]) rfl ?_
  refine mm_istore_n (M := M_Bench_again) d_Bench_again_4 (Nat.le_of_ble_eq_true rfl) ?_
  refine mm_eqL (L' := [some (.ref 0), some (.int r1)]) rfl ?_
  refine mm_aload_n (M := M_Bench_again) d_Bench_again_5 rfl ?_
  refine mm_getf (M := M_Bench_again) (u := .int (i1 3)) 6 3 d_Bench_again_6 fl_Bench_20 wg_0 rfl ?_
  refine mm_if_eq (M := M_Bench_again) 26 d_Bench_again_9 (by decide) (fun c => ?_) (fun c => ?_)
  · have h := h.1 c
    refine mm_aload_n (M := M_Bench_again) d_Bench_again_26 rfl ?_
    refine mm_iconst (M := M_Bench_again) (v := 0) d_Bench_again_27 (by decide) ?_
    refine mm_putf (M := M_Bench_again) 6 3 .boolean d_Bench_again_28 fl_Bench_20 fp_Bench_20 ft_6_3 wg_0 (Nat.le_of_ble_eq_true rfl) (Or.inl rfl) ?_
    refine mm_eqw ws_3 ?_
    refine mm_aload_n (M := M_Bench_again) d_Bench_again_31 rfl ?_
    refine mm_iconst (M := M_Bench_again) (v := 0) d_Bench_again_32 (by decide) ?_
    refine mm_putf (M := M_Bench_again) 6 7 .int d_Bench_again_33 fl_Bench_34 fp_Bench_34 ft_6_7 wg_0 (Nat.le_of_ble_eq_true rfl) trivial ?_
    refine mm_eqw ws_7 ?_
    refine mm_bipush (M := M_Bench_again) (v := (-4)) d_Bench_again_36 (by decide) ?_
    exact mm_retv (M := M_Bench_again) ⟨_, rfl, rfl, d_Bench_again_38⟩ ⟨_, _, _, _, _, rfl, rfl, h⟩
  · have h := h.2 c
    refine mm_iload_n (M := M_Bench_again) d_Bench_again_12 rfl ?_
    refine mm_aload_n (M := M_Bench_again) d_Bench_again_13 rfl ?_
    refine mm_getf (M := M_Bench_again) (u := .ref 19) 6 1 d_Bench_again_14 fl_Bench_51 wg_0 rfl ?_
    refine mm_getf (M := M_Bench_again) (u := .ref 20) 5 0 d_Bench_again_17 fl_Bench_95 wg_19 rfl ?_
    refine mm_getf (M := M_Bench_again) (u := .int (i1 321)) 0 1 d_Bench_again_20 fl_Bench_76 wg_20 rfl ?_
    refine mm_icmp_le (M := M_Bench_again) 39 d_Bench_again_23 (by decide) (fun c => ?_) (fun c => ?_)
    · have h := h.1 c
      refine mm_aload_n (M := M_Bench_again) d_Bench_again_39 rfl ?_
      refine mm_iload_n (M := M_Bench_again) d_Bench_again_40 rfl ?_
      refine mm_eqs (st2 := [.int r1].reverse ++ .ref 0 :: []) rfl ?_
      refine mm_callV (M := M_Bench_again) (y := y_Bench_searchFrom) (M' := M_Bench_searchFrom) (d' := 5) (kc := 0) (ks := 0) (kc' := 0) (ks' := 0) (n := 1) d_Bench_again_41 ok_Bench_searchFrom ml_Bench_98 (by decide) rfl (Nat.le_of_ble_eq_true rfl) ⟨tw_524, ts_Bench_searchFrom⟩ wg_0 rfl (ct_Bench_searchFrom_0 h) (fun v w h => ?_)
      obtain ⟨r2, i2, l2, a2, b2, rfl, rfl, h⟩ := h
      refine mm_eqs (st2 := [.int r2]) rfl ?_
      exact mm_retv (M := M_Bench_again) ⟨_, rfl, rfl, d_Bench_again_44⟩ ⟨_, _, _, _, _, rfl, rfl, h⟩
    · have h := h.2 c
      refine mm_aload_n (M := M_Bench_again) d_Bench_again_26 rfl ?_
      refine mm_iconst (M := M_Bench_again) (v := 0) d_Bench_again_27 (by decide) ?_
      refine mm_putf (M := M_Bench_again) 6 3 .boolean d_Bench_again_28 fl_Bench_20 fp_Bench_20 ft_6_3 wg_0 (Nat.le_of_ble_eq_true rfl) (Or.inl rfl) ?_
      refine mm_eqw ws_3 ?_
      refine mm_aload_n (M := M_Bench_again) d_Bench_again_31 rfl ?_
      refine mm_iconst (M := M_Bench_again) (v := 0) d_Bench_again_32 (by decide) ?_
      refine mm_putf (M := M_Bench_again) 6 7 .int d_Bench_again_33 fl_Bench_34 fp_Bench_34 ft_6_7 wg_0 (Nat.le_of_ble_eq_true rfl) trivial ?_
      refine mm_eqw ws_7 ?_
      refine mm_bipush (M := M_Bench_again) (v := (-4)) d_Bench_again_36 (by decide) ?_
      exact mm_retv (M := M_Bench_again) ⟨_, rfl, rfl, d_Bench_again_38⟩ ⟨_, _, _, _, _, rfl, rfl, h⟩
/-- one turn of the loop of Bench.matches: X says what must hold at its head again -/
def wt_Bench_matches_0 (n1 n2 : Nat) (X : mm_i → mm_j → mm_a → mm_b → Int32 → Int32 → Int32 → Int32 → Prop) (i : mm_i) (l : mm_j) (a : mm_a) (b : mm_b) (z1 : Int32) (z2 : Int32) (z3 : Int32) (z4 : Int32) (K : Int32 → mm_i → mm_j → mm_a → mm_b → Prop) : Prop :=
  ((40 : Int32) < z4 → (¬ z3 = ((-5) : Int32) → K z1 (upd i 3 0) l a b) ∧ (z3 = ((-5) : Int32) → K (-5) (upd i 3 0) l a b)) ∧ (¬ (40 : Int32) < z4 → ((i 321) < z2 → (¬ z3 = ((-5) : Int32) → K z1 (upd i 3 0) l a b) ∧ (z3 = ((-5) : Int32) → K (-5) (upd i 3 0) l a b)) ∧ (¬ (i 321) < z2 → wp_Bench_searchFrom_0 n1 n2 i l a b z2 (fun r1 i1 l1 a1 b1 => (0 ≤ r1 → wp_Bench_placeBehindMatch_0 n1 n2 i1 l1 a1 b1 (fun r2 i2 l2 a2 b2 => X i2 l2 a2 b2 (z1 + 1) r2 r1 (z4 + 1))) ∧ (¬ 0 ≤ r1 → (¬ r1 = ((-5) : Int32) → K z1 (upd i1 3 0) l1 a1 b1) ∧ (r1 = ((-5) : Int32) → K (-5) (upd i1 3 0) l1 a1 b1)))))
def wl_Bench_matches_0 (n1 n2 : Nat) (K : Int32 → mm_i → mm_j → mm_a → mm_b → Prop) : Nat → mm_i → mm_j → mm_a → mm_b → Int32 → Int32 → Int32 → Int32 → Prop
  | 0 => fun _ _ _ _ _ _ _ _ => False
  | n + 1 => fun i l a b z1 z2 z3 z4 => wt_Bench_matches_0 n1 n2 (wl_Bench_matches_0 n1 n2 K n) i l a b z1 z2 z3 z4 K
def wp_Bench_matches_0 (n1 n2 : Nat) (i : mm_i) (l : mm_j) (a : mm_a) (b : mm_b)  (K : Int32 → mm_i → mm_j → mm_a → mm_b → Prop) : Prop :=
  (¬ (i 2) = 0 → ∃ n, wl_Bench_matches_0 n1 n2 K n i l a b 0 0 (-4) 0) ∧ ((i 2) = 0 → K (-1) i l a b)
set_option maxRecDepth 100000 in
set_option maxHeartbeats 4000000 in
theorem vt_Bench_matches_0 {n1 n2 k0 : Nat} {t : mm_H} {K : Int32 → mm_i → mm_j → mm_a → mm_b → Prop} {X : mm_i → mm_j → mm_a → mm_b → Int32 → Int32 → Int32 → Int32 → Prop} (hX : ∀ {i l a b z1 z2 z3 z4}, X i l a b z1 z2 z3 z4 → mm_V M_Bench_matches 6 k0 (mm_PI n1 n2 t K) 0 0 19 [some (.ref 0), some (.int z1), some (.int z2), some (.int z3), some (.int z4)] [] (Wd 4 22 n1 n2 i l a b ++ t)) {i : mm_i} {l : mm_j} {a : mm_a} {b : mm_b} {z1 : Int32} {z2 : Int32} {z3 : Int32} {z4 : Int32} (h : wt_Bench_matches_0 n1 n2 X i l a b z1 z2 z3 z4 K) : mm_V M_Bench_matches 6 k0 (mm_PI n1 n2 t K) 0 0 19 [some (.ref 0), some (.int z1), some (.int z2), some (.int z3), some (.int z4)] [] (Wd 4 22 n1 n2 i l a b ++ t) := by
  unfold wt_Bench_matches_0 at h
  refine mm_iload (M := M_Bench_matches) d_Bench_matches_19 rfl ?_
  refine mm_bipush (M := M_Bench_matches) (v := 40) d_Bench_matches_21 (by decide) ?_
  refine mm_icmp_gt (M := M_Bench_matches) 67 d_Bench_matches_23 (by decide) (fun c => ?_) (fun c => ?_)
  · have h := h.1 c
    refine mm_aload_n (M := M_Bench_matches) d_Bench_matches_67 rfl ?_
    refine mm_iconst (M := M_Bench_matches) (v := 0) d_Bench_matches_68 (by decide) ?_
    refine mm_putf (M := M_Bench_matches) 6 3 .boolean d_Bench_matches_69 fl_Bench_20 fp_Bench_20 ft_6_3 wg_0 (Nat.le_of_ble_eq_true rfl) (Or.inl rfl) ?_
    refine mm_eqw ws_3 ?_
    refine mm_iload_n (M := M_Bench_matches) d_Bench_matches_72 rfl ?_
    refine mm_bipush (M := M_Bench_matches) (v := (-5)) d_Bench_matches_73 (by decide) ?_
    refine mm_icmp_ne (M := M_Bench_matches) 83 d_Bench_matches_75 (by decide) (fun c => ?_) (fun c => ?_)
    · have h := h.1 c
      refine mm_iload_n (M := M_Bench_matches) d_Bench_matches_83 rfl ?_
      exact mm_retv (M := M_Bench_matches) ⟨_, rfl, rfl, d_Bench_matches_84⟩ ⟨_, _, _, _, _, rfl, rfl, h⟩
    · have h := h.2 c
      refine mm_bipush (M := M_Bench_matches) (v := (-5)) d_Bench_matches_78 (by decide) ?_
      refine mm_goto (M := M_Bench_matches) (tgt := 84) d_Bench_matches_80 (by decide) ?_
      exact mm_retv (M := M_Bench_matches) ⟨_, rfl, rfl, d_Bench_matches_84⟩ ⟨_, _, _, _, _, rfl, rfl, h⟩
  · have h := h.2 c
    refine mm_iload_n (M := M_Bench_matches) d_Bench_matches_26 rfl ?_
    refine mm_aload_n (M := M_Bench_matches) d_Bench_matches_27 rfl ?_
    refine mm_getf (M := M_Bench_matches) (u := .ref 19) 6 1 d_Bench_matches_28 fl_Bench_51 wg_0 rfl ?_
    refine mm_getf (M := M_Bench_matches) (u := .ref 20) 5 0 d_Bench_matches_31 fl_Bench_95 wg_19 rfl ?_
    refine mm_getf (M := M_Bench_matches) (u := .int (i 321)) 0 1 d_Bench_matches_34 fl_Bench_76 wg_20 rfl ?_
    refine mm_icmp_gt (M := M_Bench_matches) 67 d_Bench_matches_37 (by decide) (fun c => ?_) (fun c => ?_)
    · have h := h.1 c
      refine mm_aload_n (M := M_Bench_matches) d_Bench_matches_67 rfl ?_
      refine mm_iconst (M := M_Bench_matches) (v := 0) d_Bench_matches_68 (by decide) ?_
      refine mm_putf (M := M_Bench_matches) 6 3 .boolean d_Bench_matches_69 fl_Bench_20 fp_Bench_20 ft_6_3 wg_0 (Nat.le_of_ble_eq_true rfl) (Or.inl rfl) ?_
      refine mm_eqw ws_3 ?_
      refine mm_iload_n (M := M_Bench_matches) d_Bench_matches_72 rfl ?_
      refine mm_bipush (M := M_Bench_matches) (v := (-5)) d_Bench_matches_73 (by decide) ?_
      refine mm_icmp_ne (M := M_Bench_matches) 83 d_Bench_matches_75 (by decide) (fun c => ?_) (fun c => ?_)
      · have h := h.1 c
        refine mm_iload_n (M := M_Bench_matches) d_Bench_matches_83 rfl ?_
        exact mm_retv (M := M_Bench_matches) ⟨_, rfl, rfl, d_Bench_matches_84⟩ ⟨_, _, _, _, _, rfl, rfl, h⟩
      · have h := h.2 c
        refine mm_bipush (M := M_Bench_matches) (v := (-5)) d_Bench_matches_78 (by decide) ?_
        refine mm_goto (M := M_Bench_matches) (tgt := 84) d_Bench_matches_80 (by decide) ?_
        exact mm_retv (M := M_Bench_matches) ⟨_, rfl, rfl, d_Bench_matches_84⟩ ⟨_, _, _, _, _, rfl, rfl, h⟩
    · have h := h.2 c
      refine mm_aload_n (M := M_Bench_matches) d_Bench_matches_40 rfl ?_
      refine mm_iload_n (M := M_Bench_matches) d_Bench_matches_41 rfl ?_
      refine mm_eqs (st2 := [.int z2].reverse ++ .ref 0 :: []) rfl ?_
      refine mm_callV (M := M_Bench_matches) (y := y_Bench_searchFrom) (M' := M_Bench_searchFrom) (d' := 5) (kc := 0) (ks := 0) (kc' := 0) (ks' := 0) (n := 1) d_Bench_matches_42 ok_Bench_searchFrom ml_Bench_98 (by decide) rfl (Nat.le_of_ble_eq_true rfl) ⟨tw_524, ts_Bench_searchFrom⟩ wg_0 rfl (ct_Bench_searchFrom_0 h) (fun v w h => ?_)
      obtain ⟨r1, i1, l1, a1, b1, rfl, rfl, h⟩ := h
      refine mm_eqs (st2 := [.int r1]) rfl ?_
      refine mm_istore_n (M := M_Bench_matches) d_Bench_matches_45 (Nat.le_of_ble_eq_true rfl) ?_
      refine mm_eqL (L' := [some (.ref 0), some (.int z1), some (.int z2), some (.int r1), some (.int z4)]) rfl ?_
      refine mm_iload_n (M := M_Bench_matches) d_Bench_matches_46 rfl ?_
      refine mm_if_ge (M := M_Bench_matches) 53 d_Bench_matches_47 (by decide) (fun c => ?_) (fun c => ?_)
      · have h := h.1 c
        refine mm_iinc (M := M_Bench_matches) (v := 1) d_Bench_matches_53 rfl (by decide) (Nat.le_of_ble_eq_true rfl) ?_
        refine mm_eqL (L' := [some (.ref 0), some (.int (z1 + 1)), some (.int z2), some (.int r1), some (.int z4)]) rfl ?_
        refine mm_aload_n (M := M_Bench_matches) d_Bench_matches_56 rfl ?_
        refine mm_eqs (st2 := [].reverse ++ .ref 0 :: []) rfl ?_
        refine mm_callV (M := M_Bench_matches) (y := y_Bench_placeBehindMatch) (M' := M_Bench_placeBehindMatch) (d' := 0) (kc := 0) (ks := 0) (kc' := 0) (ks' := 0) (n := 0) d_Bench_matches_57 ok_Bench_placeBehindMatch ml_Bench_101 (by decide) rfl (Nat.le_of_ble_eq_true rfl) ⟨tw_652, ts_Bench_placeBehindMatch⟩ wg_0 rfl (ct_Bench_placeBehindMatch_0 h) (fun v w h => ?_)
        obtain ⟨r2, i2, l2, a2, b2, rfl, rfl, h⟩ := h
        refine mm_eqs (st2 := [.int r2]) rfl ?_
        refine mm_istore_n (M := M_Bench_matches) d_Bench_matches_60 (Nat.le_of_ble_eq_true rfl) ?_
        refine mm_eqL (L' := [some (.ref 0), some (.int (z1 + 1)), some (.int r2), some (.int r1), some (.int z4)]) rfl ?_
        refine mm_iinc (M := M_Bench_matches) (v := 1) d_Bench_matches_61 rfl (by decide) (Nat.le_of_ble_eq_true rfl) ?_
        refine mm_eqL (L' := [some (.ref 0), some (.int (z1 + 1)), some (.int r2), some (.int r1), some (.int (z4 + 1))]) rfl ?_
        refine mm_goto (M := M_Bench_matches) (tgt := 19) d_Bench_matches_64 (by decide) ?_
        refine mm_drop (L' := [some (.ref 0), some (.int (z1 + 1)), some (.int r2), some (.int r1), some (.int (z4 + 1))]) ⟨rfl, ⟨rfl, ⟨rfl, ⟨rfl, ⟨rfl, trivial⟩⟩⟩⟩⟩ ?_
        exact hX h
      · have h := h.2 c
        refine mm_goto (M := M_Bench_matches) (tgt := 67) d_Bench_matches_50 (by decide) ?_
        refine mm_aload_n (M := M_Bench_matches) d_Bench_matches_67 rfl ?_
        refine mm_iconst (M := M_Bench_matches) (v := 0) d_Bench_matches_68 (by decide) ?_
        refine mm_putf (M := M_Bench_matches) 6 3 .boolean d_Bench_matches_69 fl_Bench_20 fp_Bench_20 ft_6_3 wg_0 (Nat.le_of_ble_eq_true rfl) (Or.inl rfl) ?_
        refine mm_eqw ws_3 ?_
        refine mm_iload_n (M := M_Bench_matches) d_Bench_matches_72 rfl ?_
        refine mm_bipush (M := M_Bench_matches) (v := (-5)) d_Bench_matches_73 (by decide) ?_
        refine mm_icmp_ne (M := M_Bench_matches) 83 d_Bench_matches_75 (by decide) (fun c => ?_) (fun c => ?_)
        · have h := h.1 c
          refine mm_iload_n (M := M_Bench_matches) d_Bench_matches_83 rfl ?_
          exact mm_retv (M := M_Bench_matches) ⟨_, rfl, rfl, d_Bench_matches_84⟩ ⟨_, _, _, _, _, rfl, rfl, h⟩
        · have h := h.2 c
          refine mm_bipush (M := M_Bench_matches) (v := (-5)) d_Bench_matches_78 (by decide) ?_
          refine mm_goto (M := M_Bench_matches) (tgt := 84) d_Bench_matches_80 (by decide) ?_
          exact mm_retv (M := M_Bench_matches) ⟨_, rfl, rfl, d_Bench_matches_84⟩ ⟨_, _, _, _, _, rfl, rfl, h⟩
theorem vl_Bench_matches_0 {n1 n2 k0 : Nat} {t : mm_H} {K : Int32 → mm_i → mm_j → mm_a → mm_b → Prop} : ∀ (n : Nat) {i : mm_i} {l : mm_j} {a : mm_a} {b : mm_b} {z1 : Int32} {z2 : Int32} {z3 : Int32} {z4 : Int32}, wl_Bench_matches_0 n1 n2 K n i l a b z1 z2 z3 z4 → mm_V M_Bench_matches 6 k0 (mm_PI n1 n2 t K) 0 0 19 [some (.ref 0), some (.int z1), some (.int z2), some (.int z3), some (.int z4)] [] (Wd 4 22 n1 n2 i l a b ++ t)
  | 0, _, _, _, _, _, _, _, _, h => h.elim
  | n + 1, _, _, _, _, _, _, _, _, h => vt_Bench_matches_0 (fun h => vl_Bench_matches_0 n h) h
set_option maxRecDepth 100000 in
set_option maxHeartbeats 4000000 in
theorem ct_Bench_matches_0 {n1 n2 : Nat} {i : mm_i} {l : mm_j} {a : mm_a} {b : mm_b} {t : mm_H}  {K : Int32 → mm_i → mm_j → mm_a → mm_b → Prop} (h : wp_Bench_matches_0 n1 n2 i l a b  K) : mm_Ct y_Bench_matches M_Bench_matches 6 0 0 [.ref 0] (Wd 4 22 n1 n2 i l a b ++ t) (mm_PI n1 n2 t K) := by
  refine mm_Ct.of (by decide) rfl (fun q => absurd q (by decide)) (Nat.le_of_ble_eq_true rfl) ?_
  unfold wp_Bench_matches_0 at h
  refine mm_eqL (L' := [some (.ref 0), none, none, none, none]) rfl ?_
  refine mm_aload_n (M := M_Bench_matches) d_Bench_matches_0 rfl ?_
  refine mm_getf (M := M_Bench_matches) (u := .int (i 2)) 6 2 d_Bench_matches_1 fl_Bench_16 wg_0 rfl ?_
  refine mm_if_ne (M := M_Bench_matches) 9 d_Bench_matches_4 (by decide) (fun c => ?_) (fun c => ?_)
  · have h := h.1 c
    refine mm_iconst (M := M_Bench_matches) (v := 0) d_Bench_matches_9 (by decide) ?_
    refine mm_istore_n (M := M_Bench_matches) d_Bench_matches_10 (Nat.le_of_ble_eq_true rfl) ?_
    refine mm_eqL (L' := [some (.ref 0), some (.int 0), none, none, none]) rfl ?_
    refine mm_iconst (M := M_Bench_matches) (v := 0) d_Bench_matches_11 (by decide) ?_
    refine mm_istore_n (M := M_Bench_matches) d_Bench_matches_12 (Nat.le_of_ble_eq_true rfl) ?_
    refine mm_eqL (L' := [some (.ref 0), some (.int 0), some (.int 0), none, none]) rfl ?_
    refine mm_bipush (M := M_Bench_matches) (v := (-4)) d_Bench_matches_13 (by decide) ?_
    refine mm_istore_n (M := M_Bench_matches) d_Bench_matches_15 (Nat.le_of_ble_eq_true rfl) ?_
    refine mm_eqL (L' := [some (.ref 0), some (.int 0), some (.int 0), some (.int (-4)), none]) rfl ?_
    refine mm_iconst (M := M_Bench_matches) (v := 0) d_Bench_matches_16 (by decide) ?_
    refine mm_istore (M := M_Bench_matches) d_Bench_matches_17 (Nat.le_of_ble_eq_true rfl) ?_
    refine mm_eqL (L' := [some (.ref 0), some (.int 0), some (.int 0), some (.int (-4)), some (.int 0)]) rfl ?_
    obtain ⟨n, h⟩ := h
    refine mm_drop (L' := [some (.ref 0), some (.int 0), some (.int 0), some (.int (-4)), some (.int 0)]) ⟨rfl, ⟨rfl, ⟨rfl, ⟨rfl, ⟨rfl, trivial⟩⟩⟩⟩⟩ ?_
    exact (vl_Bench_matches_0 n) h
  · have h := h.2 c
    refine mm_iconst (M := M_Bench_matches) (v := (-1)) d_Bench_matches_7 (by decide) ?_
    exact mm_retv (M := M_Bench_matches) ⟨_, rfl, rfl, d_Bench_matches_8⟩ ⟨_, _, _, _, _, rfl, rfl, h⟩
/-- ends with the two programs exchanged -/
def mm_PS (n1 n2 : Nat) (t : mm_H) (K : Int32 → mm_i → mm_j → mm_a → mm_b → Prop) : Option Value → mm_H → Prop := fun v w => ∃ r i l a b, v = some (.int r) ∧ w = Wd 22 4 n1 n2 i l a b ++ t ∧ K r i l a b
def wp_Bench_compile_0 (n1 n2 : Nat) (i : mm_i) (l : mm_j) (a : mm_a) (b : mm_b)  (K K2 : Int32 → mm_i → mm_j → mm_a → mm_b → Prop) : Prop :=
  wp_Reader_read_1 n1 n2 i l a b (fun r1 i1 l1 a1 b1 => (¬ r1 = 0 → ((i1 77) ≤ (60 : Int32) → K2 (i1 76) (upd (upd (upd i1 33 0) 2 1) 3 0) l1 a1 b1) ∧ (¬ (i1 77) ≤ (60 : Int32) → K (-2) (upd i1 33 0) l1 a1 b1)) ∧ (r1 = 0 → K (-3) (upd i1 33 0) l1 a1 b1))
set_option maxRecDepth 100000 in
set_option maxHeartbeats 4000000 in
theorem ct_Bench_compile_0 {n1 n2 : Nat} {i : mm_i} {l : mm_j} {a : mm_a} {b : mm_b} {t : mm_H} {K K2 : Int32 → mm_i → mm_j → mm_a → mm_b → Prop} (h : wp_Bench_compile_0 n1 n2 i l a b K K2) : mm_Ct y_Bench_compile M_Bench_compile 6 0 0 [.ref 0] (Wd 4 22 n1 n2 i l a b ++ t) (fun v w => mm_PI n1 n2 t K v w ∨ mm_PS n1 n2 t K2 v w) := by
  refine mm_Ct.of (by decide) rfl (fun q => absurd q (by decide)) (Nat.le_of_ble_eq_true rfl) ?_
  unfold wp_Bench_compile_0 at h
  refine mm_eqL (L' := [some (.ref 0), none, none]) rfl ?_
  refine mm_aload_n (M := M_Bench_compile) d_Bench_compile_0 rfl ?_
  refine mm_getf (M := M_Bench_compile) (u := .ref 1) 6 0 d_Bench_compile_1 fl_Bench_10 wg_0 rfl ?_
  refine mm_eqs (st2 := [].reverse ++ .ref 1 :: []) rfl ?_
  refine mm_callV (M := M_Bench_compile) (y := y_Reader_read) (M' := M_Reader_read) (d' := 5) (kc := 0) (ks := 0) (kc' := 0) (ks' := 0) (n := 0) d_Bench_compile_4 ok_Reader_read ml_Bench_73 (by decide) rfl (Nat.le_of_ble_eq_true rfl) ⟨tw_416, tw_417⟩ wg_1 rfl (ct_Reader_read_1 h) (fun v w h => ?_)
  obtain ⟨r1, i1, l1, a1, b1, rfl, rfl, h⟩ := h
  refine mm_eqs (st2 := [.int r1]) rfl ?_
  refine mm_istore_n (M := M_Bench_compile) d_Bench_compile_7 (Nat.le_of_ble_eq_true rfl) ?_
  refine mm_eqL (L' := [some (.ref 0), some (.int r1), none]) rfl ?_
  refine mm_aload_n (M := M_Bench_compile) d_Bench_compile_8 rfl ?_
  refine mm_getf (M := M_Bench_compile) (u := .ref 1) 6 0 d_Bench_compile_9 fl_Bench_10 wg_0 rfl ?_
  refine mm_getf (M := M_Bench_compile) (u := .ref 2) 2 0 d_Bench_compile_12 fl_Bench_59 wg_1 rfl ?_
  refine mm_iconst (M := M_Bench_compile) (v := 0) d_Bench_compile_15 (by decide) ?_
  refine mm_putf (M := M_Bench_compile) 0 1 .int d_Bench_compile_16 fl_Bench_76 fp_Bench_76 ft_0_1 wg_2 (Nat.le_of_ble_eq_true rfl) trivial ?_
  refine mm_eqw ws_33 ?_
  refine mm_iload_n (M := M_Bench_compile) d_Bench_compile_19 rfl ?_
  refine mm_if_ne (M := M_Bench_compile) 26 d_Bench_compile_20 (by decide) (fun c => ?_) (fun c => ?_)
  · have h := h.1 c
    refine mm_aload_n (M := M_Bench_compile) d_Bench_compile_26 rfl ?_
    refine mm_getf (M := M_Bench_compile) (u := .ref 1) 6 0 d_Bench_compile_27 fl_Bench_10 wg_0 rfl ?_
    refine mm_getf (M := M_Bench_compile) (u := .ref 4) 2 1 d_Bench_compile_30 fl_Bench_79 wg_1 rfl ?_
    refine mm_getf (M := M_Bench_compile) (u := .int (i1 77)) 1 13 d_Bench_compile_33 fl_Bench_83 wg_4 rfl ?_
    refine mm_bipush (M := M_Bench_compile) (v := 60) d_Bench_compile_36 (by decide) ?_
    refine mm_icmp_le (M := M_Bench_compile) 44 d_Bench_compile_38 (by decide) (fun c => ?_) (fun c => ?_)
    · have h := h.1 c
      refine mm_aload_n (M := M_Bench_compile) d_Bench_compile_44 rfl ?_
      refine mm_getf (M := M_Bench_compile) (u := .ref 1) 6 0 d_Bench_compile_45 fl_Bench_10 wg_0 rfl ?_
      refine mm_getf (M := M_Bench_compile) (u := .ref 4) 2 1 d_Bench_compile_48 fl_Bench_79 wg_1 rfl ?_
      refine mm_astore_n (M := M_Bench_compile) d_Bench_compile_51 (Nat.le_of_ble_eq_true rfl) ?_
      refine mm_eqL (L' := [some (.ref 0), some (.int r1), some (.ref 4)]) rfl ?_
      refine mm_aload_n (M := M_Bench_compile) d_Bench_compile_52 rfl ?_
      refine mm_getf (M := M_Bench_compile) (u := .ref 1) 6 0 d_Bench_compile_53 fl_Bench_10 wg_0 rfl ?_
      refine mm_aload_n (M := M_Bench_compile) d_Bench_compile_56 rfl ?_
      refine mm_getf (M := M_Bench_compile) (u := .ref 19) 6 1 d_Bench_compile_57 fl_Bench_51 wg_0 rfl ?_
      refine mm_getf (M := M_Bench_compile) (u := .ref 22) 5 1 d_Bench_compile_60 fl_Bench_88 wg_19 rfl ?_
      refine mm_putf (M := M_Bench_compile) 2 1 (.object "PatternBench$Program") d_Bench_compile_63 fl_Bench_79 fp_Bench_79 ft_2_1 wg_1 (Nat.le_of_ble_eq_true rfl) trivial ?_
      refine mm_eqw ws_17 ?_
      refine mm_aload_n (M := M_Bench_compile) d_Bench_compile_66 rfl ?_
      refine mm_getf (M := M_Bench_compile) (u := .ref 19) 6 1 d_Bench_compile_67 fl_Bench_51 wg_0 rfl ?_
      refine mm_aload_n (M := M_Bench_compile) d_Bench_compile_70 rfl ?_
      refine mm_putf (M := M_Bench_compile) 5 1 (.object "PatternBench$Program") d_Bench_compile_71 fl_Bench_88 fp_Bench_88 ft_5_1 wg_19 (Nat.le_of_ble_eq_true rfl) trivial ?_
      refine mm_eqw ws_305 ?_
      refine mm_aload_n (M := M_Bench_compile) d_Bench_compile_74 rfl ?_
      refine mm_iconst (M := M_Bench_compile) (v := 1) d_Bench_compile_75 (by decide) ?_
      refine mm_putf (M := M_Bench_compile) 6 2 .boolean d_Bench_compile_76 fl_Bench_16 fp_Bench_16 ft_6_2 wg_0 (Nat.le_of_ble_eq_true rfl) (Or.inr rfl) ?_
      refine mm_eqw ws_2 ?_
      refine mm_aload_n (M := M_Bench_compile) d_Bench_compile_79 rfl ?_
      refine mm_iconst (M := M_Bench_compile) (v := 0) d_Bench_compile_80 (by decide) ?_
      refine mm_putf (M := M_Bench_compile) 6 3 .boolean d_Bench_compile_81 fl_Bench_20 fp_Bench_20 ft_6_3 wg_0 (Nat.le_of_ble_eq_true rfl) (Or.inl rfl) ?_
      refine mm_eqw ws_3 ?_
      refine mm_aload_n (M := M_Bench_compile) d_Bench_compile_84 rfl ?_
      refine mm_getf (M := M_Bench_compile) (u := .int (i1 76)) 1 12 d_Bench_compile_85 fl_Bench_89 wg_4 rfl ?_
      exact mm_retv (M := M_Bench_compile) ⟨_, rfl, rfl, d_Bench_compile_88⟩ (Or.inr ⟨_, _, _, _, _, rfl, rfl, h⟩)
    · have h := h.2 c
      refine mm_bipush (M := M_Bench_compile) (v := (-2)) d_Bench_compile_41 (by decide) ?_
      exact mm_retv (M := M_Bench_compile) ⟨_, rfl, rfl, d_Bench_compile_43⟩ (Or.inl ⟨_, _, _, _, _, rfl, rfl, h⟩)
  · have h := h.2 c
    refine mm_bipush (M := M_Bench_compile) (v := (-3)) d_Bench_compile_23 (by decide) ?_
    exact mm_retv (M := M_Bench_compile) ⟨_, rfl, rfl, d_Bench_compile_25⟩ (Or.inl ⟨_, _, _, _, _, rfl, rfl, h⟩)
