def wp_Matcher_go_19 (n1 n2 : Nat) (i : mm_i) (l : mm_j) (a : mm_a) (b : mm_b) (x1 : Int32) (x2 : Int32) (K : mm_i → mm_j → mm_a → mm_b → Prop) : Prop :=
  K (upd (upd i 309 x1) 310 x2) l a b
set_option maxRecDepth 100000 in
set_option maxHeartbeats 4000000 in
theorem ct_Matcher_go_19 {n1 n2 : Nat} {i : mm_i} {l : mm_j} {a : mm_a} {b : mm_b} {t : mm_H} {x1 : Int32} {x2 : Int32} {K : mm_i → mm_j → mm_a → mm_b → Prop} (h : wp_Matcher_go_19 n1 n2 i l a b x1 x2 K) : mm_Ct y_Matcher_go M_Matcher_go 0 0 0 [.ref 19, .int x1, .int x2] (Wd 4 22 n1 n2 i l a b ++ t) (mm_PV n1 n2 t K) := by
  refine mm_Ct.of (by decide) rfl (fun q => absurd q (by decide)) (Nat.le_of_ble_eq_true rfl) ?_
  unfold wp_Matcher_go_19 at h
  refine mm_eqL (L' := [some (.ref 19), some (.int x1), some (.int x2)]) rfl ?_
  refine mm_aload_n (M := M_Matcher_go) d_Matcher_go_0 rfl ?_
  refine mm_iload_n (M := M_Matcher_go) d_Matcher_go_1 rfl ?_
  refine mm_putf (M := M_Matcher_go) 5 5 .int d_Matcher_go_2 fl_Matcher_27 fp_Matcher_27 ft_5_5 wg_19 (Nat.le_of_ble_eq_true rfl) trivial ?_
  refine mm_eqw ws_309 ?_
  refine mm_aload_n (M := M_Matcher_go) d_Matcher_go_5 rfl ?_
  refine mm_iload_n (M := M_Matcher_go) d_Matcher_go_6 rfl ?_
  refine mm_putf (M := M_Matcher_go) 5 6 .int d_Matcher_go_7 fl_Matcher_31 fp_Matcher_31 ft_5_6 wg_19 (Nat.le_of_ble_eq_true rfl) trivial ?_
  refine mm_eqw ws_310 ?_
  exact mm_ret (M := M_Matcher_go) ⟨rfl, d_Matcher_go_10⟩ ⟨_, _, _, _, rfl, rfl, h⟩
def wp_Matcher_fork_19 (n1 n2 : Nat) (i : mm_i) (l : mm_j) (a : mm_a) (b : mm_b) (x1 : Int32) (K : mm_i → mm_j → mm_a → mm_b → Prop) : Prop :=
  vp_in x1 32 ∧ ((¬ ((a 27) x1.toNatClampNeg) = (1 : Int32) → wp_Choices_add_41 n1 n2 i l a b 5 x1 (i 312) (l 313) (i 311) (fun i1 l1 a1 b1 => wp_Matcher_go_19 n1 n2 i1 l1 a1 b1 2 x1 (fun i2 l2 a2 b2 => K i2 l2 a2 b2))) ∧ (((a 27) x1.toNatClampNeg) = (1 : Int32) → wp_Choices_add_41 n1 n2 i l a b 2 x1 (i 312) (l 313) (i 311) (fun i3 l3 a3 b3 => wp_Matcher_go_19 n1 n2 i3 l3 a3 b3 5 x1 (fun i4 l4 a4 b4 => K i4 l4 a4 b4))))
set_option maxRecDepth 100000 in
set_option maxHeartbeats 4000000 in
theorem ct_Matcher_fork_19 {n1 n2 : Nat} {i : mm_i} {l : mm_j} {a : mm_a} {b : mm_b} {t : mm_H} {x1 : Int32} {K : mm_i → mm_j → mm_a → mm_b → Prop} (h : wp_Matcher_fork_19 n1 n2 i l a b x1 K) : mm_Ct y_Matcher_fork M_Matcher_fork 1 0 0 [.ref 19, .int x1] (Wd 4 22 n1 n2 i l a b ++ t) (mm_PV n1 n2 t K) := by
  refine mm_Ct.of (by decide) rfl (fun q => absurd q (by decide)) (Nat.le_of_ble_eq_true rfl) ?_
  unfold wp_Matcher_fork_19 at h
  refine mm_eqL (L' := [some (.ref 19), some (.int x1), none]) rfl ?_
  refine mm_aload_n (M := M_Matcher_fork) d_Matcher_fork_0 rfl ?_
  refine mm_getf (M := M_Matcher_fork) (u := .ref 22) 5 1 d_Matcher_fork_1 fl_Matcher_23 wg_19 rfl ?_
  refine mm_getf (M := M_Matcher_fork) (u := .ref 27) 1 4 d_Matcher_fork_4 fl_Matcher_137 wg_22 rfl ?_
  refine mm_iload_n (M := M_Matcher_fork) d_Matcher_fork_7 rfl ?_
  obtain ⟨hin, h⟩ := h
  refine mm_iald (M := M_Matcher_fork) (f := (a 27)) d_Matcher_fork_8 wg_27 hin ?_
  refine mm_iconst (M := M_Matcher_fork) (v := 1) d_Matcher_fork_9 (by decide) ?_
  refine mm_icmp_ne (M := M_Matcher_fork) 17 d_Matcher_fork_10 (by decide) (fun c => ?_) (fun c => ?_)
  · have h := h.1 c
    refine mm_iconst (M := M_Matcher_fork) (v := 0) d_Matcher_fork_17 (by decide) ?_
    refine mm_istore_n (M := M_Matcher_fork) d_Matcher_fork_18 (Nat.le_of_ble_eq_true rfl) ?_
    refine mm_eqL (L' := [some (.ref 19), some (.int x1), some (.int 0)]) rfl ?_
    refine mm_aload_n (M := M_Matcher_fork) d_Matcher_fork_19 rfl ?_
    refine mm_getf (M := M_Matcher_fork) (u := .ref 41) 5 4 d_Matcher_fork_20 fl_Matcher_60 wg_19 rfl ?_
    refine mm_iload_n (M := M_Matcher_fork) d_Matcher_fork_23 rfl ?_
    refine mm_if_eq (M := M_Matcher_fork) 31 d_Matcher_fork_24 (by decide) (fun c => ?_) (fun c => absurd c (by decide))
    refine mm_iconst (M := M_Matcher_fork) (v := 5) d_Matcher_fork_31 (by decide) ?_
    refine mm_iload_n (M := M_Matcher_fork) d_Matcher_fork_32 rfl ?_
    refine mm_aload_n (M := M_Matcher_fork) d_Matcher_fork_33 rfl ?_
    refine mm_getf (M := M_Matcher_fork) (u := .int (i 312)) 5 8 d_Matcher_fork_34 fl_Matcher_37 wg_19 rfl ?_
    refine mm_aload_n (M := M_Matcher_fork) d_Matcher_fork_37 rfl ?_
    refine mm_getf (M := M_Matcher_fork) (u := .long (l 313)) 5 9 d_Matcher_fork_38 fl_Matcher_40 wg_19 rfl ?_
    refine mm_aload_n (M := M_Matcher_fork) d_Matcher_fork_41 rfl ?_
    refine mm_getf (M := M_Matcher_fork) (u := .int (i 311)) 5 7 d_Matcher_fork_42 fl_Matcher_34 wg_19 rfl ?_
    refine mm_eqs (st2 := [.int 5, .int x1, .int (i 312), .long (l 313), .int (i 311)].reverse ++ .ref 41 :: []) rfl ?_
    refine mm_callV (M := M_Matcher_fork) (y := y_Choices_add) (M' := M_Choices_add) (d' := 0) (kc := 0) (ks := 0) (kc' := 0) (ks' := 0) (n := 5) d_Matcher_fork_45 ok_Choices_add ml_Matcher_124 (by decide) rfl (Nat.le_of_ble_eq_true rfl) ⟨tw_568, tw_569⟩ wg_41 rfl (ct_Choices_add_41 h) (fun v w h => ?_)
    obtain ⟨i1, l1, a1, b1, rfl, rfl, h⟩ := h
    refine mm_eqs (st2 := []) rfl ?_
    refine mm_aload_n (M := M_Matcher_fork) d_Matcher_fork_48 rfl ?_
    refine mm_iload_n (M := M_Matcher_fork) d_Matcher_fork_49 rfl ?_
    refine mm_if_eq (M := M_Matcher_fork) 57 d_Matcher_fork_50 (by decide) (fun c => ?_) (fun c => absurd c (by decide))
    refine mm_iconst (M := M_Matcher_fork) (v := 2) d_Matcher_fork_57 (by decide) ?_
    refine mm_iload_n (M := M_Matcher_fork) d_Matcher_fork_58 rfl ?_
    refine mm_eqs (st2 := [.int 2, .int x1].reverse ++ .ref 19 :: []) rfl ?_
    refine mm_callV (M := M_Matcher_fork) (y := y_Matcher_go) (M' := M_Matcher_go) (d' := 0) (kc := 0) (ks := 0) (kc' := 0) (ks' := 0) (n := 2) d_Matcher_fork_59 ok_Matcher_go ml_Matcher_88 (by decide) rfl (Nat.le_of_ble_eq_true rfl) ⟨tw_544, ts_Matcher_go⟩ wg_19 rfl (ct_Matcher_go_19 h) (fun v w h => ?_)
    obtain ⟨i2, l2, a2, b2, rfl, rfl, h⟩ := h
    refine mm_eqs (st2 := []) rfl ?_
    exact mm_ret (M := M_Matcher_fork) ⟨rfl, d_Matcher_fork_62⟩ ⟨_, _, _, _, rfl, rfl, h⟩
  · have h := h.2 c
    refine mm_iconst (M := M_Matcher_fork) (v := 1) d_Matcher_fork_13 (by decide) ?_
    refine mm_goto (M := M_Matcher_fork) (tgt := 18) d_Matcher_fork_14 (by decide) ?_
    refine mm_istore_n (M := M_Matcher_fork) d_Matcher_fork_18 (Nat.le_of_ble_eq_true rfl) ?_
    refine mm_eqL (L' := [some (.ref 19), some (.int x1), some (.int 1)]) rfl ?_
    refine mm_aload_n (M := M_Matcher_fork) d_Matcher_fork_19 rfl ?_
    refine mm_getf (M := M_Matcher_fork) (u := .ref 41) 5 4 d_Matcher_fork_20 fl_Matcher_60 wg_19 rfl ?_
    refine mm_iload_n (M := M_Matcher_fork) d_Matcher_fork_23 rfl ?_
    refine mm_if_eq (M := M_Matcher_fork) 31 d_Matcher_fork_24 (by decide) (fun c => absurd c (by decide)) (fun c => ?_)
    refine mm_iconst (M := M_Matcher_fork) (v := 2) d_Matcher_fork_27 (by decide) ?_
    refine mm_goto (M := M_Matcher_fork) (tgt := 32) d_Matcher_fork_28 (by decide) ?_
    refine mm_iload_n (M := M_Matcher_fork) d_Matcher_fork_32 rfl ?_
    refine mm_aload_n (M := M_Matcher_fork) d_Matcher_fork_33 rfl ?_
    refine mm_getf (M := M_Matcher_fork) (u := .int (i 312)) 5 8 d_Matcher_fork_34 fl_Matcher_37 wg_19 rfl ?_
    refine mm_aload_n (M := M_Matcher_fork) d_Matcher_fork_37 rfl ?_
    refine mm_getf (M := M_Matcher_fork) (u := .long (l 313)) 5 9 d_Matcher_fork_38 fl_Matcher_40 wg_19 rfl ?_
    refine mm_aload_n (M := M_Matcher_fork) d_Matcher_fork_41 rfl ?_
    refine mm_getf (M := M_Matcher_fork) (u := .int (i 311)) 5 7 d_Matcher_fork_42 fl_Matcher_34 wg_19 rfl ?_
    refine mm_eqs (st2 := [.int 2, .int x1, .int (i 312), .long (l 313), .int (i 311)].reverse ++ .ref 41 :: []) rfl ?_
    refine mm_callV (M := M_Matcher_fork) (y := y_Choices_add) (M' := M_Choices_add) (d' := 0) (kc := 0) (ks := 0) (kc' := 0) (ks' := 0) (n := 5) d_Matcher_fork_45 ok_Choices_add ml_Matcher_124 (by decide) rfl (Nat.le_of_ble_eq_true rfl) ⟨tw_568, tw_569⟩ wg_41 rfl (ct_Choices_add_41 h) (fun v w h => ?_)
    obtain ⟨i3, l3, a3, b3, rfl, rfl, h⟩ := h
    refine mm_eqs (st2 := []) rfl ?_
    refine mm_aload_n (M := M_Matcher_fork) d_Matcher_fork_48 rfl ?_
    refine mm_iload_n (M := M_Matcher_fork) d_Matcher_fork_49 rfl ?_
    refine mm_if_eq (M := M_Matcher_fork) 57 d_Matcher_fork_50 (by decide) (fun c => absurd c (by decide)) (fun c => ?_)
    refine mm_iconst (M := M_Matcher_fork) (v := 5) d_Matcher_fork_53 (by decide) ?_
    refine mm_goto (M := M_Matcher_fork) (tgt := 58) d_Matcher_fork_54 (by decide) ?_
    refine mm_iload_n (M := M_Matcher_fork) d_Matcher_fork_58 rfl ?_
    refine mm_eqs (st2 := [.int 5, .int x1].reverse ++ .ref 19 :: []) rfl ?_
    refine mm_callV (M := M_Matcher_fork) (y := y_Matcher_go) (M' := M_Matcher_go) (d' := 0) (kc := 0) (ks := 0) (kc' := 0) (ks' := 0) (n := 2) d_Matcher_fork_59 ok_Matcher_go ml_Matcher_88 (by decide) rfl (Nat.le_of_ble_eq_true rfl) ⟨tw_544, ts_Matcher_go⟩ wg_19 rfl (ct_Matcher_go_19 h) (fun v w h => ?_)
    obtain ⟨i4, l4, a4, b4, rfl, rfl, h⟩ := h
    refine mm_eqs (st2 := []) rfl ?_
    exact mm_ret (M := M_Matcher_fork) ⟨rfl, d_Matcher_fork_62⟩ ⟨_, _, _, _, rfl, rfl, h⟩
def wp_Matcher_goAfterItem_19 (n1 n2 : Nat) (i : mm_i) (l : mm_j) (a : mm_a) (b : mm_b) (x1 : Int32) (K : mm_i → mm_j → mm_a → mm_b → Prop) : Prop :=
  vp_in x1 32 ∧ ((¬ ((a 27) x1.toNatClampNeg) = (2 : Int32) → vp_in x1 32 ∧ (wp_Matcher_go_19 n1 n2 i l a b 1 ((a 29) x1.toNatClampNeg) (fun i1 l1 a1 b1 => K i1 l1 a1 b1))) ∧ (((a 27) x1.toNatClampNeg) = (2 : Int32) → K (upd i 309 6) l a b))
set_option maxRecDepth 100000 in
set_option maxHeartbeats 4000000 in
theorem ct_Matcher_goAfterItem_19 {n1 n2 : Nat} {i : mm_i} {l : mm_j} {a : mm_a} {b : mm_b} {t : mm_H} {x1 : Int32} {K : mm_i → mm_j → mm_a → mm_b → Prop} (h : wp_Matcher_goAfterItem_19 n1 n2 i l a b x1 K) : mm_Ct y_Matcher_goAfterItem M_Matcher_goAfterItem 1 0 0 [.ref 19, .int x1] (Wd 4 22 n1 n2 i l a b ++ t) (mm_PV n1 n2 t K) := by
  refine mm_Ct.of (by decide) rfl (fun q => absurd q (by decide)) (Nat.le_of_ble_eq_true rfl) ?_
  unfold wp_Matcher_goAfterItem_19 at h
  refine mm_eqL (L' := [some (.ref 19), some (.int x1)]) rfl ?_
  refine mm_aload_n (M := M_Matcher_goAfterItem) d_Matcher_goAfterItem_0 rfl ?_
  refine mm_getf (M := M_Matcher_goAfterItem) (u := .ref 22) 5 1 d_Matcher_goAfterItem_1 fl_Matcher_23 wg_19 rfl ?_
  refine mm_getf (M := M_Matcher_goAfterItem) (u := .ref 27) 1 4 d_Matcher_goAfterItem_4 fl_Matcher_137 wg_22 rfl ?_
  refine mm_iload_n (M := M_Matcher_goAfterItem) d_Matcher_goAfterItem_7 rfl ?_
  obtain ⟨hin, h⟩ := h
  refine mm_iald (M := M_Matcher_goAfterItem) (f := (a 27)) d_Matcher_goAfterItem_8 wg_27 hin ?_
  refine mm_iconst (M := M_Matcher_goAfterItem) (v := 2) d_Matcher_goAfterItem_9 (by decide) ?_
  refine mm_icmp_ne (M := M_Matcher_goAfterItem) 22 d_Matcher_goAfterItem_10 (by decide) (fun c => ?_) (fun c => ?_)
  · have h := h.1 c
    refine mm_aload_n (M := M_Matcher_goAfterItem) d_Matcher_goAfterItem_22 rfl ?_
    refine mm_iconst (M := M_Matcher_goAfterItem) (v := 1) d_Matcher_goAfterItem_23 (by decide) ?_
    refine mm_aload_n (M := M_Matcher_goAfterItem) d_Matcher_goAfterItem_24 rfl ?_
    refine mm_getf (M := M_Matcher_goAfterItem) (u := .ref 22) 5 1 d_Matcher_goAfterItem_25 fl_Matcher_23 wg_19 rfl ?_
    refine mm_getf (M := M_Matcher_goAfterItem) (u := .ref 29) 1 6 d_Matcher_goAfterItem_28 fl_Matcher_134 wg_22 rfl ?_
    refine mm_iload_n (M := M_Matcher_goAfterItem) d_Matcher_goAfterItem_31 rfl ?_
    obtain ⟨hin, h⟩ := h
    refine mm_iald (M := M_Matcher_goAfterItem) (f := (a 29)) d_Matcher_goAfterItem_32 wg_29 hin ?_
    refine mm_eqs (st2 := [.int 1, .int ((a 29) x1.toNatClampNeg)].reverse ++ .ref 19 :: []) rfl ?_
    refine mm_callV (M := M_Matcher_goAfterItem) (y := y_Matcher_go) (M' := M_Matcher_go) (d' := 0) (kc := 0) (ks := 0) (kc' := 0) (ks' := 0) (n := 2) d_Matcher_goAfterItem_33 ok_Matcher_go ml_Matcher_88 (by decide) rfl (Nat.le_of_ble_eq_true rfl) ⟨tw_544, ts_Matcher_go⟩ wg_19 rfl (ct_Matcher_go_19 h) (fun v w h => ?_)
    obtain ⟨i1, l1, a1, b1, rfl, rfl, h⟩ := h
    refine mm_eqs (st2 := []) rfl ?_
    exact mm_ret (M := M_Matcher_goAfterItem) ⟨rfl, d_Matcher_goAfterItem_36⟩ ⟨_, _, _, _, rfl, rfl, h⟩
  · have h := h.2 c
    refine mm_aload_n (M := M_Matcher_goAfterItem) d_Matcher_goAfterItem_13 rfl ?_
    refine mm_bipush (M := M_Matcher_goAfterItem) (v := 6) d_Matcher_goAfterItem_14 (by decide) ?_
    refine mm_putf (M := M_Matcher_goAfterItem) 5 5 .int d_Matcher_goAfterItem_16 fl_Matcher_27 fp_Matcher_27 ft_5_5 wg_19 (Nat.le_of_ble_eq_true rfl) trivial ?_
    refine mm_eqw ws_309 ?_
    refine mm_goto (M := M_Matcher_goAfterItem) (tgt := 36) d_Matcher_goAfterItem_19 (by decide) ?_
    exact mm_ret (M := M_Matcher_goAfterItem) ⟨rfl, d_Matcher_goAfterItem_36⟩ ⟨_, _, _, _, rfl, rfl, h⟩
def wp_Matcher_goAfterAtom_19 (n1 n2 : Nat) (i : mm_i) (l : mm_j) (a : mm_a) (b : mm_b) (x1 : Int32) (K : mm_i → mm_j → mm_a → mm_b → Prop) : Prop :=
  vp_in x1 32 ∧ ((((a 25) x1.toNatClampNeg) = 0 → wp_Matcher_goAfterItem_19 n1 n2 i l a b x1 (fun i1 l1 a1 b1 => K i1 l1 a1 b1)) ∧ (¬ ((a 25) x1.toNatClampNeg) = 0 → (¬ ((a 25) x1.toNatClampNeg) = (2 : Int32) → K (upd i 309 6) l a b) ∧ (((a 25) x1.toNatClampNeg) = (2 : Int32) → wp_Matcher_goAfterItem_19 n1 n2 i l a b x1 (fun i2 l2 a2 b2 => K i2 l2 a2 b2))))
set_option maxRecDepth 100000 in
set_option maxHeartbeats 4000000 in
theorem ct_Matcher_goAfterAtom_19 {n1 n2 : Nat} {i : mm_i} {l : mm_j} {a : mm_a} {b : mm_b} {t : mm_H} {x1 : Int32} {K : mm_i → mm_j → mm_a → mm_b → Prop} (h : wp_Matcher_goAfterAtom_19 n1 n2 i l a b x1 K) : mm_Ct y_Matcher_goAfterAtom M_Matcher_goAfterAtom 2 0 0 [.ref 19, .int x1] (Wd 4 22 n1 n2 i l a b ++ t) (mm_PV n1 n2 t K) := by
  refine mm_Ct.of (by decide) rfl (fun q => absurd q (by decide)) (Nat.le_of_ble_eq_true rfl) ?_
  unfold wp_Matcher_goAfterAtom_19 at h
  refine mm_eqL (L' := [some (.ref 19), some (.int x1), none]) rfl ?_
  refine mm_aload_n (M := M_Matcher_goAfterAtom) d_Matcher_goAfterAtom_0 rfl ?_
  refine mm_getf (M := M_Matcher_goAfterAtom) (u := .ref 22) 5 1 d_Matcher_goAfterAtom_1 fl_Matcher_23 wg_19 rfl ?_
  refine mm_getf (M := M_Matcher_goAfterAtom) (u := .ref 25) 1 2 d_Matcher_goAfterAtom_4 fl_Matcher_131 wg_22 rfl ?_
  refine mm_iload_n (M := M_Matcher_goAfterAtom) d_Matcher_goAfterAtom_7 rfl ?_
  obtain ⟨hin, h⟩ := h
  refine mm_iald (M := M_Matcher_goAfterAtom) (f := (a 25)) d_Matcher_goAfterAtom_8 wg_25 hin ?_
  refine mm_istore_n (M := M_Matcher_goAfterAtom) d_Matcher_goAfterAtom_9 (Nat.le_of_ble_eq_true rfl) ?_
  refine mm_eqL (L' := [some (.ref 19), some (.int x1), some (.int ((a 25) x1.toNatClampNeg))]) rfl ?_
  refine mm_iload_n (M := M_Matcher_goAfterAtom) d_Matcher_goAfterAtom_10 rfl ?_
  refine mm_if_eq (M := M_Matcher_goAfterAtom) 19 d_Matcher_goAfterAtom_11 (by decide) (fun c => ?_) (fun c => ?_)
  · have h := h.1 c
    refine mm_aload_n (M := M_Matcher_goAfterAtom) d_Matcher_goAfterAtom_19 rfl ?_
    refine mm_iload_n (M := M_Matcher_goAfterAtom) d_Matcher_goAfterAtom_20 rfl ?_
    refine mm_eqs (st2 := [.int x1].reverse ++ .ref 19 :: []) rfl ?_
    refine mm_callV (M := M_Matcher_goAfterAtom) (y := y_Matcher_goAfterItem) (M' := M_Matcher_goAfterItem) (d' := 1) (kc := 0) (ks := 0) (kc' := 0) (ks' := 0) (n := 1) d_Matcher_goAfterAtom_21 ok_Matcher_goAfterItem ml_Matcher_112 (by decide) rfl (Nat.le_of_ble_eq_true rfl) ⟨tw_623, ts_Matcher_goAfterItem⟩ wg_19 rfl (ct_Matcher_goAfterItem_19 h) (fun v w h => ?_)
    obtain ⟨i1, l1, a1, b1, rfl, rfl, h⟩ := h
    refine mm_eqs (st2 := []) rfl ?_
    refine mm_goto (M := M_Matcher_goAfterAtom) (tgt := 33) d_Matcher_goAfterAtom_24 (by decide) ?_
    exact mm_ret (M := M_Matcher_goAfterAtom) ⟨rfl, d_Matcher_goAfterAtom_33⟩ ⟨_, _, _, _, rfl, rfl, h⟩
  · have h := h.2 c
    refine mm_iload_n (M := M_Matcher_goAfterAtom) d_Matcher_goAfterAtom_14 rfl ?_
    refine mm_iconst (M := M_Matcher_goAfterAtom) (v := 2) d_Matcher_goAfterAtom_15 (by decide) ?_
    refine mm_icmp_ne (M := M_Matcher_goAfterAtom) 27 d_Matcher_goAfterAtom_16 (by decide) (fun c => ?_) (fun c => ?_)
    · have h := h.1 c
      refine mm_aload_n (M := M_Matcher_goAfterAtom) d_Matcher_goAfterAtom_27 rfl ?_
      refine mm_bipush (M := M_Matcher_goAfterAtom) (v := 6) d_Matcher_goAfterAtom_28 (by decide) ?_
      refine mm_putf (M := M_Matcher_goAfterAtom) 5 5 .int d_Matcher_goAfterAtom_30 fl_Matcher_27 fp_Matcher_27 ft_5_5 wg_19 (Nat.le_of_ble_eq_true rfl) trivial ?_
      refine mm_eqw ws_309 ?_
      exact mm_ret (M := M_Matcher_goAfterAtom) ⟨rfl, d_Matcher_goAfterAtom_33⟩ ⟨_, _, _, _, rfl, rfl, h⟩
    · have h := h.2 c
      refine mm_aload_n (M := M_Matcher_goAfterAtom) d_Matcher_goAfterAtom_19 rfl ?_
      refine mm_iload_n (M := M_Matcher_goAfterAtom) d_Matcher_goAfterAtom_20 rfl ?_
      refine mm_eqs (st2 := [.int x1].reverse ++ .ref 19 :: []) rfl ?_
      refine mm_callV (M := M_Matcher_goAfterAtom) (y := y_Matcher_goAfterItem) (M' := M_Matcher_goAfterItem) (d' := 1) (kc := 0) (ks := 0) (kc' := 0) (ks' := 0) (n := 1) d_Matcher_goAfterAtom_21 ok_Matcher_goAfterItem ml_Matcher_112 (by decide) rfl (Nat.le_of_ble_eq_true rfl) ⟨tw_623, ts_Matcher_goAfterItem⟩ wg_19 rfl (ct_Matcher_goAfterItem_19 h) (fun v w h => ?_)
      obtain ⟨i2, l2, a2, b2, rfl, rfl, h⟩ := h
      refine mm_eqs (st2 := []) rfl ?_
      refine mm_goto (M := M_Matcher_goAfterAtom) (tgt := 33) d_Matcher_goAfterAtom_24 (by decide) ?_
      exact mm_ret (M := M_Matcher_goAfterAtom) ⟨rfl, d_Matcher_goAfterAtom_33⟩ ⟨_, _, _, _, rfl, rfl, h⟩
def wp_Matcher_tryAtom_19 (n1 n2 : Nat) (i : mm_i) (l : mm_j) (a : mm_a) (b : mm_b) (x1 : Int32) (K : mm_i → mm_j → mm_a → mm_b → Prop) : Prop :=
  vp_in x1 32 ∧ ((((a 25) x1.toNatClampNeg) = (2 : Int32) → wp_Matcher_go_19 n1 n2 i l a b 3 x1 (fun i1 l1 a1 b1 => K i1 l1 a1 b1)) ∧ (¬ ((a 25) x1.toNatClampNeg) = (2 : Int32) → wp_Frames_add_33 n1 n2 i l a b 3 x1 0 (i 312) (l 313) (i 311) (fun r2 i2 l2 a2 b2 => wp_Matcher_go_19 n1 n2 (upd i2 311 r2) l2 a2 b2 3 x1 (fun i3 l3 a3 b3 => K i3 l3 a3 b3))))
set_option maxRecDepth 100000 in
set_option maxHeartbeats 4000000 in
theorem ct_Matcher_tryAtom_19 {n1 n2 : Nat} {i : mm_i} {l : mm_j} {a : mm_a} {b : mm_b} {t : mm_H} {x1 : Int32} {K : mm_i → mm_j → mm_a → mm_b → Prop} (h : wp_Matcher_tryAtom_19 n1 n2 i l a b x1 K) : mm_Ct y_Matcher_tryAtom M_Matcher_tryAtom 1 0 0 [.ref 19, .int x1] (Wd 4 22 n1 n2 i l a b ++ t) (mm_PV n1 n2 t K) := by
  refine mm_Ct.of (by decide) rfl (fun q => absurd q (by decide)) (Nat.le_of_ble_eq_true rfl) ?_
  unfold wp_Matcher_tryAtom_19 at h
  refine mm_eqL (L' := [some (.ref 19), some (.int x1)]) rfl ?_
  refine mm_aload_n (M := M_Matcher_tryAtom) d_Matcher_tryAtom_0 rfl ?_
  refine mm_getf (M := M_Matcher_tryAtom) (u := .ref 22) 5 1 d_Matcher_tryAtom_1 fl_Matcher_23 wg_19 rfl ?_
  refine mm_getf (M := M_Matcher_tryAtom) (u := .ref 25) 1 2 d_Matcher_tryAtom_4 fl_Matcher_131 wg_22 rfl ?_
  refine mm_iload_n (M := M_Matcher_tryAtom) d_Matcher_tryAtom_7 rfl ?_
  obtain ⟨hin, h⟩ := h
  refine mm_iald (M := M_Matcher_tryAtom) (f := (a 25)) d_Matcher_tryAtom_8 wg_25 hin ?_
  refine mm_iconst (M := M_Matcher_tryAtom) (v := 2) d_Matcher_tryAtom_9 (by decide) ?_
  refine mm_icmp_eq (M := M_Matcher_tryAtom) 39 d_Matcher_tryAtom_10 (by decide) (fun c => ?_) (fun c => ?_)
  · have h := h.1 c
    refine mm_aload_n (M := M_Matcher_tryAtom) d_Matcher_tryAtom_39 rfl ?_
    refine mm_iconst (M := M_Matcher_tryAtom) (v := 3) d_Matcher_tryAtom_40 (by decide) ?_
    refine mm_iload_n (M := M_Matcher_tryAtom) d_Matcher_tryAtom_41 rfl ?_
    refine mm_eqs (st2 := [.int 3, .int x1].reverse ++ .ref 19 :: []) rfl ?_
    refine mm_callV (M := M_Matcher_tryAtom) (y := y_Matcher_go) (M' := M_Matcher_go) (d' := 0) (kc := 0) (ks := 0) (kc' := 0) (ks' := 0) (n := 2) d_Matcher_tryAtom_42 ok_Matcher_go ml_Matcher_88 (by decide) rfl (Nat.le_of_ble_eq_true rfl) ⟨tw_544, ts_Matcher_go⟩ wg_19 rfl (ct_Matcher_go_19 h) (fun v w h => ?_)
    obtain ⟨i1, l1, a1, b1, rfl, rfl, h⟩ := h
    refine mm_eqs (st2 := []) rfl ?_
    exact mm_ret (M := M_Matcher_tryAtom) ⟨rfl, d_Matcher_tryAtom_45⟩ ⟨_, _, _, _, rfl, rfl, h⟩
  · have h := h.2 c
    refine mm_aload_n (M := M_Matcher_tryAtom) d_Matcher_tryAtom_13 rfl ?_
    refine mm_aload_n (M := M_Matcher_tryAtom) d_Matcher_tryAtom_14 rfl ?_
    refine mm_getf (M := M_Matcher_tryAtom) (u := .ref 33) 5 3 d_Matcher_tryAtom_15 fl_Matcher_53 wg_19 rfl ?_
    refine mm_iconst (M := M_Matcher_tryAtom) (v := 3) d_Matcher_tryAtom_18 (by decide) ?_
    refine mm_iload_n (M := M_Matcher_tryAtom) d_Matcher_tryAtom_19 rfl ?_
    refine mm_iconst (M := M_Matcher_tryAtom) (v := 0) d_Matcher_tryAtom_20 (by decide) ?_
    refine mm_aload_n (M := M_Matcher_tryAtom) d_Matcher_tryAtom_21 rfl ?_
    refine mm_getf (M := M_Matcher_tryAtom) (u := .int (i 312)) 5 8 d_Matcher_tryAtom_22 fl_Matcher_37 wg_19 rfl ?_
    refine mm_aload_n (M := M_Matcher_tryAtom) d_Matcher_tryAtom_25 rfl ?_
    refine mm_getf (M := M_Matcher_tryAtom) (u := .long (l 313)) 5 9 d_Matcher_tryAtom_26 fl_Matcher_40 wg_19 rfl ?_
    refine mm_aload_n (M := M_Matcher_tryAtom) d_Matcher_tryAtom_29 rfl ?_
    refine mm_getf (M := M_Matcher_tryAtom) (u := .int (i 311)) 5 7 d_Matcher_tryAtom_30 fl_Matcher_34 wg_19 rfl ?_
    refine mm_eqs (st2 := [.int 3, .int x1, .int 0, .int (i 312), .long (l 313), .int (i 311)].reverse ++ .ref 33 :: [.ref 19]) rfl ?_
    refine mm_callV (M := M_Matcher_tryAtom) (y := y_Frames_add) (M' := M_Frames_add) (d' := 0) (kc := 0) (ks := 0) (kc' := 0) (ks' := 0) (n := 6) d_Matcher_tryAtom_33 ok_Frames_add ml_Matcher_143 (by decide) rfl (Nat.le_of_ble_eq_true rfl) ⟨tw_576, tw_577⟩ wg_33 rfl (ct_Frames_add_33 h) (fun v w h => ?_)
    obtain ⟨r2, i2, l2, a2, b2, rfl, rfl, h⟩ := h
    refine mm_eqs (st2 := [.int r2, .ref 19]) rfl ?_
    refine mm_putf (M := M_Matcher_tryAtom) 5 7 .int d_Matcher_tryAtom_36 fl_Matcher_34 fp_Matcher_34 ft_5_7 wg_19 (Nat.le_of_ble_eq_true rfl) trivial ?_
    refine mm_eqw ws_311 ?_
    refine mm_aload_n (M := M_Matcher_tryAtom) d_Matcher_tryAtom_39 rfl ?_
    refine mm_iconst (M := M_Matcher_tryAtom) (v := 3) d_Matcher_tryAtom_40 (by decide) ?_
    refine mm_iload_n (M := M_Matcher_tryAtom) d_Matcher_tryAtom_41 rfl ?_
    refine mm_eqs (st2 := [.int 3, .int x1].reverse ++ .ref 19 :: []) rfl ?_
    refine mm_callV (M := M_Matcher_tryAtom) (y := y_Matcher_go) (M' := M_Matcher_go) (d' := 0) (kc := 0) (ks := 0) (kc' := 0) (ks' := 0) (n := 2) d_Matcher_tryAtom_42 ok_Matcher_go ml_Matcher_88 (by decide) rfl (Nat.le_of_ble_eq_true rfl) ⟨tw_544, ts_Matcher_go⟩ wg_19 rfl (ct_Matcher_go_19 h) (fun v w h => ?_)
    obtain ⟨i3, l3, a3, b3, rfl, rfl, h⟩ := h
    refine mm_eqs (st2 := []) rfl ?_
    exact mm_ret (M := M_Matcher_tryAtom) ⟨rfl, d_Matcher_tryAtom_45⟩ ⟨_, _, _, _, rfl, rfl, h⟩
def wp_Matcher_enterRow_19 (n1 n2 : Nat) (i : mm_i) (l : mm_j) (a : mm_a) (b : mm_b) (x1 : Int32) (K : mm_i → mm_j → mm_a → mm_b → Prop) : Prop :=
  vp_in x1 33 ∧ ((((a 31) x1.toNatClampNeg) = ((-1) : Int32) → vp_in x1 33 ∧ (wp_Matcher_go_19 n1 n2 i l a b 1 ((a 30) x1.toNatClampNeg) (fun i1 l1 a1 b1 => K i1 l1 a1 b1))) ∧ (¬ ((a 31) x1.toNatClampNeg) = ((-1) : Int32) → wp_Choices_add_41 n1 n2 i l a b 0 ((a 31) x1.toNatClampNeg) (i 312) (l 313) (i 311) (fun i2 l2 a2 b2 => vp_in x1 33 ∧ (wp_Matcher_go_19 n1 n2 i2 l2 a2 b2 1 ((a2 30) x1.toNatClampNeg) (fun i3 l3 a3 b3 => K i3 l3 a3 b3)))))
set_option maxRecDepth 100000 in
set_option maxHeartbeats 4000000 in
theorem ct_Matcher_enterRow_19 {n1 n2 : Nat} {i : mm_i} {l : mm_j} {a : mm_a} {b : mm_b} {t : mm_H} {x1 : Int32} {K : mm_i → mm_j → mm_a → mm_b → Prop} (h : wp_Matcher_enterRow_19 n1 n2 i l a b x1 K) : mm_Ct y_Matcher_enterRow M_Matcher_enterRow 1 0 0 [.ref 19, .int x1] (Wd 4 22 n1 n2 i l a b ++ t) (mm_PV n1 n2 t K) := by
  refine mm_Ct.of (by decide) rfl (fun q => absurd q (by decide)) (Nat.le_of_ble_eq_true rfl) ?_
  unfold wp_Matcher_enterRow_19 at h
  refine mm_eqL (L' := [some (.ref 19), some (.int x1), none]) rfl ?_
  refine mm_aload_n (M := M_Matcher_enterRow) d_Matcher_enterRow_0 rfl ?_
  refine mm_getf (M := M_Matcher_enterRow) (u := .ref 22) 5 1 d_Matcher_enterRow_1 fl_Matcher_23 wg_19 rfl ?_
  refine mm_getf (M := M_Matcher_enterRow) (u := .ref 31) 1 8 d_Matcher_enterRow_4 fl_Matcher_121 wg_22 rfl ?_
  refine mm_iload_n (M := M_Matcher_enterRow) d_Matcher_enterRow_7 rfl ?_
  obtain ⟨hin, h⟩ := h
  refine mm_iald (M := M_Matcher_enterRow) (f := (a 31)) d_Matcher_enterRow_8 wg_31 hin ?_
  refine mm_istore_n (M := M_Matcher_enterRow) d_Matcher_enterRow_9 (Nat.le_of_ble_eq_true rfl) ?_
  refine mm_eqL (L' := [some (.ref 19), some (.int x1), some (.int ((a 31) x1.toNatClampNeg))]) rfl ?_
  refine mm_iload_n (M := M_Matcher_enterRow) d_Matcher_enterRow_10 rfl ?_
  refine mm_iconst (M := M_Matcher_enterRow) (v := (-1)) d_Matcher_enterRow_11 (by decide) ?_
  refine mm_icmp_eq (M := M_Matcher_enterRow) 36 d_Matcher_enterRow_12 (by decide) (fun c => ?_) (fun c => ?_)
  · have h := h.1 c
    refine mm_aload_n (M := M_Matcher_enterRow) d_Matcher_enterRow_36 rfl ?_
    refine mm_iconst (M := M_Matcher_enterRow) (v := 1) d_Matcher_enterRow_37 (by decide) ?_
    refine mm_aload_n (M := M_Matcher_enterRow) d_Matcher_enterRow_38 rfl ?_
    refine mm_getf (M := M_Matcher_enterRow) (u := .ref 22) 5 1 d_Matcher_enterRow_39 fl_Matcher_23 wg_19 rfl ?_
    refine mm_getf (M := M_Matcher_enterRow) (u := .ref 30) 1 7 d_Matcher_enterRow_42 fl_Matcher_128 wg_22 rfl ?_
    refine mm_iload_n (M := M_Matcher_enterRow) d_Matcher_enterRow_45 rfl ?_
    obtain ⟨hin, h⟩ := h
    refine mm_iald (M := M_Matcher_enterRow) (f := (a 30)) d_Matcher_enterRow_46 wg_30 hin ?_
    refine mm_eqs (st2 := [.int 1, .int ((a 30) x1.toNatClampNeg)].reverse ++ .ref 19 :: []) rfl ?_
    refine mm_callV (M := M_Matcher_enterRow) (y := y_Matcher_go) (M' := M_Matcher_go) (d' := 0) (kc := 0) (ks := 0) (kc' := 0) (ks' := 0) (n := 2) d_Matcher_enterRow_47 ok_Matcher_go ml_Matcher_88 (by decide) rfl (Nat.le_of_ble_eq_true rfl) ⟨tw_544, ts_Matcher_go⟩ wg_19 rfl (ct_Matcher_go_19 h) (fun v w h => ?_)
    obtain ⟨i1, l1, a1, b1, rfl, rfl, h⟩ := h
    refine mm_eqs (st2 := []) rfl ?_
    exact mm_ret (M := M_Matcher_enterRow) ⟨rfl, d_Matcher_enterRow_50⟩ ⟨_, _, _, _, rfl, rfl, h⟩
  · have h := h.2 c
    refine mm_aload_n (M := M_Matcher_enterRow) d_Matcher_enterRow_15 rfl ?_
    refine mm_getf (M := M_Matcher_enterRow) (u := .ref 41) 5 4 d_Matcher_enterRow_16 fl_Matcher_60 wg_19 rfl ?_
    refine mm_iconst (M := M_Matcher_enterRow) (v := 0) d_Matcher_enterRow_19 (by decide) ?_
    refine mm_iload_n (M := M_Matcher_enterRow) d_Matcher_enterRow_20 rfl ?_
    refine mm_aload_n (M := M_Matcher_enterRow) d_Matcher_enterRow_21 rfl ?_
    refine mm_getf (M := M_Matcher_enterRow) (u := .int (i 312)) 5 8 d_Matcher_enterRow_22 fl_Matcher_37 wg_19 rfl ?_
    refine mm_aload_n (M := M_Matcher_enterRow) d_Matcher_enterRow_25 rfl ?_
    refine mm_getf (M := M_Matcher_enterRow) (u := .long (l 313)) 5 9 d_Matcher_enterRow_26 fl_Matcher_40 wg_19 rfl ?_
    refine mm_aload_n (M := M_Matcher_enterRow) d_Matcher_enterRow_29 rfl ?_
    refine mm_getf (M := M_Matcher_enterRow) (u := .int (i 311)) 5 7 d_Matcher_enterRow_30 fl_Matcher_34 wg_19 rfl ?_
    refine mm_eqs (st2 := [.int 0, .int ((a 31) x1.toNatClampNeg), .int (i 312), .long (l 313), .int (i 311)].reverse ++ .ref 41 :: []) rfl ?_
    refine mm_callV (M := M_Matcher_enterRow) (y := y_Choices_add) (M' := M_Choices_add) (d' := 0) (kc := 0) (ks := 0) (kc' := 0) (ks' := 0) (n := 5) d_Matcher_enterRow_33 ok_Choices_add ml_Matcher_124 (by decide) rfl (Nat.le_of_ble_eq_true rfl) ⟨tw_568, tw_569⟩ wg_41 rfl (ct_Choices_add_41 h) (fun v w h => ?_)
    obtain ⟨i2, l2, a2, b2, rfl, rfl, h⟩ := h
    refine mm_eqs (st2 := []) rfl ?_
    refine mm_aload_n (M := M_Matcher_enterRow) d_Matcher_enterRow_36 rfl ?_
    refine mm_iconst (M := M_Matcher_enterRow) (v := 1) d_Matcher_enterRow_37 (by decide) ?_
    refine mm_aload_n (M := M_Matcher_enterRow) d_Matcher_enterRow_38 rfl ?_
    refine mm_getf (M := M_Matcher_enterRow) (u := .ref 22) 5 1 d_Matcher_enterRow_39 fl_Matcher_23 wg_19 rfl ?_
    refine mm_getf (M := M_Matcher_enterRow) (u := .ref 30) 1 7 d_Matcher_enterRow_42 fl_Matcher_128 wg_22 rfl ?_
    refine mm_iload_n (M := M_Matcher_enterRow) d_Matcher_enterRow_45 rfl ?_
    obtain ⟨hin, h⟩ := h
    refine mm_iald (M := M_Matcher_enterRow) (f := (a2 30)) d_Matcher_enterRow_46 wg_30 hin ?_
    refine mm_eqs (st2 := [.int 1, .int ((a2 30) x1.toNatClampNeg)].reverse ++ .ref 19 :: []) rfl ?_
    refine mm_callV (M := M_Matcher_enterRow) (y := y_Matcher_go) (M' := M_Matcher_go) (d' := 0) (kc := 0) (ks := 0) (kc' := 0) (ks' := 0) (n := 2) d_Matcher_enterRow_47 ok_Matcher_go ml_Matcher_88 (by decide) rfl (Nat.le_of_ble_eq_true rfl) ⟨tw_544, ts_Matcher_go⟩ wg_19 rfl (ct_Matcher_go_19 h) (fun v w h => ?_)
    obtain ⟨i3, l3, a3, b3, rfl, rfl, h⟩ := h
    refine mm_eqs (st2 := []) rfl ?_
    exact mm_ret (M := M_Matcher_enterRow) ⟨rfl, d_Matcher_enterRow_50⟩ ⟨_, _, _, _, rfl, rfl, h⟩
def wp_Matcher_enterItem_19 (n1 n2 : Nat) (i : mm_i) (l : mm_j) (a : mm_a) (b : mm_b) (x1 : Int32) (K : mm_i → mm_j → mm_a → mm_b → Prop) : Prop :=
  (¬ x1 = ((-1) : Int32) → vp_in x1 32 ∧ ((¬ ((a 25) x1.toNatClampNeg) = (1 : Int32) → vp_in x1 32 ∧ ((¬ ((a 27) x1.toNatClampNeg) = (2 : Int32) → (((a 25) x1.toNatClampNeg) = (2 : Int32) → wp_Matcher_fork_19 n1 n2 i l a b x1 (fun i1 l1 a1 b1 => K i1 l1 a1 b1)) ∧ (¬ ((a 25) x1.toNatClampNeg) = (2 : Int32) → (¬ ((a 25) x1.toNatClampNeg) = (3 : Int32) → (¬ ((a 25) x1.toNatClampNeg) = (4 : Int32) → (¬ ((a 25) x1.toNatClampNeg) = (5 : Int32) → wp_Matcher_go_19 n1 n2 i l a b 3 x1 (fun i2 l2 a2 b2 => K i2 l2 a2 b2)) ∧ (((a 25) x1.toNatClampNeg) = (5 : Int32) → vp_in x1 32 ∧ (wp_Frames_add_33 n1 n2 i l a b 5 x1 ((a 26) x1.toNatClampNeg) (i 312) (l 313) (i 311) (fun r3 i3 l3 a3 b3 => wp_Matcher_go_19 n1 n2 (upd i3 311 r3) l3 a3 b3 3 x1 (fun i4 l4 a4 b4 => K i4 l4 a4 b4))))) ∧ (((a 25) x1.toNatClampNeg) = (4 : Int32) → wp_Frames_add_33 n1 n2 i l a b 4 x1 0 (i 312) (l 313) (i 311) (fun r5 i5 l5 a5 b5 => wp_Matcher_go_19 n1 n2 (upd i5 311 r5) l5 a5 b5 3 x1 (fun i6 l6 a6 b6 => K i6 l6 a6 b6)))) ∧ (((a 25) x1.toNatClampNeg) = (3 : Int32) → wp_Matcher_fork_19 n1 n2 i l a b x1 (fun i7 l7 a7 b7 => K i7 l7 a7 b7)))) ∧ (((a 27) x1.toNatClampNeg) = (2 : Int32) → wp_Frames_add_33 n1 n2 i l a b 6 x1 (i 661) (i 312) (l 313) (i 311) (fun r8 i8 l8 a8 b8 => (((a 25) x1.toNatClampNeg) = (2 : Int32) → wp_Matcher_fork_19 n1 n2 (upd i8 311 r8) l8 a8 b8 x1 (fun i9 l9 a9 b9 => K i9 l9 a9 b9)) ∧ (¬ ((a 25) x1.toNatClampNeg) = (2 : Int32) → (¬ ((a 25) x1.toNatClampNeg) = (3 : Int32) → (¬ ((a 25) x1.toNatClampNeg) = (4 : Int32) → (¬ ((a 25) x1.toNatClampNeg) = (5 : Int32) → wp_Matcher_go_19 n1 n2 (upd i8 311 r8) l8 a8 b8 3 x1 (fun i10 l10 a10 b10 => K i10 l10 a10 b10)) ∧ (((a 25) x1.toNatClampNeg) = (5 : Int32) → vp_in x1 32 ∧ (wp_Frames_add_33 n1 n2 (upd i8 311 r8) l8 a8 b8 5 x1 ((a8 26) x1.toNatClampNeg) (i8 312) (l8 313) r8 (fun r11 i11 l11 a11 b11 => wp_Matcher_go_19 n1 n2 (upd i11 311 r11) l11 a11 b11 3 x1 (fun i12 l12 a12 b12 => K i12 l12 a12 b12))))) ∧ (((a 25) x1.toNatClampNeg) = (4 : Int32) → wp_Frames_add_33 n1 n2 (upd i8 311 r8) l8 a8 b8 4 x1 0 (i8 312) (l8 313) r8 (fun r13 i13 l13 a13 b13 => wp_Matcher_go_19 n1 n2 (upd i13 311 r13) l13 a13 b13 3 x1 (fun i14 l14 a14 b14 => K i14 l14 a14 b14)))) ∧ (((a 25) x1.toNatClampNeg) = (3 : Int32) → wp_Matcher_fork_19 n1 n2 (upd i8 311 r8) l8 a8 b8 x1 (fun i15 l15 a15 b15 => K i15 l15 a15 b15))))))) ∧ (((a 25) x1.toNatClampNeg) = (1 : Int32) → vp_in x1 32 ∧ (wp_Matcher_go_19 n1 n2 i l a b 1 ((a 29) x1.toNatClampNeg) (fun i16 l16 a16 b16 => K i16 l16 a16 b16))))) ∧ (x1 = ((-1) : Int32) → K (upd i 309 6) l a b)
set_option maxRecDepth 100000 in
set_option maxHeartbeats 4000000 in
theorem ct_Matcher_enterItem_19 {n1 n2 : Nat} {i : mm_i} {l : mm_j} {a : mm_a} {b : mm_b} {t : mm_H} {x1 : Int32} {K : mm_i → mm_j → mm_a → mm_b → Prop} (h : wp_Matcher_enterItem_19 n1 n2 i l a b x1 K) : mm_Ct y_Matcher_enterItem M_Matcher_enterItem 2 0 0 [.ref 19, .int x1] (Wd 4 22 n1 n2 i l a b ++ t) (mm_PV n1 n2 t K) := by
  refine mm_Ct.of (by decide) rfl (fun q => absurd q (by decide)) (Nat.le_of_ble_eq_true rfl) ?_
  unfold wp_Matcher_enterItem_19 at h
  refine mm_eqL (L' := [some (.ref 19), some (.int x1), none]) rfl ?_
  refine mm_iload_n (M := M_Matcher_enterItem) d_Matcher_enterItem_0 rfl ?_
  refine mm_iconst (M := M_Matcher_enterItem) (v := (-1)) d_Matcher_enterItem_1 (by decide) ?_
  refine mm_icmp_ne (M := M_Matcher_enterItem) 12 d_Matcher_enterItem_2 (by decide) (fun c => ?_) (fun c => ?_)
  · have h := h.1 c
    refine mm_aload_n (M := M_Matcher_enterItem) d_Matcher_enterItem_12 rfl ?_
    refine mm_getf (M := M_Matcher_enterItem) (u := .ref 22) 5 1 d_Matcher_enterItem_13 fl_Matcher_23 wg_19 rfl ?_
    refine mm_getf (M := M_Matcher_enterItem) (u := .ref 25) 1 2 d_Matcher_enterItem_16 fl_Matcher_131 wg_22 rfl ?_
    refine mm_iload_n (M := M_Matcher_enterItem) d_Matcher_enterItem_19 rfl ?_
    obtain ⟨hin, h⟩ := h
    refine mm_iald (M := M_Matcher_enterItem) (f := (a 25)) d_Matcher_enterItem_20 wg_25 hin ?_
    refine mm_istore_n (M := M_Matcher_enterItem) d_Matcher_enterItem_21 (Nat.le_of_ble_eq_true rfl) ?_
    refine mm_eqL (L' := [some (.ref 19), some (.int x1), some (.int ((a 25) x1.toNatClampNeg))]) rfl ?_
    refine mm_iload_n (M := M_Matcher_enterItem) d_Matcher_enterItem_22 rfl ?_
    refine mm_iconst (M := M_Matcher_enterItem) (v := 1) d_Matcher_enterItem_23 (by decide) ?_
    refine mm_icmp_ne (M := M_Matcher_enterItem) 42 d_Matcher_enterItem_24 (by decide) (fun c => ?_) (fun c => ?_)
    · have h := h.1 c
      refine mm_aload_n (M := M_Matcher_enterItem) d_Matcher_enterItem_42 rfl ?_
      refine mm_getf (M := M_Matcher_enterItem) (u := .ref 22) 5 1 d_Matcher_enterItem_43 fl_Matcher_23 wg_19 rfl ?_
      refine mm_getf (M := M_Matcher_enterItem) (u := .ref 27) 1 4 d_Matcher_enterItem_46 fl_Matcher_137 wg_22 rfl ?_
      refine mm_iload_n (M := M_Matcher_enterItem) d_Matcher_enterItem_49 rfl ?_
      obtain ⟨hin, h⟩ := h
      refine mm_iald (M := M_Matcher_enterItem) (f := (a 27)) d_Matcher_enterItem_50 wg_27 hin ?_
      refine mm_iconst (M := M_Matcher_enterItem) (v := 2) d_Matcher_enterItem_51 (by decide) ?_
      refine mm_icmp_ne (M := M_Matcher_enterItem) 88 d_Matcher_enterItem_52 (by decide) (fun c => ?_) (fun c => ?_)
      · have h := h.1 c
        refine mm_iload_n (M := M_Matcher_enterItem) d_Matcher_enterItem_88 rfl ?_
        refine mm_iconst (M := M_Matcher_enterItem) (v := 2) d_Matcher_enterItem_89 (by decide) ?_
        refine mm_icmp_eq (M := M_Matcher_enterItem) 98 d_Matcher_enterItem_90 (by decide) (fun c => ?_) (fun c => ?_)
        · have h := h.1 c
          refine mm_aload_n (M := M_Matcher_enterItem) d_Matcher_enterItem_98 rfl ?_
          refine mm_iload_n (M := M_Matcher_enterItem) d_Matcher_enterItem_99 rfl ?_
          refine mm_eqs (st2 := [.int x1].reverse ++ .ref 19 :: []) rfl ?_
          refine mm_callV (M := M_Matcher_enterItem) (y := y_Matcher_fork) (M' := M_Matcher_fork) (d' := 1) (kc := 0) (ks := 0) (kc' := 0) (ks' := 0) (n := 1) d_Matcher_enterItem_100 ok_Matcher_fork ml_Matcher_146 (by decide) rfl (Nat.le_of_ble_eq_true rfl) ⟨tw_581, ts_Matcher_fork⟩ wg_19 rfl (ct_Matcher_fork_19 h) (fun v w h => ?_)
          obtain ⟨i1, l1, a1, b1, rfl, rfl, h⟩ := h
          refine mm_eqs (st2 := []) rfl ?_
          exact mm_ret (M := M_Matcher_enterItem) ⟨rfl, d_Matcher_enterItem_103⟩ ⟨_, _, _, _, rfl, rfl, h⟩
        · have h := h.2 c
          refine mm_iload_n (M := M_Matcher_enterItem) d_Matcher_enterItem_93 rfl ?_
          refine mm_iconst (M := M_Matcher_enterItem) (v := 3) d_Matcher_enterItem_94 (by decide) ?_
          refine mm_icmp_ne (M := M_Matcher_enterItem) 104 d_Matcher_enterItem_95 (by decide) (fun c => ?_) (fun c => ?_)
          · have h := h.1 c
            refine mm_iload_n (M := M_Matcher_enterItem) d_Matcher_enterItem_104 rfl ?_
            refine mm_iconst (M := M_Matcher_enterItem) (v := 4) d_Matcher_enterItem_105 (by decide) ?_
            refine mm_icmp_ne (M := M_Matcher_enterItem) 138 d_Matcher_enterItem_106 (by decide) (fun c => ?_) (fun c => ?_)
            · have h := h.1 c
              refine mm_iload_n (M := M_Matcher_enterItem) d_Matcher_enterItem_138 rfl ?_
              refine mm_iconst (M := M_Matcher_enterItem) (v := 5) d_Matcher_enterItem_139 (by decide) ?_
              refine mm_icmp_ne (M := M_Matcher_enterItem) 177 d_Matcher_enterItem_140 (by decide) (fun c => ?_) (fun c => ?_)
              · have h := h.1 c
                refine mm_aload_n (M := M_Matcher_enterItem) d_Matcher_enterItem_177 rfl ?_
                refine mm_iconst (M := M_Matcher_enterItem) (v := 3) d_Matcher_enterItem_178 (by decide) ?_
                refine mm_iload_n (M := M_Matcher_enterItem) d_Matcher_enterItem_179 rfl ?_
                refine mm_eqs (st2 := [.int 3, .int x1].reverse ++ .ref 19 :: []) rfl ?_
                refine mm_callV (M := M_Matcher_enterItem) (y := y_Matcher_go) (M' := M_Matcher_go) (d' := 0) (kc := 0) (ks := 0) (kc' := 0) (ks' := 0) (n := 2) d_Matcher_enterItem_180 ok_Matcher_go ml_Matcher_88 (by decide) rfl (Nat.le_of_ble_eq_true rfl) ⟨tw_544, ts_Matcher_go⟩ wg_19 rfl (ct_Matcher_go_19 h) (fun v w h => ?_)
                obtain ⟨i2, l2, a2, b2, rfl, rfl, h⟩ := h
                refine mm_eqs (st2 := []) rfl ?_
                exact mm_ret (M := M_Matcher_enterItem) ⟨rfl, d_Matcher_enterItem_183⟩ ⟨_, _, _, _, rfl, rfl, h⟩
              · have h := h.2 c
                refine mm_aload_n (M := M_Matcher_enterItem) d_Matcher_enterItem_143 rfl ?_
                refine mm_aload_n (M := M_Matcher_enterItem) d_Matcher_enterItem_144 rfl ?_
                refine mm_getf (M := M_Matcher_enterItem) (u := .ref 33) 5 3 d_Matcher_enterItem_145 fl_Matcher_53 wg_19 rfl ?_
                refine mm_iconst (M := M_Matcher_enterItem) (v := 5) d_Matcher_enterItem_148 (by decide) ?_
                refine mm_iload_n (M := M_Matcher_enterItem) d_Matcher_enterItem_149 rfl ?_
                refine mm_aload_n (M := M_Matcher_enterItem) d_Matcher_enterItem_150 rfl ?_
                refine mm_getf (M := M_Matcher_enterItem) (u := .ref 22) 5 1 d_Matcher_enterItem_151 fl_Matcher_23 wg_19 rfl ?_
                refine mm_getf (M := M_Matcher_enterItem) (u := .ref 26) 1 3 d_Matcher_enterItem_154 fl_Matcher_149 wg_22 rfl ?_
                refine mm_iload_n (M := M_Matcher_enterItem) d_Matcher_enterItem_157 rfl ?_
                obtain ⟨hin, h⟩ := h
                refine mm_iald (M := M_Matcher_enterItem) (f := (a 26)) d_Matcher_enterItem_158 wg_26 hin ?_
                refine mm_aload_n (M := M_Matcher_enterItem) d_Matcher_enterItem_159 rfl ?_
                refine mm_getf (M := M_Matcher_enterItem) (u := .int (i 312)) 5 8 d_Matcher_enterItem_160 fl_Matcher_37 wg_19 rfl ?_
                refine mm_aload_n (M := M_Matcher_enterItem) d_Matcher_enterItem_163 rfl ?_
                refine mm_getf (M := M_Matcher_enterItem) (u := .long (l 313)) 5 9 d_Matcher_enterItem_164 fl_Matcher_40 wg_19 rfl ?_
                refine mm_aload_n (M := M_Matcher_enterItem) d_Matcher_enterItem_167 rfl ?_
                refine mm_getf (M := M_Matcher_enterItem) (u := .int (i 311)) 5 7 d_Matcher_enterItem_168 fl_Matcher_34 wg_19 rfl ?_
                refine mm_eqs (st2 := [.int 5, .int x1, .int ((a 26) x1.toNatClampNeg), .int (i 312), .long (l 313), .int (i 311)].reverse ++ .ref 33 :: [.ref 19]) rfl ?_
                refine mm_callV (M := M_Matcher_enterItem) (y := y_Frames_add) (M' := M_Frames_add) (d' := 0) (kc := 0) (ks := 0) (kc' := 0) (ks' := 0) (n := 6) d_Matcher_enterItem_171 ok_Frames_add ml_Matcher_143 (by decide) rfl (Nat.le_of_ble_eq_true rfl) ⟨tw_576, tw_577⟩ wg_33 rfl (ct_Frames_add_33 h) (fun v w h => ?_)
                obtain ⟨r3, i3, l3, a3, b3, rfl, rfl, h⟩ := h
                refine mm_eqs (st2 := [.int r3, .ref 19]) rfl ?_
                refine mm_putf (M := M_Matcher_enterItem) 5 7 .int d_Matcher_enterItem_174 fl_Matcher_34 fp_Matcher_34 ft_5_7 wg_19 (Nat.le_of_ble_eq_true rfl) trivial ?_
                refine mm_eqw ws_311 ?_
                refine mm_aload_n (M := M_Matcher_enterItem) d_Matcher_enterItem_177 rfl ?_
                refine mm_iconst (M := M_Matcher_enterItem) (v := 3) d_Matcher_enterItem_178 (by decide) ?_
                refine mm_iload_n (M := M_Matcher_enterItem) d_Matcher_enterItem_179 rfl ?_
                refine mm_eqs (st2 := [.int 3, .int x1].reverse ++ .ref 19 :: []) rfl ?_
                refine mm_callV (M := M_Matcher_enterItem) (y := y_Matcher_go) (M' := M_Matcher_go) (d' := 0) (kc := 0) (ks := 0) (kc' := 0) (ks' := 0) (n := 2) d_Matcher_enterItem_180 ok_Matcher_go ml_Matcher_88 (by decide) rfl (Nat.le_of_ble_eq_true rfl) ⟨tw_544, ts_Matcher_go⟩ wg_19 rfl (ct_Matcher_go_19 h) (fun v w h => ?_)
                obtain ⟨i4, l4, a4, b4, rfl, rfl, h⟩ := h
                refine mm_eqs (st2 := []) rfl ?_
                exact mm_ret (M := M_Matcher_enterItem) ⟨rfl, d_Matcher_enterItem_183⟩ ⟨_, _, _, _, rfl, rfl, h⟩
            · have h := h.2 c
              refine mm_aload_n (M := M_Matcher_enterItem) d_Matcher_enterItem_109 rfl ?_
              refine mm_aload_n (M := M_Matcher_enterItem) d_Matcher_enterItem_110 rfl ?_
              refine mm_getf (M := M_Matcher_enterItem) (u := .ref 33) 5 3 d_Matcher_enterItem_111 fl_Matcher_53 wg_19 rfl ?_
              refine mm_iconst (M := M_Matcher_enterItem) (v := 4) d_Matcher_enterItem_114 (by decide) ?_
              refine mm_iload_n (M := M_Matcher_enterItem) d_Matcher_enterItem_115 rfl ?_
              refine mm_iconst (M := M_Matcher_enterItem) (v := 0) d_Matcher_enterItem_116 (by decide) ?_
              refine mm_aload_n (M := M_Matcher_enterItem) d_Matcher_enterItem_117 rfl ?_
              refine mm_getf (M := M_Matcher_enterItem) (u := .int (i 312)) 5 8 d_Matcher_enterItem_118 fl_Matcher_37 wg_19 rfl ?_
              refine mm_aload_n (M := M_Matcher_enterItem) d_Matcher_enterItem_121 rfl ?_
              refine mm_getf (M := M_Matcher_enterItem) (u := .long (l 313)) 5 9 d_Matcher_enterItem_122 fl_Matcher_40 wg_19 rfl ?_
              refine mm_aload_n (M := M_Matcher_enterItem) d_Matcher_enterItem_125 rfl ?_
              refine mm_getf (M := M_Matcher_enterItem) (u := .int (i 311)) 5 7 d_Matcher_enterItem_126 fl_Matcher_34 wg_19 rfl ?_
              refine mm_eqs (st2 := [.int 4, .int x1, .int 0, .int (i 312), .long (l 313), .int (i 311)].reverse ++ .ref 33 :: [.ref 19]) rfl ?_
              refine mm_callV (M := M_Matcher_enterItem) (y := y_Frames_add) (M' := M_Frames_add) (d' := 0) (kc := 0) (ks := 0) (kc' := 0) (ks' := 0) (n := 6) d_Matcher_enterItem_129 ok_Frames_add ml_Matcher_143 (by decide) rfl (Nat.le_of_ble_eq_true rfl) ⟨tw_576, tw_577⟩ wg_33 rfl (ct_Frames_add_33 h) (fun v w h => ?_)
              obtain ⟨r5, i5, l5, a5, b5, rfl, rfl, h⟩ := h
              refine mm_eqs (st2 := [.int r5, .ref 19]) rfl ?_
              refine mm_putf (M := M_Matcher_enterItem) 5 7 .int d_Matcher_enterItem_132 fl_Matcher_34 fp_Matcher_34 ft_5_7 wg_19 (Nat.le_of_ble_eq_true rfl) trivial ?_
              refine mm_eqw ws_311 ?_
              refine mm_goto (M := M_Matcher_enterItem) (tgt := 177) d_Matcher_enterItem_135 (by decide) ?_
              refine mm_aload_n (M := M_Matcher_enterItem) d_Matcher_enterItem_177 rfl ?_
              refine mm_iconst (M := M_Matcher_enterItem) (v := 3) d_Matcher_enterItem_178 (by decide) ?_
              refine mm_iload_n (M := M_Matcher_enterItem) d_Matcher_enterItem_179 rfl ?_
              refine mm_eqs (st2 := [.int 3, .int x1].reverse ++ .ref 19 :: []) rfl ?_
              refine mm_callV (M := M_Matcher_enterItem) (y := y_Matcher_go) (M' := M_Matcher_go) (d' := 0) (kc := 0) (ks := 0) (kc' := 0) (ks' := 0) (n := 2) d_Matcher_enterItem_180 ok_Matcher_go ml_Matcher_88 (by decide) rfl (Nat.le_of_ble_eq_true rfl) ⟨tw_544, ts_Matcher_go⟩ wg_19 rfl (ct_Matcher_go_19 h) (fun v w h => ?_)
              obtain ⟨i6, l6, a6, b6, rfl, rfl, h⟩ := h
              refine mm_eqs (st2 := []) rfl ?_
              exact mm_ret (M := M_Matcher_enterItem) ⟨rfl, d_Matcher_enterItem_183⟩ ⟨_, _, _, _, rfl, rfl, h⟩
          · have h := h.2 c
            refine mm_aload_n (M := M_Matcher_enterItem) d_Matcher_enterItem_98 rfl ?_
            refine mm_iload_n (M := M_Matcher_enterItem) d_Matcher_enterItem_99 rfl ?_
            refine mm_eqs (st2 := [.int x1].reverse ++ .ref 19 :: []) rfl ?_
            refine mm_callV (M := M_Matcher_enterItem) (y := y_Matcher_fork) (M' := M_Matcher_fork) (d' := 1) (kc := 0) (ks := 0) (kc' := 0) (ks' := 0) (n := 1) d_Matcher_enterItem_100 ok_Matcher_fork ml_Matcher_146 (by decide) rfl (Nat.le_of_ble_eq_true rfl) ⟨tw_581, ts_Matcher_fork⟩ wg_19 rfl (ct_Matcher_fork_19 h) (fun v w h => ?_)
            obtain ⟨i7, l7, a7, b7, rfl, rfl, h⟩ := h
            refine mm_eqs (st2 := []) rfl ?_
            exact mm_ret (M := M_Matcher_enterItem) ⟨rfl, d_Matcher_enterItem_103⟩ ⟨_, _, _, _, rfl, rfl, h⟩
      · have h := h.2 c
        refine mm_aload_n (M := M_Matcher_enterItem) d_Matcher_enterItem_55 rfl ?_
        refine mm_aload_n (M := M_Matcher_enterItem) d_Matcher_enterItem_56 rfl ?_
        refine mm_getf (M := M_Matcher_enterItem) (u := .ref 33) 5 3 d_Matcher_enterItem_57 fl_Matcher_53 wg_19 rfl ?_
        refine mm_bipush (M := M_Matcher_enterItem) (v := 6) d_Matcher_enterItem_60 (by decide) ?_
        refine mm_iload_n (M := M_Matcher_enterItem) d_Matcher_enterItem_62 rfl ?_
        refine mm_aload_n (M := M_Matcher_enterItem) d_Matcher_enterItem_63 rfl ?_
        refine mm_getf (M := M_Matcher_enterItem) (u := .ref 41) 5 4 d_Matcher_enterItem_64 fl_Matcher_60 wg_19 rfl ?_
        refine mm_getf (M := M_Matcher_enterItem) (u := .int (i 661)) 4 5 d_Matcher_enterItem_67 fl_Matcher_140 wg_41 rfl ?_
        refine mm_aload_n (M := M_Matcher_enterItem) d_Matcher_enterItem_70 rfl ?_
        refine mm_getf (M := M_Matcher_enterItem) (u := .int (i 312)) 5 8 d_Matcher_enterItem_71 fl_Matcher_37 wg_19 rfl ?_
        refine mm_aload_n (M := M_Matcher_enterItem) d_Matcher_enterItem_74 rfl ?_
        refine mm_getf (M := M_Matcher_enterItem) (u := .long (l 313)) 5 9 d_Matcher_enterItem_75 fl_Matcher_40 wg_19 rfl ?_
        refine mm_aload_n (M := M_Matcher_enterItem) d_Matcher_enterItem_78 rfl ?_
        refine mm_getf (M := M_Matcher_enterItem) (u := .int (i 311)) 5 7 d_Matcher_enterItem_79 fl_Matcher_34 wg_19 rfl ?_
        refine mm_eqs (st2 := [.int 6, .int x1, .int (i 661), .int (i 312), .long (l 313), .int (i 311)].reverse ++ .ref 33 :: [.ref 19]) rfl ?_
        refine mm_callV (M := M_Matcher_enterItem) (y := y_Frames_add) (M' := M_Frames_add) (d' := 0) (kc := 0) (ks := 0) (kc' := 0) (ks' := 0) (n := 6) d_Matcher_enterItem_82 ok_Frames_add ml_Matcher_143 (by decide) rfl (Nat.le_of_ble_eq_true rfl) ⟨tw_576, tw_577⟩ wg_33 rfl (ct_Frames_add_33 h) (fun v w h => ?_)
        obtain ⟨r8, i8, l8, a8, b8, rfl, rfl, h⟩ := h
        refine mm_eqs (st2 := [.int r8, .ref 19]) rfl ?_
        refine mm_putf (M := M_Matcher_enterItem) 5 7 .int d_Matcher_enterItem_85 fl_Matcher_34 fp_Matcher_34 ft_5_7 wg_19 (Nat.le_of_ble_eq_true rfl) trivial ?_
        refine mm_eqw ws_311 ?_
        refine mm_iload_n (M := M_Matcher_enterItem) d_Matcher_enterItem_88 rfl ?_
        refine mm_iconst (M := M_Matcher_enterItem) (v := 2) d_Matcher_enterItem_89 (by decide) ?_
        refine mm_icmp_eq (M := M_Matcher_enterItem) 98 d_Matcher_enterItem_90 (by decide) (fun c => ?_) (fun c => ?_)
        · have h := h.1 c
          refine mm_aload_n (M := M_Matcher_enterItem) d_Matcher_enterItem_98 rfl ?_
          refine mm_iload_n (M := M_Matcher_enterItem) d_Matcher_enterItem_99 rfl ?_
          refine mm_eqs (st2 := [.int x1].reverse ++ .ref 19 :: []) rfl ?_
          refine mm_callV (M := M_Matcher_enterItem) (y := y_Matcher_fork) (M' := M_Matcher_fork) (d' := 1) (kc := 0) (ks := 0) (kc' := 0) (ks' := 0) (n := 1) d_Matcher_enterItem_100 ok_Matcher_fork ml_Matcher_146 (by decide) rfl (Nat.le_of_ble_eq_true rfl) ⟨tw_581, ts_Matcher_fork⟩ wg_19 rfl (ct_Matcher_fork_19 h) (fun v w h => ?_)
          obtain ⟨i9, l9, a9, b9, rfl, rfl, h⟩ := h
          refine mm_eqs (st2 := []) rfl ?_
          exact mm_ret (M := M_Matcher_enterItem) ⟨rfl, d_Matcher_enterItem_103⟩ ⟨_, _, _, _, rfl, rfl, h⟩
        · have h := h.2 c
          refine mm_iload_n (M := M_Matcher_enterItem) d_Matcher_enterItem_93 rfl ?_
          refine mm_iconst (M := M_Matcher_enterItem) (v := 3) d_Matcher_enterItem_94 (by decide) ?_
          refine mm_icmp_ne (M := M_Matcher_enterItem) 104 d_Matcher_enterItem_95 (by decide) (fun c => ?_) (fun c => ?_)
          · have h := h.1 c
            refine mm_iload_n (M := M_Matcher_enterItem) d_Matcher_enterItem_104 rfl ?_
            refine mm_iconst (M := M_Matcher_enterItem) (v := 4) d_Matcher_enterItem_105 (by decide) ?_
            refine mm_icmp_ne (M := M_Matcher_enterItem) 138 d_Matcher_enterItem_106 (by decide) (fun c => ?_) (fun c => ?_)
            · have h := h.1 c
              refine mm_iload_n (M := M_Matcher_enterItem) d_Matcher_enterItem_138 rfl ?_
              refine mm_iconst (M := M_Matcher_enterItem) (v := 5) d_Matcher_enterItem_139 (by decide) ?_
              refine mm_icmp_ne (M := M_Matcher_enterItem) 177 d_Matcher_enterItem_140 (by decide) (fun c => ?_) (fun c => ?_)
              · have h := h.1 c
                refine mm_aload_n (M := M_Matcher_enterItem) d_Matcher_enterItem_177 rfl ?_
                refine mm_iconst (M := M_Matcher_enterItem) (v := 3) d_Matcher_enterItem_178 (by decide) ?_
                refine mm_iload_n (M := M_Matcher_enterItem) d_Matcher_enterItem_179 rfl ?_
                refine mm_eqs (st2 := [.int 3, .int x1].reverse ++ .ref 19 :: []) rfl ?_
                refine mm_callV (M := M_Matcher_enterItem) (y := y_Matcher_go) (M' := M_Matcher_go) (d' := 0) (kc := 0) (ks := 0) (kc' := 0) (ks' := 0) (n := 2) d_Matcher_enterItem_180 ok_Matcher_go ml_Matcher_88 (by decide) rfl (Nat.le_of_ble_eq_true rfl) ⟨tw_544, ts_Matcher_go⟩ wg_19 rfl (ct_Matcher_go_19 h) (fun v w h => ?_)
                obtain ⟨i10, l10, a10, b10, rfl, rfl, h⟩ := h
                refine mm_eqs (st2 := []) rfl ?_
                exact mm_ret (M := M_Matcher_enterItem) ⟨rfl, d_Matcher_enterItem_183⟩ ⟨_, _, _, _, rfl, rfl, h⟩
              · have h := h.2 c
                refine mm_aload_n (M := M_Matcher_enterItem) d_Matcher_enterItem_143 rfl ?_
                refine mm_aload_n (M := M_Matcher_enterItem) d_Matcher_enterItem_144 rfl ?_
                refine mm_getf (M := M_Matcher_enterItem) (u := .ref 33) 5 3 d_Matcher_enterItem_145 fl_Matcher_53 wg_19 rfl ?_
                refine mm_iconst (M := M_Matcher_enterItem) (v := 5) d_Matcher_enterItem_148 (by decide) ?_
                refine mm_iload_n (M := M_Matcher_enterItem) d_Matcher_enterItem_149 rfl ?_
                refine mm_aload_n (M := M_Matcher_enterItem) d_Matcher_enterItem_150 rfl ?_
                refine mm_getf (M := M_Matcher_enterItem) (u := .ref 22) 5 1 d_Matcher_enterItem_151 fl_Matcher_23 wg_19 rfl ?_
                refine mm_getf (M := M_Matcher_enterItem) (u := .ref 26) 1 3 d_Matcher_enterItem_154 fl_Matcher_149 wg_22 rfl ?_
                refine mm_iload_n (M := M_Matcher_enterItem) d_Matcher_enterItem_157 rfl ?_
                obtain ⟨hin, h⟩ := h
                refine mm_iald (M := M_Matcher_enterItem) (f := (a8 26)) d_Matcher_enterItem_158 wg_26 hin ?_
                refine mm_aload_n (M := M_Matcher_enterItem) d_Matcher_enterItem_159 rfl ?_
                refine mm_getf (M := M_Matcher_enterItem) (u := .int (i8 312)) 5 8 d_Matcher_enterItem_160 fl_Matcher_37 wg_19 rfl ?_
                refine mm_aload_n (M := M_Matcher_enterItem) d_Matcher_enterItem_163 rfl ?_
                refine mm_getf (M := M_Matcher_enterItem) (u := .long (l8 313)) 5 9 d_Matcher_enterItem_164 fl_Matcher_40 wg_19 rfl ?_
                refine mm_aload_n (M := M_Matcher_enterItem) d_Matcher_enterItem_167 rfl ?_
                refine mm_getf (M := M_Matcher_enterItem) (u := .int r8) 5 7 d_Matcher_enterItem_168 fl_Matcher_34 wg_19 rfl ?_
                refine mm_eqs (st2 := [.int 5, .int x1, .int ((a8 26) x1.toNatClampNeg), .int (i8 312), .long (l8 313), .int r8].reverse ++ .ref 33 :: [.ref 19]) rfl ?_
                refine mm_callV (M := M_Matcher_enterItem) (y := y_Frames_add) (M' := M_Frames_add) (d' := 0) (kc := 0) (ks := 0) (kc' := 0) (ks' := 0) (n := 6) d_Matcher_enterItem_171 ok_Frames_add ml_Matcher_143 (by decide) rfl (Nat.le_of_ble_eq_true rfl) ⟨tw_576, tw_577⟩ wg_33 rfl (ct_Frames_add_33 h) (fun v w h => ?_)
                obtain ⟨r11, i11, l11, a11, b11, rfl, rfl, h⟩ := h
                refine mm_eqs (st2 := [.int r11, .ref 19]) rfl ?_
                refine mm_putf (M := M_Matcher_enterItem) 5 7 .int d_Matcher_enterItem_174 fl_Matcher_34 fp_Matcher_34 ft_5_7 wg_19 (Nat.le_of_ble_eq_true rfl) trivial ?_
                refine mm_eqw ws_311 ?_
                refine mm_aload_n (M := M_Matcher_enterItem) d_Matcher_enterItem_177 rfl ?_
                refine mm_iconst (M := M_Matcher_enterItem) (v := 3) d_Matcher_enterItem_178 (by decide) ?_
                refine mm_iload_n (M := M_Matcher_enterItem) d_Matcher_enterItem_179 rfl ?_
                refine mm_eqs (st2 := [.int 3, .int x1].reverse ++ .ref 19 :: []) rfl ?_
                refine mm_callV (M := M_Matcher_enterItem) (y := y_Matcher_go) (M' := M_Matcher_go) (d' := 0) (kc := 0) (ks := 0) (kc' := 0) (ks' := 0) (n := 2) d_Matcher_enterItem_180 ok_Matcher_go ml_Matcher_88 (by decide) rfl (Nat.le_of_ble_eq_true rfl) ⟨tw_544, ts_Matcher_go⟩ wg_19 rfl (ct_Matcher_go_19 h) (fun v w h => ?_)
                obtain ⟨i12, l12, a12, b12, rfl, rfl, h⟩ := h
                refine mm_eqs (st2 := []) rfl ?_
                exact mm_ret (M := M_Matcher_enterItem) ⟨rfl, d_Matcher_enterItem_183⟩ ⟨_, _, _, _, rfl, rfl, h⟩
            · have h := h.2 c
              refine mm_aload_n (M := M_Matcher_enterItem) d_Matcher_enterItem_109 rfl ?_
              refine mm_aload_n (M := M_Matcher_enterItem) d_Matcher_enterItem_110 rfl ?_
              refine mm_getf (M := M_Matcher_enterItem) (u := .ref 33) 5 3 d_Matcher_enterItem_111 fl_Matcher_53 wg_19 rfl ?_
              refine mm_iconst (M := M_Matcher_enterItem) (v := 4) d_Matcher_enterItem_114 (by decide) ?_
              refine mm_iload_n (M := M_Matcher_enterItem) d_Matcher_enterItem_115 rfl ?_
              refine mm_iconst (M := M_Matcher_enterItem) (v := 0) d_Matcher_enterItem_116 (by decide) ?_
              refine mm_aload_n (M := M_Matcher_enterItem) d_Matcher_enterItem_117 rfl ?_
              refine mm_getf (M := M_Matcher_enterItem) (u := .int (i8 312)) 5 8 d_Matcher_enterItem_118 fl_Matcher_37 wg_19 rfl ?_
              refine mm_aload_n (M := M_Matcher_enterItem) d_Matcher_enterItem_121 rfl ?_
              refine mm_getf (M := M_Matcher_enterItem) (u := .long (l8 313)) 5 9 d_Matcher_enterItem_122 fl_Matcher_40 wg_19 rfl ?_
              refine mm_aload_n (M := M_Matcher_enterItem) d_Matcher_enterItem_125 rfl ?_
              refine mm_getf (M := M_Matcher_enterItem) (u := .int r8) 5 7 d_Matcher_enterItem_126 fl_Matcher_34 wg_19 rfl ?_
              refine mm_eqs (st2 := [.int 4, .int x1, .int 0, .int (i8 312), .long (l8 313), .int r8].reverse ++ .ref 33 :: [.ref 19]) rfl ?_
              refine mm_callV (M := M_Matcher_enterItem) (y := y_Frames_add) (M' := M_Frames_add) (d' := 0) (kc := 0) (ks := 0) (kc' := 0) (ks' := 0) (n := 6) d_Matcher_enterItem_129 ok_Frames_add ml_Matcher_143 (by decide) rfl (Nat.le_of_ble_eq_true rfl) ⟨tw_576, tw_577⟩ wg_33 rfl (ct_Frames_add_33 h) (fun v w h => ?_)
              obtain ⟨r13, i13, l13, a13, b13, rfl, rfl, h⟩ := h
              refine mm_eqs (st2 := [.int r13, .ref 19]) rfl ?_
              refine mm_putf (M := M_Matcher_enterItem) 5 7 .int d_Matcher_enterItem_132 fl_Matcher_34 fp_Matcher_34 ft_5_7 wg_19 (Nat.le_of_ble_eq_true rfl) trivial ?_
              refine mm_eqw ws_311 ?_
              refine mm_goto (M := M_Matcher_enterItem) (tgt := 177) d_Matcher_enterItem_135 (by decide) ?_
              refine mm_aload_n (M := M_Matcher_enterItem) d_Matcher_enterItem_177 rfl ?_
              refine mm_iconst (M := M_Matcher_enterItem) (v := 3) d_Matcher_enterItem_178 (by decide) ?_
              refine mm_iload_n (M := M_Matcher_enterItem) d_Matcher_enterItem_179 rfl ?_
              refine mm_eqs (st2 := [.int 3, .int x1].reverse ++ .ref 19 :: []) rfl ?_
              refine mm_callV (M := M_Matcher_enterItem) (y := y_Matcher_go) (M' := M_Matcher_go) (d' := 0) (kc := 0) (ks := 0) (kc' := 0) (ks' := 0) (n := 2) d_Matcher_enterItem_180 ok_Matcher_go ml_Matcher_88 (by decide) rfl (Nat.le_of_ble_eq_true rfl) ⟨tw_544, ts_Matcher_go⟩ wg_19 rfl (ct_Matcher_go_19 h) (fun v w h => ?_)
              obtain ⟨i14, l14, a14, b14, rfl, rfl, h⟩ := h
              refine mm_eqs (st2 := []) rfl ?_
              exact mm_ret (M := M_Matcher_enterItem) ⟨rfl, d_Matcher_enterItem_183⟩ ⟨_, _, _, _, rfl, rfl, h⟩
          · have h := h.2 c
            refine mm_aload_n (M := M_Matcher_enterItem) d_Matcher_enterItem_98 rfl ?_
            refine mm_iload_n (M := M_Matcher_enterItem) d_Matcher_enterItem_99 rfl ?_
            refine mm_eqs (st2 := [.int x1].reverse ++ .ref 19 :: []) rfl ?_
            refine mm_callV (M := M_Matcher_enterItem) (y := y_Matcher_fork) (M' := M_Matcher_fork) (d' := 1) (kc := 0) (ks := 0) (kc' := 0) (ks' := 0) (n := 1) d_Matcher_enterItem_100 ok_Matcher_fork ml_Matcher_146 (by decide) rfl (Nat.le_of_ble_eq_true rfl) ⟨tw_581, ts_Matcher_fork⟩ wg_19 rfl (ct_Matcher_fork_19 h) (fun v w h => ?_)
            obtain ⟨i15, l15, a15, b15, rfl, rfl, h⟩ := h
            refine mm_eqs (st2 := []) rfl ?_
            exact mm_ret (M := M_Matcher_enterItem) ⟨rfl, d_Matcher_enterItem_103⟩ ⟨_, _, _, _, rfl, rfl, h⟩
    · have h := h.2 c
      refine mm_aload_n (M := M_Matcher_enterItem) d_Matcher_enterItem_27 rfl ?_
      refine mm_iconst (M := M_Matcher_enterItem) (v := 1) d_Matcher_enterItem_28 (by decide) ?_
      refine mm_aload_n (M := M_Matcher_enterItem) d_Matcher_enterItem_29 rfl ?_
      refine mm_getf (M := M_Matcher_enterItem) (u := .ref 22) 5 1 d_Matcher_enterItem_30 fl_Matcher_23 wg_19 rfl ?_
      refine mm_getf (M := M_Matcher_enterItem) (u := .ref 29) 1 6 d_Matcher_enterItem_33 fl_Matcher_134 wg_22 rfl ?_
      refine mm_iload_n (M := M_Matcher_enterItem) d_Matcher_enterItem_36 rfl ?_
      obtain ⟨hin, h⟩ := h
      refine mm_iald (M := M_Matcher_enterItem) (f := (a 29)) d_Matcher_enterItem_37 wg_29 hin ?_
      refine mm_eqs (st2 := [.int 1, .int ((a 29) x1.toNatClampNeg)].reverse ++ .ref 19 :: []) rfl ?_
      refine mm_callV (M := M_Matcher_enterItem) (y := y_Matcher_go) (M' := M_Matcher_go) (d' := 0) (kc := 0) (ks := 0) (kc' := 0) (ks' := 0) (n := 2) d_Matcher_enterItem_38 ok_Matcher_go ml_Matcher_88 (by decide) rfl (Nat.le_of_ble_eq_true rfl) ⟨tw_544, ts_Matcher_go⟩ wg_19 rfl (ct_Matcher_go_19 h) (fun v w h => ?_)
      obtain ⟨i16, l16, a16, b16, rfl, rfl, h⟩ := h
      refine mm_eqs (st2 := []) rfl ?_
      exact mm_ret (M := M_Matcher_enterItem) ⟨rfl, d_Matcher_enterItem_41⟩ ⟨_, _, _, _, rfl, rfl, h⟩
  · have h := h.2 c
    refine mm_aload_n (M := M_Matcher_enterItem) d_Matcher_enterItem_5 rfl ?_
    refine mm_bipush (M := M_Matcher_enterItem) (v := 6) d_Matcher_enterItem_6 (by decide) ?_
    refine mm_putf (M := M_Matcher_enterItem) 5 5 .int d_Matcher_enterItem_8 fl_Matcher_27 fp_Matcher_27 ft_5_5 wg_19 (Nat.le_of_ble_eq_true rfl) trivial ?_
    refine mm_eqw ws_309 ?_
    exact mm_ret (M := M_Matcher_enterItem) ⟨rfl, d_Matcher_enterItem_11⟩ ⟨_, _, _, _, rfl, rfl, h⟩
def wp_Matcher_takeChoice_19 (n1 n2 : Nat) (i : mm_i) (l : mm_j) (a : mm_a) (b : mm_b)  (K : mm_i → mm_j → mm_a → mm_b → Prop) : Prop :=
  (¬ (i 661) = 0 → wp_Choices_cutTo_41 n1 n2 i l a b ((i 661) - (1 : Int32)) (fun i1 l1 a1 b1 => vp_in ((i 661) - (1 : Int32)) n2 ∧ (vp_in ((i 661) - (1 : Int32)) n2 ∧ (vp_in ((i 661) - (1 : Int32)) n2 ∧ (vp_in ((i 661) - (1 : Int32)) n2 ∧ (vp_in ((i 661) - (1 : Int32)) n2 ∧ (wp_Matcher_go_19 n1 n2 (upd (upd i1 312 ((a1 44) ((i 661) - (1 : Int32)).toNatClampNeg)) 311 ((a1 46) ((i 661) - (1 : Int32)).toNatClampNeg)) (vp_updL l1 313 ((b1 45) ((i 661) - (1 : Int32)).toNatClampNeg)) a1 b1 ((a1 42) ((i 661) - (1 : Int32)).toNatClampNeg) ((a1 43) ((i 661) - (1 : Int32)).toNatClampNeg) (fun i2 l2 a2 b2 => K i2 l2 a2 b2)))))))) ∧ ((i 661) = 0 → K (upd i 309 9) l a b)
set_option maxRecDepth 100000 in
set_option maxHeartbeats 4000000 in
theorem ct_Matcher_takeChoice_19 {n1 n2 : Nat} {i : mm_i} {l : mm_j} {a : mm_a} {b : mm_b} {t : mm_H}  {K : mm_i → mm_j → mm_a → mm_b → Prop} (h : wp_Matcher_takeChoice_19 n1 n2 i l a b  K) : mm_Ct y_Matcher_takeChoice M_Matcher_takeChoice 1 0 0 [.ref 19] (Wd 4 22 n1 n2 i l a b ++ t) (mm_PV n1 n2 t K) := by
  refine mm_Ct.of (by decide) rfl (fun q => absurd q (by decide)) (Nat.le_of_ble_eq_true rfl) ?_
  unfold wp_Matcher_takeChoice_19 at h
  refine mm_eqL (L' := [some (.ref 19), none]) rfl ?_
  refine mm_aload_n (M := M_Matcher_takeChoice) d_Matcher_takeChoice_0 rfl ?_
  refine mm_getf (M := M_Matcher_takeChoice) (u := .ref 41) 5 4 d_Matcher_takeChoice_1 fl_Matcher_60 wg_19 rfl ?_
  refine mm_getf (M := M_Matcher_takeChoice) (u := .int (i 661)) 4 5 d_Matcher_takeChoice_4 fl_Matcher_140 wg_41 rfl ?_
  refine mm_if_ne (M := M_Matcher_takeChoice) 17 d_Matcher_takeChoice_7 (by decide) (fun c => ?_) (fun c => ?_)
  · have h := h.1 c
    refine mm_aload_n (M := M_Matcher_takeChoice) d_Matcher_takeChoice_17 rfl ?_
    refine mm_getf (M := M_Matcher_takeChoice) (u := .ref 41) 5 4 d_Matcher_takeChoice_18 fl_Matcher_60 wg_19 rfl ?_
    refine mm_getf (M := M_Matcher_takeChoice) (u := .int (i 661)) 4 5 d_Matcher_takeChoice_21 fl_Matcher_140 wg_41 rfl ?_
    refine mm_iconst (M := M_Matcher_takeChoice) (v := 1) d_Matcher_takeChoice_24 (by decide) ?_
    refine mm_isub (M := M_Matcher_takeChoice) d_Matcher_takeChoice_25 ?_
    refine mm_istore_n (M := M_Matcher_takeChoice) d_Matcher_takeChoice_26 (Nat.le_of_ble_eq_true rfl) ?_
    refine mm_eqL (L' := [some (.ref 19), some (.int ((i 661) - (1 : Int32)))]) rfl ?_
    refine mm_aload_n (M := M_Matcher_takeChoice) d_Matcher_takeChoice_27 rfl ?_
    refine mm_getf (M := M_Matcher_takeChoice) (u := .ref 41) 5 4 d_Matcher_takeChoice_28 fl_Matcher_60 wg_19 rfl ?_
    refine mm_iload_n (M := M_Matcher_takeChoice) d_Matcher_takeChoice_31 rfl ?_
    refine mm_eqs (st2 := [.int ((i 661) - (1 : Int32))].reverse ++ .ref 41 :: []) rfl ?_
    refine mm_callV (M := M_Matcher_takeChoice) (y := y_Choices_cutTo) (M' := M_Choices_cutTo) (d' := 0) (kc := 0) (ks := 0) (kc' := 0) (ks' := 0) (n := 1) d_Matcher_takeChoice_32 ok_Choices_cutTo ml_Matcher_81 (by decide) rfl (Nat.le_of_ble_eq_true rfl) ⟨tw_539, tw_540⟩ wg_41 rfl (ct_Choices_cutTo_41 h) (fun v w h => ?_)
    obtain ⟨i1, l1, a1, b1, rfl, rfl, h⟩ := h
    refine mm_eqs (st2 := []) rfl ?_
    refine mm_aload_n (M := M_Matcher_takeChoice) d_Matcher_takeChoice_35 rfl ?_
    refine mm_aload_n (M := M_Matcher_takeChoice) d_Matcher_takeChoice_36 rfl ?_
    refine mm_getf (M := M_Matcher_takeChoice) (u := .ref 41) 5 4 d_Matcher_takeChoice_37 fl_Matcher_60 wg_19 rfl ?_
    refine mm_getf (M := M_Matcher_takeChoice) (u := .ref 44) 4 2 d_Matcher_takeChoice_40 fl_Matcher_152 wg_41 rfl ?_
    refine mm_iload_n (M := M_Matcher_takeChoice) d_Matcher_takeChoice_43 rfl ?_
    obtain ⟨hin, h⟩ := h
    refine mm_iald (M := M_Matcher_takeChoice) (f := (a1 44)) d_Matcher_takeChoice_44 wg_44 hin ?_
    refine mm_putf (M := M_Matcher_takeChoice) 5 8 .int d_Matcher_takeChoice_45 fl_Matcher_37 fp_Matcher_37 ft_5_8 wg_19 (Nat.le_of_ble_eq_true rfl) trivial ?_
    refine mm_eqw ws_312 ?_
    refine mm_aload_n (M := M_Matcher_takeChoice) d_Matcher_takeChoice_48 rfl ?_
    refine mm_aload_n (M := M_Matcher_takeChoice) d_Matcher_takeChoice_49 rfl ?_
    refine mm_getf (M := M_Matcher_takeChoice) (u := .ref 41) 5 4 d_Matcher_takeChoice_50 fl_Matcher_60 wg_19 rfl ?_
    refine mm_getf (M := M_Matcher_takeChoice) (u := .ref 45) 4 3 d_Matcher_takeChoice_53 fl_Matcher_154 wg_41 rfl ?_
    refine mm_iload_n (M := M_Matcher_takeChoice) d_Matcher_takeChoice_56 rfl ?_
    obtain ⟨hin, h⟩ := h
    refine mm_lald (M := M_Matcher_takeChoice) (f := (b1 45)) d_Matcher_takeChoice_57 wg_45 hin ?_
    refine mm_putf (M := M_Matcher_takeChoice) 5 9 .long d_Matcher_takeChoice_58 fl_Matcher_40 fp_Matcher_40 ft_5_9 wg_19 (Nat.le_of_ble_eq_true rfl) trivial ?_
    refine mm_eqw ws_313 ?_
    refine mm_aload_n (M := M_Matcher_takeChoice) d_Matcher_takeChoice_61 rfl ?_
    refine mm_aload_n (M := M_Matcher_takeChoice) d_Matcher_takeChoice_62 rfl ?_
    refine mm_getf (M := M_Matcher_takeChoice) (u := .ref 41) 5 4 d_Matcher_takeChoice_63 fl_Matcher_60 wg_19 rfl ?_
    refine mm_getf (M := M_Matcher_takeChoice) (u := .ref 46) 4 4 d_Matcher_takeChoice_66 fl_Matcher_157 wg_41 rfl ?_
    refine mm_iload_n (M := M_Matcher_takeChoice) d_Matcher_takeChoice_69 rfl ?_
    obtain ⟨hin, h⟩ := h
    refine mm_iald (M := M_Matcher_takeChoice) (f := (a1 46)) d_Matcher_takeChoice_70 wg_46 hin ?_
    refine mm_putf (M := M_Matcher_takeChoice) 5 7 .int d_Matcher_takeChoice_71 fl_Matcher_34 fp_Matcher_34 ft_5_7 wg_19 (Nat.le_of_ble_eq_true rfl) trivial ?_
    refine mm_eqw ws_311 ?_
    refine mm_aload_n (M := M_Matcher_takeChoice) d_Matcher_takeChoice_74 rfl ?_
    refine mm_aload_n (M := M_Matcher_takeChoice) d_Matcher_takeChoice_75 rfl ?_
    refine mm_getf (M := M_Matcher_takeChoice) (u := .ref 41) 5 4 d_Matcher_takeChoice_76 fl_Matcher_60 wg_19 rfl ?_
    refine mm_getf (M := M_Matcher_takeChoice) (u := .ref 42) 4 0 d_Matcher_takeChoice_79 fl_Matcher_159 wg_41 rfl ?_
    refine mm_iload_n (M := M_Matcher_takeChoice) d_Matcher_takeChoice_82 rfl ?_
    obtain ⟨hin, h⟩ := h
    refine mm_iald (M := M_Matcher_takeChoice) (f := (a1 42)) d_Matcher_takeChoice_83 wg_42 hin ?_
    refine mm_aload_n (M := M_Matcher_takeChoice) d_Matcher_takeChoice_84 rfl ?_
    refine mm_getf (M := M_Matcher_takeChoice) (u := .ref 41) 5 4 d_Matcher_takeChoice_85 fl_Matcher_60 wg_19 rfl ?_
    refine mm_getf (M := M_Matcher_takeChoice) (u := .ref 43) 4 1 d_Matcher_takeChoice_88 fl_Matcher_161 wg_41 rfl ?_
    refine mm_iload_n (M := M_Matcher_takeChoice) d_Matcher_takeChoice_91 rfl ?_
    obtain ⟨hin, h⟩ := h
    refine mm_iald (M := M_Matcher_takeChoice) (f := (a1 43)) d_Matcher_takeChoice_92 wg_43 hin ?_
    refine mm_eqs (st2 := [.int ((a1 42) ((i 661) - (1 : Int32)).toNatClampNeg), .int ((a1 43) ((i 661) - (1 : Int32)).toNatClampNeg)].reverse ++ .ref 19 :: []) rfl ?_
    refine mm_callV (M := M_Matcher_takeChoice) (y := y_Matcher_go) (M' := M_Matcher_go) (d' := 0) (kc := 0) (ks := 0) (kc' := 0) (ks' := 0) (n := 2) d_Matcher_takeChoice_93 ok_Matcher_go ml_Matcher_88 (by decide) rfl (Nat.le_of_ble_eq_true rfl) ⟨tw_544, ts_Matcher_go⟩ wg_19 rfl (ct_Matcher_go_19 h) (fun v w h => ?_)
    obtain ⟨i2, l2, a2, b2, rfl, rfl, h⟩ := h
    refine mm_eqs (st2 := []) rfl ?_
    exact mm_ret (M := M_Matcher_takeChoice) ⟨rfl, d_Matcher_takeChoice_96⟩ ⟨_, _, _, _, rfl, rfl, h⟩
  · have h := h.2 c
    refine mm_aload_n (M := M_Matcher_takeChoice) d_Matcher_takeChoice_10 rfl ?_
    refine mm_bipush (M := M_Matcher_takeChoice) (v := 9) d_Matcher_takeChoice_11 (by decide) ?_
    refine mm_putf (M := M_Matcher_takeChoice) 5 5 .int d_Matcher_takeChoice_13 fl_Matcher_27 fp_Matcher_27 ft_5_5 wg_19 (Nat.le_of_ble_eq_true rfl) trivial ?_
    refine mm_eqw ws_309 ?_
    exact mm_ret (M := M_Matcher_takeChoice) ⟨rfl, d_Matcher_takeChoice_16⟩ ⟨_, _, _, _, rfl, rfl, h⟩
def wp_Matcher_askLetter_19 (n1 n2 : Nat) (i : mm_i) (l : mm_j) (a : mm_a) (b : mm_b) (x1 : Int32) (K : mm_i → mm_j → mm_a → mm_b → Prop) : Prop :=
  ((i 321) ≤ (i 312) → K (upd i 309 7) l a b) ∧ (¬ (i 321) ≤ (i 312) → vp_in x1 32 ∧ (vp_in (i 312) 40 ∧ ((((((a 24) x1.toNatClampNeg) >>> ((((a 21) (i 312).toNatClampNeg) - (97 : Int32)) &&& 31)) &&& (1 : Int32)) = 0 → K (upd i 309 7) l a b) ∧ (¬ ((((a 24) x1.toNatClampNeg) >>> ((((a 21) (i 312).toNatClampNeg) - (97 : Int32)) &&& 31)) &&& (1 : Int32)) = 0 → K (upd (upd i 312 ((i 312) + (1 : Int32))) 309 4) l a b))))
set_option maxRecDepth 100000 in
set_option maxHeartbeats 4000000 in
theorem ct_Matcher_askLetter_19 {n1 n2 : Nat} {i : mm_i} {l : mm_j} {a : mm_a} {b : mm_b} {t : mm_H} {x1 : Int32} {K : mm_i → mm_j → mm_a → mm_b → Prop} (h : wp_Matcher_askLetter_19 n1 n2 i l a b x1 K) : mm_Ct y_Matcher_askLetter M_Matcher_askLetter 0 0 0 [.ref 19, .int x1] (Wd 4 22 n1 n2 i l a b ++ t) (mm_PV n1 n2 t K) := by
  refine mm_Ct.of (by decide) rfl (fun q => absurd q (by decide)) (Nat.le_of_ble_eq_true rfl) ?_
  unfold wp_Matcher_askLetter_19 at h
  refine mm_eqL (L' := [some (.ref 19), some (.int x1)]) rfl ?_
  refine mm_aload_n (M := M_Matcher_askLetter) d_Matcher_askLetter_0 rfl ?_
  refine mm_getf (M := M_Matcher_askLetter) (u := .int (i 312)) 5 8 d_Matcher_askLetter_1 fl_Matcher_37 wg_19 rfl ?_
  refine mm_aload_n (M := M_Matcher_askLetter) d_Matcher_askLetter_4 rfl ?_
  refine mm_getf (M := M_Matcher_askLetter) (u := .ref 20) 5 0 d_Matcher_askLetter_5 fl_Matcher_14 wg_19 rfl ?_
  refine mm_getf (M := M_Matcher_askLetter) (u := .int (i 321)) 0 1 d_Matcher_askLetter_8 fl_Matcher_64 wg_20 rfl ?_
  refine mm_icmp_ge (M := M_Matcher_askLetter) 62 d_Matcher_askLetter_11 (by decide) (fun c => ?_) (fun c => ?_)
  · have h := h.1 c
    refine mm_aload_n (M := M_Matcher_askLetter) d_Matcher_askLetter_62 rfl ?_
    refine mm_bipush (M := M_Matcher_askLetter) (v := 7) d_Matcher_askLetter_63 (by decide) ?_
    refine mm_putf (M := M_Matcher_askLetter) 5 5 .int d_Matcher_askLetter_65 fl_Matcher_27 fp_Matcher_27 ft_5_5 wg_19 (Nat.le_of_ble_eq_true rfl) trivial ?_
    refine mm_eqw ws_309 ?_
    exact mm_ret (M := M_Matcher_askLetter) ⟨rfl, d_Matcher_askLetter_68⟩ ⟨_, _, _, _, rfl, rfl, h⟩
  · have h := h.2 c
    refine mm_aload_n (M := M_Matcher_askLetter) d_Matcher_askLetter_14 rfl ?_
    refine mm_getf (M := M_Matcher_askLetter) (u := .ref 22) 5 1 d_Matcher_askLetter_15 fl_Matcher_23 wg_19 rfl ?_
    refine mm_getf (M := M_Matcher_askLetter) (u := .ref 24) 1 1 d_Matcher_askLetter_18 fl_Matcher_169 wg_22 rfl ?_
    refine mm_iload_n (M := M_Matcher_askLetter) d_Matcher_askLetter_21 rfl ?_
    obtain ⟨hin, h⟩ := h
    refine mm_iald (M := M_Matcher_askLetter) (f := (a 24)) d_Matcher_askLetter_22 wg_24 hin ?_
    refine mm_aload_n (M := M_Matcher_askLetter) d_Matcher_askLetter_23 rfl ?_
    refine mm_getf (M := M_Matcher_askLetter) (u := .ref 20) 5 0 d_Matcher_askLetter_24 fl_Matcher_14 wg_19 rfl ?_
    refine mm_getf (M := M_Matcher_askLetter) (u := .ref 21) 0 0 d_Matcher_askLetter_27 fl_Matcher_181 wg_20 rfl ?_
    refine mm_aload_n (M := M_Matcher_askLetter) d_Matcher_askLetter_30 rfl ?_
    refine mm_getf (M := M_Matcher_askLetter) (u := .int (i 312)) 5 8 d_Matcher_askLetter_31 fl_Matcher_37 wg_19 rfl ?_
    obtain ⟨hin, h⟩ := h
    refine mm_iald (M := M_Matcher_askLetter) (f := (a 21)) d_Matcher_askLetter_34 wg_21 hin ?_
    refine mm_bipush (M := M_Matcher_askLetter) (v := 97) d_Matcher_askLetter_35 (by decide) ?_
    refine mm_isub (M := M_Matcher_askLetter) d_Matcher_askLetter_37 ?_
    refine mm_ishr (M := M_Matcher_askLetter) d_Matcher_askLetter_38 ?_
    refine mm_iconst (M := M_Matcher_askLetter) (v := 1) d_Matcher_askLetter_39 (by decide) ?_
    refine mm_iand (M := M_Matcher_askLetter) d_Matcher_askLetter_40 ?_
    refine mm_if_eq (M := M_Matcher_askLetter) 62 d_Matcher_askLetter_41 (by decide) (fun c => ?_) (fun c => ?_)
    · have h := h.1 c
      refine mm_aload_n (M := M_Matcher_askLetter) d_Matcher_askLetter_62 rfl ?_
      refine mm_bipush (M := M_Matcher_askLetter) (v := 7) d_Matcher_askLetter_63 (by decide) ?_
      refine mm_putf (M := M_Matcher_askLetter) 5 5 .int d_Matcher_askLetter_65 fl_Matcher_27 fp_Matcher_27 ft_5_5 wg_19 (Nat.le_of_ble_eq_true rfl) trivial ?_
      refine mm_eqw ws_309 ?_
      exact mm_ret (M := M_Matcher_askLetter) ⟨rfl, d_Matcher_askLetter_68⟩ ⟨_, _, _, _, rfl, rfl, h⟩
    · have h := h.2 c
      refine mm_aload_n (M := M_Matcher_askLetter) d_Matcher_askLetter_44 rfl ?_
      refine mm_dup (M := M_Matcher_askLetter) d_Matcher_askLetter_45 rfl ?_
      refine mm_getf (M := M_Matcher_askLetter) (u := .int (i 312)) 5 8 d_Matcher_askLetter_46 fl_Matcher_37 wg_19 rfl ?_
      refine mm_iconst (M := M_Matcher_askLetter) (v := 1) d_Matcher_askLetter_49 (by decide) ?_
      refine mm_iadd (M := M_Matcher_askLetter) d_Matcher_askLetter_50 ?_
      refine mm_putf (M := M_Matcher_askLetter) 5 8 .int d_Matcher_askLetter_51 fl_Matcher_37 fp_Matcher_37 ft_5_8 wg_19 (Nat.le_of_ble_eq_true rfl) trivial ?_
      refine mm_eqw ws_312 ?_
      refine mm_aload_n (M := M_Matcher_askLetter) d_Matcher_askLetter_54 rfl ?_
      refine mm_iconst (M := M_Matcher_askLetter) (v := 4) d_Matcher_askLetter_55 (by decide) ?_
      refine mm_putf (M := M_Matcher_askLetter) 5 5 .int d_Matcher_askLetter_56 fl_Matcher_27 fp_Matcher_27 ft_5_5 wg_19 (Nat.le_of_ble_eq_true rfl) trivial ?_
      refine mm_eqw ws_309 ?_
      refine mm_goto (M := M_Matcher_askLetter) (tgt := 68) d_Matcher_askLetter_59 (by decide) ?_
      exact mm_ret (M := M_Matcher_askLetter) ⟨rfl, d_Matcher_askLetter_68⟩ ⟨_, _, _, _, rfl, rfl, h⟩
def wp_Matcher_askCall_19 (n1 n2 : Nat) (i : mm_i) (l : mm_j) (a : mm_a) (b : mm_b) (x1 : Int32) (K : mm_i → mm_j → mm_a → mm_b → Prop) : Prop :=
  vp_in (i 311) n1 ∧ ((((a 40) (i 311).toNatClampNeg) < (12 : Int32) → wp_Frames_add_33 n1 n2 i l a b 2 x1 0 (i 312) (l 313) (i 311) (fun r1 i1 l1 a1 b1 => vp_in x1 32 ∧ (vp_in ((a1 24) x1.toNatClampNeg) 5 ∧ (wp_Matcher_go_19 n1 n2 (upd i1 311 r1) l1 a1 b1 0 ((a1 32) ((a1 24) x1.toNatClampNeg).toNatClampNeg) (fun i2 l2 a2 b2 => K i2 l2 a2 b2))))) ∧ (¬ ((a 40) (i 311).toNatClampNeg) < (12 : Int32) → K (upd i 309 7) l a b))
set_option maxRecDepth 100000 in
set_option maxHeartbeats 4000000 in
theorem ct_Matcher_askCall_19 {n1 n2 : Nat} {i : mm_i} {l : mm_j} {a : mm_a} {b : mm_b} {t : mm_H} {x1 : Int32} {K : mm_i → mm_j → mm_a → mm_b → Prop} (h : wp_Matcher_askCall_19 n1 n2 i l a b x1 K) : mm_Ct y_Matcher_askCall M_Matcher_askCall 1 0 0 [.ref 19, .int x1] (Wd 4 22 n1 n2 i l a b ++ t) (mm_PV n1 n2 t K) := by
  refine mm_Ct.of (by decide) rfl (fun q => absurd q (by decide)) (Nat.le_of_ble_eq_true rfl) ?_
  unfold wp_Matcher_askCall_19 at h
  refine mm_eqL (L' := [some (.ref 19), some (.int x1)]) rfl ?_
  refine mm_aload_n (M := M_Matcher_askCall) d_Matcher_askCall_0 rfl ?_
  refine mm_getf (M := M_Matcher_askCall) (u := .ref 33) 5 3 d_Matcher_askCall_1 fl_Matcher_53 wg_19 rfl ?_
  refine mm_getf (M := M_Matcher_askCall) (u := .ref 40) 3 6 d_Matcher_askCall_4 fl_Matcher_197 wg_33 rfl ?_
  refine mm_aload_n (M := M_Matcher_askCall) d_Matcher_askCall_7 rfl ?_
  refine mm_getf (M := M_Matcher_askCall) (u := .int (i 311)) 5 7 d_Matcher_askCall_8 fl_Matcher_34 wg_19 rfl ?_
  obtain ⟨hin, h⟩ := h
  refine mm_iald (M := M_Matcher_askCall) (f := (a 40)) d_Matcher_askCall_11 wg_40 hin ?_
  refine mm_bipush (M := M_Matcher_askCall) (v := 12) d_Matcher_askCall_12 (by decide) ?_
  refine mm_icmp_lt (M := M_Matcher_askCall) 24 d_Matcher_askCall_14 (by decide) (fun c => ?_) (fun c => ?_)
  · have h := h.1 c
    refine mm_aload_n (M := M_Matcher_askCall) d_Matcher_askCall_24 rfl ?_
    refine mm_aload_n (M := M_Matcher_askCall) d_Matcher_askCall_25 rfl ?_
    refine mm_getf (M := M_Matcher_askCall) (u := .ref 33) 5 3 d_Matcher_askCall_26 fl_Matcher_53 wg_19 rfl ?_
    refine mm_iconst (M := M_Matcher_askCall) (v := 2) d_Matcher_askCall_29 (by decide) ?_
    refine mm_iload_n (M := M_Matcher_askCall) d_Matcher_askCall_30 rfl ?_
    refine mm_iconst (M := M_Matcher_askCall) (v := 0) d_Matcher_askCall_31 (by decide) ?_
    refine mm_aload_n (M := M_Matcher_askCall) d_Matcher_askCall_32 rfl ?_
    refine mm_getf (M := M_Matcher_askCall) (u := .int (i 312)) 5 8 d_Matcher_askCall_33 fl_Matcher_37 wg_19 rfl ?_
    refine mm_aload_n (M := M_Matcher_askCall) d_Matcher_askCall_36 rfl ?_
    refine mm_getf (M := M_Matcher_askCall) (u := .long (l 313)) 5 9 d_Matcher_askCall_37 fl_Matcher_40 wg_19 rfl ?_
    refine mm_aload_n (M := M_Matcher_askCall) d_Matcher_askCall_40 rfl ?_
    refine mm_getf (M := M_Matcher_askCall) (u := .int (i 311)) 5 7 d_Matcher_askCall_41 fl_Matcher_34 wg_19 rfl ?_
    refine mm_eqs (st2 := [.int 2, .int x1, .int 0, .int (i 312), .long (l 313), .int (i 311)].reverse ++ .ref 33 :: [.ref 19]) rfl ?_
    refine mm_callV (M := M_Matcher_askCall) (y := y_Frames_add) (M' := M_Frames_add) (d' := 0) (kc := 0) (ks := 0) (kc' := 0) (ks' := 0) (n := 6) d_Matcher_askCall_44 ok_Frames_add ml_Matcher_143 (by decide) rfl (Nat.le_of_ble_eq_true rfl) ⟨tw_576, tw_577⟩ wg_33 rfl (ct_Frames_add_33 h) (fun v w h => ?_)
    obtain ⟨r1, i1, l1, a1, b1, rfl, rfl, h⟩ := h
    refine mm_eqs (st2 := [.int r1, .ref 19]) rfl ?_
    refine mm_putf (M := M_Matcher_askCall) 5 7 .int d_Matcher_askCall_47 fl_Matcher_34 fp_Matcher_34 ft_5_7 wg_19 (Nat.le_of_ble_eq_true rfl) trivial ?_
    refine mm_eqw ws_311 ?_
    refine mm_aload_n (M := M_Matcher_askCall) d_Matcher_askCall_50 rfl ?_
    refine mm_iconst (M := M_Matcher_askCall) (v := 0) d_Matcher_askCall_51 (by decide) ?_
    refine mm_aload_n (M := M_Matcher_askCall) d_Matcher_askCall_52 rfl ?_
    refine mm_getf (M := M_Matcher_askCall) (u := .ref 22) 5 1 d_Matcher_askCall_53 fl_Matcher_23 wg_19 rfl ?_
    refine mm_getf (M := M_Matcher_askCall) (u := .ref 32) 1 9 d_Matcher_askCall_56 fl_Matcher_84 wg_22 rfl ?_
    refine mm_aload_n (M := M_Matcher_askCall) d_Matcher_askCall_59 rfl ?_
    refine mm_getf (M := M_Matcher_askCall) (u := .ref 22) 5 1 d_Matcher_askCall_60 fl_Matcher_23 wg_19 rfl ?_
    refine mm_getf (M := M_Matcher_askCall) (u := .ref 24) 1 1 d_Matcher_askCall_63 fl_Matcher_169 wg_22 rfl ?_
    refine mm_iload_n (M := M_Matcher_askCall) d_Matcher_askCall_66 rfl ?_
    obtain ⟨hin, h⟩ := h
    refine mm_iald (M := M_Matcher_askCall) (f := (a1 24)) d_Matcher_askCall_67 wg_24 hin ?_
    obtain ⟨hin, h⟩ := h
    refine mm_iald (M := M_Matcher_askCall) (f := (a1 32)) d_Matcher_askCall_68 wg_32 hin ?_
    refine mm_eqs (st2 := [.int 0, .int ((a1 32) ((a1 24) x1.toNatClampNeg).toNatClampNeg)].reverse ++ .ref 19 :: []) rfl ?_
    refine mm_callV (M := M_Matcher_askCall) (y := y_Matcher_go) (M' := M_Matcher_go) (d' := 0) (kc := 0) (ks := 0) (kc' := 0) (ks' := 0) (n := 2) d_Matcher_askCall_69 ok_Matcher_go ml_Matcher_88 (by decide) rfl (Nat.le_of_ble_eq_true rfl) ⟨tw_544, ts_Matcher_go⟩ wg_19 rfl (ct_Matcher_go_19 h) (fun v w h => ?_)
    obtain ⟨i2, l2, a2, b2, rfl, rfl, h⟩ := h
    refine mm_eqs (st2 := []) rfl ?_
    exact mm_ret (M := M_Matcher_askCall) ⟨rfl, d_Matcher_askCall_72⟩ ⟨_, _, _, _, rfl, rfl, h⟩
  · have h := h.2 c
    refine mm_aload_n (M := M_Matcher_askCall) d_Matcher_askCall_17 rfl ?_
    refine mm_bipush (M := M_Matcher_askCall) (v := 7) d_Matcher_askCall_18 (by decide) ?_
    refine mm_putf (M := M_Matcher_askCall) 5 5 .int d_Matcher_askCall_20 fl_Matcher_27 fp_Matcher_27 ft_5_5 wg_19 (Nat.le_of_ble_eq_true rfl) trivial ?_
    refine mm_eqw ws_309 ?_
    exact mm_ret (M := M_Matcher_askCall) ⟨rfl, d_Matcher_askCall_23⟩ ⟨_, _, _, _, rfl, rfl, h⟩
def wp_Matcher_askBody_19 (n1 n2 : Nat) (i : mm_i) (l : mm_j) (a : mm_a) (b : mm_b) (x1 : Int32) (K : mm_i → mm_j → mm_a → mm_b → Prop) : Prop :=
  vp_in x1 32 ∧ ((¬ ((a 23) x1.toNatClampNeg) = (8 : Int32) → wp_Frames_add_33 n1 n2 i l a b 1 x1 (i 661) (i 312) (l 313) (i 311) (fun r1 i1 l1 a1 b1 => vp_in x1 32 ∧ (wp_Matcher_go_19 n1 n2 (upd i1 311 r1) l1 a1 b1 0 ((a1 28) x1.toNatClampNeg) (fun i2 l2 a2 b2 => K i2 l2 a2 b2)))) ∧ (((a 23) x1.toNatClampNeg) = (8 : Int32) → wp_Choices_add_41 n1 n2 i l a b 4 x1 (i 312) (l 313) (i 311) (fun i3 l3 a3 b3 => wp_Frames_add_33 n1 n2 i3 l3 a3 b3 1 x1 (i 661) (i3 312) (l3 313) (i3 311) (fun r4 i4 l4 a4 b4 => vp_in x1 32 ∧ (wp_Matcher_go_19 n1 n2 (upd i4 311 r4) l4 a4 b4 0 ((a4 28) x1.toNatClampNeg) (fun i5 l5 a5 b5 => K i5 l5 a5 b5))))))
set_option maxRecDepth 100000 in
set_option maxHeartbeats 4000000 in
theorem ct_Matcher_askBody_19 {n1 n2 : Nat} {i : mm_i} {l : mm_j} {a : mm_a} {b : mm_b} {t : mm_H} {x1 : Int32} {K : mm_i → mm_j → mm_a → mm_b → Prop} (h : wp_Matcher_askBody_19 n1 n2 i l a b x1 K) : mm_Ct y_Matcher_askBody M_Matcher_askBody 1 0 0 [.ref 19, .int x1] (Wd 4 22 n1 n2 i l a b ++ t) (mm_PV n1 n2 t K) := by
  refine mm_Ct.of (by decide) rfl (fun q => absurd q (by decide)) (Nat.le_of_ble_eq_true rfl) ?_
  unfold wp_Matcher_askBody_19 at h
  refine mm_eqL (L' := [some (.ref 19), some (.int x1), none]) rfl ?_
  refine mm_aload_n (M := M_Matcher_askBody) d_Matcher_askBody_0 rfl ?_
  refine mm_getf (M := M_Matcher_askBody) (u := .ref 41) 5 4 d_Matcher_askBody_1 fl_Matcher_60 wg_19 rfl ?_
  refine mm_getf (M := M_Matcher_askBody) (u := .int (i 661)) 4 5 d_Matcher_askBody_4 fl_Matcher_140 wg_41 rfl ?_
  refine mm_istore_n (M := M_Matcher_askBody) d_Matcher_askBody_7 (Nat.le_of_ble_eq_true rfl) ?_
  refine mm_eqL (L' := [some (.ref 19), some (.int x1), some (.int (i 661))]) rfl ?_
  refine mm_aload_n (M := M_Matcher_askBody) d_Matcher_askBody_8 rfl ?_
  refine mm_getf (M := M_Matcher_askBody) (u := .ref 22) 5 1 d_Matcher_askBody_9 fl_Matcher_23 wg_19 rfl ?_
  refine mm_getf (M := M_Matcher_askBody) (u := .ref 23) 1 0 d_Matcher_askBody_12 fl_Matcher_163 wg_22 rfl ?_
  refine mm_iload_n (M := M_Matcher_askBody) d_Matcher_askBody_15 rfl ?_
  obtain ⟨hin, h⟩ := h
  refine mm_iald (M := M_Matcher_askBody) (f := (a 23)) d_Matcher_askBody_16 wg_23 hin ?_
  refine mm_bipush (M := M_Matcher_askBody) (v := 8) d_Matcher_askBody_17 (by decide) ?_
  refine mm_icmp_ne (M := M_Matcher_askBody) 43 d_Matcher_askBody_19 (by decide) (fun c => ?_) (fun c => ?_)
  · have h := h.1 c
    refine mm_aload_n (M := M_Matcher_askBody) d_Matcher_askBody_43 rfl ?_
    refine mm_aload_n (M := M_Matcher_askBody) d_Matcher_askBody_44 rfl ?_
    refine mm_getf (M := M_Matcher_askBody) (u := .ref 33) 5 3 d_Matcher_askBody_45 fl_Matcher_53 wg_19 rfl ?_
    refine mm_iconst (M := M_Matcher_askBody) (v := 1) d_Matcher_askBody_48 (by decide) ?_
    refine mm_iload_n (M := M_Matcher_askBody) d_Matcher_askBody_49 rfl ?_
    refine mm_iload_n (M := M_Matcher_askBody) d_Matcher_askBody_50 rfl ?_
    refine mm_aload_n (M := M_Matcher_askBody) d_Matcher_askBody_51 rfl ?_
    refine mm_getf (M := M_Matcher_askBody) (u := .int (i 312)) 5 8 d_Matcher_askBody_52 fl_Matcher_37 wg_19 rfl ?_
    refine mm_aload_n (M := M_Matcher_askBody) d_Matcher_askBody_55 rfl ?_
    refine mm_getf (M := M_Matcher_askBody) (u := .long (l 313)) 5 9 d_Matcher_askBody_56 fl_Matcher_40 wg_19 rfl ?_
    refine mm_aload_n (M := M_Matcher_askBody) d_Matcher_askBody_59 rfl ?_
    refine mm_getf (M := M_Matcher_askBody) (u := .int (i 311)) 5 7 d_Matcher_askBody_60 fl_Matcher_34 wg_19 rfl ?_
    refine mm_eqs (st2 := [.int 1, .int x1, .int (i 661), .int (i 312), .long (l 313), .int (i 311)].reverse ++ .ref 33 :: [.ref 19]) rfl ?_
    refine mm_callV (M := M_Matcher_askBody) (y := y_Frames_add) (M' := M_Frames_add) (d' := 0) (kc := 0) (ks := 0) (kc' := 0) (ks' := 0) (n := 6) d_Matcher_askBody_63 ok_Frames_add ml_Matcher_143 (by decide) rfl (Nat.le_of_ble_eq_true rfl) ⟨tw_576, tw_577⟩ wg_33 rfl (ct_Frames_add_33 h) (fun v w h => ?_)
    obtain ⟨r1, i1, l1, a1, b1, rfl, rfl, h⟩ := h
    refine mm_eqs (st2 := [.int r1, .ref 19]) rfl ?_
    refine mm_putf (M := M_Matcher_askBody) 5 7 .int d_Matcher_askBody_66 fl_Matcher_34 fp_Matcher_34 ft_5_7 wg_19 (Nat.le_of_ble_eq_true rfl) trivial ?_
    refine mm_eqw ws_311 ?_
    refine mm_aload_n (M := M_Matcher_askBody) d_Matcher_askBody_69 rfl ?_
    refine mm_iconst (M := M_Matcher_askBody) (v := 0) d_Matcher_askBody_70 (by decide) ?_
    refine mm_aload_n (M := M_Matcher_askBody) d_Matcher_askBody_71 rfl ?_
    refine mm_getf (M := M_Matcher_askBody) (u := .ref 22) 5 1 d_Matcher_askBody_72 fl_Matcher_23 wg_19 rfl ?_
    refine mm_getf (M := M_Matcher_askBody) (u := .ref 28) 1 5 d_Matcher_askBody_75 fl_Matcher_200 wg_22 rfl ?_
    refine mm_iload_n (M := M_Matcher_askBody) d_Matcher_askBody_78 rfl ?_
    obtain ⟨hin, h⟩ := h
    refine mm_iald (M := M_Matcher_askBody) (f := (a1 28)) d_Matcher_askBody_79 wg_28 hin ?_
    refine mm_eqs (st2 := [.int 0, .int ((a1 28) x1.toNatClampNeg)].reverse ++ .ref 19 :: []) rfl ?_
    refine mm_callV (M := M_Matcher_askBody) (y := y_Matcher_go) (M' := M_Matcher_go) (d' := 0) (kc := 0) (ks := 0) (kc' := 0) (ks' := 0) (n := 2) d_Matcher_askBody_80 ok_Matcher_go ml_Matcher_88 (by decide) rfl (Nat.le_of_ble_eq_true rfl) ⟨tw_544, ts_Matcher_go⟩ wg_19 rfl (ct_Matcher_go_19 h) (fun v w h => ?_)
    obtain ⟨i2, l2, a2, b2, rfl, rfl, h⟩ := h
    refine mm_eqs (st2 := []) rfl ?_
    exact mm_ret (M := M_Matcher_askBody) ⟨rfl, d_Matcher_askBody_83⟩ ⟨_, _, _, _, rfl, rfl, h⟩
  · have h := h.2 c
    refine mm_aload_n (M := M_Matcher_askBody) d_Matcher_askBody_22 rfl ?_
    refine mm_getf (M := M_Matcher_askBody) (u := .ref 41) 5 4 d_Matcher_askBody_23 fl_Matcher_60 wg_19 rfl ?_
    refine mm_iconst (M := M_Matcher_askBody) (v := 4) d_Matcher_askBody_26 (by decide) ?_
    refine mm_iload_n (M := M_Matcher_askBody) d_Matcher_askBody_27 rfl ?_
    refine mm_aload_n (M := M_Matcher_askBody) d_Matcher_askBody_28 rfl ?_
    refine mm_getf (M := M_Matcher_askBody) (u := .int (i 312)) 5 8 d_Matcher_askBody_29 fl_Matcher_37 wg_19 rfl ?_
    refine mm_aload_n (M := M_Matcher_askBody) d_Matcher_askBody_32 rfl ?_
    refine mm_getf (M := M_Matcher_askBody) (u := .long (l 313)) 5 9 d_Matcher_askBody_33 fl_Matcher_40 wg_19 rfl ?_
    refine mm_aload_n (M := M_Matcher_askBody) d_Matcher_askBody_36 rfl ?_
    refine mm_getf (M := M_Matcher_askBody) (u := .int (i 311)) 5 7 d_Matcher_askBody_37 fl_Matcher_34 wg_19 rfl ?_
    refine mm_eqs (st2 := [.int 4, .int x1, .int (i 312), .long (l 313), .int (i 311)].reverse ++ .ref 41 :: []) rfl ?_
    refine mm_callV (M := M_Matcher_askBody) (y := y_Choices_add) (M' := M_Choices_add) (d' := 0) (kc := 0) (ks := 0) (kc' := 0) (ks' := 0) (n := 5) d_Matcher_askBody_40 ok_Choices_add ml_Matcher_124 (by decide) rfl (Nat.le_of_ble_eq_true rfl) ⟨tw_568, tw_569⟩ wg_41 rfl (ct_Choices_add_41 h) (fun v w h => ?_)
    obtain ⟨i3, l3, a3, b3, rfl, rfl, h⟩ := h
    refine mm_eqs (st2 := []) rfl ?_
    refine mm_aload_n (M := M_Matcher_askBody) d_Matcher_askBody_43 rfl ?_
    refine mm_aload_n (M := M_Matcher_askBody) d_Matcher_askBody_44 rfl ?_
    refine mm_getf (M := M_Matcher_askBody) (u := .ref 33) 5 3 d_Matcher_askBody_45 fl_Matcher_53 wg_19 rfl ?_
    refine mm_iconst (M := M_Matcher_askBody) (v := 1) d_Matcher_askBody_48 (by decide) ?_
    refine mm_iload_n (M := M_Matcher_askBody) d_Matcher_askBody_49 rfl ?_
    refine mm_iload_n (M := M_Matcher_askBody) d_Matcher_askBody_50 rfl ?_
    refine mm_aload_n (M := M_Matcher_askBody) d_Matcher_askBody_51 rfl ?_
    refine mm_getf (M := M_Matcher_askBody) (u := .int (i3 312)) 5 8 d_Matcher_askBody_52 fl_Matcher_37 wg_19 rfl ?_
    refine mm_aload_n (M := M_Matcher_askBody) d_Matcher_askBody_55 rfl ?_
    refine mm_getf (M := M_Matcher_askBody) (u := .long (l3 313)) 5 9 d_Matcher_askBody_56 fl_Matcher_40 wg_19 rfl ?_
    refine mm_aload_n (M := M_Matcher_askBody) d_Matcher_askBody_59 rfl ?_
    refine mm_getf (M := M_Matcher_askBody) (u := .int (i3 311)) 5 7 d_Matcher_askBody_60 fl_Matcher_34 wg_19 rfl ?_
    refine mm_eqs (st2 := [.int 1, .int x1, .int (i 661), .int (i3 312), .long (l3 313), .int (i3 311)].reverse ++ .ref 33 :: [.ref 19]) rfl ?_
    refine mm_callV (M := M_Matcher_askBody) (y := y_Frames_add) (M' := M_Frames_add) (d' := 0) (kc := 0) (ks := 0) (kc' := 0) (ks' := 0) (n := 6) d_Matcher_askBody_63 ok_Frames_add ml_Matcher_143 (by decide) rfl (Nat.le_of_ble_eq_true rfl) ⟨tw_576, tw_577⟩ wg_33 rfl (ct_Frames_add_33 h) (fun v w h => ?_)
    obtain ⟨r4, i4, l4, a4, b4, rfl, rfl, h⟩ := h
    refine mm_eqs (st2 := [.int r4, .ref 19]) rfl ?_
    refine mm_putf (M := M_Matcher_askBody) 5 7 .int d_Matcher_askBody_66 fl_Matcher_34 fp_Matcher_34 ft_5_7 wg_19 (Nat.le_of_ble_eq_true rfl) trivial ?_
    refine mm_eqw ws_311 ?_
    refine mm_aload_n (M := M_Matcher_askBody) d_Matcher_askBody_69 rfl ?_
    refine mm_iconst (M := M_Matcher_askBody) (v := 0) d_Matcher_askBody_70 (by decide) ?_
    refine mm_aload_n (M := M_Matcher_askBody) d_Matcher_askBody_71 rfl ?_
    refine mm_getf (M := M_Matcher_askBody) (u := .ref 22) 5 1 d_Matcher_askBody_72 fl_Matcher_23 wg_19 rfl ?_
    refine mm_getf (M := M_Matcher_askBody) (u := .ref 28) 1 5 d_Matcher_askBody_75 fl_Matcher_200 wg_22 rfl ?_
    refine mm_iload_n (M := M_Matcher_askBody) d_Matcher_askBody_78 rfl ?_
    obtain ⟨hin, h⟩ := h
    refine mm_iald (M := M_Matcher_askBody) (f := (a4 28)) d_Matcher_askBody_79 wg_28 hin ?_
    refine mm_eqs (st2 := [.int 0, .int ((a4 28) x1.toNatClampNeg)].reverse ++ .ref 19 :: []) rfl ?_
    refine mm_callV (M := M_Matcher_askBody) (y := y_Matcher_go) (M' := M_Matcher_go) (d' := 0) (kc := 0) (ks := 0) (kc' := 0) (ks' := 0) (n := 2) d_Matcher_askBody_80 ok_Matcher_go ml_Matcher_88 (by decide) rfl (Nat.le_of_ble_eq_true rfl) ⟨tw_544, ts_Matcher_go⟩ wg_19 rfl (ct_Matcher_go_19 h) (fun v w h => ?_)
    obtain ⟨i5, l5, a5, b5, rfl, rfl, h⟩ := h
    refine mm_eqs (st2 := []) rfl ?_
    exact mm_ret (M := M_Matcher_askBody) ⟨rfl, d_Matcher_askBody_83⟩ ⟨_, _, _, _, rfl, rfl, h⟩
def wp_Matcher_leaveTimesTurn_19 (n1 n2 : Nat) (i : mm_i) (l : mm_j) (a : mm_a) (b : mm_b) (x1 : Int32) (x2 : Int32) (K : mm_i → mm_j → mm_a → mm_b → Prop) : Prop :=
  vp_in x1 n1 ∧ ((0 < (((a 36) x1.toNatClampNeg) - (1 : Int32)) → wp_Frames_add_33 n1 n2 i l a b 5 x2 (((a 36) x1.toNatClampNeg) - (1 : Int32)) (i 312) (l 313) (i 311) (fun r1 i1 l1 a1 b1 => wp_Matcher_go_19 n1 n2 (upd i1 311 r1) l1 a1 b1 3 x2 (fun i2 l2 a2 b2 => K i2 l2 a2 b2))) ∧ (¬ 0 < (((a 36) x1.toNatClampNeg) - (1 : Int32)) → wp_Matcher_go_19 n1 n2 i l a b 5 x2 (fun i3 l3 a3 b3 => K i3 l3 a3 b3)))
set_option maxRecDepth 100000 in
set_option maxHeartbeats 4000000 in
theorem ct_Matcher_leaveTimesTurn_19 {n1 n2 : Nat} {i : mm_i} {l : mm_j} {a : mm_a} {b : mm_b} {t : mm_H} {x1 : Int32} {x2 : Int32} {K : mm_i → mm_j → mm_a → mm_b → Prop} (h : wp_Matcher_leaveTimesTurn_19 n1 n2 i l a b x1 x2 K) : mm_Ct y_Matcher_leaveTimesTurn M_Matcher_leaveTimesTurn 1 0 0 [.ref 19, .int x1, .int x2] (Wd 4 22 n1 n2 i l a b ++ t) (mm_PV n1 n2 t K) := by
  refine mm_Ct.of (by decide) rfl (fun q => absurd q (by decide)) (Nat.le_of_ble_eq_true rfl) ?_
  unfold wp_Matcher_leaveTimesTurn_19 at h
  refine mm_eqL (L' := [some (.ref 19), some (.int x1), some (.int x2), none]) rfl ?_
  refine mm_aload_n (M := M_Matcher_leaveTimesTurn) d_Matcher_leaveTimesTurn_0 rfl ?_
  refine mm_getf (M := M_Matcher_leaveTimesTurn) (u := .ref 33) 5 3 d_Matcher_leaveTimesTurn_1 fl_Matcher_53 wg_19 rfl ?_
  refine mm_getf (M := M_Matcher_leaveTimesTurn) (u := .ref 36) 3 2 d_Matcher_leaveTimesTurn_4 fl_Matcher_218 wg_33 rfl ?_
  refine mm_iload_n (M := M_Matcher_leaveTimesTurn) d_Matcher_leaveTimesTurn_7 rfl ?_
  obtain ⟨hin, h⟩ := h
  refine mm_iald (M := M_Matcher_leaveTimesTurn) (f := (a 36)) d_Matcher_leaveTimesTurn_8 wg_36 hin ?_
  refine mm_iconst (M := M_Matcher_leaveTimesTurn) (v := 1) d_Matcher_leaveTimesTurn_9 (by decide) ?_
  refine mm_isub (M := M_Matcher_leaveTimesTurn) d_Matcher_leaveTimesTurn_10 ?_
  refine mm_istore_n (M := M_Matcher_leaveTimesTurn) d_Matcher_leaveTimesTurn_11 (Nat.le_of_ble_eq_true rfl) ?_
  refine mm_eqL (L' := [some (.ref 19), some (.int x1), some (.int x2), some (.int (((a 36) x1.toNatClampNeg) - (1 : Int32)))]) rfl ?_
  refine mm_iload_n (M := M_Matcher_leaveTimesTurn) d_Matcher_leaveTimesTurn_12 rfl ?_
  refine mm_if_gt (M := M_Matcher_leaveTimesTurn) 25 d_Matcher_leaveTimesTurn_13 (by decide) (fun c => ?_) (fun c => ?_)
  · have h := h.1 c
    refine mm_aload_n (M := M_Matcher_leaveTimesTurn) d_Matcher_leaveTimesTurn_25 rfl ?_
    refine mm_aload_n (M := M_Matcher_leaveTimesTurn) d_Matcher_leaveTimesTurn_26 rfl ?_
    refine mm_getf (M := M_Matcher_leaveTimesTurn) (u := .ref 33) 5 3 d_Matcher_leaveTimesTurn_27 fl_Matcher_53 wg_19 rfl ?_
    refine mm_iconst (M := M_Matcher_leaveTimesTurn) (v := 5) d_Matcher_leaveTimesTurn_30 (by decide) ?_
    refine mm_iload_n (M := M_Matcher_leaveTimesTurn) d_Matcher_leaveTimesTurn_31 rfl ?_
    refine mm_iload_n (M := M_Matcher_leaveTimesTurn) d_Matcher_leaveTimesTurn_32 rfl ?_
    refine mm_aload_n (M := M_Matcher_leaveTimesTurn) d_Matcher_leaveTimesTurn_33 rfl ?_
    refine mm_getf (M := M_Matcher_leaveTimesTurn) (u := .int (i 312)) 5 8 d_Matcher_leaveTimesTurn_34 fl_Matcher_37 wg_19 rfl ?_
    refine mm_aload_n (M := M_Matcher_leaveTimesTurn) d_Matcher_leaveTimesTurn_37 rfl ?_
    refine mm_getf (M := M_Matcher_leaveTimesTurn) (u := .long (l 313)) 5 9 d_Matcher_leaveTimesTurn_38 fl_Matcher_40 wg_19 rfl ?_
    refine mm_aload_n (M := M_Matcher_leaveTimesTurn) d_Matcher_leaveTimesTurn_41 rfl ?_
    refine mm_getf (M := M_Matcher_leaveTimesTurn) (u := .int (i 311)) 5 7 d_Matcher_leaveTimesTurn_42 fl_Matcher_34 wg_19 rfl ?_
    refine mm_eqs (st2 := [.int 5, .int x2, .int (((a 36) x1.toNatClampNeg) - (1 : Int32)), .int (i 312), .long (l 313), .int (i 311)].reverse ++ .ref 33 :: [.ref 19]) rfl ?_
    refine mm_callV (M := M_Matcher_leaveTimesTurn) (y := y_Frames_add) (M' := M_Frames_add) (d' := 0) (kc := 0) (ks := 0) (kc' := 0) (ks' := 0) (n := 6) d_Matcher_leaveTimesTurn_45 ok_Frames_add ml_Matcher_143 (by decide) rfl (Nat.le_of_ble_eq_true rfl) ⟨tw_576, tw_577⟩ wg_33 rfl (ct_Frames_add_33 h) (fun v w h => ?_)
    obtain ⟨r1, i1, l1, a1, b1, rfl, rfl, h⟩ := h
    refine mm_eqs (st2 := [.int r1, .ref 19]) rfl ?_
    refine mm_putf (M := M_Matcher_leaveTimesTurn) 5 7 .int d_Matcher_leaveTimesTurn_48 fl_Matcher_34 fp_Matcher_34 ft_5_7 wg_19 (Nat.le_of_ble_eq_true rfl) trivial ?_
    refine mm_eqw ws_311 ?_
    refine mm_aload_n (M := M_Matcher_leaveTimesTurn) d_Matcher_leaveTimesTurn_51 rfl ?_
    refine mm_iconst (M := M_Matcher_leaveTimesTurn) (v := 3) d_Matcher_leaveTimesTurn_52 (by decide) ?_
    refine mm_iload_n (M := M_Matcher_leaveTimesTurn) d_Matcher_leaveTimesTurn_53 rfl ?_
    refine mm_eqs (st2 := [.int 3, .int x2].reverse ++ .ref 19 :: []) rfl ?_
    refine mm_callV (M := M_Matcher_leaveTimesTurn) (y := y_Matcher_go) (M' := M_Matcher_go) (d' := 0) (kc := 0) (ks := 0) (kc' := 0) (ks' := 0) (n := 2) d_Matcher_leaveTimesTurn_54 ok_Matcher_go ml_Matcher_88 (by decide) rfl (Nat.le_of_ble_eq_true rfl) ⟨tw_544, ts_Matcher_go⟩ wg_19 rfl (ct_Matcher_go_19 h) (fun v w h => ?_)
    obtain ⟨i2, l2, a2, b2, rfl, rfl, h⟩ := h
    refine mm_eqs (st2 := []) rfl ?_
    exact mm_ret (M := M_Matcher_leaveTimesTurn) ⟨rfl, d_Matcher_leaveTimesTurn_57⟩ ⟨_, _, _, _, rfl, rfl, h⟩
  · have h := h.2 c
    refine mm_aload_n (M := M_Matcher_leaveTimesTurn) d_Matcher_leaveTimesTurn_16 rfl ?_
    refine mm_iconst (M := M_Matcher_leaveTimesTurn) (v := 5) d_Matcher_leaveTimesTurn_17 (by decide) ?_
    refine mm_iload_n (M := M_Matcher_leaveTimesTurn) d_Matcher_leaveTimesTurn_18 rfl ?_
    refine mm_eqs (st2 := [.int 5, .int x2].reverse ++ .ref 19 :: []) rfl ?_
    refine mm_callV (M := M_Matcher_leaveTimesTurn) (y := y_Matcher_go) (M' := M_Matcher_go) (d' := 0) (kc := 0) (ks := 0) (kc' := 0) (ks' := 0) (n := 2) d_Matcher_leaveTimesTurn_19 ok_Matcher_go ml_Matcher_88 (by decide) rfl (Nat.le_of_ble_eq_true rfl) ⟨tw_544, ts_Matcher_go⟩ wg_19 rfl (ct_Matcher_go_19 h) (fun v w h => ?_)
    obtain ⟨i3, l3, a3, b3, rfl, rfl, h⟩ := h
    refine mm_eqs (st2 := []) rfl ?_
    refine mm_goto (M := M_Matcher_leaveTimesTurn) (tgt := 57) d_Matcher_leaveTimesTurn_22 (by decide) ?_
    exact mm_ret (M := M_Matcher_leaveTimesTurn) ⟨rfl, d_Matcher_leaveTimesTurn_57⟩ ⟨_, _, _, _, rfl, rfl, h⟩
def wp_Matcher_leaveBody_19 (n1 n2 : Nat) (i : mm_i) (l : mm_j) (a : mm_a) (b : mm_b) (x1 : Int32) (x2 : Int32) (K : mm_i → mm_j → mm_a → mm_b → Prop) : Prop :=
  vp_in x2 32 ∧ ((((a 23) x2.toNatClampNeg) = (7 : Int32) → vp_in x1 n1 ∧ (wp_Choices_cutTo_41 n1 n2 i l a b ((a 36) x1.toNatClampNeg) (fun i1 l1 a1 b1 => (¬ ((a 23) x2.toNatClampNeg) = (5 : Int32) → (¬ ((a 23) x2.toNatClampNeg) = (7 : Int32) → (¬ ((a 23) x2.toNatClampNeg) = (8 : Int32) → wp_Matcher_go_19 n1 n2 i1 l1 a1 b1 4 x2 (fun i2 l2 a2 b2 => K i2 l2 a2 b2)) ∧ (((a 23) x2.toNatClampNeg) = (8 : Int32) → wp_Matcher_go_19 n1 n2 i1 l1 a1 b1 7 x2 (fun i3 l3 a3 b3 => K i3 l3 a3 b3))) ∧ (((a 23) x2.toNatClampNeg) = (7 : Int32) → vp_in x1 n1 ∧ ((¬ ((a 23) x2.toNatClampNeg) = (8 : Int32) → wp_Matcher_go_19 n1 n2 (upd i1 312 ((a1 37) x1.toNatClampNeg)) l1 a1 b1 4 x2 (fun i4 l4 a4 b4 => K i4 l4 a4 b4)) ∧ (((a 23) x2.toNatClampNeg) = (8 : Int32) → wp_Matcher_go_19 n1 n2 (upd i1 312 ((a1 37) x1.toNatClampNeg)) l1 a1 b1 7 x2 (fun i5 l5 a5 b5 => K i5 l5 a5 b5))))) ∧ (((a 23) x2.toNatClampNeg) = (5 : Int32) → vp_in x2 32 ∧ (vp_in x1 n1 ∧ (wp_Captures_with n1 n2 i1 l1 a1 b1 (l1 313) ((a1 24) x2.toNatClampNeg) ((a1 37) x1.toNatClampNeg) (i1 312) (fun r6 i6 l6 a6 b6 => (¬ ((a 23) x2.toNatClampNeg) = (8 : Int32) → wp_Matcher_go_19 n1 n2 i6 (vp_updL l6 313 r6) a6 b6 4 x2 (fun i7 l7 a7 b7 => K i7 l7 a7 b7)) ∧ (((a 23) x2.toNatClampNeg) = (8 : Int32) → wp_Matcher_go_19 n1 n2 i6 (vp_updL l6 313 r6) a6 b6 7 x2 (fun i8 l8 a8 b8 => K i8 l8 a8 b8))))))))) ∧ (¬ ((a 23) x2.toNatClampNeg) = (7 : Int32) → (((a 23) x2.toNatClampNeg) = (8 : Int32) → vp_in x1 n1 ∧ (wp_Choices_cutTo_41 n1 n2 i l a b ((a 36) x1.toNatClampNeg) (fun i9 l9 a9 b9 => (¬ ((a 23) x2.toNatClampNeg) = (5 : Int32) → (¬ ((a 23) x2.toNatClampNeg) = (7 : Int32) → (¬ ((a 23) x2.toNatClampNeg) = (8 : Int32) → wp_Matcher_go_19 n1 n2 i9 l9 a9 b9 4 x2 (fun i10 l10 a10 b10 => K i10 l10 a10 b10)) ∧ (((a 23) x2.toNatClampNeg) = (8 : Int32) → wp_Matcher_go_19 n1 n2 i9 l9 a9 b9 7 x2 (fun i11 l11 a11 b11 => K i11 l11 a11 b11))) ∧ (((a 23) x2.toNatClampNeg) = (7 : Int32) → vp_in x1 n1 ∧ ((¬ ((a 23) x2.toNatClampNeg) = (8 : Int32) → wp_Matcher_go_19 n1 n2 (upd i9 312 ((a9 37) x1.toNatClampNeg)) l9 a9 b9 4 x2 (fun i12 l12 a12 b12 => K i12 l12 a12 b12)) ∧ (((a 23) x2.toNatClampNeg) = (8 : Int32) → wp_Matcher_go_19 n1 n2 (upd i9 312 ((a9 37) x1.toNatClampNeg)) l9 a9 b9 7 x2 (fun i13 l13 a13 b13 => K i13 l13 a13 b13))))) ∧ (((a 23) x2.toNatClampNeg) = (5 : Int32) → vp_in x2 32 ∧ (vp_in x1 n1 ∧ (wp_Captures_with n1 n2 i9 l9 a9 b9 (l9 313) ((a9 24) x2.toNatClampNeg) ((a9 37) x1.toNatClampNeg) (i9 312) (fun r14 i14 l14 a14 b14 => (¬ ((a 23) x2.toNatClampNeg) = (8 : Int32) → wp_Matcher_go_19 n1 n2 i14 (vp_updL l14 313 r14) a14 b14 4 x2 (fun i15 l15 a15 b15 => K i15 l15 a15 b15)) ∧ (((a 23) x2.toNatClampNeg) = (8 : Int32) → wp_Matcher_go_19 n1 n2 i14 (vp_updL l14 313 r14) a14 b14 7 x2 (fun i16 l16 a16 b16 => K i16 l16 a16 b16))))))))) ∧ (¬ ((a 23) x2.toNatClampNeg) = (8 : Int32) → (¬ ((a 23) x2.toNatClampNeg) = (9 : Int32) → (¬ ((a 23) x2.toNatClampNeg) = (5 : Int32) → (¬ ((a 23) x2.toNatClampNeg) = (7 : Int32) → (¬ ((a 23) x2.toNatClampNeg) = (8 : Int32) → wp_Matcher_go_19 n1 n2 i l a b 4 x2 (fun i17 l17 a17 b17 => K i17 l17 a17 b17)) ∧ (((a 23) x2.toNatClampNeg) = (8 : Int32) → wp_Matcher_go_19 n1 n2 i l a b 7 x2 (fun i18 l18 a18 b18 => K i18 l18 a18 b18))) ∧ (((a 23) x2.toNatClampNeg) = (7 : Int32) → vp_in x1 n1 ∧ ((¬ ((a 23) x2.toNatClampNeg) = (8 : Int32) → wp_Matcher_go_19 n1 n2 (upd i 312 ((a 37) x1.toNatClampNeg)) l a b 4 x2 (fun i19 l19 a19 b19 => K i19 l19 a19 b19)) ∧ (((a 23) x2.toNatClampNeg) = (8 : Int32) → wp_Matcher_go_19 n1 n2 (upd i 312 ((a 37) x1.toNatClampNeg)) l a b 7 x2 (fun i20 l20 a20 b20 => K i20 l20 a20 b20))))) ∧ (((a 23) x2.toNatClampNeg) = (5 : Int32) → vp_in x2 32 ∧ (vp_in x1 n1 ∧ (wp_Captures_with n1 n2 i l a b (l 313) ((a 24) x2.toNatClampNeg) ((a 37) x1.toNatClampNeg) (i 312) (fun r21 i21 l21 a21 b21 => (¬ ((a 23) x2.toNatClampNeg) = (8 : Int32) → wp_Matcher_go_19 n1 n2 i21 (vp_updL l21 313 r21) a21 b21 4 x2 (fun i22 l22 a22 b22 => K i22 l22 a22 b22)) ∧ (((a 23) x2.toNatClampNeg) = (8 : Int32) → wp_Matcher_go_19 n1 n2 i21 (vp_updL l21 313 r21) a21 b21 7 x2 (fun i23 l23 a23 b23 => K i23 l23 a23 b23))))))) ∧ (((a 23) x2.toNatClampNeg) = (9 : Int32) → vp_in x1 n1 ∧ (wp_Choices_cutTo_41 n1 n2 i l a b ((a 36) x1.toNatClampNeg) (fun i24 l24 a24 b24 => (¬ ((a 23) x2.toNatClampNeg) = (5 : Int32) → (¬ ((a 23) x2.toNatClampNeg) = (7 : Int32) → (¬ ((a 23) x2.toNatClampNeg) = (8 : Int32) → wp_Matcher_go_19 n1 n2 i24 l24 a24 b24 4 x2 (fun i25 l25 a25 b25 => K i25 l25 a25 b25)) ∧ (((a 23) x2.toNatClampNeg) = (8 : Int32) → wp_Matcher_go_19 n1 n2 i24 l24 a24 b24 7 x2 (fun i26 l26 a26 b26 => K i26 l26 a26 b26))) ∧ (((a 23) x2.toNatClampNeg) = (7 : Int32) → vp_in x1 n1 ∧ ((¬ ((a 23) x2.toNatClampNeg) = (8 : Int32) → wp_Matcher_go_19 n1 n2 (upd i24 312 ((a24 37) x1.toNatClampNeg)) l24 a24 b24 4 x2 (fun i27 l27 a27 b27 => K i27 l27 a27 b27)) ∧ (((a 23) x2.toNatClampNeg) = (8 : Int32) → wp_Matcher_go_19 n1 n2 (upd i24 312 ((a24 37) x1.toNatClampNeg)) l24 a24 b24 7 x2 (fun i28 l28 a28 b28 => K i28 l28 a28 b28))))) ∧ (((a 23) x2.toNatClampNeg) = (5 : Int32) → vp_in x2 32 ∧ (vp_in x1 n1 ∧ (wp_Captures_with n1 n2 i24 l24 a24 b24 (l24 313) ((a24 24) x2.toNatClampNeg) ((a24 37) x1.toNatClampNeg) (i24 312) (fun r29 i29 l29 a29 b29 => (¬ ((a 23) x2.toNatClampNeg) = (8 : Int32) → wp_Matcher_go_19 n1 n2 i29 (vp_updL l29 313 r29) a29 b29 4 x2 (fun i30 l30 a30 b30 => K i30 l30 a30 b30)) ∧ (((a 23) x2.toNatClampNeg) = (8 : Int32) → wp_Matcher_go_19 n1 n2 i29 (vp_updL l29 313 r29) a29 b29 7 x2 (fun i31 l31 a31 b31 => K i31 l31 a31 b31))))))))))))
set_option maxRecDepth 100000 in
set_option maxHeartbeats 4000000 in
theorem ct_Matcher_leaveBody_19 {n1 n2 : Nat} {i : mm_i} {l : mm_j} {a : mm_a} {b : mm_b} {t : mm_H} {x1 : Int32} {x2 : Int32} {K : mm_i → mm_j → mm_a → mm_b → Prop} (h : wp_Matcher_leaveBody_19 n1 n2 i l a b x1 x2 K) : mm_Ct y_Matcher_leaveBody M_Matcher_leaveBody 1 0 0 [.ref 19, .int x1, .int x2] (Wd 4 22 n1 n2 i l a b ++ t) (mm_PV n1 n2 t K) := by
  refine mm_Ct.of (by decide) rfl (fun q => absurd q (by decide)) (Nat.le_of_ble_eq_true rfl) ?_
  unfold wp_Matcher_leaveBody_19 at h
  refine mm_eqL (L' := [some (.ref 19), some (.int x1), some (.int x2), none]) rfl ?_
  refine mm_aload_n (M := M_Matcher_leaveBody) d_Matcher_leaveBody_0 rfl ?_
  refine mm_getf (M := M_Matcher_leaveBody) (u := .ref 22) 5 1 d_Matcher_leaveBody_1 fl_Matcher_23 wg_19 rfl ?_
  refine mm_getf (M := M_Matcher_leaveBody) (u := .ref 23) 1 0 d_Matcher_leaveBody_4 fl_Matcher_163 wg_22 rfl ?_
  refine mm_iload_n (M := M_Matcher_leaveBody) d_Matcher_leaveBody_7 rfl ?_
  obtain ⟨hin, h⟩ := h
  refine mm_iald (M := M_Matcher_leaveBody) (f := (a 23)) d_Matcher_leaveBody_8 wg_23 hin ?_
  refine mm_istore_n (M := M_Matcher_leaveBody) d_Matcher_leaveBody_9 (Nat.le_of_ble_eq_true rfl) ?_
  refine mm_eqL (L' := [some (.ref 19), some (.int x1), some (.int x2), some (.int ((a 23) x2.toNatClampNeg))]) rfl ?_
  refine mm_iload_n (M := M_Matcher_leaveBody) d_Matcher_leaveBody_10 rfl ?_
  refine mm_bipush (M := M_Matcher_leaveBody) (v := 7) d_Matcher_leaveBody_11 (by decide) ?_
  refine mm_icmp_eq (M := M_Matcher_leaveBody) 28 d_Matcher_leaveBody_13 (by decide) (fun c => ?_) (fun c => ?_)
  · have h := h.1 c
    refine mm_aload_n (M := M_Matcher_leaveBody) d_Matcher_leaveBody_28 rfl ?_
    refine mm_getf (M := M_Matcher_leaveBody) (u := .ref 41) 5 4 d_Matcher_leaveBody_29 fl_Matcher_60 wg_19 rfl ?_
    refine mm_aload_n (M := M_Matcher_leaveBody) d_Matcher_leaveBody_32 rfl ?_
    refine mm_getf (M := M_Matcher_leaveBody) (u := .ref 33) 5 3 d_Matcher_leaveBody_33 fl_Matcher_53 wg_19 rfl ?_
    refine mm_getf (M := M_Matcher_leaveBody) (u := .ref 36) 3 2 d_Matcher_leaveBody_36 fl_Matcher_218 wg_33 rfl ?_
    refine mm_iload_n (M := M_Matcher_leaveBody) d_Matcher_leaveBody_39 rfl ?_
    obtain ⟨hin, h⟩ := h
    refine mm_iald (M := M_Matcher_leaveBody) (f := (a 36)) d_Matcher_leaveBody_40 wg_36 hin ?_
    refine mm_eqs (st2 := [.int ((a 36) x1.toNatClampNeg)].reverse ++ .ref 41 :: []) rfl ?_
    refine mm_callV (M := M_Matcher_leaveBody) (y := y_Choices_cutTo) (M' := M_Choices_cutTo) (d' := 0) (kc := 0) (ks := 0) (kc' := 0) (ks' := 0) (n := 1) d_Matcher_leaveBody_41 ok_Choices_cutTo ml_Matcher_81 (by decide) rfl (Nat.le_of_ble_eq_true rfl) ⟨tw_539, tw_540⟩ wg_41 rfl (ct_Choices_cutTo_41 h) (fun v w h => ?_)
    obtain ⟨i1, l1, a1, b1, rfl, rfl, h⟩ := h
    refine mm_eqs (st2 := []) rfl ?_
    refine mm_iload_n (M := M_Matcher_leaveBody) d_Matcher_leaveBody_44 rfl ?_
    refine mm_iconst (M := M_Matcher_leaveBody) (v := 5) d_Matcher_leaveBody_45 (by decide) ?_
    refine mm_icmp_ne (M := M_Matcher_leaveBody) 85 d_Matcher_leaveBody_46 (by decide) (fun c => ?_) (fun c => ?_)
    · have h := h.1 c
      refine mm_iload_n (M := M_Matcher_leaveBody) d_Matcher_leaveBody_85 rfl ?_
      refine mm_bipush (M := M_Matcher_leaveBody) (v := 7) d_Matcher_leaveBody_86 (by decide) ?_
      refine mm_icmp_ne (M := M_Matcher_leaveBody) 104 d_Matcher_leaveBody_88 (by decide) (fun c => ?_) (fun c => ?_)
      · have h := h.1 c
        refine mm_aload_n (M := M_Matcher_leaveBody) d_Matcher_leaveBody_104 rfl ?_
        refine mm_iload_n (M := M_Matcher_leaveBody) d_Matcher_leaveBody_105 rfl ?_
        refine mm_bipush (M := M_Matcher_leaveBody) (v := 8) d_Matcher_leaveBody_106 (by decide) ?_
        refine mm_icmp_ne (M := M_Matcher_leaveBody) 116 d_Matcher_leaveBody_108 (by decide) (fun c => ?_) (fun c => ?_)
        · have h := h.1 c
          refine mm_iconst (M := M_Matcher_leaveBody) (v := 4) d_Matcher_leaveBody_116 (by decide) ?_
          refine mm_iload_n (M := M_Matcher_leaveBody) d_Matcher_leaveBody_117 rfl ?_
          refine mm_eqs (st2 := [.int 4, .int x2].reverse ++ .ref 19 :: []) rfl ?_
          refine mm_callV (M := M_Matcher_leaveBody) (y := y_Matcher_go) (M' := M_Matcher_go) (d' := 0) (kc := 0) (ks := 0) (kc' := 0) (ks' := 0) (n := 2) d_Matcher_leaveBody_118 ok_Matcher_go ml_Matcher_88 (by decide) rfl (Nat.le_of_ble_eq_true rfl) ⟨tw_544, ts_Matcher_go⟩ wg_19 rfl (ct_Matcher_go_19 h) (fun v w h => ?_)
          obtain ⟨i2, l2, a2, b2, rfl, rfl, h⟩ := h
          refine mm_eqs (st2 := []) rfl ?_
          exact mm_ret (M := M_Matcher_leaveBody) ⟨rfl, d_Matcher_leaveBody_121⟩ ⟨_, _, _, _, rfl, rfl, h⟩
        · have h := h.2 c
          refine mm_bipush (M := M_Matcher_leaveBody) (v := 7) d_Matcher_leaveBody_111 (by decide) ?_
          refine mm_goto (M := M_Matcher_leaveBody) (tgt := 117) d_Matcher_leaveBody_113 (by decide) ?_
          refine mm_iload_n (M := M_Matcher_leaveBody) d_Matcher_leaveBody_117 rfl ?_
          refine mm_eqs (st2 := [.int 7, .int x2].reverse ++ .ref 19 :: []) rfl ?_
          refine mm_callV (M := M_Matcher_leaveBody) (y := y_Matcher_go) (M' := M_Matcher_go) (d' := 0) (kc := 0) (ks := 0) (kc' := 0) (ks' := 0) (n := 2) d_Matcher_leaveBody_118 ok_Matcher_go ml_Matcher_88 (by decide) rfl (Nat.le_of_ble_eq_true rfl) ⟨tw_544, ts_Matcher_go⟩ wg_19 rfl (ct_Matcher_go_19 h) (fun v w h => ?_)
          obtain ⟨i3, l3, a3, b3, rfl, rfl, h⟩ := h
          refine mm_eqs (st2 := []) rfl ?_
          exact mm_ret (M := M_Matcher_leaveBody) ⟨rfl, d_Matcher_leaveBody_121⟩ ⟨_, _, _, _, rfl, rfl, h⟩
      · have h := h.2 c
        refine mm_aload_n (M := M_Matcher_leaveBody) d_Matcher_leaveBody_91 rfl ?_
        refine mm_aload_n (M := M_Matcher_leaveBody) d_Matcher_leaveBody_92 rfl ?_
        refine mm_getf (M := M_Matcher_leaveBody) (u := .ref 33) 5 3 d_Matcher_leaveBody_93 fl_Matcher_53 wg_19 rfl ?_
        refine mm_getf (M := M_Matcher_leaveBody) (u := .ref 37) 3 3 d_Matcher_leaveBody_96 fl_Matcher_214 wg_33 rfl ?_
        refine mm_iload_n (M := M_Matcher_leaveBody) d_Matcher_leaveBody_99 rfl ?_
        obtain ⟨hin, h⟩ := h
        refine mm_iald (M := M_Matcher_leaveBody) (f := (a1 37)) d_Matcher_leaveBody_100 wg_37 hin ?_
        refine mm_putf (M := M_Matcher_leaveBody) 5 8 .int d_Matcher_leaveBody_101 fl_Matcher_37 fp_Matcher_37 ft_5_8 wg_19 (Nat.le_of_ble_eq_true rfl) trivial ?_
        refine mm_eqw ws_312 ?_
        refine mm_aload_n (M := M_Matcher_leaveBody) d_Matcher_leaveBody_104 rfl ?_
        refine mm_iload_n (M := M_Matcher_leaveBody) d_Matcher_leaveBody_105 rfl ?_
        refine mm_bipush (M := M_Matcher_leaveBody) (v := 8) d_Matcher_leaveBody_106 (by decide) ?_
        refine mm_icmp_ne (M := M_Matcher_leaveBody) 116 d_Matcher_leaveBody_108 (by decide) (fun c => ?_) (fun c => ?_)
        · have h := h.1 c
          refine mm_iconst (M := M_Matcher_leaveBody) (v := 4) d_Matcher_leaveBody_116 (by decide) ?_
          refine mm_iload_n (M := M_Matcher_leaveBody) d_Matcher_leaveBody_117 rfl ?_
          refine mm_eqs (st2 := [.int 4, .int x2].reverse ++ .ref 19 :: []) rfl ?_
          refine mm_callV (M := M_Matcher_leaveBody) (y := y_Matcher_go) (M' := M_Matcher_go) (d' := 0) (kc := 0) (ks := 0) (kc' := 0) (ks' := 0) (n := 2) d_Matcher_leaveBody_118 ok_Matcher_go ml_Matcher_88 (by decide) rfl (Nat.le_of_ble_eq_true rfl) ⟨tw_544, ts_Matcher_go⟩ wg_19 rfl (ct_Matcher_go_19 h) (fun v w h => ?_)
          obtain ⟨i4, l4, a4, b4, rfl, rfl, h⟩ := h
          refine mm_eqs (st2 := []) rfl ?_
          exact mm_ret (M := M_Matcher_leaveBody) ⟨rfl, d_Matcher_leaveBody_121⟩ ⟨_, _, _, _, rfl, rfl, h⟩
        · have h := h.2 c
          refine mm_bipush (M := M_Matcher_leaveBody) (v := 7) d_Matcher_leaveBody_111 (by decide) ?_
          refine mm_goto (M := M_Matcher_leaveBody) (tgt := 117) d_Matcher_leaveBody_113 (by decide) ?_
          refine mm_iload_n (M := M_Matcher_leaveBody) d_Matcher_leaveBody_117 rfl ?_
          refine mm_eqs (st2 := [.int 7, .int x2].reverse ++ .ref 19 :: []) rfl ?_
          refine mm_callV (M := M_Matcher_leaveBody) (y := y_Matcher_go) (M' := M_Matcher_go) (d' := 0) (kc := 0) (ks := 0) (kc' := 0) (ks' := 0) (n := 2) d_Matcher_leaveBody_118 ok_Matcher_go ml_Matcher_88 (by decide) rfl (Nat.le_of_ble_eq_true rfl) ⟨tw_544, ts_Matcher_go⟩ wg_19 rfl (ct_Matcher_go_19 h) (fun v w h => ?_)
          obtain ⟨i5, l5, a5, b5, rfl, rfl, h⟩ := h
          refine mm_eqs (st2 := []) rfl ?_
          exact mm_ret (M := M_Matcher_leaveBody) ⟨rfl, d_Matcher_leaveBody_121⟩ ⟨_, _, _, _, rfl, rfl, h⟩
    · have h := h.2 c
      refine mm_aload_n (M := M_Matcher_leaveBody) d_Matcher_leaveBody_49 rfl ?_
      refine mm_aload_n (M := M_Matcher_leaveBody) d_Matcher_leaveBody_50 rfl ?_
      refine mm_getf (M := M_Matcher_leaveBody) (u := .long (l1 313)) 5 9 d_Matcher_leaveBody_51 fl_Matcher_40 wg_19 rfl ?_
      refine mm_aload_n (M := M_Matcher_leaveBody) d_Matcher_leaveBody_54 rfl ?_
      refine mm_getf (M := M_Matcher_leaveBody) (u := .ref 22) 5 1 d_Matcher_leaveBody_55 fl_Matcher_23 wg_19 rfl ?_
      refine mm_getf (M := M_Matcher_leaveBody) (u := .ref 24) 1 1 d_Matcher_leaveBody_58 fl_Matcher_169 wg_22 rfl ?_
      refine mm_iload_n (M := M_Matcher_leaveBody) d_Matcher_leaveBody_61 rfl ?_
      obtain ⟨hin, h⟩ := h
      refine mm_iald (M := M_Matcher_leaveBody) (f := (a1 24)) d_Matcher_leaveBody_62 wg_24 hin ?_
      refine mm_aload_n (M := M_Matcher_leaveBody) d_Matcher_leaveBody_63 rfl ?_
      refine mm_getf (M := M_Matcher_leaveBody) (u := .ref 33) 5 3 d_Matcher_leaveBody_64 fl_Matcher_53 wg_19 rfl ?_
      refine mm_getf (M := M_Matcher_leaveBody) (u := .ref 37) 3 3 d_Matcher_leaveBody_67 fl_Matcher_214 wg_33 rfl ?_
      refine mm_iload_n (M := M_Matcher_leaveBody) d_Matcher_leaveBody_70 rfl ?_
      obtain ⟨hin, h⟩ := h
      refine mm_iald (M := M_Matcher_leaveBody) (f := (a1 37)) d_Matcher_leaveBody_71 wg_37 hin ?_
      refine mm_aload_n (M := M_Matcher_leaveBody) d_Matcher_leaveBody_72 rfl ?_
      refine mm_getf (M := M_Matcher_leaveBody) (u := .int (i1 312)) 5 8 d_Matcher_leaveBody_73 fl_Matcher_37 wg_19 rfl ?_
      refine mm_eqs (st2 := [.long (l1 313), .int ((a1 24) x2.toNatClampNeg), .int ((a1 37) x1.toNatClampNeg), .int (i1 312)].reverse ++ [.ref 19]) rfl ?_
      refine mm_callS (M := M_Matcher_leaveBody) (y := y_Captures_with) (M' := M_Captures_with) (d' := 0) (kc := 0) (ks := 0) (kc' := 0) (ks' := 0) (n := 4) d_Matcher_leaveBody_76 ok_Captures_with ml_Matcher_221 (by decide) rfl (Nat.le_of_ble_eq_true rfl) tw_634 (ct_Captures_with h) (fun v w h => ?_)
      obtain ⟨r6, i6, l6, a6, b6, rfl, rfl, h⟩ := h
      refine mm_eqs (st2 := [.long r6, .ref 19]) rfl ?_
      refine mm_putf (M := M_Matcher_leaveBody) 5 9 .long d_Matcher_leaveBody_79 fl_Matcher_40 fp_Matcher_40 ft_5_9 wg_19 (Nat.le_of_ble_eq_true rfl) trivial ?_
      refine mm_eqw ws_313 ?_
      refine mm_goto (M := M_Matcher_leaveBody) (tgt := 104) d_Matcher_leaveBody_82 (by decide) ?_
      refine mm_aload_n (M := M_Matcher_leaveBody) d_Matcher_leaveBody_104 rfl ?_
      refine mm_iload_n (M := M_Matcher_leaveBody) d_Matcher_leaveBody_105 rfl ?_
      refine mm_bipush (M := M_Matcher_leaveBody) (v := 8) d_Matcher_leaveBody_106 (by decide) ?_
      refine mm_icmp_ne (M := M_Matcher_leaveBody) 116 d_Matcher_leaveBody_108 (by decide) (fun c => ?_) (fun c => ?_)
      · have h := h.1 c
        refine mm_iconst (M := M_Matcher_leaveBody) (v := 4) d_Matcher_leaveBody_116 (by decide) ?_
        refine mm_iload_n (M := M_Matcher_leaveBody) d_Matcher_leaveBody_117 rfl ?_
        refine mm_eqs (st2 := [.int 4, .int x2].reverse ++ .ref 19 :: []) rfl ?_
        refine mm_callV (M := M_Matcher_leaveBody) (y := y_Matcher_go) (M' := M_Matcher_go) (d' := 0) (kc := 0) (ks := 0) (kc' := 0) (ks' := 0) (n := 2) d_Matcher_leaveBody_118 ok_Matcher_go ml_Matcher_88 (by decide) rfl (Nat.le_of_ble_eq_true rfl) ⟨tw_544, ts_Matcher_go⟩ wg_19 rfl (ct_Matcher_go_19 h) (fun v w h => ?_)
        obtain ⟨i7, l7, a7, b7, rfl, rfl, h⟩ := h
        refine mm_eqs (st2 := []) rfl ?_
        exact mm_ret (M := M_Matcher_leaveBody) ⟨rfl, d_Matcher_leaveBody_121⟩ ⟨_, _, _, _, rfl, rfl, h⟩
      · have h := h.2 c
        refine mm_bipush (M := M_Matcher_leaveBody) (v := 7) d_Matcher_leaveBody_111 (by decide) ?_
        refine mm_goto (M := M_Matcher_leaveBody) (tgt := 117) d_Matcher_leaveBody_113 (by decide) ?_
        refine mm_iload_n (M := M_Matcher_leaveBody) d_Matcher_leaveBody_117 rfl ?_
        refine mm_eqs (st2 := [.int 7, .int x2].reverse ++ .ref 19 :: []) rfl ?_
        refine mm_callV (M := M_Matcher_leaveBody) (y := y_Matcher_go) (M' := M_Matcher_go) (d' := 0) (kc := 0) (ks := 0) (kc' := 0) (ks' := 0) (n := 2) d_Matcher_leaveBody_118 ok_Matcher_go ml_Matcher_88 (by decide) rfl (Nat.le_of_ble_eq_true rfl) ⟨tw_544, ts_Matcher_go⟩ wg_19 rfl (ct_Matcher_go_19 h) (fun v w h => ?_)
        obtain ⟨i8, l8, a8, b8, rfl, rfl, h⟩ := h
        refine mm_eqs (st2 := []) rfl ?_
        exact mm_ret (M := M_Matcher_leaveBody) ⟨rfl, d_Matcher_leaveBody_121⟩ ⟨_, _, _, _, rfl, rfl, h⟩
  · have h := h.2 c
    refine mm_iload_n (M := M_Matcher_leaveBody) d_Matcher_leaveBody_16 rfl ?_
    refine mm_bipush (M := M_Matcher_leaveBody) (v := 8) d_Matcher_leaveBody_17 (by decide) ?_
    refine mm_icmp_eq (M := M_Matcher_leaveBody) 28 d_Matcher_leaveBody_19 (by decide) (fun c => ?_) (fun c => ?_)
    · have h := h.1 c
      refine mm_aload_n (M := M_Matcher_leaveBody) d_Matcher_leaveBody_28 rfl ?_
      refine mm_getf (M := M_Matcher_leaveBody) (u := .ref 41) 5 4 d_Matcher_leaveBody_29 fl_Matcher_60 wg_19 rfl ?_
      refine mm_aload_n (M := M_Matcher_leaveBody) d_Matcher_leaveBody_32 rfl ?_
      refine mm_getf (M := M_Matcher_leaveBody) (u := .ref 33) 5 3 d_Matcher_leaveBody_33 fl_Matcher_53 wg_19 rfl ?_
      refine mm_getf (M := M_Matcher_leaveBody) (u := .ref 36) 3 2 d_Matcher_leaveBody_36 fl_Matcher_218 wg_33 rfl ?_
      refine mm_iload_n (M := M_Matcher_leaveBody) d_Matcher_leaveBody_39 rfl ?_
      obtain ⟨hin, h⟩ := h
      refine mm_iald (M := M_Matcher_leaveBody) (f := (a 36)) d_Matcher_leaveBody_40 wg_36 hin ?_
      refine mm_eqs (st2 := [.int ((a 36) x1.toNatClampNeg)].reverse ++ .ref 41 :: []) rfl ?_
      refine mm_callV (M := M_Matcher_leaveBody) (y := y_Choices_cutTo) (M' := M_Choices_cutTo) (d' := 0) (kc := 0) (ks := 0) (kc' := 0) (ks' := 0) (n := 1) d_Matcher_leaveBody_41 ok_Choices_cutTo ml_Matcher_81 (by decide) rfl (Nat.le_of_ble_eq_true rfl) ⟨tw_539, tw_540⟩ wg_41 rfl (ct_Choices_cutTo_41 h) (fun v w h => ?_)
      obtain ⟨i9, l9, a9, b9, rfl, rfl, h⟩ := h
      refine mm_eqs (st2 := []) rfl ?_
      refine mm_iload_n (M := M_Matcher_leaveBody) d_Matcher_leaveBody_44 rfl ?_
      refine mm_iconst (M := M_Matcher_leaveBody) (v := 5) d_Matcher_leaveBody_45 (by decide) ?_
      refine mm_icmp_ne (M := M_Matcher_leaveBody) 85 d_Matcher_leaveBody_46 (by decide) (fun c => ?_) (fun c => ?_)
      · have h := h.1 c
        refine mm_iload_n (M := M_Matcher_leaveBody) d_Matcher_leaveBody_85 rfl ?_
        refine mm_bipush (M := M_Matcher_leaveBody) (v := 7) d_Matcher_leaveBody_86 (by decide) ?_
        refine mm_icmp_ne (M := M_Matcher_leaveBody) 104 d_Matcher_leaveBody_88 (by decide) (fun c => ?_) (fun c => ?_)
        · have h := h.1 c
          refine mm_aload_n (M := M_Matcher_leaveBody) d_Matcher_leaveBody_104 rfl ?_
          refine mm_iload_n (M := M_Matcher_leaveBody) d_Matcher_leaveBody_105 rfl ?_
          refine mm_bipush (M := M_Matcher_leaveBody) (v := 8) d_Matcher_leaveBody_106 (by decide) ?_
          refine mm_icmp_ne (M := M_Matcher_leaveBody) 116 d_Matcher_leaveBody_108 (by decide) (fun c => ?_) (fun c => ?_)
          · have h := h.1 c
            refine mm_iconst (M := M_Matcher_leaveBody) (v := 4) d_Matcher_leaveBody_116 (by decide) ?_
            refine mm_iload_n (M := M_Matcher_leaveBody) d_Matcher_leaveBody_117 rfl ?_
            refine mm_eqs (st2 := [.int 4, .int x2].reverse ++ .ref 19 :: []) rfl ?_
            refine mm_callV (M := M_Matcher_leaveBody) (y := y_Matcher_go) (M' := M_Matcher_go) (d' := 0) (kc := 0) (ks := 0) (kc' := 0) (ks' := 0) (n := 2) d_Matcher_leaveBody_118 ok_Matcher_go ml_Matcher_88 (by decide) rfl (Nat.le_of_ble_eq_true rfl) ⟨tw_544, ts_Matcher_go⟩ wg_19 rfl (ct_Matcher_go_19 h) (fun v w h => ?_)
            obtain ⟨i10, l10, a10, b10, rfl, rfl, h⟩ := h
            refine mm_eqs (st2 := []) rfl ?_
            exact mm_ret (M := M_Matcher_leaveBody) ⟨rfl, d_Matcher_leaveBody_121⟩ ⟨_, _, _, _, rfl, rfl, h⟩
          · have h := h.2 c
            refine mm_bipush (M := M_Matcher_leaveBody) (v := 7) d_Matcher_leaveBody_111 (by decide) ?_
            refine mm_goto (M := M_Matcher_leaveBody) (tgt := 117) d_Matcher_leaveBody_113 (by decide) ?_
            refine mm_iload_n (M := M_Matcher_leaveBody) d_Matcher_leaveBody_117 rfl ?_
            refine mm_eqs (st2 := [.int 7, .int x2].reverse ++ .ref 19 :: []) rfl ?_
            refine mm_callV (M := M_Matcher_leaveBody) (y := y_Matcher_go) (M' := M_Matcher_go) (d' := 0) (kc := 0) (ks := 0) (kc' := 0) (ks' := 0) (n := 2) d_Matcher_leaveBody_118 ok_Matcher_go ml_Matcher_88 (by decide) rfl (Nat.le_of_ble_eq_true rfl) ⟨tw_544, ts_Matcher_go⟩ wg_19 rfl (ct_Matcher_go_19 h) (fun v w h => ?_)
            obtain ⟨i11, l11, a11, b11, rfl, rfl, h⟩ := h
            refine mm_eqs (st2 := []) rfl ?_
            exact mm_ret (M := M_Matcher_leaveBody) ⟨rfl, d_Matcher_leaveBody_121⟩ ⟨_, _, _, _, rfl, rfl, h⟩
        · have h := h.2 c
          refine mm_aload_n (M := M_Matcher_leaveBody) d_Matcher_leaveBody_91 rfl ?_
          refine mm_aload_n (M := M_Matcher_leaveBody) d_Matcher_leaveBody_92 rfl ?_
          refine mm_getf (M := M_Matcher_leaveBody) (u := .ref 33) 5 3 d_Matcher_leaveBody_93 fl_Matcher_53 wg_19 rfl ?_
          refine mm_getf (M := M_Matcher_leaveBody) (u := .ref 37) 3 3 d_Matcher_leaveBody_96 fl_Matcher_214 wg_33 rfl ?_
          refine mm_iload_n (M := M_Matcher_leaveBody) d_Matcher_leaveBody_99 rfl ?_
          obtain ⟨hin, h⟩ := h
          refine mm_iald (M := M_Matcher_leaveBody) (f := (a9 37)) d_Matcher_leaveBody_100 wg_37 hin ?_
          refine mm_putf (M := M_Matcher_leaveBody) 5 8 .int d_Matcher_leaveBody_101 fl_Matcher_37 fp_Matcher_37 ft_5_8 wg_19 (Nat.le_of_ble_eq_true rfl) trivial ?_
          refine mm_eqw ws_312 ?_
          refine mm_aload_n (M := M_Matcher_leaveBody) d_Matcher_leaveBody_104 rfl ?_
          refine mm_iload_n (M := M_Matcher_leaveBody) d_Matcher_leaveBody_105 rfl ?_
          refine mm_bipush (M := M_Matcher_leaveBody) (v := 8) d_Matcher_leaveBody_106 (by decide) ?_
          refine mm_icmp_ne (M := M_Matcher_leaveBody) 116 d_Matcher_leaveBody_108 (by decide) (fun c => ?_) (fun c => ?_)
          · have h := h.1 c
            refine mm_iconst (M := M_Matcher_leaveBody) (v := 4) d_Matcher_leaveBody_116 (by decide) ?_
            refine mm_iload_n (M := M_Matcher_leaveBody) d_Matcher_leaveBody_117 rfl ?_
            refine mm_eqs (st2 := [.int 4, .int x2].reverse ++ .ref 19 :: []) rfl ?_
            refine mm_callV (M := M_Matcher_leaveBody) (y := y_Matcher_go) (M' := M_Matcher_go) (d' := 0) (kc := 0) (ks := 0) (kc' := 0) (ks' := 0) (n := 2) d_Matcher_leaveBody_118 ok_Matcher_go ml_Matcher_88 (by decide) rfl (Nat.le_of_ble_eq_true rfl) ⟨tw_544, ts_Matcher_go⟩ wg_19 rfl (ct_Matcher_go_19 h) (fun v w h => ?_)
            obtain ⟨i12, l12, a12, b12, rfl, rfl, h⟩ := h
            refine mm_eqs (st2 := []) rfl ?_
            exact mm_ret (M := M_Matcher_leaveBody) ⟨rfl, d_Matcher_leaveBody_121⟩ ⟨_, _, _, _, rfl, rfl, h⟩
          · have h := h.2 c
            refine mm_bipush (M := M_Matcher_leaveBody) (v := 7) d_Matcher_leaveBody_111 (by decide) ?_
            refine mm_goto (M := M_Matcher_leaveBody) (tgt := 117) d_Matcher_leaveBody_113 (by decide) ?_
            refine mm_iload_n (M := M_Matcher_leaveBody) d_Matcher_leaveBody_117 rfl ?_
            refine mm_eqs (st2 := [.int 7, .int x2].reverse ++ .ref 19 :: []) rfl ?_
            refine mm_callV (M := M_Matcher_leaveBody) (y := y_Matcher_go) (M' := M_Matcher_go) (d' := 0) (kc := 0) (ks := 0) (kc' := 0) (ks' := 0) (n := 2) d_Matcher_leaveBody_118 ok_Matcher_go ml_Matcher_88 (by decide) rfl (Nat.le_of_ble_eq_true rfl) ⟨tw_544, ts_Matcher_go⟩ wg_19 rfl (ct_Matcher_go_19 h) (fun v w h => ?_)
            obtain ⟨i13, l13, a13, b13, rfl, rfl, h⟩ := h
            refine mm_eqs (st2 := []) rfl ?_
            exact mm_ret (M := M_Matcher_leaveBody) ⟨rfl, d_Matcher_leaveBody_121⟩ ⟨_, _, _, _, rfl, rfl, h⟩
      · have h := h.2 c
        refine mm_aload_n (M := M_Matcher_leaveBody) d_Matcher_leaveBody_49 rfl ?_
        refine mm_aload_n (M := M_Matcher_leaveBody) d_Matcher_leaveBody_50 rfl ?_
        refine mm_getf (M := M_Matcher_leaveBody) (u := .long (l9 313)) 5 9 d_Matcher_leaveBody_51 fl_Matcher_40 wg_19 rfl ?_
        refine mm_aload_n (M := M_Matcher_leaveBody) d_Matcher_leaveBody_54 rfl ?_
        refine mm_getf (M := M_Matcher_leaveBody) (u := .ref 22) 5 1 d_Matcher_leaveBody_55 fl_Matcher_23 wg_19 rfl ?_
        refine mm_getf (M := M_Matcher_leaveBody) (u := .ref 24) 1 1 d_Matcher_leaveBody_58 fl_Matcher_169 wg_22 rfl ?_
        refine mm_iload_n (M := M_Matcher_leaveBody) d_Matcher_leaveBody_61 rfl ?_
        obtain ⟨hin, h⟩ := h
        refine mm_iald (M := M_Matcher_leaveBody) (f := (a9 24)) d_Matcher_leaveBody_62 wg_24 hin ?_
        refine mm_aload_n (M := M_Matcher_leaveBody) d_Matcher_leaveBody_63 rfl ?_
        refine mm_getf (M := M_Matcher_leaveBody) (u := .ref 33) 5 3 d_Matcher_leaveBody_64 fl_Matcher_53 wg_19 rfl ?_
        refine mm_getf (M := M_Matcher_leaveBody) (u := .ref 37) 3 3 d_Matcher_leaveBody_67 fl_Matcher_214 wg_33 rfl ?_
        refine mm_iload_n (M := M_Matcher_leaveBody) d_Matcher_leaveBody_70 rfl ?_
        obtain ⟨hin, h⟩ := h
        refine mm_iald (M := M_Matcher_leaveBody) (f := (a9 37)) d_Matcher_leaveBody_71 wg_37 hin ?_
        refine mm_aload_n (M := M_Matcher_leaveBody) d_Matcher_leaveBody_72 rfl ?_
        refine mm_getf (M := M_Matcher_leaveBody) (u := .int (i9 312)) 5 8 d_Matcher_leaveBody_73 fl_Matcher_37 wg_19 rfl ?_
        refine mm_eqs (st2 := [.long (l9 313), .int ((a9 24) x2.toNatClampNeg), .int ((a9 37) x1.toNatClampNeg), .int (i9 312)].reverse ++ [.ref 19]) rfl ?_
        refine mm_callS (M := M_Matcher_leaveBody) (y := y_Captures_with) (M' := M_Captures_with) (d' := 0) (kc := 0) (ks := 0) (kc' := 0) (ks' := 0) (n := 4) d_Matcher_leaveBody_76 ok_Captures_with ml_Matcher_221 (by decide) rfl (Nat.le_of_ble_eq_true rfl) tw_634 (ct_Captures_with h) (fun v w h => ?_)
        obtain ⟨r14, i14, l14, a14, b14, rfl, rfl, h⟩ := h
        refine mm_eqs (st2 := [.long r14, .ref 19]) rfl ?_
        refine mm_putf (M := M_Matcher_leaveBody) 5 9 .long d_Matcher_leaveBody_79 fl_Matcher_40 fp_Matcher_40 ft_5_9 wg_19 (Nat.le_of_ble_eq_true rfl) trivial ?_
        refine mm_eqw ws_313 ?_
        refine mm_goto (M := M_Matcher_leaveBody) (tgt := 104) d_Matcher_leaveBody_82 (by decide) ?_
        refine mm_aload_n (M := M_Matcher_leaveBody) d_Matcher_leaveBody_104 rfl ?_
        refine mm_iload_n (M := M_Matcher_leaveBody) d_Matcher_leaveBody_105 rfl ?_
        refine mm_bipush (M := M_Matcher_leaveBody) (v := 8) d_Matcher_leaveBody_106 (by decide) ?_
        refine mm_icmp_ne (M := M_Matcher_leaveBody) 116 d_Matcher_leaveBody_108 (by decide) (fun c => ?_) (fun c => ?_)
        · have h := h.1 c
          refine mm_iconst (M := M_Matcher_leaveBody) (v := 4) d_Matcher_leaveBody_116 (by decide) ?_
          refine mm_iload_n (M := M_Matcher_leaveBody) d_Matcher_leaveBody_117 rfl ?_
          refine mm_eqs (st2 := [.int 4, .int x2].reverse ++ .ref 19 :: []) rfl ?_
          refine mm_callV (M := M_Matcher_leaveBody) (y := y_Matcher_go) (M' := M_Matcher_go) (d' := 0) (kc := 0) (ks := 0) (kc' := 0) (ks' := 0) (n := 2) d_Matcher_leaveBody_118 ok_Matcher_go ml_Matcher_88 (by decide) rfl (Nat.le_of_ble_eq_true rfl) ⟨tw_544, ts_Matcher_go⟩ wg_19 rfl (ct_Matcher_go_19 h) (fun v w h => ?_)
          obtain ⟨i15, l15, a15, b15, rfl, rfl, h⟩ := h
          refine mm_eqs (st2 := []) rfl ?_
          exact mm_ret (M := M_Matcher_leaveBody) ⟨rfl, d_Matcher_leaveBody_121⟩ ⟨_, _, _, _, rfl, rfl, h⟩
        · have h := h.2 c
          refine mm_bipush (M := M_Matcher_leaveBody) (v := 7) d_Matcher_leaveBody_111 (by decide) ?_
          refine mm_goto (M := M_Matcher_leaveBody) (tgt := 117) d_Matcher_leaveBody_113 (by decide) ?_
          refine mm_iload_n (M := M_Matcher_leaveBody) d_Matcher_leaveBody_117 rfl ?_
          refine mm_eqs (st2 := [.int 7, .int x2].reverse ++ .ref 19 :: []) rfl ?_
          refine mm_callV (M := M_Matcher_leaveBody) (y := y_Matcher_go) (M' := M_Matcher_go) (d' := 0) (kc := 0) (ks := 0) (kc' := 0) (ks' := 0) (n := 2) d_Matcher_leaveBody_118 ok_Matcher_go ml_Matcher_88 (by decide) rfl (Nat.le_of_ble_eq_true rfl) ⟨tw_544, ts_Matcher_go⟩ wg_19 rfl (ct_Matcher_go_19 h) (fun v w h => ?_)
          obtain ⟨i16, l16, a16, b16, rfl, rfl, h⟩ := h
          refine mm_eqs (st2 := []) rfl ?_
          exact mm_ret (M := M_Matcher_leaveBody) ⟨rfl, d_Matcher_leaveBody_121⟩ ⟨_, _, _, _, rfl, rfl, h⟩
    · have h := h.2 c
      refine mm_iload_n (M := M_Matcher_leaveBody) d_Matcher_leaveBody_22 rfl ?_
      refine mm_bipush (M := M_Matcher_leaveBody) (v := 9) d_Matcher_leaveBody_23 (by decide) ?_
      refine mm_icmp_ne (M := M_Matcher_leaveBody) 44 d_Matcher_leaveBody_25 (by decide) (fun c => ?_) (fun c => ?_)
      · have h := h.1 c
        refine mm_iload_n (M := M_Matcher_leaveBody) d_Matcher_leaveBody_44 rfl ?_
        refine mm_iconst (M := M_Matcher_leaveBody) (v := 5) d_Matcher_leaveBody_45 (by decide) ?_
        refine mm_icmp_ne (M := M_Matcher_leaveBody) 85 d_Matcher_leaveBody_46 (by decide) (fun c => ?_) (fun c => ?_)
        · have h := h.1 c
          refine mm_iload_n (M := M_Matcher_leaveBody) d_Matcher_leaveBody_85 rfl ?_
          refine mm_bipush (M := M_Matcher_leaveBody) (v := 7) d_Matcher_leaveBody_86 (by decide) ?_
          refine mm_icmp_ne (M := M_Matcher_leaveBody) 104 d_Matcher_leaveBody_88 (by decide) (fun c => ?_) (fun c => ?_)
          · have h := h.1 c
            refine mm_aload_n (M := M_Matcher_leaveBody) d_Matcher_leaveBody_104 rfl ?_
            refine mm_iload_n (M := M_Matcher_leaveBody) d_Matcher_leaveBody_105 rfl ?_
            refine mm_bipush (M := M_Matcher_leaveBody) (v := 8) d_Matcher_leaveBody_106 (by decide) ?_
            refine mm_icmp_ne (M := M_Matcher_leaveBody) 116 d_Matcher_leaveBody_108 (by decide) (fun c => ?_) (fun c => ?_)
            · have h := h.1 c
              refine mm_iconst (M := M_Matcher_leaveBody) (v := 4) d_Matcher_leaveBody_116 (by decide) ?_
              refine mm_iload_n (M := M_Matcher_leaveBody) d_Matcher_leaveBody_117 rfl ?_
              refine mm_eqs (st2 := [.int 4, .int x2].reverse ++ .ref 19 :: []) rfl ?_
              refine mm_callV (M := M_Matcher_leaveBody) (y := y_Matcher_go) (M' := M_Matcher_go) (d' := 0) (kc := 0) (ks := 0) (kc' := 0) (ks' := 0) (n := 2) d_Matcher_leaveBody_118 ok_Matcher_go ml_Matcher_88 (by decide) rfl (Nat.le_of_ble_eq_true rfl) ⟨tw_544, ts_Matcher_go⟩ wg_19 rfl (ct_Matcher_go_19 h) (fun v w h => ?_)
              obtain ⟨i17, l17, a17, b17, rfl, rfl, h⟩ := h
              refine mm_eqs (st2 := []) rfl ?_
              exact mm_ret (M := M_Matcher_leaveBody) ⟨rfl, d_Matcher_leaveBody_121⟩ ⟨_, _, _, _, rfl, rfl, h⟩
            · have h := h.2 c
              refine mm_bipush (M := M_Matcher_leaveBody) (v := 7) d_Matcher_leaveBody_111 (by decide) ?_
              refine mm_goto (M := M_Matcher_leaveBody) (tgt := 117) d_Matcher_leaveBody_113 (by decide) ?_
              refine mm_iload_n (M := M_Matcher_leaveBody) d_Matcher_leaveBody_117 rfl ?_
              refine mm_eqs (st2 := [.int 7, .int x2].reverse ++ .ref 19 :: []) rfl ?_
              refine mm_callV (M := M_Matcher_leaveBody) (y := y_Matcher_go) (M' := M_Matcher_go) (d' := 0) (kc := 0) (ks := 0) (kc' := 0) (ks' := 0) (n := 2) d_Matcher_leaveBody_118 ok_Matcher_go ml_Matcher_88 (by decide) rfl (Nat.le_of_ble_eq_true rfl) ⟨tw_544, ts_Matcher_go⟩ wg_19 rfl (ct_Matcher_go_19 h) (fun v w h => ?_)
              obtain ⟨i18, l18, a18, b18, rfl, rfl, h⟩ := h
              refine mm_eqs (st2 := []) rfl ?_
              exact mm_ret (M := M_Matcher_leaveBody) ⟨rfl, d_Matcher_leaveBody_121⟩ ⟨_, _, _, _, rfl, rfl, h⟩
          · have h := h.2 c
            refine mm_aload_n (M := M_Matcher_leaveBody) d_Matcher_leaveBody_91 rfl ?_
            refine mm_aload_n (M := M_Matcher_leaveBody) d_Matcher_leaveBody_92 rfl ?_
            refine mm_getf (M := M_Matcher_leaveBody) (u := .ref 33) 5 3 d_Matcher_leaveBody_93 fl_Matcher_53 wg_19 rfl ?_
            refine mm_getf (M := M_Matcher_leaveBody) (u := .ref 37) 3 3 d_Matcher_leaveBody_96 fl_Matcher_214 wg_33 rfl ?_
            refine mm_iload_n (M := M_Matcher_leaveBody) d_Matcher_leaveBody_99 rfl ?_
            obtain ⟨hin, h⟩ := h
            refine mm_iald (M := M_Matcher_leaveBody) (f := (a 37)) d_Matcher_leaveBody_100 wg_37 hin ?_
            refine mm_putf (M := M_Matcher_leaveBody) 5 8 .int d_Matcher_leaveBody_101 fl_Matcher_37 fp_Matcher_37 ft_5_8 wg_19 (Nat.le_of_ble_eq_true rfl) trivial ?_
            refine mm_eqw ws_312 ?_
            refine mm_aload_n (M := M_Matcher_leaveBody) d_Matcher_leaveBody_104 rfl ?_
            refine mm_iload_n (M := M_Matcher_leaveBody) d_Matcher_leaveBody_105 rfl ?_
            refine mm_bipush (M := M_Matcher_leaveBody) (v := 8) d_Matcher_leaveBody_106 (by decide) ?_
            refine mm_icmp_ne (M := M_Matcher_leaveBody) 116 d_Matcher_leaveBody_108 (by decide) (fun c => ?_) (fun c => ?_)
            · have h := h.1 c
              refine mm_iconst (M := M_Matcher_leaveBody) (v := 4) d_Matcher_leaveBody_116 (by decide) ?_
              refine mm_iload_n (M := M_Matcher_leaveBody) d_Matcher_leaveBody_117 rfl ?_
              refine mm_eqs (st2 := [.int 4, .int x2].reverse ++ .ref 19 :: []) rfl ?_
              refine mm_callV (M := M_Matcher_leaveBody) (y := y_Matcher_go) (M' := M_Matcher_go) (d' := 0) (kc := 0) (ks := 0) (kc' := 0) (ks' := 0) (n := 2) d_Matcher_leaveBody_118 ok_Matcher_go ml_Matcher_88 (by decide) rfl (Nat.le_of_ble_eq_true rfl) ⟨tw_544, ts_Matcher_go⟩ wg_19 rfl (ct_Matcher_go_19 h) (fun v w h => ?_)
              obtain ⟨i19, l19, a19, b19, rfl, rfl, h⟩ := h
              refine mm_eqs (st2 := []) rfl ?_
              exact mm_ret (M := M_Matcher_leaveBody) ⟨rfl, d_Matcher_leaveBody_121⟩ ⟨_, _, _, _, rfl, rfl, h⟩
            · have h := h.2 c
              refine mm_bipush (M := M_Matcher_leaveBody) (v := 7) d_Matcher_leaveBody_111 (by decide) ?_
              refine mm_goto (M := M_Matcher_leaveBody) (tgt := 117) d_Matcher_leaveBody_113 (by decide) ?_
              refine mm_iload_n (M := M_Matcher_leaveBody) d_Matcher_leaveBody_117 rfl ?_
              refine mm_eqs (st2 := [.int 7, .int x2].reverse ++ .ref 19 :: []) rfl ?_
              refine mm_callV (M := M_Matcher_leaveBody) (y := y_Matcher_go) (M' := M_Matcher_go) (d' := 0) (kc := 0) (ks := 0) (kc' := 0) (ks' := 0) (n := 2) d_Matcher_leaveBody_118 ok_Matcher_go ml_Matcher_88 (by decide) rfl (Nat.le_of_ble_eq_true rfl) ⟨tw_544, ts_Matcher_go⟩ wg_19 rfl (ct_Matcher_go_19 h) (fun v w h => ?_)
              obtain ⟨i20, l20, a20, b20, rfl, rfl, h⟩ := h
              refine mm_eqs (st2 := []) rfl ?_
              exact mm_ret (M := M_Matcher_leaveBody) ⟨rfl, d_Matcher_leaveBody_121⟩ ⟨_, _, _, _, rfl, rfl, h⟩
        · have h := h.2 c
          refine mm_aload_n (M := M_Matcher_leaveBody) d_Matcher_leaveBody_49 rfl ?_
          refine mm_aload_n (M := M_Matcher_leaveBody) d_Matcher_leaveBody_50 rfl ?_
          refine mm_getf (M := M_Matcher_leaveBody) (u := .long (l 313)) 5 9 d_Matcher_leaveBody_51 fl_Matcher_40 wg_19 rfl ?_
          refine mm_aload_n (M := M_Matcher_leaveBody) d_Matcher_leaveBody_54 rfl ?_
          refine mm_getf (M := M_Matcher_leaveBody) (u := .ref 22) 5 1 d_Matcher_leaveBody_55 fl_Matcher_23 wg_19 rfl ?_
          refine mm_getf (M := M_Matcher_leaveBody) (u := .ref 24) 1 1 d_Matcher_leaveBody_58 fl_Matcher_169 wg_22 rfl ?_
          refine mm_iload_n (M := M_Matcher_leaveBody) d_Matcher_leaveBody_61 rfl ?_
          obtain ⟨hin, h⟩ := h
          refine mm_iald (M := M_Matcher_leaveBody) (f := (a 24)) d_Matcher_leaveBody_62 wg_24 hin ?_
          refine mm_aload_n (M := M_Matcher_leaveBody) d_Matcher_leaveBody_63 rfl ?_
          refine mm_getf (M := M_Matcher_leaveBody) (u := .ref 33) 5 3 d_Matcher_leaveBody_64 fl_Matcher_53 wg_19 rfl ?_
          refine mm_getf (M := M_Matcher_leaveBody) (u := .ref 37) 3 3 d_Matcher_leaveBody_67 fl_Matcher_214 wg_33 rfl ?_
          refine mm_iload_n (M := M_Matcher_leaveBody) d_Matcher_leaveBody_70 rfl ?_
          obtain ⟨hin, h⟩ := h
          refine mm_iald (M := M_Matcher_leaveBody) (f := (a 37)) d_Matcher_leaveBody_71 wg_37 hin ?_
          refine mm_aload_n (M := M_Matcher_leaveBody) d_Matcher_leaveBody_72 rfl ?_
          refine mm_getf (M := M_Matcher_leaveBody) (u := .int (i 312)) 5 8 d_Matcher_leaveBody_73 fl_Matcher_37 wg_19 rfl ?_
          refine mm_eqs (st2 := [.long (l 313), .int ((a 24) x2.toNatClampNeg), .int ((a 37) x1.toNatClampNeg), .int (i 312)].reverse ++ [.ref 19]) rfl ?_
          refine mm_callS (M := M_Matcher_leaveBody) (y := y_Captures_with) (M' := M_Captures_with) (d' := 0) (kc := 0) (ks := 0) (kc' := 0) (ks' := 0) (n := 4) d_Matcher_leaveBody_76 ok_Captures_with ml_Matcher_221 (by decide) rfl (Nat.le_of_ble_eq_true rfl) tw_634 (ct_Captures_with h) (fun v w h => ?_)
          obtain ⟨r21, i21, l21, a21, b21, rfl, rfl, h⟩ := h
          refine mm_eqs (st2 := [.long r21, .ref 19]) rfl ?_
          refine mm_putf (M := M_Matcher_leaveBody) 5 9 .long d_Matcher_leaveBody_79 fl_Matcher_40 fp_Matcher_40 ft_5_9 wg_19 (Nat.le_of_ble_eq_true rfl) trivial ?_
          refine mm_eqw ws_313 ?_
          refine mm_goto (M := M_Matcher_leaveBody) (tgt := 104) d_Matcher_leaveBody_82 (by decide) ?_
          refine mm_aload_n (M := M_Matcher_leaveBody) d_Matcher_leaveBody_104 rfl ?_
          refine mm_iload_n (M := M_Matcher_leaveBody) d_Matcher_leaveBody_105 rfl ?_
          refine mm_bipush (M := M_Matcher_leaveBody) (v := 8) d_Matcher_leaveBody_106 (by decide) ?_
          refine mm_icmp_ne (M := M_Matcher_leaveBody) 116 d_Matcher_leaveBody_108 (by decide) (fun c => ?_) (fun c => ?_)
          · have h := h.1 c
            refine mm_iconst (M := M_Matcher_leaveBody) (v := 4) d_Matcher_leaveBody_116 (by decide) ?_
            refine mm_iload_n (M := M_Matcher_leaveBody) d_Matcher_leaveBody_117 rfl ?_
            refine mm_eqs (st2 := [.int 4, .int x2].reverse ++ .ref 19 :: []) rfl ?_
            refine mm_callV (M := M_Matcher_leaveBody) (y := y_Matcher_go) (M' := M_Matcher_go) (d' := 0) (kc := 0) (ks := 0) (kc' := 0) (ks' := 0) (n := 2) d_Matcher_leaveBody_118 ok_Matcher_go ml_Matcher_88 (by decide) rfl (Nat.le_of_ble_eq_true rfl) ⟨tw_544, ts_Matcher_go⟩ wg_19 rfl (ct_Matcher_go_19 h) (fun v w h => ?_)
            obtain ⟨i22, l22, a22, b22, rfl, rfl, h⟩ := h
            refine mm_eqs (st2 := []) rfl ?_
            exact mm_ret (M := M_Matcher_leaveBody) ⟨rfl, d_Matcher_leaveBody_121⟩ ⟨_, _, _, _, rfl, rfl, h⟩
          · have h := h.2 c
            refine mm_bipush (M := M_Matcher_leaveBody) (v := 7) d_Matcher_leaveBody_111 (by decide) ?_
            refine mm_goto (M := M_Matcher_leaveBody) (tgt := 117) d_Matcher_leaveBody_113 (by decide) ?_
            refine mm_iload_n (M := M_Matcher_leaveBody) d_Matcher_leaveBody_117 rfl ?_
            refine mm_eqs (st2 := [.int 7, .int x2].reverse ++ .ref 19 :: []) rfl ?_
            refine mm_callV (M := M_Matcher_leaveBody) (y := y_Matcher_go) (M' := M_Matcher_go) (d' := 0) (kc := 0) (ks := 0) (kc' := 0) (ks' := 0) (n := 2) d_Matcher_leaveBody_118 ok_Matcher_go ml_Matcher_88 (by decide) rfl (Nat.le_of_ble_eq_true rfl) ⟨tw_544, ts_Matcher_go⟩ wg_19 rfl (ct_Matcher_go_19 h) (fun v w h => ?_)
            obtain ⟨i23, l23, a23, b23, rfl, rfl, h⟩ := h
            refine mm_eqs (st2 := []) rfl ?_
            exact mm_ret (M := M_Matcher_leaveBody) ⟨rfl, d_Matcher_leaveBody_121⟩ ⟨_, _, _, _, rfl, rfl, h⟩
      · have h := h.2 c
        refine mm_aload_n (M := M_Matcher_leaveBody) d_Matcher_leaveBody_28 rfl ?_
        refine mm_getf (M := M_Matcher_leaveBody) (u := .ref 41) 5 4 d_Matcher_leaveBody_29 fl_Matcher_60 wg_19 rfl ?_
        refine mm_aload_n (M := M_Matcher_leaveBody) d_Matcher_leaveBody_32 rfl ?_
        refine mm_getf (M := M_Matcher_leaveBody) (u := .ref 33) 5 3 d_Matcher_leaveBody_33 fl_Matcher_53 wg_19 rfl ?_
        refine mm_getf (M := M_Matcher_leaveBody) (u := .ref 36) 3 2 d_Matcher_leaveBody_36 fl_Matcher_218 wg_33 rfl ?_
        refine mm_iload_n (M := M_Matcher_leaveBody) d_Matcher_leaveBody_39 rfl ?_
        obtain ⟨hin, h⟩ := h
        refine mm_iald (M := M_Matcher_leaveBody) (f := (a 36)) d_Matcher_leaveBody_40 wg_36 hin ?_
        refine mm_eqs (st2 := [.int ((a 36) x1.toNatClampNeg)].reverse ++ .ref 41 :: []) rfl ?_
        refine mm_callV (M := M_Matcher_leaveBody) (y := y_Choices_cutTo) (M' := M_Choices_cutTo) (d' := 0) (kc := 0) (ks := 0) (kc' := 0) (ks' := 0) (n := 1) d_Matcher_leaveBody_41 ok_Choices_cutTo ml_Matcher_81 (by decide) rfl (Nat.le_of_ble_eq_true rfl) ⟨tw_539, tw_540⟩ wg_41 rfl (ct_Choices_cutTo_41 h) (fun v w h => ?_)
        obtain ⟨i24, l24, a24, b24, rfl, rfl, h⟩ := h
        refine mm_eqs (st2 := []) rfl ?_
        refine mm_iload_n (M := M_Matcher_leaveBody) d_Matcher_leaveBody_44 rfl ?_
        refine mm_iconst (M := M_Matcher_leaveBody) (v := 5) d_Matcher_leaveBody_45 (by decide) ?_
        refine mm_icmp_ne (M := M_Matcher_leaveBody) 85 d_Matcher_leaveBody_46 (by decide) (fun c => ?_) (fun c => ?_)
        · have h := h.1 c
          refine mm_iload_n (M := M_Matcher_leaveBody) d_Matcher_leaveBody_85 rfl ?_
          refine mm_bipush (M := M_Matcher_leaveBody) (v := 7) d_Matcher_leaveBody_86 (by decide) ?_
          refine mm_icmp_ne (M := M_Matcher_leaveBody) 104 d_Matcher_leaveBody_88 (by decide) (fun c => ?_) (fun c => ?_)
          · have h := h.1 c
            refine mm_aload_n (M := M_Matcher_leaveBody) d_Matcher_leaveBody_104 rfl ?_
            refine mm_iload_n (M := M_Matcher_leaveBody) d_Matcher_leaveBody_105 rfl ?_
            refine mm_bipush (M := M_Matcher_leaveBody) (v := 8) d_Matcher_leaveBody_106 (by decide) ?_
            refine mm_icmp_ne (M := M_Matcher_leaveBody) 116 d_Matcher_leaveBody_108 (by decide) (fun c => ?_) (fun c => ?_)
            · have h := h.1 c
              refine mm_iconst (M := M_Matcher_leaveBody) (v := 4) d_Matcher_leaveBody_116 (by decide) ?_
              refine mm_iload_n (M := M_Matcher_leaveBody) d_Matcher_leaveBody_117 rfl ?_
              refine mm_eqs (st2 := [.int 4, .int x2].reverse ++ .ref 19 :: []) rfl ?_
              refine mm_callV (M := M_Matcher_leaveBody) (y := y_Matcher_go) (M' := M_Matcher_go) (d' := 0) (kc := 0) (ks := 0) (kc' := 0) (ks' := 0) (n := 2) d_Matcher_leaveBody_118 ok_Matcher_go ml_Matcher_88 (by decide) rfl (Nat.le_of_ble_eq_true rfl) ⟨tw_544, ts_Matcher_go⟩ wg_19 rfl (ct_Matcher_go_19 h) (fun v w h => ?_)
              obtain ⟨i25, l25, a25, b25, rfl, rfl, h⟩ := h
              refine mm_eqs (st2 := []) rfl ?_
              exact mm_ret (M := M_Matcher_leaveBody) ⟨rfl, d_Matcher_leaveBody_121⟩ ⟨_, _, _, _, rfl, rfl, h⟩
            · have h := h.2 c
              refine mm_bipush (M := M_Matcher_leaveBody) (v := 7) d_Matcher_leaveBody_111 (by decide) ?_
              refine mm_goto (M := M_Matcher_leaveBody) (tgt := 117) d_Matcher_leaveBody_113 (by decide) ?_
              refine mm_iload_n (M := M_Matcher_leaveBody) d_Matcher_leaveBody_117 rfl ?_
              refine mm_eqs (st2 := [.int 7, .int x2].reverse ++ .ref 19 :: []) rfl ?_
              refine mm_callV (M := M_Matcher_leaveBody) (y := y_Matcher_go) (M' := M_Matcher_go) (d' := 0) (kc := 0) (ks := 0) (kc' := 0) (ks' := 0) (n := 2) d_Matcher_leaveBody_118 ok_Matcher_go ml_Matcher_88 (by decide) rfl (Nat.le_of_ble_eq_true rfl) ⟨tw_544, ts_Matcher_go⟩ wg_19 rfl (ct_Matcher_go_19 h) (fun v w h => ?_)
              obtain ⟨i26, l26, a26, b26, rfl, rfl, h⟩ := h
              refine mm_eqs (st2 := []) rfl ?_
              exact mm_ret (M := M_Matcher_leaveBody) ⟨rfl, d_Matcher_leaveBody_121⟩ ⟨_, _, _, _, rfl, rfl, h⟩
          · have h := h.2 c
            refine mm_aload_n (M := M_Matcher_leaveBody) d_Matcher_leaveBody_91 rfl ?_
            refine mm_aload_n (M := M_Matcher_leaveBody) d_Matcher_leaveBody_92 rfl ?_
            refine mm_getf (M := M_Matcher_leaveBody) (u := .ref 33) 5 3 d_Matcher_leaveBody_93 fl_Matcher_53 wg_19 rfl ?_
            refine mm_getf (M := M_Matcher_leaveBody) (u := .ref 37) 3 3 d_Matcher_leaveBody_96 fl_Matcher_214 wg_33 rfl ?_
            refine mm_iload_n (M := M_Matcher_leaveBody) d_Matcher_leaveBody_99 rfl ?_
            obtain ⟨hin, h⟩ := h
            refine mm_iald (M := M_Matcher_leaveBody) (f := (a24 37)) d_Matcher_leaveBody_100 wg_37 hin ?_
            refine mm_putf (M := M_Matcher_leaveBody) 5 8 .int d_Matcher_leaveBody_101 fl_Matcher_37 fp_Matcher_37 ft_5_8 wg_19 (Nat.le_of_ble_eq_true rfl) trivial ?_
            refine mm_eqw ws_312 ?_
            refine mm_aload_n (M := M_Matcher_leaveBody) d_Matcher_leaveBody_104 rfl ?_
            refine mm_iload_n (M := M_Matcher_leaveBody) d_Matcher_leaveBody_105 rfl ?_
            refine mm_bipush (M := M_Matcher_leaveBody) (v := 8) d_Matcher_leaveBody_106 (by decide) ?_
            refine mm_icmp_ne (M := M_Matcher_leaveBody) 116 d_Matcher_leaveBody_108 (by decide) (fun c => ?_) (fun c => ?_)
            · have h := h.1 c
              refine mm_iconst (M := M_Matcher_leaveBody) (v := 4) d_Matcher_leaveBody_116 (by decide) ?_
              refine mm_iload_n (M := M_Matcher_leaveBody) d_Matcher_leaveBody_117 rfl ?_
              refine mm_eqs (st2 := [.int 4, .int x2].reverse ++ .ref 19 :: []) rfl ?_
              refine mm_callV (M := M_Matcher_leaveBody) (y := y_Matcher_go) (M' := M_Matcher_go) (d' := 0) (kc := 0) (ks := 0) (kc' := 0) (ks' := 0) (n := 2) d_Matcher_leaveBody_118 ok_Matcher_go ml_Matcher_88 (by decide) rfl (Nat.le_of_ble_eq_true rfl) ⟨tw_544, ts_Matcher_go⟩ wg_19 rfl (ct_Matcher_go_19 h) (fun v w h => ?_)
              obtain ⟨i27, l27, a27, b27, rfl, rfl, h⟩ := h
              refine mm_eqs (st2 := []) rfl ?_
              exact mm_ret (M := M_Matcher_leaveBody) ⟨rfl, d_Matcher_leaveBody_121⟩ ⟨_, _, _, _, rfl, rfl, h⟩
            · have h := h.2 c
              refine mm_bipush (M := M_Matcher_leaveBody) (v := 7) d_Matcher_leaveBody_111 (by decide) ?_
              refine mm_goto (M := M_Matcher_leaveBody) (tgt := 117) d_Matcher_leaveBody_113 (by decide) ?_
              refine mm_iload_n (M := M_Matcher_leaveBody) d_Matcher_leaveBody_117 rfl ?_
              refine mm_eqs (st2 := [.int 7, .int x2].reverse ++ .ref 19 :: []) rfl ?_
              refine mm_callV (M := M_Matcher_leaveBody) (y := y_Matcher_go) (M' := M_Matcher_go) (d' := 0) (kc := 0) (ks := 0) (kc' := 0) (ks' := 0) (n := 2) d_Matcher_leaveBody_118 ok_Matcher_go ml_Matcher_88 (by decide) rfl (Nat.le_of_ble_eq_true rfl) ⟨tw_544, ts_Matcher_go⟩ wg_19 rfl (ct_Matcher_go_19 h) (fun v w h => ?_)
              obtain ⟨i28, l28, a28, b28, rfl, rfl, h⟩ := h
              refine mm_eqs (st2 := []) rfl ?_
              exact mm_ret (M := M_Matcher_leaveBody) ⟨rfl, d_Matcher_leaveBody_121⟩ ⟨_, _, _, _, rfl, rfl, h⟩
        · have h := h.2 c
          refine mm_aload_n (M := M_Matcher_leaveBody) d_Matcher_leaveBody_49 rfl ?_
          refine mm_aload_n (M := M_Matcher_leaveBody) d_Matcher_leaveBody_50 rfl ?_
          refine mm_getf (M := M_Matcher_leaveBody) (u := .long (l24 313)) 5 9 d_Matcher_leaveBody_51 fl_Matcher_40 wg_19 rfl ?_
          refine mm_aload_n (M := M_Matcher_leaveBody) d_Matcher_leaveBody_54 rfl ?_
          refine mm_getf (M := M_Matcher_leaveBody) (u := .ref 22) 5 1 d_Matcher_leaveBody_55 fl_Matcher_23 wg_19 rfl ?_
          refine mm_getf (M := M_Matcher_leaveBody) (u := .ref 24) 1 1 d_Matcher_leaveBody_58 fl_Matcher_169 wg_22 rfl ?_
          refine mm_iload_n (M := M_Matcher_leaveBody) d_Matcher_leaveBody_61 rfl ?_
          obtain ⟨hin, h⟩ := h
          refine mm_iald (M := M_Matcher_leaveBody) (f := (a24 24)) d_Matcher_leaveBody_62 wg_24 hin ?_
          refine mm_aload_n (M := M_Matcher_leaveBody) d_Matcher_leaveBody_63 rfl ?_
          refine mm_getf (M := M_Matcher_leaveBody) (u := .ref 33) 5 3 d_Matcher_leaveBody_64 fl_Matcher_53 wg_19 rfl ?_
          refine mm_getf (M := M_Matcher_leaveBody) (u := .ref 37) 3 3 d_Matcher_leaveBody_67 fl_Matcher_214 wg_33 rfl ?_
          refine mm_iload_n (M := M_Matcher_leaveBody) d_Matcher_leaveBody_70 rfl ?_
          obtain ⟨hin, h⟩ := h
          refine mm_iald (M := M_Matcher_leaveBody) (f := (a24 37)) d_Matcher_leaveBody_71 wg_37 hin ?_
          refine mm_aload_n (M := M_Matcher_leaveBody) d_Matcher_leaveBody_72 rfl ?_
          refine mm_getf (M := M_Matcher_leaveBody) (u := .int (i24 312)) 5 8 d_Matcher_leaveBody_73 fl_Matcher_37 wg_19 rfl ?_
          refine mm_eqs (st2 := [.long (l24 313), .int ((a24 24) x2.toNatClampNeg), .int ((a24 37) x1.toNatClampNeg), .int (i24 312)].reverse ++ [.ref 19]) rfl ?_
          refine mm_callS (M := M_Matcher_leaveBody) (y := y_Captures_with) (M' := M_Captures_with) (d' := 0) (kc := 0) (ks := 0) (kc' := 0) (ks' := 0) (n := 4) d_Matcher_leaveBody_76 ok_Captures_with ml_Matcher_221 (by decide) rfl (Nat.le_of_ble_eq_true rfl) tw_634 (ct_Captures_with h) (fun v w h => ?_)
          obtain ⟨r29, i29, l29, a29, b29, rfl, rfl, h⟩ := h
          refine mm_eqs (st2 := [.long r29, .ref 19]) rfl ?_
          refine mm_putf (M := M_Matcher_leaveBody) 5 9 .long d_Matcher_leaveBody_79 fl_Matcher_40 fp_Matcher_40 ft_5_9 wg_19 (Nat.le_of_ble_eq_true rfl) trivial ?_
          refine mm_eqw ws_313 ?_
          refine mm_goto (M := M_Matcher_leaveBody) (tgt := 104) d_Matcher_leaveBody_82 (by decide) ?_
          refine mm_aload_n (M := M_Matcher_leaveBody) d_Matcher_leaveBody_104 rfl ?_
          refine mm_iload_n (M := M_Matcher_leaveBody) d_Matcher_leaveBody_105 rfl ?_
          refine mm_bipush (M := M_Matcher_leaveBody) (v := 8) d_Matcher_leaveBody_106 (by decide) ?_
          refine mm_icmp_ne (M := M_Matcher_leaveBody) 116 d_Matcher_leaveBody_108 (by decide) (fun c => ?_) (fun c => ?_)
          · have h := h.1 c
            refine mm_iconst (M := M_Matcher_leaveBody) (v := 4) d_Matcher_leaveBody_116 (by decide) ?_
            refine mm_iload_n (M := M_Matcher_leaveBody) d_Matcher_leaveBody_117 rfl ?_
            refine mm_eqs (st2 := [.int 4, .int x2].reverse ++ .ref 19 :: []) rfl ?_
            refine mm_callV (M := M_Matcher_leaveBody) (y := y_Matcher_go) (M' := M_Matcher_go) (d' := 0) (kc := 0) (ks := 0) (kc' := 0) (ks' := 0) (n := 2) d_Matcher_leaveBody_118 ok_Matcher_go ml_Matcher_88 (by decide) rfl (Nat.le_of_ble_eq_true rfl) ⟨tw_544, ts_Matcher_go⟩ wg_19 rfl (ct_Matcher_go_19 h) (fun v w h => ?_)
            obtain ⟨i30, l30, a30, b30, rfl, rfl, h⟩ := h
            refine mm_eqs (st2 := []) rfl ?_
            exact mm_ret (M := M_Matcher_leaveBody) ⟨rfl, d_Matcher_leaveBody_121⟩ ⟨_, _, _, _, rfl, rfl, h⟩
          · have h := h.2 c
            refine mm_bipush (M := M_Matcher_leaveBody) (v := 7) d_Matcher_leaveBody_111 (by decide) ?_
            refine mm_goto (M := M_Matcher_leaveBody) (tgt := 117) d_Matcher_leaveBody_113 (by decide) ?_
            refine mm_iload_n (M := M_Matcher_leaveBody) d_Matcher_leaveBody_117 rfl ?_
            refine mm_eqs (st2 := [.int 7, .int x2].reverse ++ .ref 19 :: []) rfl ?_
            refine mm_callV (M := M_Matcher_leaveBody) (y := y_Matcher_go) (M' := M_Matcher_go) (d' := 0) (kc := 0) (ks := 0) (kc' := 0) (ks' := 0) (n := 2) d_Matcher_leaveBody_118 ok_Matcher_go ml_Matcher_88 (by decide) rfl (Nat.le_of_ble_eq_true rfl) ⟨tw_544, ts_Matcher_go⟩ wg_19 rfl (ct_Matcher_go_19 h) (fun v w h => ?_)
            obtain ⟨i31, l31, a31, b31, rfl, rfl, h⟩ := h
            refine mm_eqs (st2 := []) rfl ?_
            exact mm_ret (M := M_Matcher_leaveBody) ⟨rfl, d_Matcher_leaveBody_121⟩ ⟨_, _, _, _, rfl, rfl, h⟩
def wp_Matcher_resume_19 (n1 n2 : Nat) (i : mm_i) (l : mm_j) (a : mm_a) (b : mm_b) (x1 : Int32) (K : mm_i → mm_j → mm_a → mm_b → Prop) : Prop :=
  vp_in x1 n1 ∧ (vp_in x1 n1 ∧ (vp_in x1 n1 ∧ ((((a 34) x1.toNatClampNeg) = 1 → wp_Matcher_leaveBody_19 n1 n2 (upd i 311 ((a 39) x1.toNatClampNeg)) l a b x1 ((a 35) x1.toNatClampNeg) (fun i1 l1 a1 b1 => K i1 l1 a1 b1)) ∧ (¬ ((a 34) x1.toNatClampNeg) = 1 → (((a 34) x1.toNatClampNeg) = 2 → vp_in x1 n1 ∧ (wp_Matcher_go_19 n1 n2 (upd i 311 ((a 39) x1.toNatClampNeg)) (vp_updL l 313 ((b 38) x1.toNatClampNeg)) a b 4 ((a 35) x1.toNatClampNeg) (fun i2 l2 a2 b2 => K i2 l2 a2 b2))) ∧ (¬ ((a 34) x1.toNatClampNeg) = 2 → (((a 34) x1.toNatClampNeg) = 3 → vp_in x1 n1 ∧ ((¬ (i 312) = ((a 37) x1.toNatClampNeg) → wp_Matcher_fork_19 n1 n2 (upd i 311 ((a 39) x1.toNatClampNeg)) l a b ((a 35) x1.toNatClampNeg) (fun i3 l3 a3 b3 => K i3 l3 a3 b3)) ∧ ((i 312) = ((a 37) x1.toNatClampNeg) → wp_Matcher_go_19 n1 n2 (upd i 311 ((a 39) x1.toNatClampNeg)) l a b 5 ((a 35) x1.toNatClampNeg) (fun i4 l4 a4 b4 => K i4 l4 a4 b4)))) ∧ (¬ ((a 34) x1.toNatClampNeg) = 3 → (((a 34) x1.toNatClampNeg) = 4 → wp_Matcher_fork_19 n1 n2 (upd i 311 ((a 39) x1.toNatClampNeg)) l a b ((a 35) x1.toNatClampNeg) (fun i5 l5 a5 b5 => K i5 l5 a5 b5)) ∧ (¬ ((a 34) x1.toNatClampNeg) = 4 → (((a 34) x1.toNatClampNeg) = 5 → wp_Matcher_leaveTimesTurn_19 n1 n2 (upd i 311 ((a 39) x1.toNatClampNeg)) l a b x1 ((a 35) x1.toNatClampNeg) (fun i6 l6 a6 b6 => K i6 l6 a6 b6)) ∧ (¬ ((a 34) x1.toNatClampNeg) = 5 → (((a 34) x1.toNatClampNeg) = 6 → vp_in x1 n1 ∧ (wp_Choices_cutTo_41 n1 n2 (upd i 311 ((a 39) x1.toNatClampNeg)) l a b ((a 36) x1.toNatClampNeg) (fun i7 l7 a7 b7 => vp_in ((a 35) x1.toNatClampNeg) 32 ∧ (wp_Matcher_go_19 n1 n2 i7 l7 a7 b7 1 ((a7 29) ((a 35) x1.toNatClampNeg).toNatClampNeg) (fun i8 l8 a8 b8 => K i8 l8 a8 b8))))) ∧ (¬ ((a 34) x1.toNatClampNeg) = 6 → K (upd (upd i 311 ((a 39) x1.toNatClampNeg)) 309 8) l a b)))))))))
set_option maxRecDepth 100000 in
set_option maxHeartbeats 4000000 in
theorem ct_Matcher_resume_19 {n1 n2 : Nat} {i : mm_i} {l : mm_j} {a : mm_a} {b : mm_b} {t : mm_H} {x1 : Int32} {K : mm_i → mm_j → mm_a → mm_b → Prop} (h : wp_Matcher_resume_19 n1 n2 i l a b x1 K) : mm_Ct y_Matcher_resume M_Matcher_resume 2 0 0 [.ref 19, .int x1] (Wd 4 22 n1 n2 i l a b ++ t) (mm_PV n1 n2 t K) := by
  refine mm_Ct.of (by decide) rfl (fun q => absurd q (by decide)) (Nat.le_of_ble_eq_true rfl) ?_
  unfold wp_Matcher_resume_19 at h
  refine mm_eqL (L' := [some (.ref 19), some (.int x1), none]) rfl ?_
  refine mm_aload_n (M := M_Matcher_resume) d_Matcher_resume_0 rfl ?_
  refine mm_getf (M := M_Matcher_resume) (u := .ref 33) 5 3 d_Matcher_resume_1 fl_Matcher_53 wg_19 rfl ?_
  refine mm_getf (M := M_Matcher_resume) (u := .ref 35) 3 1 d_Matcher_resume_4 fl_Matcher_203 wg_33 rfl ?_
  refine mm_iload_n (M := M_Matcher_resume) d_Matcher_resume_7 rfl ?_
  obtain ⟨hin, h⟩ := h
  refine mm_iald (M := M_Matcher_resume) (f := (a 35)) d_Matcher_resume_8 wg_35 hin ?_
  refine mm_istore_n (M := M_Matcher_resume) d_Matcher_resume_9 (Nat.le_of_ble_eq_true rfl) ?_
  refine mm_eqL (L' := [some (.ref 19), some (.int x1), some (.int ((a 35) x1.toNatClampNeg))]) rfl ?_
  refine mm_aload_n (M := M_Matcher_resume) d_Matcher_resume_10 rfl ?_
  refine mm_aload_n (M := M_Matcher_resume) d_Matcher_resume_11 rfl ?_
  refine mm_getf (M := M_Matcher_resume) (u := .ref 33) 5 3 d_Matcher_resume_12 fl_Matcher_53 wg_19 rfl ?_
  refine mm_getf (M := M_Matcher_resume) (u := .ref 39) 3 5 d_Matcher_resume_15 fl_Matcher_206 wg_33 rfl ?_
  refine mm_iload_n (M := M_Matcher_resume) d_Matcher_resume_18 rfl ?_
  obtain ⟨hin, h⟩ := h
  refine mm_iald (M := M_Matcher_resume) (f := (a 39)) d_Matcher_resume_19 wg_39 hin ?_
  refine mm_putf (M := M_Matcher_resume) 5 7 .int d_Matcher_resume_20 fl_Matcher_34 fp_Matcher_34 ft_5_7 wg_19 (Nat.le_of_ble_eq_true rfl) trivial ?_
  refine mm_eqw ws_311 ?_
  refine mm_aload_n (M := M_Matcher_resume) d_Matcher_resume_23 rfl ?_
  refine mm_getf (M := M_Matcher_resume) (u := .ref 33) 5 3 d_Matcher_resume_24 fl_Matcher_53 wg_19 rfl ?_
  refine mm_getf (M := M_Matcher_resume) (u := .ref 34) 3 0 d_Matcher_resume_27 fl_Matcher_209 wg_33 rfl ?_
  refine mm_iload_n (M := M_Matcher_resume) d_Matcher_resume_30 rfl ?_
  obtain ⟨hin, h⟩ := h
  refine mm_iald (M := M_Matcher_resume) (f := (a 34)) d_Matcher_resume_31 wg_34 hin ?_
  refine mm_table (M := M_Matcher_resume) [(1, 72), (2, 81), (3, 103), (4, 136), (5, 144), (6, 153)] 186 d_Matcher_resume_32 (by decide) (by decide +kernel) (by decide +kernel) (by decide) ⟨fun c0 => ?_, fun c0 => ⟨fun c1 => ?_, fun c1 => ⟨fun c2 => ?_, fun c2 => ⟨fun c3 => ?_, fun c3 => ⟨fun c4 => ?_, fun c4 => ⟨fun c5 => ?_, fun c5 => ?_⟩⟩⟩⟩⟩⟩
  · have h := h.1 c0
    refine mm_aload_n (M := M_Matcher_resume) d_Matcher_resume_72 rfl ?_
    refine mm_iload_n (M := M_Matcher_resume) d_Matcher_resume_73 rfl ?_
    refine mm_iload_n (M := M_Matcher_resume) d_Matcher_resume_74 rfl ?_
    refine mm_eqs (st2 := [.int x1, .int ((a 35) x1.toNatClampNeg)].reverse ++ .ref 19 :: []) rfl ?_
    refine mm_callV (M := M_Matcher_resume) (y := y_Matcher_leaveBody) (M' := M_Matcher_leaveBody) (d' := 1) (kc := 0) (ks := 0) (kc' := 0) (ks' := 0) (n := 2) d_Matcher_resume_75 ok_Matcher_leaveBody ml_Matcher_210 (by decide) rfl (Nat.le_of_ble_eq_true rfl) ⟨tw_631, ts_Matcher_leaveBody⟩ wg_19 rfl (ct_Matcher_leaveBody_19 h) (fun v w h => ?_)
    obtain ⟨i1, l1, a1, b1, rfl, rfl, h⟩ := h
    refine mm_eqs (st2 := []) rfl ?_
    refine mm_goto (M := M_Matcher_resume) (tgt := 192) d_Matcher_resume_78 (by decide) ?_
    exact mm_ret (M := M_Matcher_resume) ⟨rfl, d_Matcher_resume_192⟩ ⟨_, _, _, _, rfl, rfl, h⟩
  · have h := (h.2 c0).1 c1
    refine mm_aload_n (M := M_Matcher_resume) d_Matcher_resume_81 rfl ?_
    refine mm_aload_n (M := M_Matcher_resume) d_Matcher_resume_82 rfl ?_
    refine mm_getf (M := M_Matcher_resume) (u := .ref 33) 5 3 d_Matcher_resume_83 fl_Matcher_53 wg_19 rfl ?_
    refine mm_getf (M := M_Matcher_resume) (u := .ref 38) 3 4 d_Matcher_resume_86 fl_Matcher_213 wg_33 rfl ?_
    refine mm_iload_n (M := M_Matcher_resume) d_Matcher_resume_89 rfl ?_
    obtain ⟨hin, h⟩ := h
    refine mm_lald (M := M_Matcher_resume) (f := (b 38)) d_Matcher_resume_90 wg_38 hin ?_
    refine mm_putf (M := M_Matcher_resume) 5 9 .long d_Matcher_resume_91 fl_Matcher_40 fp_Matcher_40 ft_5_9 wg_19 (Nat.le_of_ble_eq_true rfl) trivial ?_
    refine mm_eqw ws_313 ?_
    refine mm_aload_n (M := M_Matcher_resume) d_Matcher_resume_94 rfl ?_
    refine mm_iconst (M := M_Matcher_resume) (v := 4) d_Matcher_resume_95 (by decide) ?_
    refine mm_iload_n (M := M_Matcher_resume) d_Matcher_resume_96 rfl ?_
    refine mm_eqs (st2 := [.int 4, .int ((a 35) x1.toNatClampNeg)].reverse ++ .ref 19 :: []) rfl ?_
    refine mm_callV (M := M_Matcher_resume) (y := y_Matcher_go) (M' := M_Matcher_go) (d' := 0) (kc := 0) (ks := 0) (kc' := 0) (ks' := 0) (n := 2) d_Matcher_resume_97 ok_Matcher_go ml_Matcher_88 (by decide) rfl (Nat.le_of_ble_eq_true rfl) ⟨tw_544, ts_Matcher_go⟩ wg_19 rfl (ct_Matcher_go_19 h) (fun v w h => ?_)
    obtain ⟨i2, l2, a2, b2, rfl, rfl, h⟩ := h
    refine mm_eqs (st2 := []) rfl ?_
    refine mm_goto (M := M_Matcher_resume) (tgt := 192) d_Matcher_resume_100 (by decide) ?_
    exact mm_ret (M := M_Matcher_resume) ⟨rfl, d_Matcher_resume_192⟩ ⟨_, _, _, _, rfl, rfl, h⟩
  · have h := ((h.2 c0).2 c1).1 c2
    refine mm_aload_n (M := M_Matcher_resume) d_Matcher_resume_103 rfl ?_
    refine mm_getf (M := M_Matcher_resume) (u := .int (i 312)) 5 8 d_Matcher_resume_104 fl_Matcher_37 wg_19 rfl ?_
    refine mm_aload_n (M := M_Matcher_resume) d_Matcher_resume_107 rfl ?_
    refine mm_getf (M := M_Matcher_resume) (u := .ref 33) 5 3 d_Matcher_resume_108 fl_Matcher_53 wg_19 rfl ?_
    refine mm_getf (M := M_Matcher_resume) (u := .ref 37) 3 3 d_Matcher_resume_111 fl_Matcher_214 wg_33 rfl ?_
    refine mm_iload_n (M := M_Matcher_resume) d_Matcher_resume_114 rfl ?_
    obtain ⟨hin, h⟩ := h
    refine mm_iald (M := M_Matcher_resume) (f := (a 37)) d_Matcher_resume_115 wg_37 hin ?_
    refine mm_icmp_ne (M := M_Matcher_resume) 128 d_Matcher_resume_116 (by decide) (fun c => ?_) (fun c => ?_)
    · have h := h.1 c
      refine mm_aload_n (M := M_Matcher_resume) d_Matcher_resume_128 rfl ?_
      refine mm_iload_n (M := M_Matcher_resume) d_Matcher_resume_129 rfl ?_
      refine mm_eqs (st2 := [.int ((a 35) x1.toNatClampNeg)].reverse ++ .ref 19 :: []) rfl ?_
      refine mm_callV (M := M_Matcher_resume) (y := y_Matcher_fork) (M' := M_Matcher_fork) (d' := 1) (kc := 0) (ks := 0) (kc' := 0) (ks' := 0) (n := 1) d_Matcher_resume_130 ok_Matcher_fork ml_Matcher_146 (by decide) rfl (Nat.le_of_ble_eq_true rfl) ⟨tw_581, ts_Matcher_fork⟩ wg_19 rfl (ct_Matcher_fork_19 h) (fun v w h => ?_)
      obtain ⟨i3, l3, a3, b3, rfl, rfl, h⟩ := h
      refine mm_eqs (st2 := []) rfl ?_
      refine mm_goto (M := M_Matcher_resume) (tgt := 192) d_Matcher_resume_133 (by decide) ?_
      exact mm_ret (M := M_Matcher_resume) ⟨rfl, d_Matcher_resume_192⟩ ⟨_, _, _, _, rfl, rfl, h⟩
    · have h := h.2 c
      refine mm_aload_n (M := M_Matcher_resume) d_Matcher_resume_119 rfl ?_
      refine mm_iconst (M := M_Matcher_resume) (v := 5) d_Matcher_resume_120 (by decide) ?_
      refine mm_iload_n (M := M_Matcher_resume) d_Matcher_resume_121 rfl ?_
      refine mm_eqs (st2 := [.int 5, .int ((a 35) x1.toNatClampNeg)].reverse ++ .ref 19 :: []) rfl ?_
      refine mm_callV (M := M_Matcher_resume) (y := y_Matcher_go) (M' := M_Matcher_go) (d' := 0) (kc := 0) (ks := 0) (kc' := 0) (ks' := 0) (n := 2) d_Matcher_resume_122 ok_Matcher_go ml_Matcher_88 (by decide) rfl (Nat.le_of_ble_eq_true rfl) ⟨tw_544, ts_Matcher_go⟩ wg_19 rfl (ct_Matcher_go_19 h) (fun v w h => ?_)
      obtain ⟨i4, l4, a4, b4, rfl, rfl, h⟩ := h
      refine mm_eqs (st2 := []) rfl ?_
      refine mm_goto (M := M_Matcher_resume) (tgt := 192) d_Matcher_resume_125 (by decide) ?_
      exact mm_ret (M := M_Matcher_resume) ⟨rfl, d_Matcher_resume_192⟩ ⟨_, _, _, _, rfl, rfl, h⟩
  · have h := (((h.2 c0).2 c1).2 c2).1 c3
    refine mm_aload_n (M := M_Matcher_resume) d_Matcher_resume_136 rfl ?_
    refine mm_iload_n (M := M_Matcher_resume) d_Matcher_resume_137 rfl ?_
    refine mm_eqs (st2 := [.int ((a 35) x1.toNatClampNeg)].reverse ++ .ref 19 :: []) rfl ?_
    refine mm_callV (M := M_Matcher_resume) (y := y_Matcher_fork) (M' := M_Matcher_fork) (d' := 1) (kc := 0) (ks := 0) (kc' := 0) (ks' := 0) (n := 1) d_Matcher_resume_138 ok_Matcher_fork ml_Matcher_146 (by decide) rfl (Nat.le_of_ble_eq_true rfl) ⟨tw_581, ts_Matcher_fork⟩ wg_19 rfl (ct_Matcher_fork_19 h) (fun v w h => ?_)
    obtain ⟨i5, l5, a5, b5, rfl, rfl, h⟩ := h
    refine mm_eqs (st2 := []) rfl ?_
    refine mm_goto (M := M_Matcher_resume) (tgt := 192) d_Matcher_resume_141 (by decide) ?_
    exact mm_ret (M := M_Matcher_resume) ⟨rfl, d_Matcher_resume_192⟩ ⟨_, _, _, _, rfl, rfl, h⟩
  · have h := ((((h.2 c0).2 c1).2 c2).2 c3).1 c4
    refine mm_aload_n (M := M_Matcher_resume) d_Matcher_resume_144 rfl ?_
    refine mm_iload_n (M := M_Matcher_resume) d_Matcher_resume_145 rfl ?_
    refine mm_iload_n (M := M_Matcher_resume) d_Matcher_resume_146 rfl ?_
    refine mm_eqs (st2 := [.int x1, .int ((a 35) x1.toNatClampNeg)].reverse ++ .ref 19 :: []) rfl ?_
    refine mm_callV (M := M_Matcher_resume) (y := y_Matcher_leaveTimesTurn) (M' := M_Matcher_leaveTimesTurn) (d' := 1) (kc := 0) (ks := 0) (kc' := 0) (ks' := 0) (n := 2) d_Matcher_resume_147 ok_Matcher_leaveTimesTurn ml_Matcher_215 (by decide) rfl (Nat.le_of_ble_eq_true rfl) ⟨tw_640, ts_Matcher_leaveTimesTurn⟩ wg_19 rfl (ct_Matcher_leaveTimesTurn_19 h) (fun v w h => ?_)
    obtain ⟨i6, l6, a6, b6, rfl, rfl, h⟩ := h
    refine mm_eqs (st2 := []) rfl ?_
    refine mm_goto (M := M_Matcher_resume) (tgt := 192) d_Matcher_resume_150 (by decide) ?_
    exact mm_ret (M := M_Matcher_resume) ⟨rfl, d_Matcher_resume_192⟩ ⟨_, _, _, _, rfl, rfl, h⟩
  · have h := (((((h.2 c0).2 c1).2 c2).2 c3).2 c4).1 c5
    refine mm_aload_n (M := M_Matcher_resume) d_Matcher_resume_153 rfl ?_
    refine mm_getf (M := M_Matcher_resume) (u := .ref 41) 5 4 d_Matcher_resume_154 fl_Matcher_60 wg_19 rfl ?_
    refine mm_aload_n (M := M_Matcher_resume) d_Matcher_resume_157 rfl ?_
    refine mm_getf (M := M_Matcher_resume) (u := .ref 33) 5 3 d_Matcher_resume_158 fl_Matcher_53 wg_19 rfl ?_
    refine mm_getf (M := M_Matcher_resume) (u := .ref 36) 3 2 d_Matcher_resume_161 fl_Matcher_218 wg_33 rfl ?_
    refine mm_iload_n (M := M_Matcher_resume) d_Matcher_resume_164 rfl ?_
    obtain ⟨hin, h⟩ := h
    refine mm_iald (M := M_Matcher_resume) (f := (a 36)) d_Matcher_resume_165 wg_36 hin ?_
    refine mm_eqs (st2 := [.int ((a 36) x1.toNatClampNeg)].reverse ++ .ref 41 :: []) rfl ?_
    refine mm_callV (M := M_Matcher_resume) (y := y_Choices_cutTo) (M' := M_Choices_cutTo) (d' := 0) (kc := 0) (ks := 0) (kc' := 0) (ks' := 0) (n := 1) d_Matcher_resume_166 ok_Choices_cutTo ml_Matcher_81 (by decide) rfl (Nat.le_of_ble_eq_true rfl) ⟨tw_539, tw_540⟩ wg_41 rfl (ct_Choices_cutTo_41 h) (fun v w h => ?_)
    obtain ⟨i7, l7, a7, b7, rfl, rfl, h⟩ := h
    refine mm_eqs (st2 := []) rfl ?_
    refine mm_aload_n (M := M_Matcher_resume) d_Matcher_resume_169 rfl ?_
    refine mm_iconst (M := M_Matcher_resume) (v := 1) d_Matcher_resume_170 (by decide) ?_
    refine mm_aload_n (M := M_Matcher_resume) d_Matcher_resume_171 rfl ?_
    refine mm_getf (M := M_Matcher_resume) (u := .ref 22) 5 1 d_Matcher_resume_172 fl_Matcher_23 wg_19 rfl ?_
    refine mm_getf (M := M_Matcher_resume) (u := .ref 29) 1 6 d_Matcher_resume_175 fl_Matcher_134 wg_22 rfl ?_
    refine mm_iload_n (M := M_Matcher_resume) d_Matcher_resume_178 rfl ?_
    obtain ⟨hin, h⟩ := h
    refine mm_iald (M := M_Matcher_resume) (f := (a7 29)) d_Matcher_resume_179 wg_29 hin ?_
    refine mm_eqs (st2 := [.int 1, .int ((a7 29) ((a 35) x1.toNatClampNeg).toNatClampNeg)].reverse ++ .ref 19 :: []) rfl ?_
    refine mm_callV (M := M_Matcher_resume) (y := y_Matcher_go) (M' := M_Matcher_go) (d' := 0) (kc := 0) (ks := 0) (kc' := 0) (ks' := 0) (n := 2) d_Matcher_resume_180 ok_Matcher_go ml_Matcher_88 (by decide) rfl (Nat.le_of_ble_eq_true rfl) ⟨tw_544, ts_Matcher_go⟩ wg_19 rfl (ct_Matcher_go_19 h) (fun v w h => ?_)
    obtain ⟨i8, l8, a8, b8, rfl, rfl, h⟩ := h
    refine mm_eqs (st2 := []) rfl ?_
    refine mm_goto (M := M_Matcher_resume) (tgt := 192) d_Matcher_resume_183 (by decide) ?_
    exact mm_ret (M := M_Matcher_resume) ⟨rfl, d_Matcher_resume_192⟩ ⟨_, _, _, _, rfl, rfl, h⟩
  · have h := ((((((h.2 c0).2 c1).2 c2).2 c3).2 c4).2 c5)
    refine mm_aload_n (M := M_Matcher_resume) d_Matcher_resume_186 rfl ?_
    refine mm_bipush (M := M_Matcher_resume) (v := 8) d_Matcher_resume_187 (by decide) ?_
    refine mm_putf (M := M_Matcher_resume) 5 5 .int d_Matcher_resume_189 fl_Matcher_27 fp_Matcher_27 ft_5_5 wg_19 (Nat.le_of_ble_eq_true rfl) trivial ?_
    refine mm_eqw ws_309 ?_
    exact mm_ret (M := M_Matcher_resume) ⟨rfl, d_Matcher_resume_192⟩ ⟨_, _, _, _, rfl, rfl, h⟩
def wp_Matcher_goesOn_19 (n1 n2 : Nat) (i : mm_i) (l : mm_j) (a : mm_a) (b : mm_b)  (K : Int32 → mm_i → mm_j → mm_a → mm_b → Prop) : Prop :=
  ((8 : Int32) ≤ (i 309) → K 0 i l a b) ∧ (¬ (8 : Int32) ≤ (i 309) → wp_Frames_hasRoom_33 n1 n2 i l a b 2 (fun r1 i1 l1 a1 b1 => (r1 = 0 → K 0 i1 l1 a1 b1) ∧ (¬ r1 = 0 → wp_Choices_hasRoom_41 n1 n2 i1 l1 a1 b1 1 (fun r2 i2 l2 a2 b2 => (r2 = 0 → K 0 i2 l2 a2 b2) ∧ (¬ r2 = 0 → K 1 i2 l2 a2 b2)))))
set_option maxRecDepth 100000 in
set_option maxHeartbeats 4000000 in
theorem ct_Matcher_goesOn_19 {n1 n2 : Nat} {i : mm_i} {l : mm_j} {a : mm_a} {b : mm_b} {t : mm_H}  {K : Int32 → mm_i → mm_j → mm_a → mm_b → Prop} (h : wp_Matcher_goesOn_19 n1 n2 i l a b  K) : mm_Ct y_Matcher_goesOn M_Matcher_goesOn 1 0 0 [.ref 19] (Wd 4 22 n1 n2 i l a b ++ t) (mm_PI n1 n2 t K) := by
  refine mm_Ct.of (by decide) rfl (fun q => absurd q (by decide)) (Nat.le_of_ble_eq_true rfl) ?_
  unfold wp_Matcher_goesOn_19 at h
  refine mm_eqL (L' := [some (.ref 19)]) rfl ?_
  refine mm_aload_n (M := M_Matcher_goesOn) d_Matcher_goesOn_0 rfl ?_
  refine mm_getf (M := M_Matcher_goesOn) (u := .int (i 309)) 5 5 d_Matcher_goesOn_1 fl_Matcher_27 wg_19 rfl ?_
  refine mm_bipush (M := M_Matcher_goesOn) (v := 8) d_Matcher_goesOn_4 (by decide) ?_
  refine mm_icmp_ge (M := M_Matcher_goesOn) 35 d_Matcher_goesOn_6 (by decide) (fun c => ?_) (fun c => ?_)
  · have h := h.1 c
    refine mm_iconst (M := M_Matcher_goesOn) (v := 0) d_Matcher_goesOn_35 (by decide) ?_
    exact mm_retv (M := M_Matcher_goesOn) ⟨_, rfl, (by decide), d_Matcher_goesOn_36⟩ ⟨_, _, _, _, _, rfl, rfl, h⟩
  · have h := h.2 c
    refine mm_aload_n (M := M_Matcher_goesOn) d_Matcher_goesOn_9 rfl ?_
    refine mm_getf (M := M_Matcher_goesOn) (u := .ref 33) 5 3 d_Matcher_goesOn_10 fl_Matcher_53 wg_19 rfl ?_
    refine mm_iconst (M := M_Matcher_goesOn) (v := 2) d_Matcher_goesOn_13 (by decide) ?_
    refine mm_eqs (st2 := [.int 2].reverse ++ .ref 33 :: []) rfl ?_
    refine mm_callV (M := M_Matcher_goesOn) (y := y_Frames_hasRoom) (M' := M_Frames_hasRoom) (d' := 0) (kc := 0) (ks := 0) (kc' := 0) (ks' := 0) (n := 1) d_Matcher_goesOn_14 ok_Frames_hasRoom ml_Matcher_92 (by decide) rfl (Nat.le_of_ble_eq_true rfl) ⟨tw_552, tw_553⟩ wg_33 rfl (ct_Frames_hasRoom_33 h) (fun v w h => ?_)
    obtain ⟨r1, i1, l1, a1, b1, rfl, rfl, h⟩ := h
    refine mm_eqs (st2 := [.int r1]) rfl ?_
    refine mm_if_eq (M := M_Matcher_goesOn) 35 d_Matcher_goesOn_17 (by decide) (fun c => ?_) (fun c => ?_)
    · have h := h.1 c
      refine mm_iconst (M := M_Matcher_goesOn) (v := 0) d_Matcher_goesOn_35 (by decide) ?_
      exact mm_retv (M := M_Matcher_goesOn) ⟨_, rfl, (by decide), d_Matcher_goesOn_36⟩ ⟨_, _, _, _, _, rfl, rfl, h⟩
    · have h := h.2 c
      refine mm_aload_n (M := M_Matcher_goesOn) d_Matcher_goesOn_20 rfl ?_
      refine mm_getf (M := M_Matcher_goesOn) (u := .ref 41) 5 4 d_Matcher_goesOn_21 fl_Matcher_60 wg_19 rfl ?_
      refine mm_iconst (M := M_Matcher_goesOn) (v := 1) d_Matcher_goesOn_24 (by decide) ?_
      refine mm_eqs (st2 := [.int 1].reverse ++ .ref 41 :: []) rfl ?_
      refine mm_callV (M := M_Matcher_goesOn) (y := y_Choices_hasRoom) (M' := M_Choices_hasRoom) (d' := 0) (kc := 0) (ks := 0) (kc' := 0) (ks' := 0) (n := 1) d_Matcher_goesOn_25 ok_Choices_hasRoom ml_Matcher_96 (by decide) rfl (Nat.le_of_ble_eq_true rfl) ⟨tw_556, tw_557⟩ wg_41 rfl (ct_Choices_hasRoom_41 h) (fun v w h => ?_)
      obtain ⟨r2, i2, l2, a2, b2, rfl, rfl, h⟩ := h
      refine mm_eqs (st2 := [.int r2]) rfl ?_
      refine mm_if_eq (M := M_Matcher_goesOn) 35 d_Matcher_goesOn_28 (by decide) (fun c => ?_) (fun c => ?_)
      · have h := h.1 c
        refine mm_iconst (M := M_Matcher_goesOn) (v := 0) d_Matcher_goesOn_35 (by decide) ?_
        exact mm_retv (M := M_Matcher_goesOn) ⟨_, rfl, (by decide), d_Matcher_goesOn_36⟩ ⟨_, _, _, _, _, rfl, rfl, h⟩
      · have h := h.2 c
        refine mm_iconst (M := M_Matcher_goesOn) (v := 1) d_Matcher_goesOn_31 (by decide) ?_
        refine mm_goto (M := M_Matcher_goesOn) (tgt := 36) d_Matcher_goesOn_32 (by decide) ?_
        exact mm_retv (M := M_Matcher_goesOn) ⟨_, rfl, (by decide), d_Matcher_goesOn_36⟩ ⟨_, _, _, _, _, rfl, rfl, h⟩
def wp_Matcher_beginAt_19 (n1 n2 : Nat) (i : mm_i) (l : mm_j) (a : mm_a) (b : mm_b) (x1 : Int32) (K : mm_i → mm_j → mm_a → mm_b → Prop) : Prop :=
  wp_Frames_empty_33 n1 n2 i l a b (fun i1 l1 a1 b1 => wp_Choices_cutTo_41 n1 n2 i1 l1 a1 b1 0 (fun i2 l2 a2 b2 => vp_in 0 5 ∧ (wp_Matcher_go_19 n1 n2 (upd (upd i2 311 0) 312 x1) (vp_updL l2 313 0) a2 b2 0 ((a2 32) (0 : Int32).toNatClampNeg) (fun i3 l3 a3 b3 => K i3 l3 a3 b3))))
set_option maxRecDepth 100000 in
set_option maxHeartbeats 4000000 in
theorem ct_Matcher_beginAt_19 {n1 n2 : Nat} {i : mm_i} {l : mm_j} {a : mm_a} {b : mm_b} {t : mm_H} {x1 : Int32} {K : mm_i → mm_j → mm_a → mm_b → Prop} (h : wp_Matcher_beginAt_19 n1 n2 i l a b x1 K) : mm_Ct y_Matcher_beginAt M_Matcher_beginAt 1 0 0 [.ref 19, .int x1] (Wd 4 22 n1 n2 i l a b ++ t) (mm_PV n1 n2 t K) := by
  refine mm_Ct.of (by decide) rfl (fun q => absurd q (by decide)) (Nat.le_of_ble_eq_true rfl) ?_
  unfold wp_Matcher_beginAt_19 at h
  refine mm_eqL (L' := [some (.ref 19), some (.int x1)]) rfl ?_
  refine mm_aload_n (M := M_Matcher_beginAt) d_Matcher_beginAt_0 rfl ?_
  refine mm_getf (M := M_Matcher_beginAt) (u := .ref 33) 5 3 d_Matcher_beginAt_1 fl_Matcher_53 wg_19 rfl ?_
  refine mm_eqs (st2 := [].reverse ++ .ref 33 :: []) rfl ?_
  refine mm_callV (M := M_Matcher_beginAt) (y := y_Frames_empty) (M' := M_Frames_empty) (d' := 0) (kc := 0) (ks := 0) (kc' := 0) (ks' := 0) (n := 0) d_Matcher_beginAt_4 ok_Frames_empty ml_Matcher_78 (by decide) rfl (Nat.le_of_ble_eq_true rfl) ⟨tw_535, tw_536⟩ wg_33 rfl (ct_Frames_empty_33 h) (fun v w h => ?_)
  obtain ⟨i1, l1, a1, b1, rfl, rfl, h⟩ := h
  refine mm_eqs (st2 := []) rfl ?_
  refine mm_aload_n (M := M_Matcher_beginAt) d_Matcher_beginAt_7 rfl ?_
  refine mm_getf (M := M_Matcher_beginAt) (u := .ref 41) 5 4 d_Matcher_beginAt_8 fl_Matcher_60 wg_19 rfl ?_
  refine mm_iconst (M := M_Matcher_beginAt) (v := 0) d_Matcher_beginAt_11 (by decide) ?_
  refine mm_eqs (st2 := [.int 0].reverse ++ .ref 41 :: []) rfl ?_
  refine mm_callV (M := M_Matcher_beginAt) (y := y_Choices_cutTo) (M' := M_Choices_cutTo) (d' := 0) (kc := 0) (ks := 0) (kc' := 0) (ks' := 0) (n := 1) d_Matcher_beginAt_12 ok_Choices_cutTo ml_Matcher_81 (by decide) rfl (Nat.le_of_ble_eq_true rfl) ⟨tw_539, tw_540⟩ wg_41 rfl (ct_Choices_cutTo_41 h) (fun v w h => ?_)
  obtain ⟨i2, l2, a2, b2, rfl, rfl, h⟩ := h
  refine mm_eqs (st2 := []) rfl ?_
  refine mm_aload_n (M := M_Matcher_beginAt) d_Matcher_beginAt_15 rfl ?_
  refine mm_iconst (M := M_Matcher_beginAt) (v := 0) d_Matcher_beginAt_16 (by decide) ?_
  refine mm_putf (M := M_Matcher_beginAt) 5 7 .int d_Matcher_beginAt_17 fl_Matcher_34 fp_Matcher_34 ft_5_7 wg_19 (Nat.le_of_ble_eq_true rfl) trivial ?_
  refine mm_eqw ws_311 ?_
  refine mm_aload_n (M := M_Matcher_beginAt) d_Matcher_beginAt_20 rfl ?_
  refine mm_iload_n (M := M_Matcher_beginAt) d_Matcher_beginAt_21 rfl ?_
  refine mm_putf (M := M_Matcher_beginAt) 5 8 .int d_Matcher_beginAt_22 fl_Matcher_37 fp_Matcher_37 ft_5_8 wg_19 (Nat.le_of_ble_eq_true rfl) trivial ?_
  refine mm_eqw ws_312 ?_
  refine mm_aload_n (M := M_Matcher_beginAt) d_Matcher_beginAt_25 rfl ?_
  refine mm_lconst (M := M_Matcher_beginAt) (v := 0) d_Matcher_beginAt_26 (by decide) ?_
  refine mm_putf (M := M_Matcher_beginAt) 5 9 .long d_Matcher_beginAt_27 fl_Matcher_40 fp_Matcher_40 ft_5_9 wg_19 (Nat.le_of_ble_eq_true rfl) trivial ?_
  refine mm_eqw ws_313 ?_
  refine mm_aload_n (M := M_Matcher_beginAt) d_Matcher_beginAt_30 rfl ?_
  refine mm_iconst (M := M_Matcher_beginAt) (v := 0) d_Matcher_beginAt_31 (by decide) ?_
  refine mm_aload_n (M := M_Matcher_beginAt) d_Matcher_beginAt_32 rfl ?_
  refine mm_getf (M := M_Matcher_beginAt) (u := .ref 22) 5 1 d_Matcher_beginAt_33 fl_Matcher_23 wg_19 rfl ?_
  refine mm_getf (M := M_Matcher_beginAt) (u := .ref 32) 1 9 d_Matcher_beginAt_36 fl_Matcher_84 wg_22 rfl ?_
  refine mm_iconst (M := M_Matcher_beginAt) (v := 0) d_Matcher_beginAt_39 (by decide) ?_
  obtain ⟨hin, h⟩ := h
  refine mm_iald (M := M_Matcher_beginAt) (f := (a2 32)) d_Matcher_beginAt_40 wg_32 hin ?_
  refine mm_eqs (st2 := [.int 0, .int ((a2 32) (0 : Int32).toNatClampNeg)].reverse ++ .ref 19 :: []) rfl ?_
  refine mm_callV (M := M_Matcher_beginAt) (y := y_Matcher_go) (M' := M_Matcher_go) (d' := 0) (kc := 0) (ks := 0) (kc' := 0) (ks' := 0) (n := 2) d_Matcher_beginAt_41 ok_Matcher_go ml_Matcher_88 (by decide) rfl (Nat.le_of_ble_eq_true rfl) ⟨tw_544, ts_Matcher_go⟩ wg_19 rfl (ct_Matcher_go_19 h) (fun v w h => ?_)
  obtain ⟨i3, l3, a3, b3, rfl, rfl, h⟩ := h
  refine mm_eqs (st2 := []) rfl ?_
  exact mm_ret (M := M_Matcher_beginAt) ⟨rfl, d_Matcher_beginAt_44⟩ ⟨_, _, _, _, rfl, rfl, h⟩
