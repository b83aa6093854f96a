def wp_Model_in (i : mm_i) (l : mm_j) (a : mm_a) (b : mm_b) (x1 : Int32) (x2 : Int32) (x3 : Int32) (K : Int32 → mm_i → mm_j → mm_a → mm_b → Prop) : Prop :=
  (x1 < x2 → K 0 i l a b) ∧ (¬ x1 < x2 → (x3 < x1 → K 0 i l a b) ∧ (¬ x3 < x1 → K 1 i l a b))
set_option maxRecDepth 100000 in
set_option maxHeartbeats 4000000 in
theorem ct_Model_in {i : mm_i} {l : mm_j} {a : mm_a} {b : mm_b} {t : mm_H} {x1 : Int32} {x2 : Int32} {x3 : Int32} {K : Int32 → mm_i → mm_j → mm_a → mm_b → Prop} (h : wp_Model_in i l a b x1 x2 x3 K) : mm_Ct y_Model_in M_Model_in 0 0 0 [.int x1, .int x2, .int x3] (Wm i l a b ++ t) (mx_PI t K) := by
  refine mm_Ct.of (by decide) rfl (fun q => absurd q (by decide)) (Nat.le_of_ble_eq_true rfl) ?_
  unfold wp_Model_in at h
  refine mm_eqL (L' := [some (.int x1), some (.int x2), some (.int x3)]) rfl ?_
  refine mm_iload_n (M := M_Model_in) d_Model_in_0 rfl ?_
  refine mm_iload_n (M := M_Model_in) d_Model_in_1 rfl ?_
  refine mm_icmp_lt (M := M_Model_in) 14 d_Model_in_2 (by decide) (fun c => ?_) (fun c => ?_)
  · have h := h.1 c
    refine mm_iconst (M := M_Model_in) (v := 0) d_Model_in_14 (by decide) ?_
    exact mm_retv (M := M_Model_in) ⟨_, rfl, (by decide), d_Model_in_15⟩ ⟨_, _, _, _, _, rfl, rfl, h⟩
  · have h := h.2 c
    refine mm_iload_n (M := M_Model_in) d_Model_in_5 rfl ?_
    refine mm_iload_n (M := M_Model_in) d_Model_in_6 rfl ?_
    refine mm_icmp_gt (M := M_Model_in) 14 d_Model_in_7 (by decide) (fun c => ?_) (fun c => ?_)
    · have h := h.1 c
      refine mm_iconst (M := M_Model_in) (v := 0) d_Model_in_14 (by decide) ?_
      exact mm_retv (M := M_Model_in) ⟨_, rfl, (by decide), d_Model_in_15⟩ ⟨_, _, _, _, _, rfl, rfl, h⟩
    · have h := h.2 c
      refine mm_iconst (M := M_Model_in) (v := 1) d_Model_in_10 (by decide) ?_
      refine mm_goto (M := M_Model_in) (tgt := 15) d_Model_in_11 (by decide) ?_
      exact mm_retv (M := M_Model_in) ⟨_, rfl, (by decide), d_Model_in_15⟩ ⟨_, _, _, _, _, rfl, rfl, h⟩
def wp_Model_letter (i : mm_i) (l : mm_j) (a : mm_a) (b : mm_b) (x1 : Int32) (K : Int32 → mm_i → mm_j → mm_a → mm_b → Prop) : Prop :=
  wp_Model_in i l a b x1 97 122 (fun r1 i1 l1 a1 b1 => (r1 = 0 ∨ r1 = 1) ∧ K r1 i1 l1 a1 b1)
set_option maxRecDepth 100000 in
set_option maxHeartbeats 4000000 in
theorem ct_Model_letter {i : mm_i} {l : mm_j} {a : mm_a} {b : mm_b} {t : mm_H} {x1 : Int32} {K : Int32 → mm_i → mm_j → mm_a → mm_b → Prop} (h : wp_Model_letter i l a b x1 K) : mm_Ct y_Model_letter M_Model_letter 1 0 0 [.int x1] (Wm i l a b ++ t) (mx_PI t K) := by
  refine mm_Ct.of (by decide) rfl (fun q => absurd q (by decide)) (Nat.le_of_ble_eq_true rfl) ?_
  unfold wp_Model_letter at h
  refine mm_eqL (L' := [some (.int x1)]) rfl ?_
  refine mm_iload_n (M := M_Model_letter) d_Model_letter_0 rfl ?_
  refine mm_bipush (M := M_Model_letter) (v := 97) d_Model_letter_1 (by decide) ?_
  refine mm_bipush (M := M_Model_letter) (v := 122) d_Model_letter_3 (by decide) ?_
  refine mm_eqs (st2 := [.int x1, .int 97, .int 122].reverse ++ []) rfl ?_
  refine mm_callS (M := M_Model_letter) (y := y_Model_in) (M' := M_Model_in) (d' := 0) (kc := 0) (ks := 0) (kc' := 0) (ks' := 0) (n := 3) d_Model_letter_5 ok_Model_in ml_Model_39 (by decide) rfl (Nat.le_of_ble_eq_true rfl) tw_775 (ct_Model_in h) (fun v w h => ?_)
  obtain ⟨r1, i1, l1, a1, b1, rfl, rfl, h⟩ := h
  refine mm_eqs (st2 := [.int r1]) rfl ?_
  obtain ⟨hb, h⟩ := h
  exact mm_retv (M := M_Model_letter) ⟨_, rfl, mx_nb hb, d_Model_letter_8⟩ ⟨_, _, _, _, _, rfl, rfl, h⟩
def wp_Model_sign (i : mm_i) (l : mm_j) (a : mm_a) (b : mm_b) (x1 : Int32) (K : Int32 → mm_i → mm_j → mm_a → mm_b → Prop) : Prop :=
  wp_Model_in i l a b x1 40 43 (fun r1 i1 l1 a1 b1 => (¬ r1 = 0 → K 1 i1 l1 a1 b1) ∧ (r1 = 0 → (x1 = (45 : Int32) → K 1 i1 l1 a1 b1) ∧ (¬ x1 = (45 : Int32) → (x1 = (46 : Int32) → K 1 i1 l1 a1 b1) ∧ (¬ x1 = (46 : Int32) → (x1 = (58 : Int32) → K 1 i1 l1 a1 b1) ∧ (¬ x1 = (58 : Int32) → wp_Model_in i1 l1 a1 b1 x1 61 63 (fun r2 i2 l2 a2 b2 => (r2 = 0 → (x1 = (33 : Int32) → K 1 i2 l2 a2 b2) ∧ (¬ x1 = (33 : Int32) → (x1 = (36 : Int32) → K 1 i2 l2 a2 b2) ∧ (¬ x1 = (36 : Int32) → wp_Model_in i2 l2 a2 b2 x1 91 94 (fun r3 i3 l3 a3 b3 => (¬ r3 = 0 → K 1 i3 l3 a3 b3) ∧ (r3 = 0 → wp_Model_in i3 l3 a3 b3 x1 123 125 (fun r4 i4 l4 a4 b4 => (r4 = 0 → K 0 i4 l4 a4 b4) ∧ (¬ r4 = 0 → K 1 i4 l4 a4 b4))))))) ∧ (¬ r2 = 0 → K 1 i2 l2 a2 b2)))))))
set_option maxRecDepth 100000 in
set_option maxHeartbeats 4000000 in
theorem ct_Model_sign {i : mm_i} {l : mm_j} {a : mm_a} {b : mm_b} {t : mm_H} {x1 : Int32} {K : Int32 → mm_i → mm_j → mm_a → mm_b → Prop} (h : wp_Model_sign i l a b x1 K) : mm_Ct y_Model_sign M_Model_sign 1 0 0 [.int x1] (Wm i l a b ++ t) (mx_PI t K) := by
  refine mm_Ct.of (by decide) rfl (fun q => absurd q (by decide)) (Nat.le_of_ble_eq_true rfl) ?_
  unfold wp_Model_sign at h
  refine mm_eqL (L' := [some (.int x1)]) rfl ?_
  refine mm_iload_n (M := M_Model_sign) d_Model_sign_0 rfl ?_
  refine mm_bipush (M := M_Model_sign) (v := 40) d_Model_sign_1 (by decide) ?_
  refine mm_bipush (M := M_Model_sign) (v := 43) d_Model_sign_3 (by decide) ?_
  refine mm_eqs (st2 := [.int x1, .int 40, .int 43].reverse ++ []) rfl ?_
  refine mm_callS (M := M_Model_sign) (y := y_Model_in) (M' := M_Model_in) (d' := 0) (kc := 0) (ks := 0) (kc' := 0) (ks' := 0) (n := 3) d_Model_sign_5 ok_Model_in ml_Model_39 (by decide) rfl (Nat.le_of_ble_eq_true rfl) tw_775 (ct_Model_in h) (fun v w h => ?_)
  obtain ⟨r1, i1, l1, a1, b1, rfl, rfl, h⟩ := h
  refine mm_eqs (st2 := [.int r1]) rfl ?_
  refine mm_if_ne (M := M_Model_sign) 40 d_Model_sign_8 (by decide) (fun c => ?_) (fun c => ?_)
  · have h := h.1 c
    refine mm_iconst (M := M_Model_sign) (v := 1) d_Model_sign_40 (by decide) ?_
    exact mm_retv (M := M_Model_sign) ⟨_, rfl, (by decide), d_Model_sign_41⟩ ⟨_, _, _, _, _, rfl, rfl, h⟩
  · have h := h.2 c
    refine mm_iload_n (M := M_Model_sign) d_Model_sign_11 rfl ?_
    refine mm_bipush (M := M_Model_sign) (v := 45) d_Model_sign_12 (by decide) ?_
    refine mm_icmp_eq (M := M_Model_sign) 40 d_Model_sign_14 (by decide) (fun c => ?_) (fun c => ?_)
    · have h := h.1 c
      refine mm_iconst (M := M_Model_sign) (v := 1) d_Model_sign_40 (by decide) ?_
      exact mm_retv (M := M_Model_sign) ⟨_, rfl, (by decide), d_Model_sign_41⟩ ⟨_, _, _, _, _, rfl, rfl, h⟩
    · have h := h.2 c
      refine mm_iload_n (M := M_Model_sign) d_Model_sign_17 rfl ?_
      refine mm_bipush (M := M_Model_sign) (v := 46) d_Model_sign_18 (by decide) ?_
      refine mm_icmp_eq (M := M_Model_sign) 40 d_Model_sign_20 (by decide) (fun c => ?_) (fun c => ?_)
      · have h := h.1 c
        refine mm_iconst (M := M_Model_sign) (v := 1) d_Model_sign_40 (by decide) ?_
        exact mm_retv (M := M_Model_sign) ⟨_, rfl, (by decide), d_Model_sign_41⟩ ⟨_, _, _, _, _, rfl, rfl, h⟩
      · have h := h.2 c
        refine mm_iload_n (M := M_Model_sign) d_Model_sign_23 rfl ?_
        refine mm_bipush (M := M_Model_sign) (v := 58) d_Model_sign_24 (by decide) ?_
        refine mm_icmp_eq (M := M_Model_sign) 40 d_Model_sign_26 (by decide) (fun c => ?_) (fun c => ?_)
        · have h := h.1 c
          refine mm_iconst (M := M_Model_sign) (v := 1) d_Model_sign_40 (by decide) ?_
          exact mm_retv (M := M_Model_sign) ⟨_, rfl, (by decide), d_Model_sign_41⟩ ⟨_, _, _, _, _, rfl, rfl, h⟩
        · have h := h.2 c
          refine mm_iload_n (M := M_Model_sign) d_Model_sign_29 rfl ?_
          refine mm_bipush (M := M_Model_sign) (v := 61) d_Model_sign_30 (by decide) ?_
          refine mm_bipush (M := M_Model_sign) (v := 63) d_Model_sign_32 (by decide) ?_
          refine mm_eqs (st2 := [.int x1, .int 61, .int 63].reverse ++ []) rfl ?_
          refine mm_callS (M := M_Model_sign) (y := y_Model_in) (M' := M_Model_in) (d' := 0) (kc := 0) (ks := 0) (kc' := 0) (ks' := 0) (n := 3) d_Model_sign_34 ok_Model_in ml_Model_39 (by decide) rfl (Nat.le_of_ble_eq_true rfl) tw_775 (ct_Model_in h) (fun v w h => ?_)
          obtain ⟨r2, i2, l2, a2, b2, rfl, rfl, h⟩ := h
          refine mm_eqs (st2 := [.int r2]) rfl ?_
          refine mm_if_eq (M := M_Model_sign) 42 d_Model_sign_37 (by decide) (fun c => ?_) (fun c => ?_)
          · have h := h.1 c
            refine mm_iload_n (M := M_Model_sign) d_Model_sign_42 rfl ?_
            refine mm_bipush (M := M_Model_sign) (v := 33) d_Model_sign_43 (by decide) ?_
            refine mm_icmp_eq (M := M_Model_sign) 76 d_Model_sign_45 (by decide) (fun c => ?_) (fun c => ?_)
            · have h := h.1 c
              refine mm_iconst (M := M_Model_sign) (v := 1) d_Model_sign_76 (by decide) ?_
              refine mm_goto (M := M_Model_sign) (tgt := 81) d_Model_sign_77 (by decide) ?_
              exact mm_retv (M := M_Model_sign) ⟨_, rfl, (by decide), d_Model_sign_81⟩ ⟨_, _, _, _, _, rfl, rfl, h⟩
            · have h := h.2 c
              refine mm_iload_n (M := M_Model_sign) d_Model_sign_48 rfl ?_
              refine mm_bipush (M := M_Model_sign) (v := 36) d_Model_sign_49 (by decide) ?_
              refine mm_icmp_eq (M := M_Model_sign) 76 d_Model_sign_51 (by decide) (fun c => ?_) (fun c => ?_)
              · have h := h.1 c
                refine mm_iconst (M := M_Model_sign) (v := 1) d_Model_sign_76 (by decide) ?_
                refine mm_goto (M := M_Model_sign) (tgt := 81) d_Model_sign_77 (by decide) ?_
                exact mm_retv (M := M_Model_sign) ⟨_, rfl, (by decide), d_Model_sign_81⟩ ⟨_, _, _, _, _, rfl, rfl, h⟩
              · have h := h.2 c
                refine mm_iload_n (M := M_Model_sign) d_Model_sign_54 rfl ?_
                refine mm_bipush (M := M_Model_sign) (v := 91) d_Model_sign_55 (by decide) ?_
                refine mm_bipush (M := M_Model_sign) (v := 94) d_Model_sign_57 (by decide) ?_
                refine mm_eqs (st2 := [.int x1, .int 91, .int 94].reverse ++ []) rfl ?_
                refine mm_callS (M := M_Model_sign) (y := y_Model_in) (M' := M_Model_in) (d' := 0) (kc := 0) (ks := 0) (kc' := 0) (ks' := 0) (n := 3) d_Model_sign_59 ok_Model_in ml_Model_39 (by decide) rfl (Nat.le_of_ble_eq_true rfl) tw_775 (ct_Model_in h) (fun v w h => ?_)
                obtain ⟨r3, i3, l3, a3, b3, rfl, rfl, h⟩ := h
                refine mm_eqs (st2 := [.int r3]) rfl ?_
                refine mm_if_ne (M := M_Model_sign) 76 d_Model_sign_62 (by decide) (fun c => ?_) (fun c => ?_)
                · have h := h.1 c
                  refine mm_iconst (M := M_Model_sign) (v := 1) d_Model_sign_76 (by decide) ?_
                  refine mm_goto (M := M_Model_sign) (tgt := 81) d_Model_sign_77 (by decide) ?_
                  exact mm_retv (M := M_Model_sign) ⟨_, rfl, (by decide), d_Model_sign_81⟩ ⟨_, _, _, _, _, rfl, rfl, h⟩
                · have h := h.2 c
                  refine mm_iload_n (M := M_Model_sign) d_Model_sign_65 rfl ?_
                  refine mm_bipush (M := M_Model_sign) (v := 123) d_Model_sign_66 (by decide) ?_
                  refine mm_bipush (M := M_Model_sign) (v := 125) d_Model_sign_68 (by decide) ?_
                  refine mm_eqs (st2 := [.int x1, .int 123, .int 125].reverse ++ []) rfl ?_
                  refine mm_callS (M := M_Model_sign) (y := y_Model_in) (M' := M_Model_in) (d' := 0) (kc := 0) (ks := 0) (kc' := 0) (ks' := 0) (n := 3) d_Model_sign_70 ok_Model_in ml_Model_39 (by decide) rfl (Nat.le_of_ble_eq_true rfl) tw_775 (ct_Model_in h) (fun v w h => ?_)
                  obtain ⟨r4, i4, l4, a4, b4, rfl, rfl, h⟩ := h
                  refine mm_eqs (st2 := [.int r4]) rfl ?_
                  refine mm_if_eq (M := M_Model_sign) 80 d_Model_sign_73 (by decide) (fun c => ?_) (fun c => ?_)
                  · have h := h.1 c
                    refine mm_iconst (M := M_Model_sign) (v := 0) d_Model_sign_80 (by decide) ?_
                    exact mm_retv (M := M_Model_sign) ⟨_, rfl, (by decide), d_Model_sign_81⟩ ⟨_, _, _, _, _, rfl, rfl, h⟩
                  · have h := h.2 c
                    refine mm_iconst (M := M_Model_sign) (v := 1) d_Model_sign_76 (by decide) ?_
                    refine mm_goto (M := M_Model_sign) (tgt := 81) d_Model_sign_77 (by decide) ?_
                    exact mm_retv (M := M_Model_sign) ⟨_, rfl, (by decide), d_Model_sign_81⟩ ⟨_, _, _, _, _, rfl, rfl, h⟩
          · have h := h.2 c
            refine mm_iconst (M := M_Model_sign) (v := 1) d_Model_sign_40 (by decide) ?_
            exact mm_retv (M := M_Model_sign) ⟨_, rfl, (by decide), d_Model_sign_41⟩ ⟨_, _, _, _, _, rfl, rfl, h⟩
def wp_Model_c_0 (i : mm_i) (l : mm_j) (a : mm_a) (b : mm_b) (x1 : Int32) (K : Int32 → mm_i → mm_j → mm_a → mm_b → Prop) : Prop :=
  ((i 1) ≤ x1 → K 0 i l a b) ∧ (¬ (i 1) ≤ x1 → vp_in x1 32 ∧ (K ((a 1) x1.toNatClampNeg) i l a b))
set_option maxRecDepth 100000 in
set_option maxHeartbeats 4000000 in
theorem ct_Model_c_0 {i : mm_i} {l : mm_j} {a : mm_a} {b : mm_b} {t : mm_H} {x1 : Int32} {K : Int32 → mm_i → mm_j → mm_a → mm_b → Prop} (h : wp_Model_c_0 i l a b x1 K) : mm_Ct y_Model_c M_Model_c 0 0 0 [.ref 0, .int x1] (Wm i l a b ++ t) (mx_PI t K) := by
  refine mm_Ct.of (by decide) rfl (fun q => absurd q (by decide)) (Nat.le_of_ble_eq_true rfl) ?_
  unfold wp_Model_c_0 at h
  refine mm_eqL (L' := [some (.ref 0), some (.int x1)]) rfl ?_
  refine mm_iload_n (M := M_Model_c) d_Model_c_0 rfl ?_
  refine mm_aload_n (M := M_Model_c) d_Model_c_1 rfl ?_
  refine mm_getf (M := M_Model_c) (u := .int (i 1)) 7 1 d_Model_c_2 fl_Model_50 xg_0 rfl ?_
  refine mm_icmp_ge (M := M_Model_c) 17 d_Model_c_5 (by decide) (fun c => ?_) (fun c => ?_)
  · have h := h.1 c
    refine mm_iconst (M := M_Model_c) (v := 0) d_Model_c_17 (by decide) ?_
    exact mm_retv (M := M_Model_c) ⟨_, rfl, rfl, d_Model_c_18⟩ ⟨_, _, _, _, _, rfl, rfl, h⟩
  · have h := h.2 c
    refine mm_aload_n (M := M_Model_c) d_Model_c_8 rfl ?_
    refine mm_getf (M := M_Model_c) (u := .ref 1) 7 2 d_Model_c_9 fl_Model_7 xg_0 rfl ?_
    refine mm_iload_n (M := M_Model_c) d_Model_c_12 rfl ?_
    obtain ⟨hin, h⟩ := h
    refine mm_iald (M := M_Model_c) (f := (a 1)) d_Model_c_13 xg_1 hin ?_
    refine mm_goto (M := M_Model_c) (tgt := 18) d_Model_c_14 (by decide) ?_
    exact mm_retv (M := M_Model_c) ⟨_, rfl, rfl, d_Model_c_18⟩ ⟨_, _, _, _, _, rfl, rfl, h⟩
def wp_Model_write_0 (i : mm_i) (l : mm_j) (a : mm_a) (b : mm_b) (x1 : Int32) (K : Int32 → mm_i → mm_j → mm_a → mm_b → Prop) : Prop :=
  wp_Model_letter i l a b x1 (fun r1 i1 l1 a1 b1 => (¬ r1 = 0 → (¬ (i1 1) = (32 : Int32) → vp_in (i1 1) 32 ∧ (K ((i1 1) + (1 : Int32)) (upd i1 1 ((i1 1) + (1 : Int32))) l1 (mm_ua a1 1 (upd (a1 1) (i1 1).toNatClampNeg x1)) b1)) ∧ ((i1 1) = (32 : Int32) → K (-2) i1 l1 a1 b1)) ∧ (r1 = 0 → wp_Model_in i1 l1 a1 b1 x1 48 57 (fun r2 i2 l2 a2 b2 => (¬ r2 = 0 → (¬ (i2 1) = (32 : Int32) → vp_in (i2 1) 32 ∧ (K ((i2 1) + (1 : Int32)) (upd i2 1 ((i2 1) + (1 : Int32))) l2 (mm_ua a2 1 (upd (a2 1) (i2 1).toNatClampNeg x1)) b2)) ∧ ((i2 1) = (32 : Int32) → K (-2) i2 l2 a2 b2)) ∧ (r2 = 0 → wp_Model_sign i2 l2 a2 b2 x1 (fun r3 i3 l3 a3 b3 => (¬ r3 = 0 → (¬ (i3 1) = (32 : Int32) → vp_in (i3 1) 32 ∧ (K ((i3 1) + (1 : Int32)) (upd i3 1 ((i3 1) + (1 : Int32))) l3 (mm_ua a3 1 (upd (a3 1) (i3 1).toNatClampNeg x1)) b3)) ∧ ((i3 1) = (32 : Int32) → K (-2) i3 l3 a3 b3)) ∧ (r3 = 0 → K (-1) i3 l3 a3 b3))))))
set_option maxRecDepth 100000 in
set_option maxHeartbeats 4000000 in
theorem ct_Model_write_0 {i : mm_i} {l : mm_j} {a : mm_a} {b : mm_b} {t : mm_H} {x1 : Int32} {K : Int32 → mm_i → mm_j → mm_a → mm_b → Prop} (h : wp_Model_write_0 i l a b x1 K) : mm_Ct y_Model_write M_Model_write 2 0 0 [.ref 0, .int x1] (Wm i l a b ++ t) (mx_PI t K) := by
  refine mm_Ct.of (by decide) rfl (fun q => absurd q (by decide)) (Nat.le_of_ble_eq_true rfl) ?_
  unfold wp_Model_write_0 at h
  refine mm_eqL (L' := [some (.ref 0), some (.int x1)]) rfl ?_
  refine mm_iload_n (M := M_Model_write) d_Model_write_0 rfl ?_
  refine mm_eqs (st2 := [.int x1].reverse ++ []) rfl ?_
  refine mm_callS (M := M_Model_write) (y := y_Model_letter) (M' := M_Model_letter) (d' := 1) (kc := 0) (ks := 0) (kc' := 0) (ks' := 0) (n := 1) d_Model_write_1 ok_Model_letter ml_Model_43 (by decide) rfl (Nat.le_of_ble_eq_true rfl) tw_772 (ct_Model_letter h) (fun v w h => ?_)
  obtain ⟨r1, i1, l1, a1, b1, rfl, rfl, h⟩ := h
  refine mm_eqs (st2 := [.int r1]) rfl ?_
  refine mm_if_ne (M := M_Model_write) 27 d_Model_write_4 (by decide) (fun c => ?_) (fun c => ?_)
  · have h := h.1 c
    refine mm_aload_n (M := M_Model_write) d_Model_write_27 rfl ?_
    refine mm_getf (M := M_Model_write) (u := .int (i1 1)) 7 1 d_Model_write_28 fl_Model_50 xg_0 rfl ?_
    refine mm_bipush (M := M_Model_write) (v := 32) d_Model_write_31 (by decide) ?_
    refine mm_icmp_ne (M := M_Model_write) 39 d_Model_write_33 (by decide) (fun c => ?_) (fun c => ?_)
    · have h := h.1 c
      refine mm_aload_n (M := M_Model_write) d_Model_write_39 rfl ?_
      refine mm_getf (M := M_Model_write) (u := .ref 1) 7 2 d_Model_write_40 fl_Model_7 xg_0 rfl ?_
      refine mm_aload_n (M := M_Model_write) d_Model_write_43 rfl ?_
      refine mm_getf (M := M_Model_write) (u := .int (i1 1)) 7 1 d_Model_write_44 fl_Model_50 xg_0 rfl ?_
      refine mm_iload_n (M := M_Model_write) d_Model_write_47 rfl ?_
      obtain ⟨hin, h⟩ := h
      refine mm_iast (M := M_Model_write) (f := (a1 1)) d_Model_write_48 xg_1 hin ?_
      refine mm_eqw xa_1 ?_
      refine mm_aload_n (M := M_Model_write) d_Model_write_49 rfl ?_
      refine mm_dup (M := M_Model_write) d_Model_write_50 rfl ?_
      refine mm_getf (M := M_Model_write) (u := .int (i1 1)) 7 1 d_Model_write_51 fl_Model_50 xg_0 rfl ?_
      refine mm_iconst (M := M_Model_write) (v := 1) d_Model_write_54 (by decide) ?_
      refine mm_iadd (M := M_Model_write) d_Model_write_55 ?_
      refine mm_putf (M := M_Model_write) 7 1 .int d_Model_write_56 fl_Model_50 fp_Model_50 ft_7_1 xg_0 (Nat.le_of_ble_eq_true rfl) trivial ?_
      refine mm_eqw xs_1 ?_
      refine mm_aload_n (M := M_Model_write) d_Model_write_59 rfl ?_
      refine mm_getf (M := M_Model_write) (u := .int ((i1 1) + (1 : Int32))) 7 1 d_Model_write_60 fl_Model_50 xg_0 rfl ?_
      exact mm_retv (M := M_Model_write) ⟨_, rfl, rfl, d_Model_write_63⟩ ⟨_, _, _, _, _, rfl, rfl, h⟩
    · have h := h.2 c
      refine mm_bipush (M := M_Model_write) (v := (-2)) d_Model_write_36 (by decide) ?_
      exact mm_retv (M := M_Model_write) ⟨_, rfl, rfl, d_Model_write_38⟩ ⟨_, _, _, _, _, rfl, rfl, h⟩
  · have h := h.2 c
    refine mm_iload_n (M := M_Model_write) d_Model_write_7 rfl ?_
    refine mm_bipush (M := M_Model_write) (v := 48) d_Model_write_8 (by decide) ?_
    refine mm_bipush (M := M_Model_write) (v := 57) d_Model_write_10 (by decide) ?_
    refine mm_eqs (st2 := [.int x1, .int 48, .int 57].reverse ++ []) rfl ?_
    refine mm_callS (M := M_Model_write) (y := y_Model_in) (M' := M_Model_in) (d' := 0) (kc := 0) (ks := 0) (kc' := 0) (ks' := 0) (n := 3) d_Model_write_12 ok_Model_in ml_Model_39 (by decide) rfl (Nat.le_of_ble_eq_true rfl) tw_775 (ct_Model_in h) (fun v w h => ?_)
    obtain ⟨r2, i2, l2, a2, b2, rfl, rfl, h⟩ := h
    refine mm_eqs (st2 := [.int r2]) rfl ?_
    refine mm_if_ne (M := M_Model_write) 27 d_Model_write_15 (by decide) (fun c => ?_) (fun c => ?_)
    · have h := h.1 c
      refine mm_aload_n (M := M_Model_write) d_Model_write_27 rfl ?_
      refine mm_getf (M := M_Model_write) (u := .int (i2 1)) 7 1 d_Model_write_28 fl_Model_50 xg_0 rfl ?_
      refine mm_bipush (M := M_Model_write) (v := 32) d_Model_write_31 (by decide) ?_
      refine mm_icmp_ne (M := M_Model_write) 39 d_Model_write_33 (by decide) (fun c => ?_) (fun c => ?_)
      · have h := h.1 c
        refine mm_aload_n (M := M_Model_write) d_Model_write_39 rfl ?_
        refine mm_getf (M := M_Model_write) (u := .ref 1) 7 2 d_Model_write_40 fl_Model_7 xg_0 rfl ?_
        refine mm_aload_n (M := M_Model_write) d_Model_write_43 rfl ?_
        refine mm_getf (M := M_Model_write) (u := .int (i2 1)) 7 1 d_Model_write_44 fl_Model_50 xg_0 rfl ?_
        refine mm_iload_n (M := M_Model_write) d_Model_write_47 rfl ?_
        obtain ⟨hin, h⟩ := h
        refine mm_iast (M := M_Model_write) (f := (a2 1)) d_Model_write_48 xg_1 hin ?_
        refine mm_eqw xa_1 ?_
        refine mm_aload_n (M := M_Model_write) d_Model_write_49 rfl ?_
        refine mm_dup (M := M_Model_write) d_Model_write_50 rfl ?_
        refine mm_getf (M := M_Model_write) (u := .int (i2 1)) 7 1 d_Model_write_51 fl_Model_50 xg_0 rfl ?_
        refine mm_iconst (M := M_Model_write) (v := 1) d_Model_write_54 (by decide) ?_
        refine mm_iadd (M := M_Model_write) d_Model_write_55 ?_
        refine mm_putf (M := M_Model_write) 7 1 .int d_Model_write_56 fl_Model_50 fp_Model_50 ft_7_1 xg_0 (Nat.le_of_ble_eq_true rfl) trivial ?_
        refine mm_eqw xs_1 ?_
        refine mm_aload_n (M := M_Model_write) d_Model_write_59 rfl ?_
        refine mm_getf (M := M_Model_write) (u := .int ((i2 1) + (1 : Int32))) 7 1 d_Model_write_60 fl_Model_50 xg_0 rfl ?_
        exact mm_retv (M := M_Model_write) ⟨_, rfl, rfl, d_Model_write_63⟩ ⟨_, _, _, _, _, rfl, rfl, h⟩
      · have h := h.2 c
        refine mm_bipush (M := M_Model_write) (v := (-2)) d_Model_write_36 (by decide) ?_
        exact mm_retv (M := M_Model_write) ⟨_, rfl, rfl, d_Model_write_38⟩ ⟨_, _, _, _, _, rfl, rfl, h⟩
    · have h := h.2 c
      refine mm_iload_n (M := M_Model_write) d_Model_write_18 rfl ?_
      refine mm_eqs (st2 := [.int x1].reverse ++ []) rfl ?_
      refine mm_callS (M := M_Model_write) (y := y_Model_sign) (M' := M_Model_sign) (d' := 1) (kc := 0) (ks := 0) (kc' := 0) (ks' := 0) (n := 1) d_Model_write_19 ok_Model_sign ml_Model_47 (by decide) rfl (Nat.le_of_ble_eq_true rfl) tw_778 (ct_Model_sign h) (fun v w h => ?_)
      obtain ⟨r3, i3, l3, a3, b3, rfl, rfl, h⟩ := h
      refine mm_eqs (st2 := [.int r3]) rfl ?_
      refine mm_if_ne (M := M_Model_write) 27 d_Model_write_22 (by decide) (fun c => ?_) (fun c => ?_)
      · have h := h.1 c
        refine mm_aload_n (M := M_Model_write) d_Model_write_27 rfl ?_
        refine mm_getf (M := M_Model_write) (u := .int (i3 1)) 7 1 d_Model_write_28 fl_Model_50 xg_0 rfl ?_
        refine mm_bipush (M := M_Model_write) (v := 32) d_Model_write_31 (by decide) ?_
        refine mm_icmp_ne (M := M_Model_write) 39 d_Model_write_33 (by decide) (fun c => ?_) (fun c => ?_)
        · have h := h.1 c
          refine mm_aload_n (M := M_Model_write) d_Model_write_39 rfl ?_
          refine mm_getf (M := M_Model_write) (u := .ref 1) 7 2 d_Model_write_40 fl_Model_7 xg_0 rfl ?_
          refine mm_aload_n (M := M_Model_write) d_Model_write_43 rfl ?_
          refine mm_getf (M := M_Model_write) (u := .int (i3 1)) 7 1 d_Model_write_44 fl_Model_50 xg_0 rfl ?_
          refine mm_iload_n (M := M_Model_write) d_Model_write_47 rfl ?_
          obtain ⟨hin, h⟩ := h
          refine mm_iast (M := M_Model_write) (f := (a3 1)) d_Model_write_48 xg_1 hin ?_
          refine mm_eqw xa_1 ?_
          refine mm_aload_n (M := M_Model_write) d_Model_write_49 rfl ?_
          refine mm_dup (M := M_Model_write) d_Model_write_50 rfl ?_
          refine mm_getf (M := M_Model_write) (u := .int (i3 1)) 7 1 d_Model_write_51 fl_Model_50 xg_0 rfl ?_
          refine mm_iconst (M := M_Model_write) (v := 1) d_Model_write_54 (by decide) ?_
          refine mm_iadd (M := M_Model_write) d_Model_write_55 ?_
          refine mm_putf (M := M_Model_write) 7 1 .int d_Model_write_56 fl_Model_50 fp_Model_50 ft_7_1 xg_0 (Nat.le_of_ble_eq_true rfl) trivial ?_
          refine mm_eqw xs_1 ?_
          refine mm_aload_n (M := M_Model_write) d_Model_write_59 rfl ?_
          refine mm_getf (M := M_Model_write) (u := .int ((i3 1) + (1 : Int32))) 7 1 d_Model_write_60 fl_Model_50 xg_0 rfl ?_
          exact mm_retv (M := M_Model_write) ⟨_, rfl, rfl, d_Model_write_63⟩ ⟨_, _, _, _, _, rfl, rfl, h⟩
        · have h := h.2 c
          refine mm_bipush (M := M_Model_write) (v := (-2)) d_Model_write_36 (by decide) ?_
          exact mm_retv (M := M_Model_write) ⟨_, rfl, rfl, d_Model_write_38⟩ ⟨_, _, _, _, _, rfl, rfl, h⟩
      · have h := h.2 c
        refine mm_iconst (M := M_Model_write) (v := (-1)) d_Model_write_25 (by decide) ?_
        exact mm_retv (M := M_Model_write) ⟨_, rfl, rfl, d_Model_write_26⟩ ⟨_, _, _, _, _, rfl, rfl, h⟩
def wq_Model_behindClass_0_89 (X : mm_i → mm_j → mm_a → mm_b → Int32 → Int32 → Prop) (K : Int32 → mm_i → mm_j → mm_a → mm_b → Prop) (i : mm_i) (l : mm_j) (a : mm_a) (b : mm_b) (z2 : Int32) (z3 : Int32) (z4 : Int32) : Prop :=
  (z4 = 0 → X i l a b (z2 + (1 : Int32)) (z3 + 1)) ∧ (¬ z4 = 0 → X i l a b (z2 + (3 : Int32)) (z3 + 1))
set_option maxRecDepth 100000 in
set_option maxHeartbeats 4000000 in
theorem vq_Model_behindClass_0_89 {k0 : Nat} {t : mm_H} {K : Int32 → mm_i → mm_j → mm_a → mm_b → Prop} {X : mm_i → mm_j → mm_a → mm_b → Int32 → Int32 → Prop} (hX : ∀ {i l a b z2 z3}, X i l a b z2 z3 → mm_V M_Model_behindClass 2 k0 (mx_PI t K) 0 0 24 [some (.ref 0), none, some (.int z2), some (.int z3), none] [] (Wm i l a b ++ t)) {i : mm_i} {l : mm_j} {a : mm_a} {b : mm_b} {z2 : Int32} {z3 : Int32} {z4 : Int32} (h : wq_Model_behindClass_0_89 X K i l a b z2 z3 z4) : mm_V M_Model_behindClass 2 k0 (mx_PI t K) 0 0 89 [some (.ref 0), none, some (.int z2), some (.int z3), some (.int z4)] [] (Wm i l a b ++ t) := by
  unfold wq_Model_behindClass_0_89 at h
  refine mm_iload_n (M := M_Model_behindClass) d_Model_behindClass_89 rfl ?_
  refine mm_iload (M := M_Model_behindClass) d_Model_behindClass_90 rfl ?_
  refine mm_if_eq (M := M_Model_behindClass) 99 d_Model_behindClass_92 (by decide) (fun c => ?_) (fun c => ?_)
  · have h := h.1 c
    refine mm_iconst (M := M_Model_behindClass) (v := 1) d_Model_behindClass_99 (by decide) ?_
    refine mm_iadd (M := M_Model_behindClass) d_Model_behindClass_100 ?_
    refine mm_istore_n (M := M_Model_behindClass) d_Model_behindClass_101 (Nat.le_of_ble_eq_true rfl) ?_
    refine mm_eqL (L' := [some (.ref 0), none, some (.int (z2 + (1 : Int32))), some (.int z3), some (.int z4)]) rfl ?_
    refine mm_iinc (M := M_Model_behindClass) (v := 1) d_Model_behindClass_102 rfl (by decide) (Nat.le_of_ble_eq_true rfl) ?_
    refine mm_eqL (L' := [some (.ref 0), none, some (.int (z2 + (1 : Int32))), some (.int (z3 + 1)), some (.int z4)]) rfl ?_
    refine mm_goto (M := M_Model_behindClass) (tgt := 24) d_Model_behindClass_105 (by decide) ?_
    refine mm_drop (L' := [some (.ref 0), none, some (.int (z2 + (1 : Int32))), some (.int (z3 + 1)), none]) ⟨rfl, ⟨rfl, ⟨rfl, trivial⟩⟩⟩ ?_
    exact hX h
  · have h := h.2 c
    refine mm_iconst (M := M_Model_behindClass) (v := 3) d_Model_behindClass_95 (by decide) ?_
    refine mm_goto (M := M_Model_behindClass) (tgt := 100) d_Model_behindClass_96 (by decide) ?_
    refine mm_iadd (M := M_Model_behindClass) d_Model_behindClass_100 ?_
    refine mm_istore_n (M := M_Model_behindClass) d_Model_behindClass_101 (Nat.le_of_ble_eq_true rfl) ?_
    refine mm_eqL (L' := [some (.ref 0), none, some (.int (z2 + (3 : Int32))), some (.int z3), some (.int z4)]) rfl ?_
    refine mm_iinc (M := M_Model_behindClass) (v := 1) d_Model_behindClass_102 rfl (by decide) (Nat.le_of_ble_eq_true rfl) ?_
    refine mm_eqL (L' := [some (.ref 0), none, some (.int (z2 + (3 : Int32))), some (.int (z3 + 1)), some (.int z4)]) rfl ?_
    refine mm_goto (M := M_Model_behindClass) (tgt := 24) d_Model_behindClass_105 (by decide) ?_
    refine mm_drop (L' := [some (.ref 0), none, some (.int (z2 + (3 : Int32))), some (.int (z3 + 1)), none]) ⟨rfl, ⟨rfl, ⟨rfl, trivial⟩⟩⟩ ?_
    exact hX h
def wt_Model_behindClass_0 (X : mm_i → mm_j → mm_a → mm_b → Int32 → Int32 → Prop) (K : Int32 → mm_i → mm_j → mm_a → mm_b → Prop) (i : mm_i) (l : mm_j) (a : mm_a) (b : mm_b) (z2 : Int32) (z3 : Int32) : Prop :=
  wp_Model_c_0 i l a b z2 (fun r1 i1 l1 a1 b1 => wp_Model_letter i1 l1 a1 b1 r1 (fun r2 i2 l2 a2 b2 => (r2 = 0 → (z3 ≤ 0 → K (-1) i2 l2 a2 b2) ∧ (¬ z3 ≤ 0 → wp_Model_c_0 i2 l2 a2 b2 z2 (fun r3 i3 l3 a3 b3 => (¬ r3 = (93 : Int32) → K (-1) i3 l3 a3 b3) ∧ (r3 = (93 : Int32) → K (z2 + (1 : Int32)) i3 l3 a3 b3)))) ∧ (¬ r2 = 0 → wp_Model_c_0 i2 l2 a2 b2 (z2 + (1 : Int32)) (fun r4 i4 l4 a4 b4 => (¬ r4 = (45 : Int32) → wq_Model_behindClass_0_89 X K i4 l4 a4 b4 z2 z3 0) ∧ (r4 = (45 : Int32) → wp_Model_c_0 i4 l4 a4 b4 (z2 + (2 : Int32)) (fun r5 i5 l5 a5 b5 => wp_Model_letter i5 l5 a5 b5 r5 (fun r6 i6 l6 a6 b6 => (r6 = 0 → K (-1) i6 l6 a6 b6) ∧ (¬ r6 = 0 → wp_Model_c_0 i6 l6 a6 b6 (z2 + (2 : Int32)) (fun r7 i7 l7 a7 b7 => wp_Model_c_0 i7 l7 a7 b7 z2 (fun r8 i8 l8 a8 b8 => (r8 ≤ r7 → wq_Model_behindClass_0_89 X K i8 l8 a8 b8 z2 z3 1) ∧ (¬ r8 ≤ r7 → K (-1) i8 l8 a8 b8)))))))))))
def wl_Model_behindClass_0 (K : Int32 → mm_i → mm_j → mm_a → mm_b → Prop) : Nat → mm_i → mm_j → mm_a → mm_b → Int32 → Int32 → Prop
  | 0 => fun _ _ _ _ _ _ => False
  | n + 1 => fun i l a b z2 z3 => wt_Model_behindClass_0 (wl_Model_behindClass_0 K n) K i l a b z2 z3
set_option maxRecDepth 100000 in
set_option maxHeartbeats 4000000 in
theorem vt_Model_behindClass_0 {k0 : Nat} {t : mm_H} {K : Int32 → mm_i → mm_j → mm_a → mm_b → Prop} {X : mm_i → mm_j → mm_a → mm_b → Int32 → Int32 → Prop} (hX : ∀ {i l a b z2 z3}, X i l a b z2 z3 → mm_V M_Model_behindClass 2 k0 (mx_PI t K) 0 0 24 [some (.ref 0), none, some (.int z2), some (.int z3), none] [] (Wm i l a b ++ t)) {i : mm_i} {l : mm_j} {a : mm_a} {b : mm_b} {z2 : Int32} {z3 : Int32} (h : wt_Model_behindClass_0 X K i l a b z2 z3) : mm_V M_Model_behindClass 2 k0 (mx_PI t K) 0 0 24 [some (.ref 0), none, some (.int z2), some (.int z3), none] [] (Wm i l a b ++ t) := by
  unfold wt_Model_behindClass_0 at h
  refine mm_aload_n (M := M_Model_behindClass) d_Model_behindClass_24 rfl ?_
  refine mm_iload_n (M := M_Model_behindClass) d_Model_behindClass_25 rfl ?_
  refine mm_eqs (st2 := [.int z2].reverse ++ .ref 0 :: []) rfl ?_
  refine mm_callV (M := M_Model_behindClass) (y := y_Model_c) (M' := M_Model_c) (d' := 0) (kc := 0) (ks := 0) (kc' := 0) (ks' := 0) (n := 1) d_Model_behindClass_26 ok_Model_c ml_Model_53 (by decide) rfl (Nat.le_of_ble_eq_true rfl) ⟨tw_794, ts_Model_c⟩ xg_0 rfl (ct_Model_c_0 h) (fun v w h => ?_)
  obtain ⟨r1, i1, l1, a1, b1, rfl, rfl, h⟩ := h
  refine mm_eqs (st2 := [.int r1]) rfl ?_
  refine mm_eqs (st2 := [.int r1].reverse ++ []) rfl ?_
  refine mm_callS (M := M_Model_behindClass) (y := y_Model_letter) (M' := M_Model_letter) (d' := 1) (kc := 0) (ks := 0) (kc' := 0) (ks' := 0) (n := 1) d_Model_behindClass_29 ok_Model_letter ml_Model_43 (by decide) rfl (Nat.le_of_ble_eq_true rfl) tw_772 (ct_Model_letter h) (fun v w h => ?_)
  obtain ⟨r2, i2, l2, a2, b2, rfl, rfl, h⟩ := h
  refine mm_eqs (st2 := [.int r2]) rfl ?_
  refine mm_if_eq (M := M_Model_behindClass) 108 d_Model_behindClass_32 (by decide) (fun c => ?_) (fun c => ?_)
  · have h := h.1 c
    refine mm_iload_n (M := M_Model_behindClass) d_Model_behindClass_108 rfl ?_
    refine mm_if_le (M := M_Model_behindClass) 128 d_Model_behindClass_109 (by decide) (fun c => ?_) (fun c => ?_)
    · have h := h.1 c
      refine mm_iconst (M := M_Model_behindClass) (v := (-1)) d_Model_behindClass_128 (by decide) ?_
      exact mm_retv (M := M_Model_behindClass) ⟨_, rfl, rfl, d_Model_behindClass_129⟩ ⟨_, _, _, _, _, rfl, rfl, h⟩
    · have h := h.2 c
      refine mm_aload_n (M := M_Model_behindClass) d_Model_behindClass_112 rfl ?_
      refine mm_iload_n (M := M_Model_behindClass) d_Model_behindClass_113 rfl ?_
      refine mm_eqs (st2 := [.int z2].reverse ++ .ref 0 :: []) rfl ?_
      refine mm_callV (M := M_Model_behindClass) (y := y_Model_c) (M' := M_Model_c) (d' := 0) (kc := 0) (ks := 0) (kc' := 0) (ks' := 0) (n := 1) d_Model_behindClass_114 ok_Model_c ml_Model_53 (by decide) rfl (Nat.le_of_ble_eq_true rfl) ⟨tw_794, ts_Model_c⟩ xg_0 rfl (ct_Model_c_0 h) (fun v w h => ?_)
      obtain ⟨r3, i3, l3, a3, b3, rfl, rfl, h⟩ := h
      refine mm_eqs (st2 := [.int r3]) rfl ?_
      refine mm_bipush (M := M_Model_behindClass) (v := 93) d_Model_behindClass_117 (by decide) ?_
      refine mm_icmp_ne (M := M_Model_behindClass) 128 d_Model_behindClass_119 (by decide) (fun c => ?_) (fun c => ?_)
      · have h := h.1 c
        refine mm_iconst (M := M_Model_behindClass) (v := (-1)) d_Model_behindClass_128 (by decide) ?_
        exact mm_retv (M := M_Model_behindClass) ⟨_, rfl, rfl, d_Model_behindClass_129⟩ ⟨_, _, _, _, _, rfl, rfl, h⟩
      · have h := h.2 c
        refine mm_iload_n (M := M_Model_behindClass) d_Model_behindClass_122 rfl ?_
        refine mm_iconst (M := M_Model_behindClass) (v := 1) d_Model_behindClass_123 (by decide) ?_
        refine mm_iadd (M := M_Model_behindClass) d_Model_behindClass_124 ?_
        refine mm_goto (M := M_Model_behindClass) (tgt := 129) d_Model_behindClass_125 (by decide) ?_
        exact mm_retv (M := M_Model_behindClass) ⟨_, rfl, rfl, d_Model_behindClass_129⟩ ⟨_, _, _, _, _, rfl, rfl, h⟩
  · have h := h.2 c
    refine mm_aload_n (M := M_Model_behindClass) d_Model_behindClass_35 rfl ?_
    refine mm_iload_n (M := M_Model_behindClass) d_Model_behindClass_36 rfl ?_
    refine mm_iconst (M := M_Model_behindClass) (v := 1) d_Model_behindClass_37 (by decide) ?_
    refine mm_iadd (M := M_Model_behindClass) d_Model_behindClass_38 ?_
    refine mm_eqs (st2 := [.int (z2 + (1 : Int32))].reverse ++ .ref 0 :: []) rfl ?_
    refine mm_callV (M := M_Model_behindClass) (y := y_Model_c) (M' := M_Model_c) (d' := 0) (kc := 0) (ks := 0) (kc' := 0) (ks' := 0) (n := 1) d_Model_behindClass_39 ok_Model_c ml_Model_53 (by decide) rfl (Nat.le_of_ble_eq_true rfl) ⟨tw_794, ts_Model_c⟩ xg_0 rfl (ct_Model_c_0 h) (fun v w h => ?_)
    obtain ⟨r4, i4, l4, a4, b4, rfl, rfl, h⟩ := h
    refine mm_eqs (st2 := [.int r4]) rfl ?_
    refine mm_bipush (M := M_Model_behindClass) (v := 45) d_Model_behindClass_42 (by decide) ?_
    refine mm_icmp_ne (M := M_Model_behindClass) 51 d_Model_behindClass_44 (by decide) (fun c => ?_) (fun c => ?_)
    · have h := h.1 c
      refine mm_iconst (M := M_Model_behindClass) (v := 0) d_Model_behindClass_51 (by decide) ?_
      refine mm_istore (M := M_Model_behindClass) d_Model_behindClass_52 (Nat.le_of_ble_eq_true rfl) ?_
      refine mm_eqL (L' := [some (.ref 0), none, some (.int z2), some (.int z3), some (.int 0)]) rfl ?_
      refine mm_iload (M := M_Model_behindClass) d_Model_behindClass_54 rfl ?_
      refine mm_if_eq (M := M_Model_behindClass) 89 d_Model_behindClass_56 (by decide) (fun c => ?_) (fun c => absurd c (by decide))
      refine mm_drop (L' := [some (.ref 0), none, some (.int z2), some (.int z3), some (.int 0)]) ⟨rfl, ⟨rfl, ⟨rfl, ⟨rfl, trivial⟩⟩⟩⟩ ?_
      exact vq_Model_behindClass_0_89 hX h
    · have h := h.2 c
      refine mm_iconst (M := M_Model_behindClass) (v := 1) d_Model_behindClass_47 (by decide) ?_
      refine mm_goto (M := M_Model_behindClass) (tgt := 52) d_Model_behindClass_48 (by decide) ?_
      refine mm_istore (M := M_Model_behindClass) d_Model_behindClass_52 (Nat.le_of_ble_eq_true rfl) ?_
      refine mm_eqL (L' := [some (.ref 0), none, some (.int z2), some (.int z3), some (.int 1)]) rfl ?_
      refine mm_iload (M := M_Model_behindClass) d_Model_behindClass_54 rfl ?_
      refine mm_if_eq (M := M_Model_behindClass) 89 d_Model_behindClass_56 (by decide) (fun c => absurd c (by decide)) (fun c => ?_)
      refine mm_aload_n (M := M_Model_behindClass) d_Model_behindClass_59 rfl ?_
      refine mm_iload_n (M := M_Model_behindClass) d_Model_behindClass_60 rfl ?_
      refine mm_iconst (M := M_Model_behindClass) (v := 2) d_Model_behindClass_61 (by decide) ?_
      refine mm_iadd (M := M_Model_behindClass) d_Model_behindClass_62 ?_
      refine mm_eqs (st2 := [.int (z2 + (2 : Int32))].reverse ++ .ref 0 :: []) rfl ?_
      refine mm_callV (M := M_Model_behindClass) (y := y_Model_c) (M' := M_Model_c) (d' := 0) (kc := 0) (ks := 0) (kc' := 0) (ks' := 0) (n := 1) d_Model_behindClass_63 ok_Model_c ml_Model_53 (by decide) rfl (Nat.le_of_ble_eq_true rfl) ⟨tw_794, ts_Model_c⟩ xg_0 rfl (ct_Model_c_0 h) (fun v w h => ?_)
      obtain ⟨r5, i5, l5, a5, b5, rfl, rfl, h⟩ := h
      refine mm_eqs (st2 := [.int r5]) rfl ?_
      refine mm_eqs (st2 := [.int r5].reverse ++ []) rfl ?_
      refine mm_callS (M := M_Model_behindClass) (y := y_Model_letter) (M' := M_Model_letter) (d' := 1) (kc := 0) (ks := 0) (kc' := 0) (ks' := 0) (n := 1) d_Model_behindClass_66 ok_Model_letter ml_Model_43 (by decide) rfl (Nat.le_of_ble_eq_true rfl) tw_772 (ct_Model_letter h) (fun v w h => ?_)
      obtain ⟨r6, i6, l6, a6, b6, rfl, rfl, h⟩ := h
      refine mm_eqs (st2 := [.int r6]) rfl ?_
      refine mm_if_eq (M := M_Model_behindClass) 87 d_Model_behindClass_69 (by decide) (fun c => ?_) (fun c => ?_)
      · have h := h.1 c
        refine mm_iconst (M := M_Model_behindClass) (v := (-1)) d_Model_behindClass_87 (by decide) ?_
        exact mm_retv (M := M_Model_behindClass) ⟨_, rfl, rfl, d_Model_behindClass_88⟩ ⟨_, _, _, _, _, rfl, rfl, h⟩
      · have h := h.2 c
        refine mm_aload_n (M := M_Model_behindClass) d_Model_behindClass_72 rfl ?_
        refine mm_iload_n (M := M_Model_behindClass) d_Model_behindClass_73 rfl ?_
        refine mm_iconst (M := M_Model_behindClass) (v := 2) d_Model_behindClass_74 (by decide) ?_
        refine mm_iadd (M := M_Model_behindClass) d_Model_behindClass_75 ?_
        refine mm_eqs (st2 := [.int (z2 + (2 : Int32))].reverse ++ .ref 0 :: []) rfl ?_
        refine mm_callV (M := M_Model_behindClass) (y := y_Model_c) (M' := M_Model_c) (d' := 0) (kc := 0) (ks := 0) (kc' := 0) (ks' := 0) (n := 1) d_Model_behindClass_76 ok_Model_c ml_Model_53 (by decide) rfl (Nat.le_of_ble_eq_true rfl) ⟨tw_794, ts_Model_c⟩ xg_0 rfl (ct_Model_c_0 h) (fun v w h => ?_)
        obtain ⟨r7, i7, l7, a7, b7, rfl, rfl, h⟩ := h
        refine mm_eqs (st2 := [.int r7]) rfl ?_
        refine mm_aload_n (M := M_Model_behindClass) d_Model_behindClass_79 rfl ?_
        refine mm_iload_n (M := M_Model_behindClass) d_Model_behindClass_80 rfl ?_
        refine mm_eqs (st2 := [.int z2].reverse ++ .ref 0 :: [.int r7]) rfl ?_
        refine mm_callV (M := M_Model_behindClass) (y := y_Model_c) (M' := M_Model_c) (d' := 0) (kc := 0) (ks := 0) (kc' := 0) (ks' := 0) (n := 1) d_Model_behindClass_81 ok_Model_c ml_Model_53 (by decide) rfl (Nat.le_of_ble_eq_true rfl) ⟨tw_794, ts_Model_c⟩ xg_0 rfl (ct_Model_c_0 h) (fun v w h => ?_)
        obtain ⟨r8, i8, l8, a8, b8, rfl, rfl, h⟩ := h
        refine mm_eqs (st2 := [.int r8, .int r7]) rfl ?_
        refine mm_icmp_ge (M := M_Model_behindClass) 89 d_Model_behindClass_84 (by decide) (fun c => ?_) (fun c => ?_)
        · have h := h.1 c
          refine mm_drop (L' := [some (.ref 0), none, some (.int z2), some (.int z3), some (.int 1)]) ⟨rfl, ⟨rfl, ⟨rfl, ⟨rfl, trivial⟩⟩⟩⟩ ?_
          exact vq_Model_behindClass_0_89 hX h
        · have h := h.2 c
          refine mm_iconst (M := M_Model_behindClass) (v := (-1)) d_Model_behindClass_87 (by decide) ?_
          exact mm_retv (M := M_Model_behindClass) ⟨_, rfl, rfl, d_Model_behindClass_88⟩ ⟨_, _, _, _, _, rfl, rfl, h⟩
theorem vl_Model_behindClass_0 {k0 : Nat} {t : mm_H} {K : Int32 → mm_i → mm_j → mm_a → mm_b → Prop} : ∀ (n : Nat) {i : mm_i} {l : mm_j} {a : mm_a} {b : mm_b} {z2 : Int32} {z3 : Int32}, wl_Model_behindClass_0 K n i l a b z2 z3 → mm_V M_Model_behindClass 2 k0 (mx_PI t K) 0 0 24 [some (.ref 0), none, some (.int z2), some (.int z3), none] [] (Wm i l a b ++ t)
  | 0, _, _, _, _, _, _, h => h.elim
  | n + 1, _, _, _, _, _, _, h => vt_Model_behindClass_0 (fun h => vl_Model_behindClass_0 n h) h
def wq_Model_behindClass_0_22 (K : Int32 → mm_i → mm_j → mm_a → mm_b → Prop) (i : mm_i) (l : mm_j) (a : mm_a) (b : mm_b) (z2 : Int32) : Prop :=
  ∃ n, wl_Model_behindClass_0 K n i l a b z2 0
set_option maxRecDepth 100000 in
set_option maxHeartbeats 4000000 in
theorem vq_Model_behindClass_0_22 {k0 : Nat} {t : mm_H} {K : Int32 → mm_i → mm_j → mm_a → mm_b → Prop} {i : mm_i} {l : mm_j} {a : mm_a} {b : mm_b} {z2 : Int32} (h : wq_Model_behindClass_0_22 K i l a b z2) : mm_V M_Model_behindClass 2 k0 (mx_PI t K) 0 0 22 [some (.ref 0), none, some (.int z2), none, none] [] (Wm i l a b ++ t) := by
  unfold wq_Model_behindClass_0_22 at h
  refine mm_iconst (M := M_Model_behindClass) (v := 0) d_Model_behindClass_22 (by decide) ?_
  refine mm_istore_n (M := M_Model_behindClass) d_Model_behindClass_23 (Nat.le_of_ble_eq_true rfl) ?_
  refine mm_eqL (L' := [some (.ref 0), none, some (.int z2), some (.int 0), none]) rfl ?_
  obtain ⟨n, h⟩ := h
  refine mm_drop (L' := [some (.ref 0), none, some (.int z2), some (.int 0), none]) ⟨rfl, ⟨rfl, ⟨rfl, trivial⟩⟩⟩ ?_
  exact (vl_Model_behindClass_0 n) h
def wp_Model_behindClass_0 (i : mm_i) (l : mm_j) (a : mm_a) (b : mm_b) (x1 : Int32) (K : Int32 → mm_i → mm_j → mm_a → mm_b → Prop) : Prop :=
  wp_Model_c_0 i l a b (x1 + (1 : Int32)) (fun r1 i1 l1 a1 b1 => (¬ r1 = (94 : Int32) → wq_Model_behindClass_0_22 K i1 l1 a1 b1 (x1 + (1 : Int32))) ∧ (r1 = (94 : Int32) → wq_Model_behindClass_0_22 K i1 l1 a1 b1 (x1 + (2 : Int32))))
set_option maxRecDepth 100000 in
set_option maxHeartbeats 4000000 in
theorem ct_Model_behindClass_0 {i : mm_i} {l : mm_j} {a : mm_a} {b : mm_b} {t : mm_H} {x1 : Int32} {K : Int32 → mm_i → mm_j → mm_a → mm_b → Prop} (h : wp_Model_behindClass_0 i l a b x1 K) : mm_Ct y_Model_behindClass M_Model_behindClass 2 0 0 [.ref 0, .int x1] (Wm i l a b ++ t) (mx_PI t K) := by
  refine mm_Ct.of (by decide) rfl (fun q => absurd q (by decide)) (Nat.le_of_ble_eq_true rfl) ?_
  unfold wp_Model_behindClass_0 at h
  refine mm_eqL (L' := [some (.ref 0), some (.int x1), none, none, none]) rfl ?_
  refine mm_aload_n (M := M_Model_behindClass) d_Model_behindClass_0 rfl ?_
  refine mm_iload_n (M := M_Model_behindClass) d_Model_behindClass_1 rfl ?_
  refine mm_iconst (M := M_Model_behindClass) (v := 1) d_Model_behindClass_2 (by decide) ?_
  refine mm_iadd (M := M_Model_behindClass) d_Model_behindClass_3 ?_
  refine mm_eqs (st2 := [.int (x1 + (1 : Int32))].reverse ++ .ref 0 :: []) rfl ?_
  refine mm_callV (M := M_Model_behindClass) (y := y_Model_c) (M' := M_Model_c) (d' := 0) (kc := 0) (ks := 0) (kc' := 0) (ks' := 0) (n := 1) d_Model_behindClass_4 ok_Model_c ml_Model_53 (by decide) rfl (Nat.le_of_ble_eq_true rfl) ⟨tw_794, ts_Model_c⟩ xg_0 rfl (ct_Model_c_0 h) (fun v w h => ?_)
  obtain ⟨r1, i1, l1, a1, b1, rfl, rfl, h⟩ := h
  refine mm_eqs (st2 := [.int r1]) rfl ?_
  refine mm_bipush (M := M_Model_behindClass) (v := 94) d_Model_behindClass_7 (by decide) ?_
  refine mm_icmp_ne (M := M_Model_behindClass) 18 d_Model_behindClass_9 (by decide) (fun c => ?_) (fun c => ?_)
  · have h := h.1 c
    refine mm_iload_n (M := M_Model_behindClass) d_Model_behindClass_18 rfl ?_
    refine mm_iconst (M := M_Model_behindClass) (v := 1) d_Model_behindClass_19 (by decide) ?_
    refine mm_iadd (M := M_Model_behindClass) d_Model_behindClass_20 ?_
    refine mm_istore_n (M := M_Model_behindClass) d_Model_behindClass_21 (Nat.le_of_ble_eq_true rfl) ?_
    refine mm_eqL (L' := [some (.ref 0), some (.int x1), some (.int (x1 + (1 : Int32))), none, none]) rfl ?_
    refine mm_drop (L' := [some (.ref 0), none, some (.int (x1 + (1 : Int32))), none, none]) ⟨rfl, ⟨rfl, trivial⟩⟩ ?_
    exact vq_Model_behindClass_0_22 h
  · have h := h.2 c
    refine mm_iload_n (M := M_Model_behindClass) d_Model_behindClass_12 rfl ?_
    refine mm_iconst (M := M_Model_behindClass) (v := 2) d_Model_behindClass_13 (by decide) ?_
    refine mm_iadd (M := M_Model_behindClass) d_Model_behindClass_14 ?_
    refine mm_goto (M := M_Model_behindClass) (tgt := 21) d_Model_behindClass_15 (by decide) ?_
    refine mm_istore_n (M := M_Model_behindClass) d_Model_behindClass_21 (Nat.le_of_ble_eq_true rfl) ?_
    refine mm_eqL (L' := [some (.ref 0), some (.int x1), some (.int (x1 + (2 : Int32))), none, none]) rfl ?_
    refine mm_drop (L' := [some (.ref 0), none, some (.int (x1 + (2 : Int32))), none, none]) ⟨rfl, ⟨rfl, trivial⟩⟩ ?_
    exact vq_Model_behindClass_0_22 h
def wp_Model_opener_0 (i : mm_i) (l : mm_j) (a : mm_a) (b : mm_b) (x1 : Int32) (K : Int32 → mm_i → mm_j → mm_a → mm_b → Prop) : Prop :=
  wp_Model_c_0 i l a b x1 (fun r1 i1 l1 a1 b1 => (r1 = (40 : Int32) → wp_Model_c_0 i1 l1 a1 b1 (x1 + (1 : Int32)) (fun r2 i2 l2 a2 b2 => (r2 = (63 : Int32) → wp_Model_c_0 i2 l2 a2 b2 (x1 + (2 : Int32)) (fun r3 i3 l3 a3 b3 => (r3 = (58 : Int32) → K 3 i3 l3 a3 b3) ∧ (¬ r3 = (58 : Int32) → (r3 = (61 : Int32) → K 3 i3 l3 a3 b3) ∧ (¬ r3 = (61 : Int32) → (r3 = (33 : Int32) → K 3 i3 l3 a3 b3) ∧ (¬ r3 = (33 : Int32) → (¬ r3 = (62 : Int32) → K 0 i3 l3 a3 b3) ∧ (r3 = (62 : Int32) → K 3 i3 l3 a3 b3)))))) ∧ (¬ r2 = (63 : Int32) → K 1 i2 l2 a2 b2))) ∧ (¬ r1 = (40 : Int32) → K 0 i1 l1 a1 b1))
set_option maxRecDepth 100000 in
set_option maxHeartbeats 4000000 in
theorem ct_Model_opener_0 {i : mm_i} {l : mm_j} {a : mm_a} {b : mm_b} {t : mm_H} {x1 : Int32} {K : Int32 → mm_i → mm_j → mm_a → mm_b → Prop} (h : wp_Model_opener_0 i l a b x1 K) : mm_Ct y_Model_opener M_Model_opener 1 0 0 [.ref 0, .int x1] (Wm i l a b ++ t) (mx_PI t K) := by
  refine mm_Ct.of (by decide) rfl (fun q => absurd q (by decide)) (Nat.le_of_ble_eq_true rfl) ?_
  unfold wp_Model_opener_0 at h
  refine mm_eqL (L' := [some (.ref 0), some (.int x1), none]) rfl ?_
  refine mm_aload_n (M := M_Model_opener) d_Model_opener_0 rfl ?_
  refine mm_iload_n (M := M_Model_opener) d_Model_opener_1 rfl ?_
  refine mm_eqs (st2 := [.int x1].reverse ++ .ref 0 :: []) rfl ?_
  refine mm_callV (M := M_Model_opener) (y := y_Model_c) (M' := M_Model_c) (d' := 0) (kc := 0) (ks := 0) (kc' := 0) (ks' := 0) (n := 1) d_Model_opener_2 ok_Model_c ml_Model_53 (by decide) rfl (Nat.le_of_ble_eq_true rfl) ⟨tw_794, ts_Model_c⟩ xg_0 rfl (ct_Model_c_0 h) (fun v w h => ?_)
  obtain ⟨r1, i1, l1, a1, b1, rfl, rfl, h⟩ := h
  refine mm_eqs (st2 := [.int r1]) rfl ?_
  refine mm_bipush (M := M_Model_opener) (v := 40) d_Model_opener_5 (by decide) ?_
  refine mm_icmp_eq (M := M_Model_opener) 12 d_Model_opener_7 (by decide) (fun c => ?_) (fun c => ?_)
  · have h := h.1 c
    refine mm_aload_n (M := M_Model_opener) d_Model_opener_12 rfl ?_
    refine mm_iload_n (M := M_Model_opener) d_Model_opener_13 rfl ?_
    refine mm_iconst (M := M_Model_opener) (v := 1) d_Model_opener_14 (by decide) ?_
    refine mm_iadd (M := M_Model_opener) d_Model_opener_15 ?_
    refine mm_eqs (st2 := [.int (x1 + (1 : Int32))].reverse ++ .ref 0 :: []) rfl ?_
    refine mm_callV (M := M_Model_opener) (y := y_Model_c) (M' := M_Model_c) (d' := 0) (kc := 0) (ks := 0) (kc' := 0) (ks' := 0) (n := 1) d_Model_opener_16 ok_Model_c ml_Model_53 (by decide) rfl (Nat.le_of_ble_eq_true rfl) ⟨tw_794, ts_Model_c⟩ xg_0 rfl (ct_Model_c_0 h) (fun v w h => ?_)
    obtain ⟨r2, i2, l2, a2, b2, rfl, rfl, h⟩ := h
    refine mm_eqs (st2 := [.int r2]) rfl ?_
    refine mm_bipush (M := M_Model_opener) (v := 63) d_Model_opener_19 (by decide) ?_
    refine mm_icmp_eq (M := M_Model_opener) 26 d_Model_opener_21 (by decide) (fun c => ?_) (fun c => ?_)
    · have h := h.1 c
      refine mm_aload_n (M := M_Model_opener) d_Model_opener_26 rfl ?_
      refine mm_iload_n (M := M_Model_opener) d_Model_opener_27 rfl ?_
      refine mm_iconst (M := M_Model_opener) (v := 2) d_Model_opener_28 (by decide) ?_
      refine mm_iadd (M := M_Model_opener) d_Model_opener_29 ?_
      refine mm_eqs (st2 := [.int (x1 + (2 : Int32))].reverse ++ .ref 0 :: []) rfl ?_
      refine mm_callV (M := M_Model_opener) (y := y_Model_c) (M' := M_Model_c) (d' := 0) (kc := 0) (ks := 0) (kc' := 0) (ks' := 0) (n := 1) d_Model_opener_30 ok_Model_c ml_Model_53 (by decide) rfl (Nat.le_of_ble_eq_true rfl) ⟨tw_794, ts_Model_c⟩ xg_0 rfl (ct_Model_c_0 h) (fun v w h => ?_)
      obtain ⟨r3, i3, l3, a3, b3, rfl, rfl, h⟩ := h
      refine mm_eqs (st2 := [.int r3]) rfl ?_
      refine mm_istore_n (M := M_Model_opener) d_Model_opener_33 (Nat.le_of_ble_eq_true rfl) ?_
      refine mm_eqL (L' := [some (.ref 0), some (.int x1), some (.int r3)]) rfl ?_
      refine mm_iload_n (M := M_Model_opener) d_Model_opener_34 rfl ?_
      refine mm_bipush (M := M_Model_opener) (v := 58) d_Model_opener_35 (by decide) ?_
      refine mm_icmp_eq (M := M_Model_opener) 58 d_Model_opener_37 (by decide) (fun c => ?_) (fun c => ?_)
      · have h := h.1 c
        refine mm_iconst (M := M_Model_opener) (v := 3) d_Model_opener_58 (by decide) ?_
        refine mm_goto (M := M_Model_opener) (tgt := 63) d_Model_opener_59 (by decide) ?_
        exact mm_retv (M := M_Model_opener) ⟨_, rfl, rfl, d_Model_opener_63⟩ ⟨_, _, _, _, _, rfl, rfl, h⟩
      · have h := h.2 c
        refine mm_iload_n (M := M_Model_opener) d_Model_opener_40 rfl ?_
        refine mm_bipush (M := M_Model_opener) (v := 61) d_Model_opener_41 (by decide) ?_
        refine mm_icmp_eq (M := M_Model_opener) 58 d_Model_opener_43 (by decide) (fun c => ?_) (fun c => ?_)
        · have h := h.1 c
          refine mm_iconst (M := M_Model_opener) (v := 3) d_Model_opener_58 (by decide) ?_
          refine mm_goto (M := M_Model_opener) (tgt := 63) d_Model_opener_59 (by decide) ?_
          exact mm_retv (M := M_Model_opener) ⟨_, rfl, rfl, d_Model_opener_63⟩ ⟨_, _, _, _, _, rfl, rfl, h⟩
        · have h := h.2 c
          refine mm_iload_n (M := M_Model_opener) d_Model_opener_46 rfl ?_
          refine mm_bipush (M := M_Model_opener) (v := 33) d_Model_opener_47 (by decide) ?_
          refine mm_icmp_eq (M := M_Model_opener) 58 d_Model_opener_49 (by decide) (fun c => ?_) (fun c => ?_)
          · have h := h.1 c
            refine mm_iconst (M := M_Model_opener) (v := 3) d_Model_opener_58 (by decide) ?_
            refine mm_goto (M := M_Model_opener) (tgt := 63) d_Model_opener_59 (by decide) ?_
            exact mm_retv (M := M_Model_opener) ⟨_, rfl, rfl, d_Model_opener_63⟩ ⟨_, _, _, _, _, rfl, rfl, h⟩
          · have h := h.2 c
            refine mm_iload_n (M := M_Model_opener) d_Model_opener_52 rfl ?_
            refine mm_bipush (M := M_Model_opener) (v := 62) d_Model_opener_53 (by decide) ?_
            refine mm_icmp_ne (M := M_Model_opener) 62 d_Model_opener_55 (by decide) (fun c => ?_) (fun c => ?_)
            · have h := h.1 c
              refine mm_iconst (M := M_Model_opener) (v := 0) d_Model_opener_62 (by decide) ?_
              exact mm_retv (M := M_Model_opener) ⟨_, rfl, rfl, d_Model_opener_63⟩ ⟨_, _, _, _, _, rfl, rfl, h⟩
            · have h := h.2 c
              refine mm_iconst (M := M_Model_opener) (v := 3) d_Model_opener_58 (by decide) ?_
              refine mm_goto (M := M_Model_opener) (tgt := 63) d_Model_opener_59 (by decide) ?_
              exact mm_retv (M := M_Model_opener) ⟨_, rfl, rfl, d_Model_opener_63⟩ ⟨_, _, _, _, _, rfl, rfl, h⟩
    · have h := h.2 c
      refine mm_iconst (M := M_Model_opener) (v := 1) d_Model_opener_24 (by decide) ?_
      exact mm_retv (M := M_Model_opener) ⟨_, rfl, rfl, d_Model_opener_25⟩ ⟨_, _, _, _, _, rfl, rfl, h⟩
  · have h := h.2 c
    refine mm_iconst (M := M_Model_opener) (v := 0) d_Model_opener_10 (by decide) ?_
    exact mm_retv (M := M_Model_opener) ⟨_, rfl, rfl, d_Model_opener_11⟩ ⟨_, _, _, _, _, rfl, rfl, h⟩
def wp_Model_behindPlain_0 (i : mm_i) (l : mm_j) (a : mm_a) (b : mm_b) (x1 : Int32) (K : Int32 → mm_i → mm_j → mm_a → mm_b → Prop) : Prop :=
  wp_Model_c_0 i l a b x1 (fun r1 i1 l1 a1 b1 => wp_Model_letter i1 l1 a1 b1 r1 (fun r2 i2 l2 a2 b2 => (¬ r2 = 0 → K (x1 + (1 : Int32)) i2 l2 a2 b2) ∧ (r2 = 0 → (r1 = (46 : Int32) → K (x1 + (1 : Int32)) i2 l2 a2 b2) ∧ (¬ r1 = (46 : Int32) → (r1 = (94 : Int32) → K (x1 + (1 : Int32)) i2 l2 a2 b2) ∧ (¬ r1 = (94 : Int32) → (¬ r1 = (36 : Int32) → (¬ r1 = (91 : Int32) → (¬ r1 = (92 : Int32) → (¬ r1 = (40 : Int32) → K (-1) i2 l2 a2 b2) ∧ (r1 = (40 : Int32) → wp_Model_c_0 i2 l2 a2 b2 (x1 + (1 : Int32)) (fun r3 i3 l3 a3 b3 => (¬ r3 = (63 : Int32) → K (-1) i3 l3 a3 b3) ∧ (r3 = (63 : Int32) → wp_Model_c_0 i3 l3 a3 b3 (x1 + (2 : Int32)) (fun r4 i4 l4 a4 b4 => wp_Model_in i4 l4 a4 b4 r4 48 52 (fun r5 i5 l5 a5 b5 => (r5 = 0 → K (-1) i5 l5 a5 b5) ∧ (¬ r5 = 0 → wp_Model_c_0 i5 l5 a5 b5 (x1 + (3 : Int32)) (fun r6 i6 l6 a6 b6 => (¬ r6 = (41 : Int32) → K (-1) i6 l6 a6 b6) ∧ (r6 = (41 : Int32) → K (x1 + (4 : Int32)) i6 l6 a6 b6))))))))) ∧ (r1 = (92 : Int32) → wp_Model_c_0 i2 l2 a2 b2 (x1 + (1 : Int32)) (fun r7 i7 l7 a7 b7 => wp_Model_in i7 l7 a7 b7 r7 49 52 (fun r8 i8 l8 a8 b8 => (r8 = 0 → K (-1) i8 l8 a8 b8) ∧ (¬ r8 = 0 → K (x1 + (2 : Int32)) i8 l8 a8 b8))))) ∧ (r1 = (91 : Int32) → wp_Model_behindClass_0 i2 l2 a2 b2 x1 (fun r9 i9 l9 a9 b9 => K r9 i9 l9 a9 b9))) ∧ (r1 = (36 : Int32) → K (x1 + (1 : Int32)) i2 l2 a2 b2))))))
set_option maxRecDepth 100000 in
set_option maxHeartbeats 4000000 in
theorem ct_Model_behindPlain_0 {i : mm_i} {l : mm_j} {a : mm_a} {b : mm_b} {t : mm_H} {x1 : Int32} {K : Int32 → mm_i → mm_j → mm_a → mm_b → Prop} (h : wp_Model_behindPlain_0 i l a b x1 K) : mm_Ct y_Model_behindPlain M_Model_behindPlain 3 0 0 [.ref 0, .int x1] (Wm i l a b ++ t) (mx_PI t K) := by
  refine mm_Ct.of (by decide) rfl (fun q => absurd q (by decide)) (Nat.le_of_ble_eq_true rfl) ?_
  unfold wp_Model_behindPlain_0 at h
  refine mm_eqL (L' := [some (.ref 0), some (.int x1), none, none]) rfl ?_
  refine mm_aload_n (M := M_Model_behindPlain) d_Model_behindPlain_0 rfl ?_
  refine mm_iload_n (M := M_Model_behindPlain) d_Model_behindPlain_1 rfl ?_
  refine mm_eqs (st2 := [.int x1].reverse ++ .ref 0 :: []) rfl ?_
  refine mm_callV (M := M_Model_behindPlain) (y := y_Model_c) (M' := M_Model_c) (d' := 0) (kc := 0) (ks := 0) (kc' := 0) (ks' := 0) (n := 1) d_Model_behindPlain_2 ok_Model_c ml_Model_53 (by decide) rfl (Nat.le_of_ble_eq_true rfl) ⟨tw_794, ts_Model_c⟩ xg_0 rfl (ct_Model_c_0 h) (fun v w h => ?_)
  obtain ⟨r1, i1, l1, a1, b1, rfl, rfl, h⟩ := h
  refine mm_eqs (st2 := [.int r1]) rfl ?_
  refine mm_istore_n (M := M_Model_behindPlain) d_Model_behindPlain_5 (Nat.le_of_ble_eq_true rfl) ?_
  refine mm_eqL (L' := [some (.ref 0), some (.int x1), some (.int r1), none]) rfl ?_
  refine mm_iload_n (M := M_Model_behindPlain) d_Model_behindPlain_6 rfl ?_
  refine mm_eqs (st2 := [.int r1].reverse ++ []) rfl ?_
  refine mm_callS (M := M_Model_behindPlain) (y := y_Model_letter) (M' := M_Model_letter) (d' := 1) (kc := 0) (ks := 0) (kc' := 0) (ks' := 0) (n := 1) d_Model_behindPlain_7 ok_Model_letter ml_Model_43 (by decide) rfl (Nat.le_of_ble_eq_true rfl) tw_772 (ct_Model_letter h) (fun v w h => ?_)
  obtain ⟨r2, i2, l2, a2, b2, rfl, rfl, h⟩ := h
  refine mm_eqs (st2 := [.int r2]) rfl ?_
  refine mm_if_ne (M := M_Model_behindPlain) 31 d_Model_behindPlain_10 (by decide) (fun c => ?_) (fun c => ?_)
  · have h := h.1 c
    refine mm_iload_n (M := M_Model_behindPlain) d_Model_behindPlain_31 rfl ?_
    refine mm_iconst (M := M_Model_behindPlain) (v := 1) d_Model_behindPlain_32 (by decide) ?_
    refine mm_iadd (M := M_Model_behindPlain) d_Model_behindPlain_33 ?_
    exact mm_retv (M := M_Model_behindPlain) ⟨_, rfl, rfl, d_Model_behindPlain_34⟩ ⟨_, _, _, _, _, rfl, rfl, h⟩
  · have h := h.2 c
    refine mm_iload_n (M := M_Model_behindPlain) d_Model_behindPlain_13 rfl ?_
    refine mm_bipush (M := M_Model_behindPlain) (v := 46) d_Model_behindPlain_14 (by decide) ?_
    refine mm_icmp_eq (M := M_Model_behindPlain) 31 d_Model_behindPlain_16 (by decide) (fun c => ?_) (fun c => ?_)
    · have h := h.1 c
      refine mm_iload_n (M := M_Model_behindPlain) d_Model_behindPlain_31 rfl ?_
      refine mm_iconst (M := M_Model_behindPlain) (v := 1) d_Model_behindPlain_32 (by decide) ?_
      refine mm_iadd (M := M_Model_behindPlain) d_Model_behindPlain_33 ?_
      exact mm_retv (M := M_Model_behindPlain) ⟨_, rfl, rfl, d_Model_behindPlain_34⟩ ⟨_, _, _, _, _, rfl, rfl, h⟩
    · have h := h.2 c
      refine mm_iload_n (M := M_Model_behindPlain) d_Model_behindPlain_19 rfl ?_
      refine mm_bipush (M := M_Model_behindPlain) (v := 94) d_Model_behindPlain_20 (by decide) ?_
      refine mm_icmp_eq (M := M_Model_behindPlain) 31 d_Model_behindPlain_22 (by decide) (fun c => ?_) (fun c => ?_)
      · have h := h.1 c
        refine mm_iload_n (M := M_Model_behindPlain) d_Model_behindPlain_31 rfl ?_
        refine mm_iconst (M := M_Model_behindPlain) (v := 1) d_Model_behindPlain_32 (by decide) ?_
        refine mm_iadd (M := M_Model_behindPlain) d_Model_behindPlain_33 ?_
        exact mm_retv (M := M_Model_behindPlain) ⟨_, rfl, rfl, d_Model_behindPlain_34⟩ ⟨_, _, _, _, _, rfl, rfl, h⟩
      · have h := h.2 c
        refine mm_iload_n (M := M_Model_behindPlain) d_Model_behindPlain_25 rfl ?_
        refine mm_bipush (M := M_Model_behindPlain) (v := 36) d_Model_behindPlain_26 (by decide) ?_
        refine mm_icmp_ne (M := M_Model_behindPlain) 35 d_Model_behindPlain_28 (by decide) (fun c => ?_) (fun c => ?_)
        · have h := h.1 c
          refine mm_iload_n (M := M_Model_behindPlain) d_Model_behindPlain_35 rfl ?_
          refine mm_bipush (M := M_Model_behindPlain) (v := 91) d_Model_behindPlain_36 (by decide) ?_
          refine mm_icmp_ne (M := M_Model_behindPlain) 47 d_Model_behindPlain_38 (by decide) (fun c => ?_) (fun c => ?_)
          · have h := h.1 c
            refine mm_iload_n (M := M_Model_behindPlain) d_Model_behindPlain_47 rfl ?_
            refine mm_bipush (M := M_Model_behindPlain) (v := 92) d_Model_behindPlain_48 (by decide) ?_
            refine mm_icmp_ne (M := M_Model_behindPlain) 78 d_Model_behindPlain_50 (by decide) (fun c => ?_) (fun c => ?_)
            · have h := h.1 c
              refine mm_iload_n (M := M_Model_behindPlain) d_Model_behindPlain_78 rfl ?_
              refine mm_bipush (M := M_Model_behindPlain) (v := 40) d_Model_behindPlain_79 (by decide) ?_
              refine mm_icmp_ne (M := M_Model_behindPlain) 129 d_Model_behindPlain_81 (by decide) (fun c => ?_) (fun c => ?_)
              · have h := h.1 c
                refine mm_iconst (M := M_Model_behindPlain) (v := 0) d_Model_behindPlain_129 (by decide) ?_
                refine mm_istore_n (M := M_Model_behindPlain) d_Model_behindPlain_130 (Nat.le_of_ble_eq_true rfl) ?_
                refine mm_eqL (L' := [some (.ref 0), some (.int x1), some (.int r1), some (.int 0)]) rfl ?_
                refine mm_iload_n (M := M_Model_behindPlain) d_Model_behindPlain_131 rfl ?_
                refine mm_if_eq (M := M_Model_behindPlain) 141 d_Model_behindPlain_132 (by decide) (fun c => ?_) (fun c => absurd c (by decide))
                refine mm_iconst (M := M_Model_behindPlain) (v := (-1)) d_Model_behindPlain_141 (by decide) ?_
                exact mm_retv (M := M_Model_behindPlain) ⟨_, rfl, rfl, d_Model_behindPlain_142⟩ ⟨_, _, _, _, _, rfl, rfl, h⟩
              · have h := h.2 c
                refine mm_aload_n (M := M_Model_behindPlain) d_Model_behindPlain_84 rfl ?_
                refine mm_iload_n (M := M_Model_behindPlain) d_Model_behindPlain_85 rfl ?_
                refine mm_iconst (M := M_Model_behindPlain) (v := 1) d_Model_behindPlain_86 (by decide) ?_
                refine mm_iadd (M := M_Model_behindPlain) d_Model_behindPlain_87 ?_
                refine mm_eqs (st2 := [.int (x1 + (1 : Int32))].reverse ++ .ref 0 :: []) rfl ?_
                refine mm_callV (M := M_Model_behindPlain) (y := y_Model_c) (M' := M_Model_c) (d' := 0) (kc := 0) (ks := 0) (kc' := 0) (ks' := 0) (n := 1) d_Model_behindPlain_88 ok_Model_c ml_Model_53 (by decide) rfl (Nat.le_of_ble_eq_true rfl) ⟨tw_794, ts_Model_c⟩ xg_0 rfl (ct_Model_c_0 h) (fun v w h => ?_)
                obtain ⟨r3, i3, l3, a3, b3, rfl, rfl, h⟩ := h
                refine mm_eqs (st2 := [.int r3]) rfl ?_
                refine mm_bipush (M := M_Model_behindPlain) (v := 63) d_Model_behindPlain_91 (by decide) ?_
                refine mm_icmp_ne (M := M_Model_behindPlain) 129 d_Model_behindPlain_93 (by decide) (fun c => ?_) (fun c => ?_)
                · have h := h.1 c
                  refine mm_iconst (M := M_Model_behindPlain) (v := 0) d_Model_behindPlain_129 (by decide) ?_
                  refine mm_istore_n (M := M_Model_behindPlain) d_Model_behindPlain_130 (Nat.le_of_ble_eq_true rfl) ?_
                  refine mm_eqL (L' := [some (.ref 0), some (.int x1), some (.int r1), some (.int 0)]) rfl ?_
                  refine mm_iload_n (M := M_Model_behindPlain) d_Model_behindPlain_131 rfl ?_
                  refine mm_if_eq (M := M_Model_behindPlain) 141 d_Model_behindPlain_132 (by decide) (fun c => ?_) (fun c => absurd c (by decide))
                  refine mm_iconst (M := M_Model_behindPlain) (v := (-1)) d_Model_behindPlain_141 (by decide) ?_
                  exact mm_retv (M := M_Model_behindPlain) ⟨_, rfl, rfl, d_Model_behindPlain_142⟩ ⟨_, _, _, _, _, rfl, rfl, h⟩
                · have h := h.2 c
                  refine mm_aload_n (M := M_Model_behindPlain) d_Model_behindPlain_96 rfl ?_
                  refine mm_iload_n (M := M_Model_behindPlain) d_Model_behindPlain_97 rfl ?_
                  refine mm_iconst (M := M_Model_behindPlain) (v := 2) d_Model_behindPlain_98 (by decide) ?_
                  refine mm_iadd (M := M_Model_behindPlain) d_Model_behindPlain_99 ?_
                  refine mm_eqs (st2 := [.int (x1 + (2 : Int32))].reverse ++ .ref 0 :: []) rfl ?_
                  refine mm_callV (M := M_Model_behindPlain) (y := y_Model_c) (M' := M_Model_c) (d' := 0) (kc := 0) (ks := 0) (kc' := 0) (ks' := 0) (n := 1) d_Model_behindPlain_100 ok_Model_c ml_Model_53 (by decide) rfl (Nat.le_of_ble_eq_true rfl) ⟨tw_794, ts_Model_c⟩ xg_0 rfl (ct_Model_c_0 h) (fun v w h => ?_)
                  obtain ⟨r4, i4, l4, a4, b4, rfl, rfl, h⟩ := h
                  refine mm_eqs (st2 := [.int r4]) rfl ?_
                  refine mm_bipush (M := M_Model_behindPlain) (v := 48) d_Model_behindPlain_103 (by decide) ?_
                  refine mm_bipush (M := M_Model_behindPlain) (v := 52) d_Model_behindPlain_105 (by decide) ?_
                  refine mm_eqs (st2 := [.int r4, .int 48, .int 52].reverse ++ []) rfl ?_
                  refine mm_callS (M := M_Model_behindPlain) (y := y_Model_in) (M' := M_Model_in) (d' := 0) (kc := 0) (ks := 0) (kc' := 0) (ks' := 0) (n := 3) d_Model_behindPlain_107 ok_Model_in ml_Model_39 (by decide) rfl (Nat.le_of_ble_eq_true rfl) tw_775 (ct_Model_in h) (fun v w h => ?_)
                  obtain ⟨r5, i5, l5, a5, b5, rfl, rfl, h⟩ := h
                  refine mm_eqs (st2 := [.int r5]) rfl ?_
                  refine mm_if_eq (M := M_Model_behindPlain) 129 d_Model_behindPlain_110 (by decide) (fun c => ?_) (fun c => ?_)
                  · have h := h.1 c
                    refine mm_iconst (M := M_Model_behindPlain) (v := 0) d_Model_behindPlain_129 (by decide) ?_
                    refine mm_istore_n (M := M_Model_behindPlain) d_Model_behindPlain_130 (Nat.le_of_ble_eq_true rfl) ?_
                    refine mm_eqL (L' := [some (.ref 0), some (.int x1), some (.int r1), some (.int 0)]) rfl ?_
                    refine mm_iload_n (M := M_Model_behindPlain) d_Model_behindPlain_131 rfl ?_
                    refine mm_if_eq (M := M_Model_behindPlain) 141 d_Model_behindPlain_132 (by decide) (fun c => ?_) (fun c => absurd c (by decide))
                    refine mm_iconst (M := M_Model_behindPlain) (v := (-1)) d_Model_behindPlain_141 (by decide) ?_
                    exact mm_retv (M := M_Model_behindPlain) ⟨_, rfl, rfl, d_Model_behindPlain_142⟩ ⟨_, _, _, _, _, rfl, rfl, h⟩
                  · have h := h.2 c
                    refine mm_aload_n (M := M_Model_behindPlain) d_Model_behindPlain_113 rfl ?_
                    refine mm_iload_n (M := M_Model_behindPlain) d_Model_behindPlain_114 rfl ?_
                    refine mm_iconst (M := M_Model_behindPlain) (v := 3) d_Model_behindPlain_115 (by decide) ?_
                    refine mm_iadd (M := M_Model_behindPlain) d_Model_behindPlain_116 ?_
                    refine mm_eqs (st2 := [.int (x1 + (3 : Int32))].reverse ++ .ref 0 :: []) rfl ?_
                    refine mm_callV (M := M_Model_behindPlain) (y := y_Model_c) (M' := M_Model_c) (d' := 0) (kc := 0) (ks := 0) (kc' := 0) (ks' := 0) (n := 1) d_Model_behindPlain_117 ok_Model_c ml_Model_53 (by decide) rfl (Nat.le_of_ble_eq_true rfl) ⟨tw_794, ts_Model_c⟩ xg_0 rfl (ct_Model_c_0 h) (fun v w h => ?_)
                    obtain ⟨r6, i6, l6, a6, b6, rfl, rfl, h⟩ := h
                    refine mm_eqs (st2 := [.int r6]) rfl ?_
                    refine mm_bipush (M := M_Model_behindPlain) (v := 41) d_Model_behindPlain_120 (by decide) ?_
                    refine mm_icmp_ne (M := M_Model_behindPlain) 129 d_Model_behindPlain_122 (by decide) (fun c => ?_) (fun c => ?_)
                    · have h := h.1 c
                      refine mm_iconst (M := M_Model_behindPlain) (v := 0) d_Model_behindPlain_129 (by decide) ?_
                      refine mm_istore_n (M := M_Model_behindPlain) d_Model_behindPlain_130 (Nat.le_of_ble_eq_true rfl) ?_
                      refine mm_eqL (L' := [some (.ref 0), some (.int x1), some (.int r1), some (.int 0)]) rfl ?_
                      refine mm_iload_n (M := M_Model_behindPlain) d_Model_behindPlain_131 rfl ?_
                      refine mm_if_eq (M := M_Model_behindPlain) 141 d_Model_behindPlain_132 (by decide) (fun c => ?_) (fun c => absurd c (by decide))
                      refine mm_iconst (M := M_Model_behindPlain) (v := (-1)) d_Model_behindPlain_141 (by decide) ?_
                      exact mm_retv (M := M_Model_behindPlain) ⟨_, rfl, rfl, d_Model_behindPlain_142⟩ ⟨_, _, _, _, _, rfl, rfl, h⟩
                    · have h := h.2 c
                      refine mm_iconst (M := M_Model_behindPlain) (v := 1) d_Model_behindPlain_125 (by decide) ?_
                      refine mm_goto (M := M_Model_behindPlain) (tgt := 130) d_Model_behindPlain_126 (by decide) ?_
                      refine mm_istore_n (M := M_Model_behindPlain) d_Model_behindPlain_130 (Nat.le_of_ble_eq_true rfl) ?_
                      refine mm_eqL (L' := [some (.ref 0), some (.int x1), some (.int r1), some (.int 1)]) rfl ?_
                      refine mm_iload_n (M := M_Model_behindPlain) d_Model_behindPlain_131 rfl ?_
                      refine mm_if_eq (M := M_Model_behindPlain) 141 d_Model_behindPlain_132 (by decide) (fun c => absurd c (by decide)) (fun c => ?_)
                      refine mm_iload_n (M := M_Model_behindPlain) d_Model_behindPlain_135 rfl ?_
                      refine mm_iconst (M := M_Model_behindPlain) (v := 4) d_Model_behindPlain_136 (by decide) ?_
                      refine mm_iadd (M := M_Model_behindPlain) d_Model_behindPlain_137 ?_
                      refine mm_goto (M := M_Model_behindPlain) (tgt := 142) d_Model_behindPlain_138 (by decide) ?_
                      exact mm_retv (M := M_Model_behindPlain) ⟨_, rfl, rfl, d_Model_behindPlain_142⟩ ⟨_, _, _, _, _, rfl, rfl, h⟩
            · have h := h.2 c
              refine mm_aload_n (M := M_Model_behindPlain) d_Model_behindPlain_53 rfl ?_
              refine mm_iload_n (M := M_Model_behindPlain) d_Model_behindPlain_54 rfl ?_
              refine mm_iconst (M := M_Model_behindPlain) (v := 1) d_Model_behindPlain_55 (by decide) ?_
              refine mm_iadd (M := M_Model_behindPlain) d_Model_behindPlain_56 ?_
              refine mm_eqs (st2 := [.int (x1 + (1 : Int32))].reverse ++ .ref 0 :: []) rfl ?_
              refine mm_callV (M := M_Model_behindPlain) (y := y_Model_c) (M' := M_Model_c) (d' := 0) (kc := 0) (ks := 0) (kc' := 0) (ks' := 0) (n := 1) d_Model_behindPlain_57 ok_Model_c ml_Model_53 (by decide) rfl (Nat.le_of_ble_eq_true rfl) ⟨tw_794, ts_Model_c⟩ xg_0 rfl (ct_Model_c_0 h) (fun v w h => ?_)
              obtain ⟨r7, i7, l7, a7, b7, rfl, rfl, h⟩ := h
              refine mm_eqs (st2 := [.int r7]) rfl ?_
              refine mm_bipush (M := M_Model_behindPlain) (v := 49) d_Model_behindPlain_60 (by decide) ?_
              refine mm_bipush (M := M_Model_behindPlain) (v := 52) d_Model_behindPlain_62 (by decide) ?_
              refine mm_eqs (st2 := [.int r7, .int 49, .int 52].reverse ++ []) rfl ?_
              refine mm_callS (M := M_Model_behindPlain) (y := y_Model_in) (M' := M_Model_in) (d' := 0) (kc := 0) (ks := 0) (kc' := 0) (ks' := 0) (n := 3) d_Model_behindPlain_64 ok_Model_in ml_Model_39 (by decide) rfl (Nat.le_of_ble_eq_true rfl) tw_775 (ct_Model_in h) (fun v w h => ?_)
              obtain ⟨r8, i8, l8, a8, b8, rfl, rfl, h⟩ := h
              refine mm_eqs (st2 := [.int r8]) rfl ?_
              refine mm_if_eq (M := M_Model_behindPlain) 76 d_Model_behindPlain_67 (by decide) (fun c => ?_) (fun c => ?_)
              · have h := h.1 c
                refine mm_iconst (M := M_Model_behindPlain) (v := (-1)) d_Model_behindPlain_76 (by decide) ?_
                exact mm_retv (M := M_Model_behindPlain) ⟨_, rfl, rfl, d_Model_behindPlain_77⟩ ⟨_, _, _, _, _, rfl, rfl, h⟩
              · have h := h.2 c
                refine mm_iload_n (M := M_Model_behindPlain) d_Model_behindPlain_70 rfl ?_
                refine mm_iconst (M := M_Model_behindPlain) (v := 2) d_Model_behindPlain_71 (by decide) ?_
                refine mm_iadd (M := M_Model_behindPlain) d_Model_behindPlain_72 ?_
                refine mm_goto (M := M_Model_behindPlain) (tgt := 77) d_Model_behindPlain_73 (by decide) ?_
                exact mm_retv (M := M_Model_behindPlain) ⟨_, rfl, rfl, d_Model_behindPlain_77⟩ ⟨_, _, _, _, _, rfl, rfl, h⟩
          · have h := h.2 c
            refine mm_aload_n (M := M_Model_behindPlain) d_Model_behindPlain_41 rfl ?_
            refine mm_iload_n (M := M_Model_behindPlain) d_Model_behindPlain_42 rfl ?_
            refine mm_eqs (st2 := [.int x1].reverse ++ .ref 0 :: []) rfl ?_
            refine mm_callV (M := M_Model_behindPlain) (y := y_Model_behindClass) (M' := M_Model_behindClass) (d' := 2) (kc := 0) (ks := 0) (kc' := 0) (ks' := 0) (n := 1) d_Model_behindPlain_43 ok_Model_behindClass ml_Model_57 (by decide) rfl (Nat.le_of_ble_eq_true rfl) ⟨tw_802, ts_Model_behindClass⟩ xg_0 rfl (ct_Model_behindClass_0 h) (fun v w h => ?_)
            obtain ⟨r9, i9, l9, a9, b9, rfl, rfl, h⟩ := h
            refine mm_eqs (st2 := [.int r9]) rfl ?_
            exact mm_retv (M := M_Model_behindPlain) ⟨_, rfl, rfl, d_Model_behindPlain_46⟩ ⟨_, _, _, _, _, rfl, rfl, h⟩
        · have h := h.2 c
          refine mm_iload_n (M := M_Model_behindPlain) d_Model_behindPlain_31 rfl ?_
          refine mm_iconst (M := M_Model_behindPlain) (v := 1) d_Model_behindPlain_32 (by decide) ?_
          refine mm_iadd (M := M_Model_behindPlain) d_Model_behindPlain_33 ?_
          exact mm_retv (M := M_Model_behindPlain) ⟨_, rfl, rfl, d_Model_behindPlain_34⟩ ⟨_, _, _, _, _, rfl, rfl, h⟩
def wq_Model_behindRepeat_0_81 (K : Int32 → mm_i → mm_j → mm_a → mm_b → Prop) (i : mm_i) (l : mm_j) (a : mm_a) (b : mm_b) (z1 : Int32) (z2 : Int32) : Prop :=
  (z2 ≤ z1 → K z2 i l a b) ∧ (¬ z2 ≤ z1 → wp_Model_c_0 i l a b z2 (fun r1 i1 l1 a1 b1 => (r1 = (63 : Int32) → K (z2 + (1 : Int32)) i1 l1 a1 b1) ∧ (¬ r1 = (63 : Int32) → wp_Model_c_0 i1 l1 a1 b1 z2 (fun r2 i2 l2 a2 b2 => (¬ r2 = (43 : Int32) → K z2 i2 l2 a2 b2) ∧ (r2 = (43 : Int32) → K (z2 + (1 : Int32)) i2 l2 a2 b2)))))
set_option maxRecDepth 100000 in
set_option maxHeartbeats 4000000 in
theorem vq_Model_behindRepeat_0_81 {k0 : Nat} {t : mm_H} {K : Int32 → mm_i → mm_j → mm_a → mm_b → Prop} {i : mm_i} {l : mm_j} {a : mm_a} {b : mm_b} {z1 : Int32} {z2 : Int32} (h : wq_Model_behindRepeat_0_81 K i l a b z1 z2) : mm_V M_Model_behindRepeat 1 k0 (mx_PI t K) 0 0 81 [some (.ref 0), some (.int z1), some (.int z2)] [] (Wm i l a b ++ t) := by
  unfold wq_Model_behindRepeat_0_81 at h
  refine mm_iload_n (M := M_Model_behindRepeat) d_Model_behindRepeat_81 rfl ?_
  refine mm_iload_n (M := M_Model_behindRepeat) d_Model_behindRepeat_82 rfl ?_
  refine mm_icmp_le (M := M_Model_behindRepeat) 112 d_Model_behindRepeat_83 (by decide) (fun c => ?_) (fun c => ?_)
  · have h := h.1 c
    refine mm_iload_n (M := M_Model_behindRepeat) d_Model_behindRepeat_112 rfl ?_
    exact mm_retv (M := M_Model_behindRepeat) ⟨_, rfl, rfl, d_Model_behindRepeat_113⟩ ⟨_, _, _, _, _, rfl, rfl, h⟩
  · have h := h.2 c
    refine mm_aload_n (M := M_Model_behindRepeat) d_Model_behindRepeat_86 rfl ?_
    refine mm_iload_n (M := M_Model_behindRepeat) d_Model_behindRepeat_87 rfl ?_
    refine mm_eqs (st2 := [.int z2].reverse ++ .ref 0 :: []) rfl ?_
    refine mm_callV (M := M_Model_behindRepeat) (y := y_Model_c) (M' := M_Model_c) (d' := 0) (kc := 0) (ks := 0) (kc' := 0) (ks' := 0) (n := 1) d_Model_behindRepeat_88 ok_Model_c ml_Model_53 (by decide) rfl (Nat.le_of_ble_eq_true rfl) ⟨tw_794, ts_Model_c⟩ xg_0 rfl (ct_Model_c_0 h) (fun v w h => ?_)
    obtain ⟨r1, i1, l1, a1, b1, rfl, rfl, h⟩ := h
    refine mm_eqs (st2 := [.int r1]) rfl ?_
    refine mm_bipush (M := M_Model_behindRepeat) (v := 63) d_Model_behindRepeat_91 (by decide) ?_
    refine mm_icmp_eq (M := M_Model_behindRepeat) 106 d_Model_behindRepeat_93 (by decide) (fun c => ?_) (fun c => ?_)
    · have h := h.1 c
      refine mm_iload_n (M := M_Model_behindRepeat) d_Model_behindRepeat_106 rfl ?_
      refine mm_iconst (M := M_Model_behindRepeat) (v := 1) d_Model_behindRepeat_107 (by decide) ?_
      refine mm_iadd (M := M_Model_behindRepeat) d_Model_behindRepeat_108 ?_
      refine mm_goto (M := M_Model_behindRepeat) (tgt := 113) d_Model_behindRepeat_109 (by decide) ?_
      exact mm_retv (M := M_Model_behindRepeat) ⟨_, rfl, rfl, d_Model_behindRepeat_113⟩ ⟨_, _, _, _, _, rfl, rfl, h⟩
    · have h := h.2 c
      refine mm_aload_n (M := M_Model_behindRepeat) d_Model_behindRepeat_96 rfl ?_
      refine mm_iload_n (M := M_Model_behindRepeat) d_Model_behindRepeat_97 rfl ?_
      refine mm_eqs (st2 := [.int z2].reverse ++ .ref 0 :: []) rfl ?_
      refine mm_callV (M := M_Model_behindRepeat) (y := y_Model_c) (M' := M_Model_c) (d' := 0) (kc := 0) (ks := 0) (kc' := 0) (ks' := 0) (n := 1) d_Model_behindRepeat_98 ok_Model_c ml_Model_53 (by decide) rfl (Nat.le_of_ble_eq_true rfl) ⟨tw_794, ts_Model_c⟩ xg_0 rfl (ct_Model_c_0 h) (fun v w h => ?_)
      obtain ⟨r2, i2, l2, a2, b2, rfl, rfl, h⟩ := h
      refine mm_eqs (st2 := [.int r2]) rfl ?_
      refine mm_bipush (M := M_Model_behindRepeat) (v := 43) d_Model_behindRepeat_101 (by decide) ?_
      refine mm_icmp_ne (M := M_Model_behindRepeat) 112 d_Model_behindRepeat_103 (by decide) (fun c => ?_) (fun c => ?_)
      · have h := h.1 c
        refine mm_iload_n (M := M_Model_behindRepeat) d_Model_behindRepeat_112 rfl ?_
        exact mm_retv (M := M_Model_behindRepeat) ⟨_, rfl, rfl, d_Model_behindRepeat_113⟩ ⟨_, _, _, _, _, rfl, rfl, h⟩
      · have h := h.2 c
        refine mm_iload_n (M := M_Model_behindRepeat) d_Model_behindRepeat_106 rfl ?_
        refine mm_iconst (M := M_Model_behindRepeat) (v := 1) d_Model_behindRepeat_107 (by decide) ?_
        refine mm_iadd (M := M_Model_behindRepeat) d_Model_behindRepeat_108 ?_
        refine mm_goto (M := M_Model_behindRepeat) (tgt := 113) d_Model_behindRepeat_109 (by decide) ?_
        exact mm_retv (M := M_Model_behindRepeat) ⟨_, rfl, rfl, d_Model_behindRepeat_113⟩ ⟨_, _, _, _, _, rfl, rfl, h⟩
def wq_Model_behindRepeat_0_36 (K : Int32 → mm_i → mm_j → mm_a → mm_b → Prop) (i : mm_i) (l : mm_j) (a : mm_a) (b : mm_b) (z1 : Int32) (z2 : Int32) : Prop :=
  wp_Model_c_0 i l a b z1 (fun r1 i1 l1 a1 b1 => (¬ r1 = (123 : Int32) → wq_Model_behindRepeat_0_81 K i1 l1 a1 b1 z1 z2) ∧ (r1 = (123 : Int32) → wp_Model_c_0 i1 l1 a1 b1 (z1 + (1 : Int32)) (fun r2 i2 l2 a2 b2 => wp_Model_in i2 l2 a2 b2 r2 48 57 (fun r3 i3 l3 a3 b3 => (r3 = 0 → K (-1) i3 l3 a3 b3) ∧ (¬ r3 = 0 → wp_Model_c_0 i3 l3 a3 b3 (z1 + (2 : Int32)) (fun r4 i4 l4 a4 b4 => (r4 = (125 : Int32) → wq_Model_behindRepeat_0_81 K i4 l4 a4 b4 z1 (z1 + (3 : Int32))) ∧ (¬ r4 = (125 : Int32) → K (-1) i4 l4 a4 b4)))))))
set_option maxRecDepth 100000 in
set_option maxHeartbeats 4000000 in
theorem vq_Model_behindRepeat_0_36 {k0 : Nat} {t : mm_H} {K : Int32 → mm_i → mm_j → mm_a → mm_b → Prop} {i : mm_i} {l : mm_j} {a : mm_a} {b : mm_b} {z1 : Int32} {z2 : Int32} (h : wq_Model_behindRepeat_0_36 K i l a b z1 z2) : mm_V M_Model_behindRepeat 1 k0 (mx_PI t K) 0 0 36 [some (.ref 0), some (.int z1), some (.int z2)] [] (Wm i l a b ++ t) := by
  unfold wq_Model_behindRepeat_0_36 at h
  refine mm_aload_n (M := M_Model_behindRepeat) d_Model_behindRepeat_36 rfl ?_
  refine mm_iload_n (M := M_Model_behindRepeat) d_Model_behindRepeat_37 rfl ?_
  refine mm_eqs (st2 := [.int z1].reverse ++ .ref 0 :: []) rfl ?_
  refine mm_callV (M := M_Model_behindRepeat) (y := y_Model_c) (M' := M_Model_c) (d' := 0) (kc := 0) (ks := 0) (kc' := 0) (ks' := 0) (n := 1) d_Model_behindRepeat_38 ok_Model_c ml_Model_53 (by decide) rfl (Nat.le_of_ble_eq_true rfl) ⟨tw_794, ts_Model_c⟩ xg_0 rfl (ct_Model_c_0 h) (fun v w h => ?_)
  obtain ⟨r1, i1, l1, a1, b1, rfl, rfl, h⟩ := h
  refine mm_eqs (st2 := [.int r1]) rfl ?_
  refine mm_bipush (M := M_Model_behindRepeat) (v := 123) d_Model_behindRepeat_41 (by decide) ?_
  refine mm_icmp_ne (M := M_Model_behindRepeat) 81 d_Model_behindRepeat_43 (by decide) (fun c => ?_) (fun c => ?_)
  · have h := h.1 c
    refine mm_drop (L' := [some (.ref 0), some (.int z1), some (.int z2)]) ⟨rfl, ⟨rfl, ⟨rfl, trivial⟩⟩⟩ ?_
    exact vq_Model_behindRepeat_0_81 h
  · have h := h.2 c
    refine mm_aload_n (M := M_Model_behindRepeat) d_Model_behindRepeat_46 rfl ?_
    refine mm_iload_n (M := M_Model_behindRepeat) d_Model_behindRepeat_47 rfl ?_
    refine mm_iconst (M := M_Model_behindRepeat) (v := 1) d_Model_behindRepeat_48 (by decide) ?_
    refine mm_iadd (M := M_Model_behindRepeat) d_Model_behindRepeat_49 ?_
    refine mm_eqs (st2 := [.int (z1 + (1 : Int32))].reverse ++ .ref 0 :: []) rfl ?_
    refine mm_callV (M := M_Model_behindRepeat) (y := y_Model_c) (M' := M_Model_c) (d' := 0) (kc := 0) (ks := 0) (kc' := 0) (ks' := 0) (n := 1) d_Model_behindRepeat_50 ok_Model_c ml_Model_53 (by decide) rfl (Nat.le_of_ble_eq_true rfl) ⟨tw_794, ts_Model_c⟩ xg_0 rfl (ct_Model_c_0 h) (fun v w h => ?_)
    obtain ⟨r2, i2, l2, a2, b2, rfl, rfl, h⟩ := h
    refine mm_eqs (st2 := [.int r2]) rfl ?_
    refine mm_bipush (M := M_Model_behindRepeat) (v := 48) d_Model_behindRepeat_53 (by decide) ?_
    refine mm_bipush (M := M_Model_behindRepeat) (v := 57) d_Model_behindRepeat_55 (by decide) ?_
    refine mm_eqs (st2 := [.int r2, .int 48, .int 57].reverse ++ []) rfl ?_
    refine mm_callS (M := M_Model_behindRepeat) (y := y_Model_in) (M' := M_Model_in) (d' := 0) (kc := 0) (ks := 0) (kc' := 0) (ks' := 0) (n := 3) d_Model_behindRepeat_57 ok_Model_in ml_Model_39 (by decide) rfl (Nat.le_of_ble_eq_true rfl) tw_775 (ct_Model_in h) (fun v w h => ?_)
    obtain ⟨r3, i3, l3, a3, b3, rfl, rfl, h⟩ := h
    refine mm_eqs (st2 := [.int r3]) rfl ?_
    refine mm_if_eq (M := M_Model_behindRepeat) 75 d_Model_behindRepeat_60 (by decide) (fun c => ?_) (fun c => ?_)
    · have h := h.1 c
      refine mm_iconst (M := M_Model_behindRepeat) (v := (-1)) d_Model_behindRepeat_75 (by decide) ?_
      exact mm_retv (M := M_Model_behindRepeat) ⟨_, rfl, rfl, d_Model_behindRepeat_76⟩ ⟨_, _, _, _, _, rfl, rfl, h⟩
    · have h := h.2 c
      refine mm_aload_n (M := M_Model_behindRepeat) d_Model_behindRepeat_63 rfl ?_
      refine mm_iload_n (M := M_Model_behindRepeat) d_Model_behindRepeat_64 rfl ?_
      refine mm_iconst (M := M_Model_behindRepeat) (v := 2) d_Model_behindRepeat_65 (by decide) ?_
      refine mm_iadd (M := M_Model_behindRepeat) d_Model_behindRepeat_66 ?_
      refine mm_eqs (st2 := [.int (z1 + (2 : Int32))].reverse ++ .ref 0 :: []) rfl ?_
      refine mm_callV (M := M_Model_behindRepeat) (y := y_Model_c) (M' := M_Model_c) (d' := 0) (kc := 0) (ks := 0) (kc' := 0) (ks' := 0) (n := 1) d_Model_behindRepeat_67 ok_Model_c ml_Model_53 (by decide) rfl (Nat.le_of_ble_eq_true rfl) ⟨tw_794, ts_Model_c⟩ xg_0 rfl (ct_Model_c_0 h) (fun v w h => ?_)
      obtain ⟨r4, i4, l4, a4, b4, rfl, rfl, h⟩ := h
      refine mm_eqs (st2 := [.int r4]) rfl ?_
      refine mm_bipush (M := M_Model_behindRepeat) (v := 125) d_Model_behindRepeat_70 (by decide) ?_
      refine mm_icmp_eq (M := M_Model_behindRepeat) 77 d_Model_behindRepeat_72 (by decide) (fun c => ?_) (fun c => ?_)
      · have h := h.1 c
        refine mm_iload_n (M := M_Model_behindRepeat) d_Model_behindRepeat_77 rfl ?_
        refine mm_iconst (M := M_Model_behindRepeat) (v := 3) d_Model_behindRepeat_78 (by decide) ?_
        refine mm_iadd (M := M_Model_behindRepeat) d_Model_behindRepeat_79 ?_
        refine mm_istore_n (M := M_Model_behindRepeat) d_Model_behindRepeat_80 (Nat.le_of_ble_eq_true rfl) ?_
        refine mm_eqL (L' := [some (.ref 0), some (.int z1), some (.int (z1 + (3 : Int32)))]) rfl ?_
        refine mm_drop (L' := [some (.ref 0), some (.int z1), some (.int (z1 + (3 : Int32)))]) ⟨rfl, ⟨rfl, ⟨rfl, trivial⟩⟩⟩ ?_
        exact vq_Model_behindRepeat_0_81 h
      · have h := h.2 c
        refine mm_iconst (M := M_Model_behindRepeat) (v := (-1)) d_Model_behindRepeat_75 (by decide) ?_
        exact mm_retv (M := M_Model_behindRepeat) ⟨_, rfl, rfl, d_Model_behindRepeat_76⟩ ⟨_, _, _, _, _, rfl, rfl, h⟩
def wp_Model_behindRepeat_0 (i : mm_i) (l : mm_j) (a : mm_a) (b : mm_b) (x1 : Int32) (K : Int32 → mm_i → mm_j → mm_a → mm_b → Prop) : Prop :=
  wp_Model_c_0 i l a b x1 (fun r1 i1 l1 a1 b1 => (r1 = (42 : Int32) → wq_Model_behindRepeat_0_36 K i1 l1 a1 b1 x1 (x1 + (1 : Int32))) ∧ (¬ r1 = (42 : Int32) → wp_Model_c_0 i1 l1 a1 b1 x1 (fun r2 i2 l2 a2 b2 => (r2 = (43 : Int32) → wq_Model_behindRepeat_0_36 K i2 l2 a2 b2 x1 (x1 + (1 : Int32))) ∧ (¬ r2 = (43 : Int32) → wp_Model_c_0 i2 l2 a2 b2 x1 (fun r3 i3 l3 a3 b3 => (¬ r3 = (63 : Int32) → wq_Model_behindRepeat_0_36 K i3 l3 a3 b3 x1 x1) ∧ (r3 = (63 : Int32) → wq_Model_behindRepeat_0_36 K i3 l3 a3 b3 x1 (x1 + (1 : Int32))))))))
set_option maxRecDepth 100000 in
set_option maxHeartbeats 4000000 in
theorem ct_Model_behindRepeat_0 {i : mm_i} {l : mm_j} {a : mm_a} {b : mm_b} {t : mm_H} {x1 : Int32} {K : Int32 → mm_i → mm_j → mm_a → mm_b → Prop} (h : wp_Model_behindRepeat_0 i l a b x1 K) : mm_Ct y_Model_behindRepeat M_Model_behindRepeat 1 0 0 [.ref 0, .int x1] (Wm i l a b ++ t) (mx_PI t K) := by
  refine mm_Ct.of (by decide) rfl (fun q => absurd q (by decide)) (Nat.le_of_ble_eq_true rfl) ?_
  unfold wp_Model_behindRepeat_0 at h
  refine mm_eqL (L' := [some (.ref 0), some (.int x1), none]) rfl ?_
  refine mm_iload_n (M := M_Model_behindRepeat) d_Model_behindRepeat_0 rfl ?_
  refine mm_istore_n (M := M_Model_behindRepeat) d_Model_behindRepeat_1 (Nat.le_of_ble_eq_true rfl) ?_
  refine mm_eqL (L' := [some (.ref 0), some (.int x1), some (.int x1)]) rfl ?_
  refine mm_aload_n (M := M_Model_behindRepeat) d_Model_behindRepeat_2 rfl ?_
  refine mm_iload_n (M := M_Model_behindRepeat) d_Model_behindRepeat_3 rfl ?_
  refine mm_eqs (st2 := [.int x1].reverse ++ .ref 0 :: []) rfl ?_
  refine mm_callV (M := M_Model_behindRepeat) (y := y_Model_c) (M' := M_Model_c) (d' := 0) (kc := 0) (ks := 0) (kc' := 0) (ks' := 0) (n := 1) d_Model_behindRepeat_4 ok_Model_c ml_Model_53 (by decide) rfl (Nat.le_of_ble_eq_true rfl) ⟨tw_794, ts_Model_c⟩ xg_0 rfl (ct_Model_c_0 h) (fun v w h => ?_)
  obtain ⟨r1, i1, l1, a1, b1, rfl, rfl, h⟩ := h
  refine mm_eqs (st2 := [.int r1]) rfl ?_
  refine mm_bipush (M := M_Model_behindRepeat) (v := 42) d_Model_behindRepeat_7 (by decide) ?_
  refine mm_icmp_eq (M := M_Model_behindRepeat) 32 d_Model_behindRepeat_9 (by decide) (fun c => ?_) (fun c => ?_)
  · have h := h.1 c
    refine mm_iload_n (M := M_Model_behindRepeat) d_Model_behindRepeat_32 rfl ?_
    refine mm_iconst (M := M_Model_behindRepeat) (v := 1) d_Model_behindRepeat_33 (by decide) ?_
    refine mm_iadd (M := M_Model_behindRepeat) d_Model_behindRepeat_34 ?_
    refine mm_istore_n (M := M_Model_behindRepeat) d_Model_behindRepeat_35 (Nat.le_of_ble_eq_true rfl) ?_
    refine mm_eqL (L' := [some (.ref 0), some (.int x1), some (.int (x1 + (1 : Int32)))]) rfl ?_
    refine mm_drop (L' := [some (.ref 0), some (.int x1), some (.int (x1 + (1 : Int32)))]) ⟨rfl, ⟨rfl, ⟨rfl, trivial⟩⟩⟩ ?_
    exact vq_Model_behindRepeat_0_36 h
  · have h := h.2 c
    refine mm_aload_n (M := M_Model_behindRepeat) d_Model_behindRepeat_12 rfl ?_
    refine mm_iload_n (M := M_Model_behindRepeat) d_Model_behindRepeat_13 rfl ?_
    refine mm_eqs (st2 := [.int x1].reverse ++ .ref 0 :: []) rfl ?_
    refine mm_callV (M := M_Model_behindRepeat) (y := y_Model_c) (M' := M_Model_c) (d' := 0) (kc := 0) (ks := 0) (kc' := 0) (ks' := 0) (n := 1) d_Model_behindRepeat_14 ok_Model_c ml_Model_53 (by decide) rfl (Nat.le_of_ble_eq_true rfl) ⟨tw_794, ts_Model_c⟩ xg_0 rfl (ct_Model_c_0 h) (fun v w h => ?_)
    obtain ⟨r2, i2, l2, a2, b2, rfl, rfl, h⟩ := h
    refine mm_eqs (st2 := [.int r2]) rfl ?_
    refine mm_bipush (M := M_Model_behindRepeat) (v := 43) d_Model_behindRepeat_17 (by decide) ?_
    refine mm_icmp_eq (M := M_Model_behindRepeat) 32 d_Model_behindRepeat_19 (by decide) (fun c => ?_) (fun c => ?_)
    · have h := h.1 c
      refine mm_iload_n (M := M_Model_behindRepeat) d_Model_behindRepeat_32 rfl ?_
      refine mm_iconst (M := M_Model_behindRepeat) (v := 1) d_Model_behindRepeat_33 (by decide) ?_
      refine mm_iadd (M := M_Model_behindRepeat) d_Model_behindRepeat_34 ?_
      refine mm_istore_n (M := M_Model_behindRepeat) d_Model_behindRepeat_35 (Nat.le_of_ble_eq_true rfl) ?_
      refine mm_eqL (L' := [some (.ref 0), some (.int x1), some (.int (x1 + (1 : Int32)))]) rfl ?_
      refine mm_drop (L' := [some (.ref 0), some (.int x1), some (.int (x1 + (1 : Int32)))]) ⟨rfl, ⟨rfl, ⟨rfl, trivial⟩⟩⟩ ?_
      exact vq_Model_behindRepeat_0_36 h
    · have h := h.2 c
      refine mm_aload_n (M := M_Model_behindRepeat) d_Model_behindRepeat_22 rfl ?_
      refine mm_iload_n (M := M_Model_behindRepeat) d_Model_behindRepeat_23 rfl ?_
      refine mm_eqs (st2 := [.int x1].reverse ++ .ref 0 :: []) rfl ?_
      refine mm_callV (M := M_Model_behindRepeat) (y := y_Model_c) (M' := M_Model_c) (d' := 0) (kc := 0) (ks := 0) (kc' := 0) (ks' := 0) (n := 1) d_Model_behindRepeat_24 ok_Model_c ml_Model_53 (by decide) rfl (Nat.le_of_ble_eq_true rfl) ⟨tw_794, ts_Model_c⟩ xg_0 rfl (ct_Model_c_0 h) (fun v w h => ?_)
      obtain ⟨r3, i3, l3, a3, b3, rfl, rfl, h⟩ := h
      refine mm_eqs (st2 := [.int r3]) rfl ?_
      refine mm_bipush (M := M_Model_behindRepeat) (v := 63) d_Model_behindRepeat_27 (by decide) ?_
      refine mm_icmp_ne (M := M_Model_behindRepeat) 36 d_Model_behindRepeat_29 (by decide) (fun c => ?_) (fun c => ?_)
      · have h := h.1 c
        refine mm_drop (L' := [some (.ref 0), some (.int x1), some (.int x1)]) ⟨rfl, ⟨rfl, ⟨rfl, trivial⟩⟩⟩ ?_
        exact vq_Model_behindRepeat_0_36 h
      · have h := h.2 c
        refine mm_iload_n (M := M_Model_behindRepeat) d_Model_behindRepeat_32 rfl ?_
        refine mm_iconst (M := M_Model_behindRepeat) (v := 1) d_Model_behindRepeat_33 (by decide) ?_
        refine mm_iadd (M := M_Model_behindRepeat) d_Model_behindRepeat_34 ?_
        refine mm_istore_n (M := M_Model_behindRepeat) d_Model_behindRepeat_35 (Nat.le_of_ble_eq_true rfl) ?_
        refine mm_eqL (L' := [some (.ref 0), some (.int x1), some (.int (x1 + (1 : Int32)))]) rfl ?_
        refine mm_drop (L' := [some (.ref 0), some (.int x1), some (.int (x1 + (1 : Int32)))]) ⟨rfl, ⟨rfl, ⟨rfl, trivial⟩⟩⟩ ?_
        exact vq_Model_behindRepeat_0_36 h
def wp_Model_sized_0 (i : mm_i) (l : mm_j) (a : mm_a) (b : mm_b) (x1 : Int32) (x2 : Int32) (K : Int32 → mm_i → mm_j → mm_a → mm_b → Prop) : Prop :=
  wp_Model_c_0 i l a b x1 (fun r1 i1 l1 a1 b1 => (r1 = 42 → K (x2 + (2 : Int32)) i1 l1 a1 b1) ∧ (¬ r1 = 42 → (r1 = 43 → K (((2 : Int32) * x2) + (2 : Int32)) i1 l1 a1 b1) ∧ (¬ r1 = 43 → (r1 = 63 → K (x2 + (2 : Int32)) i1 l1 a1 b1) ∧ (¬ r1 = 63 → (r1 = 123 → wp_Model_c_0 i1 l1 a1 b1 (x1 + (1 : Int32)) (fun r2 i2 l2 a2 b2 => K (((r2 - (48 : Int32)) * x2) + (1 : Int32)) i2 l2 a2 b2)) ∧ (¬ r1 = 123 → K x2 i1 l1 a1 b1)))))
set_option maxRecDepth 100000 in
set_option maxHeartbeats 4000000 in
theorem ct_Model_sized_0 {i : mm_i} {l : mm_j} {a : mm_a} {b : mm_b} {t : mm_H} {x1 : Int32} {x2 : Int32} {K : Int32 → mm_i → mm_j → mm_a → mm_b → Prop} (h : wp_Model_sized_0 i l a b x1 x2 K) : mm_Ct y_Model_sized M_Model_sized 1 0 0 [.ref 0, .int x1, .int x2] (Wm i l a b ++ t) (mx_PI t K) := by
  refine mm_Ct.of (by decide) rfl (fun q => absurd q (by decide)) (Nat.le_of_ble_eq_true rfl) ?_
  unfold wp_Model_sized_0 at h
  refine mm_eqL (L' := [some (.ref 0), some (.int x1), some (.int x2)]) rfl ?_
  refine mm_aload_n (M := M_Model_sized) d_Model_sized_0 rfl ?_
  refine mm_iload_n (M := M_Model_sized) d_Model_sized_1 rfl ?_
  refine mm_eqs (st2 := [.int x1].reverse ++ .ref 0 :: []) rfl ?_
  refine mm_callV (M := M_Model_sized) (y := y_Model_c) (M' := M_Model_c) (d' := 0) (kc := 0) (ks := 0) (kc' := 0) (ks' := 0) (n := 1) d_Model_sized_2 ok_Model_c ml_Model_53 (by decide) rfl (Nat.le_of_ble_eq_true rfl) ⟨tw_794, ts_Model_c⟩ xg_0 rfl (ct_Model_c_0 h) (fun v w h => ?_)
  obtain ⟨r1, i1, l1, a1, b1, rfl, rfl, h⟩ := h
  refine mm_eqs (st2 := [.int r1]) rfl ?_
  refine mm_lookup (M := M_Model_sized) [(42, 69), (43, 63), (63, 69), (123, 48)] 73 d_Model_sized_5 (by decide) (by decide +kernel) (by decide) ⟨fun c0 => ?_, fun c0 => ⟨fun c1 => ?_, fun c1 => ⟨fun c2 => ?_, fun c2 => ⟨fun c3 => ?_, fun c3 => ?_⟩⟩⟩⟩
  · have h := h.1 c0
    refine mm_iload_n (M := M_Model_sized) d_Model_sized_69 rfl ?_
    refine mm_iconst (M := M_Model_sized) (v := 2) d_Model_sized_70 (by decide) ?_
    refine mm_iadd (M := M_Model_sized) d_Model_sized_71 ?_
    exact mm_retv (M := M_Model_sized) ⟨_, rfl, rfl, d_Model_sized_72⟩ ⟨_, _, _, _, _, rfl, rfl, h⟩
  · have h := (h.2 c0).1 c1
    refine mm_iconst (M := M_Model_sized) (v := 2) d_Model_sized_63 (by decide) ?_
    refine mm_iload_n (M := M_Model_sized) d_Model_sized_64 rfl ?_
    refine mm_imul (M := M_Model_sized) d_Model_sized_65 ?_
    refine mm_iconst (M := M_Model_sized) (v := 2) d_Model_sized_66 (by decide) ?_
    refine mm_iadd (M := M_Model_sized) d_Model_sized_67 ?_
    exact mm_retv (M := M_Model_sized) ⟨_, rfl, rfl, d_Model_sized_68⟩ ⟨_, _, _, _, _, rfl, rfl, h⟩
  · have h := ((h.2 c0).2 c1).1 c2
    refine mm_iload_n (M := M_Model_sized) d_Model_sized_69 rfl ?_
    refine mm_iconst (M := M_Model_sized) (v := 2) d_Model_sized_70 (by decide) ?_
    refine mm_iadd (M := M_Model_sized) d_Model_sized_71 ?_
    exact mm_retv (M := M_Model_sized) ⟨_, rfl, rfl, d_Model_sized_72⟩ ⟨_, _, _, _, _, rfl, rfl, h⟩
  · have h := (((h.2 c0).2 c1).2 c2).1 c3
    refine mm_aload_n (M := M_Model_sized) d_Model_sized_48 rfl ?_
    refine mm_iload_n (M := M_Model_sized) d_Model_sized_49 rfl ?_
    refine mm_iconst (M := M_Model_sized) (v := 1) d_Model_sized_50 (by decide) ?_
    refine mm_iadd (M := M_Model_sized) d_Model_sized_51 ?_
    refine mm_eqs (st2 := [.int (x1 + (1 : Int32))].reverse ++ .ref 0 :: []) rfl ?_
    refine mm_callV (M := M_Model_sized) (y := y_Model_c) (M' := M_Model_c) (d' := 0) (kc := 0) (ks := 0) (kc' := 0) (ks' := 0) (n := 1) d_Model_sized_52 ok_Model_c ml_Model_53 (by decide) rfl (Nat.le_of_ble_eq_true rfl) ⟨tw_794, ts_Model_c⟩ xg_0 rfl (ct_Model_c_0 h) (fun v w h => ?_)
    obtain ⟨r2, i2, l2, a2, b2, rfl, rfl, h⟩ := h
    refine mm_eqs (st2 := [.int r2]) rfl ?_
    refine mm_bipush (M := M_Model_sized) (v := 48) d_Model_sized_55 (by decide) ?_
    refine mm_isub (M := M_Model_sized) d_Model_sized_57 ?_
    refine mm_iload_n (M := M_Model_sized) d_Model_sized_58 rfl ?_
    refine mm_imul (M := M_Model_sized) d_Model_sized_59 ?_
    refine mm_iconst (M := M_Model_sized) (v := 1) d_Model_sized_60 (by decide) ?_
    refine mm_iadd (M := M_Model_sized) d_Model_sized_61 ?_
    exact mm_retv (M := M_Model_sized) ⟨_, rfl, rfl, d_Model_sized_62⟩ ⟨_, _, _, _, _, rfl, rfl, h⟩
  · have h := ((((h.2 c0).2 c1).2 c2).2 c3)
    refine mm_iload_n (M := M_Model_sized) d_Model_sized_73 rfl ?_
    exact mm_retv (M := M_Model_sized) ⟨_, rfl, rfl, d_Model_sized_74⟩ ⟨_, _, _, _, _, rfl, rfl, h⟩
def wq_Model_groupsOf_0_37 (X : mm_i → mm_j → mm_a → mm_b → Int32 → Int32 → Prop) (K : Int32 → mm_i → mm_j → mm_a → mm_b → Prop) (i : mm_i) (l : mm_j) (a : mm_a) (b : mm_b) (z1 : Int32) (z2 : Int32) : Prop :=
  X i l a b z1 (z2 + 1)
set_option maxRecDepth 100000 in
set_option maxHeartbeats 4000000 in
theorem vq_Model_groupsOf_0_37 {k0 : Nat} {t : mm_H} {K : Int32 → mm_i → mm_j → mm_a → mm_b → Prop} {X : mm_i → mm_j → mm_a → mm_b → Int32 → Int32 → Prop} (hX : ∀ {i l a b z1 z2}, X i l a b z1 z2 → mm_V M_Model_groupsOf 1 k0 (mx_PI t K) 0 0 4 [some (.ref 0), some (.int z1), some (.int z2)] [] (Wm i l a b ++ t)) {i : mm_i} {l : mm_j} {a : mm_a} {b : mm_b} {z1 : Int32} {z2 : Int32} (h : wq_Model_groupsOf_0_37 X K i l a b z1 z2) : mm_V M_Model_groupsOf 1 k0 (mx_PI t K) 0 0 37 [some (.ref 0), some (.int z1), some (.int z2)] [] (Wm i l a b ++ t) := by
  unfold wq_Model_groupsOf_0_37 at h
  refine mm_iinc (M := M_Model_groupsOf) (v := 1) d_Model_groupsOf_37 rfl (by decide) (Nat.le_of_ble_eq_true rfl) ?_
  refine mm_eqL (L' := [some (.ref 0), some (.int z1), some (.int (z2 + 1))]) rfl ?_
  refine mm_goto (M := M_Model_groupsOf) (tgt := 4) d_Model_groupsOf_40 (by decide) ?_
  refine mm_drop (L' := [some (.ref 0), some (.int z1), some (.int (z2 + 1))]) ⟨rfl, ⟨rfl, ⟨rfl, trivial⟩⟩⟩ ?_
  exact hX h
def wt_Model_groupsOf_0 (X : mm_i → mm_j → mm_a → mm_b → Int32 → Int32 → Prop) (K : Int32 → mm_i → mm_j → mm_a → mm_b → Prop) (i : mm_i) (l : mm_j) (a : mm_a) (b : mm_b) (z1 : Int32) (z2 : Int32) : Prop :=
  ((i 1) ≤ z2 → K z1 i l a b) ∧ (¬ (i 1) ≤ z2 → wp_Model_c_0 i l a b z2 (fun r1 i1 l1 a1 b1 => (¬ r1 = (40 : Int32) → wq_Model_groupsOf_0_37 X K i1 l1 a1 b1 z1 z2) ∧ (r1 = (40 : Int32) → wp_Model_c_0 i1 l1 a1 b1 (z2 + (1 : Int32)) (fun r2 i2 l2 a2 b2 => (r2 = (63 : Int32) → wq_Model_groupsOf_0_37 X K i2 l2 a2 b2 z1 z2) ∧ (¬ r2 = (63 : Int32) → wq_Model_groupsOf_0_37 X K i2 l2 a2 b2 (z1 + 1) z2)))))
def wl_Model_groupsOf_0 (K : Int32 → mm_i → mm_j → mm_a → mm_b → Prop) : Nat → mm_i → mm_j → mm_a → mm_b → Int32 → Int32 → Prop
  | 0 => fun _ _ _ _ _ _ => False
  | n + 1 => fun i l a b z1 z2 => wt_Model_groupsOf_0 (wl_Model_groupsOf_0 K n) K i l a b z1 z2
set_option maxRecDepth 100000 in
set_option maxHeartbeats 4000000 in
theorem vt_Model_groupsOf_0 {k0 : Nat} {t : mm_H} {K : Int32 → mm_i → mm_j → mm_a → mm_b → Prop} {X : mm_i → mm_j → mm_a → mm_b → Int32 → Int32 → Prop} (hX : ∀ {i l a b z1 z2}, X i l a b z1 z2 → mm_V M_Model_groupsOf 1 k0 (mx_PI t K) 0 0 4 [some (.ref 0), some (.int z1), some (.int z2)] [] (Wm i l a b ++ t)) {i : mm_i} {l : mm_j} {a : mm_a} {b : mm_b} {z1 : Int32} {z2 : Int32} (h : wt_Model_groupsOf_0 X K i l a b z1 z2) : mm_V M_Model_groupsOf 1 k0 (mx_PI t K) 0 0 4 [some (.ref 0), some (.int z1), some (.int z2)] [] (Wm i l a b ++ t) := by
  unfold wt_Model_groupsOf_0 at h
  refine mm_iload_n (M := M_Model_groupsOf) d_Model_groupsOf_4 rfl ?_
  refine mm_aload_n (M := M_Model_groupsOf) d_Model_groupsOf_5 rfl ?_
  refine mm_getf (M := M_Model_groupsOf) (u := .int (i 1)) 7 1 d_Model_groupsOf_6 fl_Model_50 xg_0 rfl ?_
  refine mm_icmp_ge (M := M_Model_groupsOf) 43 d_Model_groupsOf_9 (by decide) (fun c => ?_) (fun c => ?_)
  · have h := h.1 c
    refine mm_iload_n (M := M_Model_groupsOf) d_Model_groupsOf_43 rfl ?_
    exact mm_retv (M := M_Model_groupsOf) ⟨_, rfl, rfl, d_Model_groupsOf_44⟩ ⟨_, _, _, _, _, rfl, rfl, h⟩
  · have h := h.2 c
    refine mm_aload_n (M := M_Model_groupsOf) d_Model_groupsOf_12 rfl ?_
    refine mm_iload_n (M := M_Model_groupsOf) d_Model_groupsOf_13 rfl ?_
    refine mm_eqs (st2 := [.int z2].reverse ++ .ref 0 :: []) rfl ?_
    refine mm_callV (M := M_Model_groupsOf) (y := y_Model_c) (M' := M_Model_c) (d' := 0) (kc := 0) (ks := 0) (kc' := 0) (ks' := 0) (n := 1) d_Model_groupsOf_14 ok_Model_c ml_Model_53 (by decide) rfl (Nat.le_of_ble_eq_true rfl) ⟨tw_794, ts_Model_c⟩ xg_0 rfl (ct_Model_c_0 h) (fun v w h => ?_)
    obtain ⟨r1, i1, l1, a1, b1, rfl, rfl, h⟩ := h
    refine mm_eqs (st2 := [.int r1]) rfl ?_
    refine mm_bipush (M := M_Model_groupsOf) (v := 40) d_Model_groupsOf_17 (by decide) ?_
    refine mm_icmp_ne (M := M_Model_groupsOf) 37 d_Model_groupsOf_19 (by decide) (fun c => ?_) (fun c => ?_)
    · have h := h.1 c
      refine mm_drop (L' := [some (.ref 0), some (.int z1), some (.int z2)]) ⟨rfl, ⟨rfl, ⟨rfl, trivial⟩⟩⟩ ?_
      exact vq_Model_groupsOf_0_37 hX h
    · have h := h.2 c
      refine mm_aload_n (M := M_Model_groupsOf) d_Model_groupsOf_22 rfl ?_
      refine mm_iload_n (M := M_Model_groupsOf) d_Model_groupsOf_23 rfl ?_
      refine mm_iconst (M := M_Model_groupsOf) (v := 1) d_Model_groupsOf_24 (by decide) ?_
      refine mm_iadd (M := M_Model_groupsOf) d_Model_groupsOf_25 ?_
      refine mm_eqs (st2 := [.int (z2 + (1 : Int32))].reverse ++ .ref 0 :: []) rfl ?_
      refine mm_callV (M := M_Model_groupsOf) (y := y_Model_c) (M' := M_Model_c) (d' := 0) (kc := 0) (ks := 0) (kc' := 0) (ks' := 0) (n := 1) d_Model_groupsOf_26 ok_Model_c ml_Model_53 (by decide) rfl (Nat.le_of_ble_eq_true rfl) ⟨tw_794, ts_Model_c⟩ xg_0 rfl (ct_Model_c_0 h) (fun v w h => ?_)
      obtain ⟨r2, i2, l2, a2, b2, rfl, rfl, h⟩ := h
      refine mm_eqs (st2 := [.int r2]) rfl ?_
      refine mm_bipush (M := M_Model_groupsOf) (v := 63) d_Model_groupsOf_29 (by decide) ?_
      refine mm_icmp_eq (M := M_Model_groupsOf) 37 d_Model_groupsOf_31 (by decide) (fun c => ?_) (fun c => ?_)
      · have h := h.1 c
        refine mm_drop (L' := [some (.ref 0), some (.int z1), some (.int z2)]) ⟨rfl, ⟨rfl, ⟨rfl, trivial⟩⟩⟩ ?_
        exact vq_Model_groupsOf_0_37 hX h
      · have h := h.2 c
        refine mm_iinc (M := M_Model_groupsOf) (v := 1) d_Model_groupsOf_34 rfl (by decide) (Nat.le_of_ble_eq_true rfl) ?_
        refine mm_eqL (L' := [some (.ref 0), some (.int (z1 + 1)), some (.int z2)]) rfl ?_
        refine mm_drop (L' := [some (.ref 0), some (.int (z1 + 1)), some (.int z2)]) ⟨rfl, ⟨rfl, ⟨rfl, trivial⟩⟩⟩ ?_
        exact vq_Model_groupsOf_0_37 hX h
theorem vl_Model_groupsOf_0 {k0 : Nat} {t : mm_H} {K : Int32 → mm_i → mm_j → mm_a → mm_b → Prop} : ∀ (n : Nat) {i : mm_i} {l : mm_j} {a : mm_a} {b : mm_b} {z1 : Int32} {z2 : Int32}, wl_Model_groupsOf_0 K n i l a b z1 z2 → mm_V M_Model_groupsOf 1 k0 (mx_PI t K) 0 0 4 [some (.ref 0), some (.int z1), some (.int z2)] [] (Wm i l a b ++ t)
  | 0, _, _, _, _, _, _, h => h.elim
  | n + 1, _, _, _, _, _, _, h => vt_Model_groupsOf_0 (fun h => vl_Model_groupsOf_0 n h) h
def wp_Model_groupsOf_0 (i : mm_i) (l : mm_j) (a : mm_a) (b : mm_b)  (K : Int32 → mm_i → mm_j → mm_a → mm_b → Prop) : Prop :=
  ∃ n, wl_Model_groupsOf_0 K n i l a b 0 0
set_option maxRecDepth 100000 in
set_option maxHeartbeats 4000000 in
theorem ct_Model_groupsOf_0 {i : mm_i} {l : mm_j} {a : mm_a} {b : mm_b} {t : mm_H}  {K : Int32 → mm_i → mm_j → mm_a → mm_b → Prop} (h : wp_Model_groupsOf_0 i l a b  K) : mm_Ct y_Model_groupsOf M_Model_groupsOf 1 0 0 [.ref 0] (Wm i l a b ++ t) (mx_PI t K) := by
  refine mm_Ct.of (by decide) rfl (fun q => absurd q (by decide)) (Nat.le_of_ble_eq_true rfl) ?_
  unfold wp_Model_groupsOf_0 at h
  refine mm_eqL (L' := [some (.ref 0), none, none]) rfl ?_
  refine mm_iconst (M := M_Model_groupsOf) (v := 0) d_Model_groupsOf_0 (by decide) ?_
  refine mm_istore_n (M := M_Model_groupsOf) d_Model_groupsOf_1 (Nat.le_of_ble_eq_true rfl) ?_
  refine mm_eqL (L' := [some (.ref 0), some (.int 0), none]) rfl ?_
  refine mm_iconst (M := M_Model_groupsOf) (v := 0) d_Model_groupsOf_2 (by decide) ?_
  refine mm_istore_n (M := M_Model_groupsOf) d_Model_groupsOf_3 (Nat.le_of_ble_eq_true rfl) ?_
  refine mm_eqL (L' := [some (.ref 0), some (.int 0), some (.int 0)]) rfl ?_
  obtain ⟨n, h⟩ := h
  refine mm_drop (L' := [some (.ref 0), some (.int 0), some (.int 0)]) ⟨rfl, ⟨rfl, ⟨rfl, trivial⟩⟩⟩ ?_
  exact (vl_Model_groupsOf_0 n) h
def wq_Model_namesGood_0_73 (X : mm_i → mm_j → mm_a → mm_b → Int32 → Int32 → Prop) (K : Int32 → mm_i → mm_j → mm_a → mm_b → Prop) (i : mm_i) (l : mm_j) (a : mm_a) (b : mm_b) (z1 : Int32) (z2 : Int32) : Prop :=
  wp_Model_c_0 i l a b z2 (fun r1 i1 l1 a1 b1 => (¬ r1 = (92 : Int32) → X i1 l1 a1 b1 z1 (z2 + 1)) ∧ (r1 = (92 : Int32) → wp_Model_c_0 i1 l1 a1 b1 (z2 + (1 : Int32)) (fun r2 i2 l2 a2 b2 => ((r2 - (48 : Int32)) ≤ z1 → X i2 l2 a2 b2 z1 (z2 + 1)) ∧ (¬ (r2 - (48 : Int32)) ≤ z1 → K 0 i2 l2 a2 b2))))
set_option maxRecDepth 100000 in
set_option maxHeartbeats 4000000 in
theorem vq_Model_namesGood_0_73 {k0 : Nat} {t : mm_H} {K : Int32 → mm_i → mm_j → mm_a → mm_b → Prop} {X : mm_i → mm_j → mm_a → mm_b → Int32 → Int32 → Prop} (hX : ∀ {i l a b z1 z2}, X i l a b z1 z2 → mm_V M_Model_namesGood 1 k0 (mx_PI t K) 0 0 2 [some (.ref 0), some (.int z1), some (.int z2), none] [] (Wm i l a b ++ t)) {i : mm_i} {l : mm_j} {a : mm_a} {b : mm_b} {z1 : Int32} {z2 : Int32} (h : wq_Model_namesGood_0_73 X K i l a b z1 z2) : mm_V M_Model_namesGood 1 k0 (mx_PI t K) 0 0 73 [some (.ref 0), some (.int z1), some (.int z2), none] [] (Wm i l a b ++ t) := by
  unfold wq_Model_namesGood_0_73 at h
  refine mm_aload_n (M := M_Model_namesGood) d_Model_namesGood_73 rfl ?_
  refine mm_iload_n (M := M_Model_namesGood) d_Model_namesGood_74 rfl ?_
  refine mm_eqs (st2 := [.int z2].reverse ++ .ref 0 :: []) rfl ?_
  refine mm_callV (M := M_Model_namesGood) (y := y_Model_c) (M' := M_Model_c) (d' := 0) (kc := 0) (ks := 0) (kc' := 0) (ks' := 0) (n := 1) d_Model_namesGood_75 ok_Model_c ml_Model_53 (by decide) rfl (Nat.le_of_ble_eq_true rfl) ⟨tw_794, ts_Model_c⟩ xg_0 rfl (ct_Model_c_0 h) (fun v w h => ?_)
  obtain ⟨r1, i1, l1, a1, b1, rfl, rfl, h⟩ := h
  refine mm_eqs (st2 := [.int r1]) rfl ?_
  refine mm_bipush (M := M_Model_namesGood) (v := 92) d_Model_namesGood_78 (by decide) ?_
  refine mm_icmp_ne (M := M_Model_namesGood) 99 d_Model_namesGood_80 (by decide) (fun c => ?_) (fun c => ?_)
  · have h := h.1 c
    refine mm_iinc (M := M_Model_namesGood) (v := 1) d_Model_namesGood_99 rfl (by decide) (Nat.le_of_ble_eq_true rfl) ?_
    refine mm_eqL (L' := [some (.ref 0), some (.int z1), some (.int (z2 + 1)), none]) rfl ?_
    refine mm_goto (M := M_Model_namesGood) (tgt := 2) d_Model_namesGood_102 (by decide) ?_
    refine mm_drop (L' := [some (.ref 0), some (.int z1), some (.int (z2 + 1)), none]) ⟨rfl, ⟨rfl, ⟨rfl, trivial⟩⟩⟩ ?_
    exact hX h
  · have h := h.2 c
    refine mm_aload_n (M := M_Model_namesGood) d_Model_namesGood_83 rfl ?_
    refine mm_iload_n (M := M_Model_namesGood) d_Model_namesGood_84 rfl ?_
    refine mm_iconst (M := M_Model_namesGood) (v := 1) d_Model_namesGood_85 (by decide) ?_
    refine mm_iadd (M := M_Model_namesGood) d_Model_namesGood_86 ?_
    refine mm_eqs (st2 := [.int (z2 + (1 : Int32))].reverse ++ .ref 0 :: []) rfl ?_
    refine mm_callV (M := M_Model_namesGood) (y := y_Model_c) (M' := M_Model_c) (d' := 0) (kc := 0) (ks := 0) (kc' := 0) (ks' := 0) (n := 1) d_Model_namesGood_87 ok_Model_c ml_Model_53 (by decide) rfl (Nat.le_of_ble_eq_true rfl) ⟨tw_794, ts_Model_c⟩ xg_0 rfl (ct_Model_c_0 h) (fun v w h => ?_)
    obtain ⟨r2, i2, l2, a2, b2, rfl, rfl, h⟩ := h
    refine mm_eqs (st2 := [.int r2]) rfl ?_
    refine mm_bipush (M := M_Model_namesGood) (v := 48) d_Model_namesGood_90 (by decide) ?_
    refine mm_isub (M := M_Model_namesGood) d_Model_namesGood_92 ?_
    refine mm_iload_n (M := M_Model_namesGood) d_Model_namesGood_93 rfl ?_
    refine mm_icmp_le (M := M_Model_namesGood) 99 d_Model_namesGood_94 (by decide) (fun c => ?_) (fun c => ?_)
    · have h := h.1 c
      refine mm_iinc (M := M_Model_namesGood) (v := 1) d_Model_namesGood_99 rfl (by decide) (Nat.le_of_ble_eq_true rfl) ?_
      refine mm_eqL (L' := [some (.ref 0), some (.int z1), some (.int (z2 + 1)), none]) rfl ?_
      refine mm_goto (M := M_Model_namesGood) (tgt := 2) d_Model_namesGood_102 (by decide) ?_
      refine mm_drop (L' := [some (.ref 0), some (.int z1), some (.int (z2 + 1)), none]) ⟨rfl, ⟨rfl, ⟨rfl, trivial⟩⟩⟩ ?_
      exact hX h
    · have h := h.2 c
      refine mm_iconst (M := M_Model_namesGood) (v := 0) d_Model_namesGood_97 (by decide) ?_
      exact mm_retv (M := M_Model_namesGood) ⟨_, rfl, (by decide), d_Model_namesGood_98⟩ ⟨_, _, _, _, _, rfl, rfl, h⟩
def wq_Model_namesGood_0_55 (X : mm_i → mm_j → mm_a → mm_b → Int32 → Int32 → Prop) (K : Int32 → mm_i → mm_j → mm_a → mm_b → Prop) (i : mm_i) (l : mm_j) (a : mm_a) (b : mm_b) (z1 : Int32) (z2 : Int32) (z3 : Int32) : Prop :=
  (z3 = 0 → wq_Model_namesGood_0_73 X K i l a b z1 z2) ∧ (¬ z3 = 0 → wp_Model_c_0 i l a b (z2 + (2 : Int32)) (fun r1 i1 l1 a1 b1 => (z1 < (r1 - (48 : Int32)) → K 0 i1 l1 a1 b1) ∧ (¬ z1 < (r1 - (48 : Int32)) → wq_Model_namesGood_0_73 X K i1 l1 a1 b1 z1 z2)))
set_option maxRecDepth 100000 in
set_option maxHeartbeats 4000000 in
theorem vq_Model_namesGood_0_55 {k0 : Nat} {t : mm_H} {K : Int32 → mm_i → mm_j → mm_a → mm_b → Prop} {X : mm_i → mm_j → mm_a → mm_b → Int32 → Int32 → Prop} (hX : ∀ {i l a b z1 z2}, X i l a b z1 z2 → mm_V M_Model_namesGood 1 k0 (mx_PI t K) 0 0 2 [some (.ref 0), some (.int z1), some (.int z2), none] [] (Wm i l a b ++ t)) {i : mm_i} {l : mm_j} {a : mm_a} {b : mm_b} {z1 : Int32} {z2 : Int32} {z3 : Int32} (h : wq_Model_namesGood_0_55 X K i l a b z1 z2 z3) : mm_V M_Model_namesGood 1 k0 (mx_PI t K) 0 0 55 [some (.ref 0), some (.int z1), some (.int z2), some (.int z3)] [] (Wm i l a b ++ t) := by
  unfold wq_Model_namesGood_0_55 at h
  refine mm_iload_n (M := M_Model_namesGood) d_Model_namesGood_55 rfl ?_
  refine mm_if_eq (M := M_Model_namesGood) 73 d_Model_namesGood_56 (by decide) (fun c => ?_) (fun c => ?_)
  · have h := h.1 c
    refine mm_drop (L' := [some (.ref 0), some (.int z1), some (.int z2), none]) ⟨rfl, ⟨rfl, ⟨rfl, trivial⟩⟩⟩ ?_
    exact vq_Model_namesGood_0_73 hX h
  · have h := h.2 c
    refine mm_aload_n (M := M_Model_namesGood) d_Model_namesGood_59 rfl ?_
    refine mm_iload_n (M := M_Model_namesGood) d_Model_namesGood_60 rfl ?_
    refine mm_iconst (M := M_Model_namesGood) (v := 2) d_Model_namesGood_61 (by decide) ?_
    refine mm_iadd (M := M_Model_namesGood) d_Model_namesGood_62 ?_
    refine mm_eqs (st2 := [.int (z2 + (2 : Int32))].reverse ++ .ref 0 :: []) rfl ?_
    refine mm_callV (M := M_Model_namesGood) (y := y_Model_c) (M' := M_Model_c) (d' := 0) (kc := 0) (ks := 0) (kc' := 0) (ks' := 0) (n := 1) d_Model_namesGood_63 ok_Model_c ml_Model_53 (by decide) rfl (Nat.le_of_ble_eq_true rfl) ⟨tw_794, ts_Model_c⟩ xg_0 rfl (ct_Model_c_0 h) (fun v w h => ?_)
    obtain ⟨r1, i1, l1, a1, b1, rfl, rfl, h⟩ := h
    refine mm_eqs (st2 := [.int r1]) rfl ?_
    refine mm_bipush (M := M_Model_namesGood) (v := 48) d_Model_namesGood_66 (by decide) ?_
    refine mm_isub (M := M_Model_namesGood) d_Model_namesGood_68 ?_
    refine mm_iload_n (M := M_Model_namesGood) d_Model_namesGood_69 rfl ?_
    refine mm_icmp_gt (M := M_Model_namesGood) 97 d_Model_namesGood_70 (by decide) (fun c => ?_) (fun c => ?_)
    · have h := h.1 c
      refine mm_iconst (M := M_Model_namesGood) (v := 0) d_Model_namesGood_97 (by decide) ?_
      exact mm_retv (M := M_Model_namesGood) ⟨_, rfl, (by decide), d_Model_namesGood_98⟩ ⟨_, _, _, _, _, rfl, rfl, h⟩
    · have h := h.2 c
      refine mm_drop (L' := [some (.ref 0), some (.int z1), some (.int z2), none]) ⟨rfl, ⟨rfl, ⟨rfl, trivial⟩⟩⟩ ?_
      exact vq_Model_namesGood_0_73 hX h
def wt_Model_namesGood_0 (X : mm_i → mm_j → mm_a → mm_b → Int32 → Int32 → Prop) (K : Int32 → mm_i → mm_j → mm_a → mm_b → Prop) (i : mm_i) (l : mm_j) (a : mm_a) (b : mm_b) (z1 : Int32) (z2 : Int32) : Prop :=
  ((i 1) ≤ z2 → ((4 : Int32) < z1 → K 0 i l a b) ∧ (¬ (4 : Int32) < z1 → K 1 i l a b)) ∧ (¬ (i 1) ≤ z2 → wp_Model_c_0 i l a b z2 (fun r1 i1 l1 a1 b1 => (¬ r1 = (40 : Int32) → wq_Model_namesGood_0_55 X K i1 l1 a1 b1 z1 z2 0) ∧ (r1 = (40 : Int32) → wp_Model_c_0 i1 l1 a1 b1 (z2 + (1 : Int32)) (fun r2 i2 l2 a2 b2 => (¬ r2 = (63 : Int32) → wq_Model_namesGood_0_55 X K i2 l2 a2 b2 z1 z2 0) ∧ (r2 = (63 : Int32) → wp_Model_c_0 i2 l2 a2 b2 (z2 + (2 : Int32)) (fun r3 i3 l3 a3 b3 => wp_Model_in i3 l3 a3 b3 r3 48 52 (fun r4 i4 l4 a4 b4 => (r4 = 0 → wq_Model_namesGood_0_55 X K i4 l4 a4 b4 z1 z2 0) ∧ (¬ r4 = 0 → wq_Model_namesGood_0_55 X K i4 l4 a4 b4 z1 z2 1))))))))
def wl_Model_namesGood_0 (K : Int32 → mm_i → mm_j → mm_a → mm_b → Prop) : Nat → mm_i → mm_j → mm_a → mm_b → Int32 → Int32 → Prop
  | 0 => fun _ _ _ _ _ _ => False
  | n + 1 => fun i l a b z1 z2 => wt_Model_namesGood_0 (wl_Model_namesGood_0 K n) K i l a b z1 z2
set_option maxRecDepth 100000 in
set_option maxHeartbeats 4000000 in
theorem vt_Model_namesGood_0 {k0 : Nat} {t : mm_H} {K : Int32 → mm_i → mm_j → mm_a → mm_b → Prop} {X : mm_i → mm_j → mm_a → mm_b → Int32 → Int32 → Prop} (hX : ∀ {i l a b z1 z2}, X i l a b z1 z2 → mm_V M_Model_namesGood 1 k0 (mx_PI t K) 0 0 2 [some (.ref 0), some (.int z1), some (.int z2), none] [] (Wm i l a b ++ t)) {i : mm_i} {l : mm_j} {a : mm_a} {b : mm_b} {z1 : Int32} {z2 : Int32} (h : wt_Model_namesGood_0 X K i l a b z1 z2) : mm_V M_Model_namesGood 1 k0 (mx_PI t K) 0 0 2 [some (.ref 0), some (.int z1), some (.int z2), none] [] (Wm i l a b ++ t) := by
  unfold wt_Model_namesGood_0 at h
  refine mm_iload_n (M := M_Model_namesGood) d_Model_namesGood_2 rfl ?_
  refine mm_aload_n (M := M_Model_namesGood) d_Model_namesGood_3 rfl ?_
  refine mm_getf (M := M_Model_namesGood) (u := .int (i 1)) 7 1 d_Model_namesGood_4 fl_Model_50 xg_0 rfl ?_
  refine mm_icmp_ge (M := M_Model_namesGood) 105 d_Model_namesGood_7 (by decide) (fun c => ?_) (fun c => ?_)
  · have h := h.1 c
    refine mm_iload_n (M := M_Model_namesGood) d_Model_namesGood_105 rfl ?_
    refine mm_iconst (M := M_Model_namesGood) (v := 4) d_Model_namesGood_106 (by decide) ?_
    refine mm_icmp_gt (M := M_Model_namesGood) 114 d_Model_namesGood_107 (by decide) (fun c => ?_) (fun c => ?_)
    · have h := h.1 c
      refine mm_iconst (M := M_Model_namesGood) (v := 0) d_Model_namesGood_114 (by decide) ?_
      exact mm_retv (M := M_Model_namesGood) ⟨_, rfl, (by decide), d_Model_namesGood_115⟩ ⟨_, _, _, _, _, rfl, rfl, h⟩
    · have h := h.2 c
      refine mm_iconst (M := M_Model_namesGood) (v := 1) d_Model_namesGood_110 (by decide) ?_
      refine mm_goto (M := M_Model_namesGood) (tgt := 115) d_Model_namesGood_111 (by decide) ?_
      exact mm_retv (M := M_Model_namesGood) ⟨_, rfl, (by decide), d_Model_namesGood_115⟩ ⟨_, _, _, _, _, rfl, rfl, h⟩
  · have h := h.2 c
    refine mm_aload_n (M := M_Model_namesGood) d_Model_namesGood_10 rfl ?_
    refine mm_iload_n (M := M_Model_namesGood) d_Model_namesGood_11 rfl ?_
    refine mm_eqs (st2 := [.int z2].reverse ++ .ref 0 :: []) rfl ?_
    refine mm_callV (M := M_Model_namesGood) (y := y_Model_c) (M' := M_Model_c) (d' := 0) (kc := 0) (ks := 0) (kc' := 0) (ks' := 0) (n := 1) d_Model_namesGood_12 ok_Model_c ml_Model_53 (by decide) rfl (Nat.le_of_ble_eq_true rfl) ⟨tw_794, ts_Model_c⟩ xg_0 rfl (ct_Model_c_0 h) (fun v w h => ?_)
    obtain ⟨r1, i1, l1, a1, b1, rfl, rfl, h⟩ := h
    refine mm_eqs (st2 := [.int r1]) rfl ?_
    refine mm_bipush (M := M_Model_namesGood) (v := 40) d_Model_namesGood_15 (by decide) ?_
    refine mm_icmp_ne (M := M_Model_namesGood) 53 d_Model_namesGood_17 (by decide) (fun c => ?_) (fun c => ?_)
    · have h := h.1 c
      refine mm_iconst (M := M_Model_namesGood) (v := 0) d_Model_namesGood_53 (by decide) ?_
      refine mm_istore_n (M := M_Model_namesGood) d_Model_namesGood_54 (Nat.le_of_ble_eq_true rfl) ?_
      refine mm_eqL (L' := [some (.ref 0), some (.int z1), some (.int z2), some (.int 0)]) rfl ?_
      refine mm_drop (L' := [some (.ref 0), some (.int z1), some (.int z2), some (.int 0)]) ⟨rfl, ⟨rfl, ⟨rfl, ⟨rfl, trivial⟩⟩⟩⟩ ?_
      exact vq_Model_namesGood_0_55 hX h
    · have h := h.2 c
      refine mm_aload_n (M := M_Model_namesGood) d_Model_namesGood_20 rfl ?_
      refine mm_iload_n (M := M_Model_namesGood) d_Model_namesGood_21 rfl ?_
      refine mm_iconst (M := M_Model_namesGood) (v := 1) d_Model_namesGood_22 (by decide) ?_
      refine mm_iadd (M := M_Model_namesGood) d_Model_namesGood_23 ?_
      refine mm_eqs (st2 := [.int (z2 + (1 : Int32))].reverse ++ .ref 0 :: []) rfl ?_
      refine mm_callV (M := M_Model_namesGood) (y := y_Model_c) (M' := M_Model_c) (d' := 0) (kc := 0) (ks := 0) (kc' := 0) (ks' := 0) (n := 1) d_Model_namesGood_24 ok_Model_c ml_Model_53 (by decide) rfl (Nat.le_of_ble_eq_true rfl) ⟨tw_794, ts_Model_c⟩ xg_0 rfl (ct_Model_c_0 h) (fun v w h => ?_)
      obtain ⟨r2, i2, l2, a2, b2, rfl, rfl, h⟩ := h
      refine mm_eqs (st2 := [.int r2]) rfl ?_
      refine mm_bipush (M := M_Model_namesGood) (v := 63) d_Model_namesGood_27 (by decide) ?_
      refine mm_icmp_ne (M := M_Model_namesGood) 53 d_Model_namesGood_29 (by decide) (fun c => ?_) (fun c => ?_)
      · have h := h.1 c
        refine mm_iconst (M := M_Model_namesGood) (v := 0) d_Model_namesGood_53 (by decide) ?_
        refine mm_istore_n (M := M_Model_namesGood) d_Model_namesGood_54 (Nat.le_of_ble_eq_true rfl) ?_
        refine mm_eqL (L' := [some (.ref 0), some (.int z1), some (.int z2), some (.int 0)]) rfl ?_
        refine mm_drop (L' := [some (.ref 0), some (.int z1), some (.int z2), some (.int 0)]) ⟨rfl, ⟨rfl, ⟨rfl, ⟨rfl, trivial⟩⟩⟩⟩ ?_
        exact vq_Model_namesGood_0_55 hX h
      · have h := h.2 c
        refine mm_aload_n (M := M_Model_namesGood) d_Model_namesGood_32 rfl ?_
        refine mm_iload_n (M := M_Model_namesGood) d_Model_namesGood_33 rfl ?_
        refine mm_iconst (M := M_Model_namesGood) (v := 2) d_Model_namesGood_34 (by decide) ?_
        refine mm_iadd (M := M_Model_namesGood) d_Model_namesGood_35 ?_
        refine mm_eqs (st2 := [.int (z2 + (2 : Int32))].reverse ++ .ref 0 :: []) rfl ?_
        refine mm_callV (M := M_Model_namesGood) (y := y_Model_c) (M' := M_Model_c) (d' := 0) (kc := 0) (ks := 0) (kc' := 0) (ks' := 0) (n := 1) d_Model_namesGood_36 ok_Model_c ml_Model_53 (by decide) rfl (Nat.le_of_ble_eq_true rfl) ⟨tw_794, ts_Model_c⟩ xg_0 rfl (ct_Model_c_0 h) (fun v w h => ?_)
        obtain ⟨r3, i3, l3, a3, b3, rfl, rfl, h⟩ := h
        refine mm_eqs (st2 := [.int r3]) rfl ?_
        refine mm_bipush (M := M_Model_namesGood) (v := 48) d_Model_namesGood_39 (by decide) ?_
        refine mm_bipush (M := M_Model_namesGood) (v := 52) d_Model_namesGood_41 (by decide) ?_
        refine mm_eqs (st2 := [.int r3, .int 48, .int 52].reverse ++ []) rfl ?_
        refine mm_callS (M := M_Model_namesGood) (y := y_Model_in) (M' := M_Model_in) (d' := 0) (kc := 0) (ks := 0) (kc' := 0) (ks' := 0) (n := 3) d_Model_namesGood_43 ok_Model_in ml_Model_39 (by decide) rfl (Nat.le_of_ble_eq_true rfl) tw_775 (ct_Model_in h) (fun v w h => ?_)
        obtain ⟨r4, i4, l4, a4, b4, rfl, rfl, h⟩ := h
        refine mm_eqs (st2 := [.int r4]) rfl ?_
        refine mm_if_eq (M := M_Model_namesGood) 53 d_Model_namesGood_46 (by decide) (fun c => ?_) (fun c => ?_)
        · have h := h.1 c
          refine mm_iconst (M := M_Model_namesGood) (v := 0) d_Model_namesGood_53 (by decide) ?_
          refine mm_istore_n (M := M_Model_namesGood) d_Model_namesGood_54 (Nat.le_of_ble_eq_true rfl) ?_
          refine mm_eqL (L' := [some (.ref 0), some (.int z1), some (.int z2), some (.int 0)]) rfl ?_
          refine mm_drop (L' := [some (.ref 0), some (.int z1), some (.int z2), some (.int 0)]) ⟨rfl, ⟨rfl, ⟨rfl, ⟨rfl, trivial⟩⟩⟩⟩ ?_
          exact vq_Model_namesGood_0_55 hX h
        · have h := h.2 c
          refine mm_iconst (M := M_Model_namesGood) (v := 1) d_Model_namesGood_49 (by decide) ?_
          refine mm_goto (M := M_Model_namesGood) (tgt := 54) d_Model_namesGood_50 (by decide) ?_
          refine mm_istore_n (M := M_Model_namesGood) d_Model_namesGood_54 (Nat.le_of_ble_eq_true rfl) ?_
          refine mm_eqL (L' := [some (.ref 0), some (.int z1), some (.int z2), some (.int 1)]) rfl ?_
          refine mm_drop (L' := [some (.ref 0), some (.int z1), some (.int z2), some (.int 1)]) ⟨rfl, ⟨rfl, ⟨rfl, ⟨rfl, trivial⟩⟩⟩⟩ ?_
          exact vq_Model_namesGood_0_55 hX h
theorem vl_Model_namesGood_0 {k0 : Nat} {t : mm_H} {K : Int32 → mm_i → mm_j → mm_a → mm_b → Prop} : ∀ (n : Nat) {i : mm_i} {l : mm_j} {a : mm_a} {b : mm_b} {z1 : Int32} {z2 : Int32}, wl_Model_namesGood_0 K n i l a b z1 z2 → mm_V M_Model_namesGood 1 k0 (mx_PI t K) 0 0 2 [some (.ref 0), some (.int z1), some (.int z2), none] [] (Wm i l a b ++ t)
  | 0, _, _, _, _, _, _, h => h.elim
  | n + 1, _, _, _, _, _, _, h => vt_Model_namesGood_0 (fun h => vl_Model_namesGood_0 n h) h
def wp_Model_namesGood_0 (i : mm_i) (l : mm_j) (a : mm_a) (b : mm_b) (x1 : Int32) (K : Int32 → mm_i → mm_j → mm_a → mm_b → Prop) : Prop :=
  ∃ n, wl_Model_namesGood_0 K n i l a b x1 0
set_option maxRecDepth 100000 in
set_option maxHeartbeats 4000000 in
theorem ct_Model_namesGood_0 {i : mm_i} {l : mm_j} {a : mm_a} {b : mm_b} {t : mm_H} {x1 : Int32} {K : Int32 → mm_i → mm_j → mm_a → mm_b → Prop} (h : wp_Model_namesGood_0 i l a b x1 K) : mm_Ct y_Model_namesGood M_Model_namesGood 1 0 0 [.ref 0, .int x1] (Wm i l a b ++ t) (mx_PI t K) := by
  refine mm_Ct.of (by decide) rfl (fun q => absurd q (by decide)) (Nat.le_of_ble_eq_true rfl) ?_
  unfold wp_Model_namesGood_0 at h
  refine mm_eqL (L' := [some (.ref 0), some (.int x1), none, none]) rfl ?_
  refine mm_iconst (M := M_Model_namesGood) (v := 0) d_Model_namesGood_0 (by decide) ?_
  refine mm_istore_n (M := M_Model_namesGood) d_Model_namesGood_1 (Nat.le_of_ble_eq_true rfl) ?_
  refine mm_eqL (L' := [some (.ref 0), some (.int x1), some (.int 0), none]) rfl ?_
  obtain ⟨n, h⟩ := h
  refine mm_drop (L' := [some (.ref 0), some (.int x1), some (.int 0), none]) ⟨rfl, ⟨rfl, ⟨rfl, trivial⟩⟩⟩ ?_
  exact (vl_Model_namesGood_0 n) h
def wq_Model_measure_0_132 (X : mm_i → mm_j → mm_a → mm_b → Int32 → Int32 → Prop) (K : Int32 → mm_i → mm_j → mm_a → mm_b → Prop) (i : mm_i) (l : mm_j) (a : mm_a) (b : mm_b) (z1 : Int32) (z3 : Int32) (z4 : Int32) : Prop :=
  (0 ≤ z4 → wp_Model_behindRepeat_0 i l a b z4 (fun r1 i1 l1 a1 b1 => (0 ≤ r1 → vp_in z1 8 ∧ ((r1 ≤ z4 → vp_in z1 8 ∧ (X i1 l1 (mm_ua a1 4 (upd (a1 4) z1.toNatClampNeg (((a1 4) z1.toNatClampNeg) + z3))) b1 z1 r1)) ∧ (¬ r1 ≤ z4 → wp_Model_sized_0 i1 l1 a1 b1 z4 z3 (fun r2 i2 l2 a2 b2 => vp_in z1 8 ∧ (X i2 l2 (mm_ua a2 4 (upd (a2 4) z1.toNatClampNeg (((a1 4) z1.toNatClampNeg) + r2))) b2 z1 r1))))) ∧ (¬ 0 ≤ r1 → K (-1) i1 l1 a1 b1))) ∧ (¬ 0 ≤ z4 → K (-1) i l a b)
set_option maxRecDepth 100000 in
set_option maxHeartbeats 4000000 in
theorem vq_Model_measure_0_132 {k0 : Nat} {t : mm_H} {K : Int32 → mm_i → mm_j → mm_a → mm_b → Prop} {X : mm_i → mm_j → mm_a → mm_b → Int32 → Int32 → Prop} (hX : ∀ {i l a b z1 z2}, X i l a b z1 z2 → mm_V M_Model_measure 4 k0 (mx_PI t K) 0 0 11 [some (.ref 0), some (.int z1), some (.int z2), none, none] [] (Wm i l a b ++ t)) {i : mm_i} {l : mm_j} {a : mm_a} {b : mm_b} {z1 : Int32} {z3 : Int32} {z4 : Int32} (h : wq_Model_measure_0_132 X K i l a b z1 z3 z4) : mm_V M_Model_measure 4 k0 (mx_PI t K) 0 0 132 [some (.ref 0), some (.int z1), none, some (.int z3), some (.int z4)] [] (Wm i l a b ++ t) := by
  unfold wq_Model_measure_0_132 at h
  refine mm_iload (M := M_Model_measure) d_Model_measure_132 rfl ?_
  refine mm_if_ge (M := M_Model_measure) 139 d_Model_measure_134 (by decide) (fun c => ?_) (fun c => ?_)
  · have h := h.1 c
    refine mm_aload_n (M := M_Model_measure) d_Model_measure_139 rfl ?_
    refine mm_iload (M := M_Model_measure) d_Model_measure_140 rfl ?_
    refine mm_eqs (st2 := [.int z4].reverse ++ .ref 0 :: []) rfl ?_
    refine mm_callV (M := M_Model_measure) (y := y_Model_behindRepeat) (M' := M_Model_behindRepeat) (d' := 1) (kc := 0) (ks := 0) (kc' := 0) (ks' := 0) (n := 1) d_Model_measure_142 ok_Model_behindRepeat ml_Model_66 (by decide) rfl (Nat.le_of_ble_eq_true rfl) ⟨tw_806, ts_Model_behindRepeat⟩ xg_0 rfl (ct_Model_behindRepeat_0 h) (fun v w h => ?_)
    obtain ⟨r1, i1, l1, a1, b1, rfl, rfl, h⟩ := h
    refine mm_eqs (st2 := [.int r1]) rfl ?_
    refine mm_istore_n (M := M_Model_measure) d_Model_measure_145 (Nat.le_of_ble_eq_true rfl) ?_
    refine mm_eqL (L' := [some (.ref 0), some (.int z1), some (.int r1), some (.int z3), some (.int z4)]) rfl ?_
    refine mm_iload_n (M := M_Model_measure) d_Model_measure_146 rfl ?_
    refine mm_if_ge (M := M_Model_measure) 152 d_Model_measure_147 (by decide) (fun c => ?_) (fun c => ?_)
    · have h := h.1 c
      refine mm_aload_n (M := M_Model_measure) d_Model_measure_152 rfl ?_
      refine mm_getf (M := M_Model_measure) (u := .ref 4) 7 15 d_Model_measure_153 fl_Model_19 xg_0 rfl ?_
      refine mm_iload_n (M := M_Model_measure) d_Model_measure_156 rfl ?_
      refine mm_dup2 (M := M_Model_measure) d_Model_measure_157 rfl rfl ?_
      obtain ⟨hin, h⟩ := h
      refine mm_iald (M := M_Model_measure) (f := (a1 4)) d_Model_measure_158 xg_4 hin ?_
      refine mm_iload_n (M := M_Model_measure) d_Model_measure_159 rfl ?_
      refine mm_iload (M := M_Model_measure) d_Model_measure_160 rfl ?_
      refine mm_icmp_le (M := M_Model_measure) 175 d_Model_measure_162 (by decide) (fun c => ?_) (fun c => ?_)
      · have h := h.1 c
        refine mm_iload_n (M := M_Model_measure) d_Model_measure_175 rfl ?_
        refine mm_iadd (M := M_Model_measure) d_Model_measure_176 ?_
        obtain ⟨hin, h⟩ := h
        refine mm_iast (M := M_Model_measure) (f := (a1 4)) d_Model_measure_177 xg_4 hin ?_
        refine mm_eqw xa_4 ?_
        refine mm_goto (M := M_Model_measure) (tgt := 11) d_Model_measure_178 (by decide) ?_
        refine mm_drop (L' := [some (.ref 0), some (.int z1), some (.int r1), none, none]) ⟨rfl, ⟨rfl, ⟨rfl, trivial⟩⟩⟩ ?_
        exact hX h
      · have h := h.2 c
        refine mm_aload_n (M := M_Model_measure) d_Model_measure_165 rfl ?_
        refine mm_iload (M := M_Model_measure) d_Model_measure_166 rfl ?_
        refine mm_iload_n (M := M_Model_measure) d_Model_measure_168 rfl ?_
        refine mm_eqs (st2 := [.int z4, .int z3].reverse ++ .ref 0 :: [.int ((a1 4) z1.toNatClampNeg), .int z1, .ref 4]) rfl ?_
        refine mm_callV (M := M_Model_measure) (y := y_Model_sized) (M' := M_Model_sized) (d' := 1) (kc := 0) (ks := 0) (kc' := 0) (ks' := 0) (n := 2) d_Model_measure_169 ok_Model_sized ml_Model_69 (by decide) rfl (Nat.le_of_ble_eq_true rfl) ⟨tw_810, ts_Model_sized⟩ xg_0 rfl (ct_Model_sized_0 h) (fun v w h => ?_)
        obtain ⟨r2, i2, l2, a2, b2, rfl, rfl, h⟩ := h
        refine mm_eqs (st2 := [.int r2, .int ((a1 4) z1.toNatClampNeg), .int z1, .ref 4]) rfl ?_
        refine mm_goto (M := M_Model_measure) (tgt := 176) d_Model_measure_172 (by decide) ?_
        refine mm_iadd (M := M_Model_measure) d_Model_measure_176 ?_
        obtain ⟨hin, h⟩ := h
        refine mm_iast (M := M_Model_measure) (f := (a2 4)) d_Model_measure_177 xg_4 hin ?_
        refine mm_eqw xa_4 ?_
        refine mm_goto (M := M_Model_measure) (tgt := 11) d_Model_measure_178 (by decide) ?_
        refine mm_drop (L' := [some (.ref 0), some (.int z1), some (.int r1), none, none]) ⟨rfl, ⟨rfl, ⟨rfl, trivial⟩⟩⟩ ?_
        exact hX h
    · have h := h.2 c
      refine mm_iconst (M := M_Model_measure) (v := (-1)) d_Model_measure_150 (by decide) ?_
      exact mm_retv (M := M_Model_measure) ⟨_, rfl, rfl, d_Model_measure_151⟩ ⟨_, _, _, _, _, rfl, rfl, h⟩
  · have h := h.2 c
    refine mm_iconst (M := M_Model_measure) (v := (-1)) d_Model_measure_137 (by decide) ?_
    exact mm_retv (M := M_Model_measure) ⟨_, rfl, rfl, d_Model_measure_138⟩ ⟨_, _, _, _, _, rfl, rfl, h⟩
def wt_Model_measure_0 (X : mm_i → mm_j → mm_a → mm_b → Int32 → Int32 → Prop) (K : Int32 → mm_i → mm_j → mm_a → mm_b → Prop) (i : mm_i) (l : mm_j) (a : mm_a) (b : mm_b) (z1 : Int32) (z2 : Int32) : Prop :=
  ((i 1) ≤ z2 → (¬ z1 = 0 → K (-1) i l a b) ∧ (z1 = 0 → vp_in 0 8 ∧ (K ((a 4) (0 : Int32).toNatClampNeg) i l a b))) ∧ (¬ (i 1) ≤ z2 → wp_Model_opener_0 i l a b z2 (fun r1 i1 l1 a1 b1 => (r1 ≤ 0 → wp_Model_c_0 i1 l1 a1 b1 z2 (fun r2 i2 l2 a2 b2 => (¬ r2 = (124 : Int32) → wp_Model_c_0 i2 l2 a2 b2 z2 (fun r3 i3 l3 a3 b3 => (¬ r3 = (41 : Int32) → wp_Model_behindPlain_0 i3 l3 a3 b3 z2 (fun r4 i4 l4 a4 b4 => wq_Model_measure_0_132 X K i4 l4 a4 b4 z1 1 r4)) ∧ (r3 = (41 : Int32) → (¬ z1 = 0 → vp_in z1 8 ∧ (wq_Model_measure_0_132 X K i3 l3 a3 b3 (z1 + (-1)) (((a3 4) z1.toNatClampNeg) + (2 : Int32)) (z2 + (1 : Int32)))) ∧ (z1 = 0 → K (-1) i3 l3 a3 b3)))) ∧ (r2 = (124 : Int32) → vp_in z1 8 ∧ (vp_in z1 8 ∧ (X i2 l2 (mm_ua a2 4 (upd (a2 4) z1.toNatClampNeg (((a2 4) z1.toNatClampNeg) + (1 : Int32)))) b2 z1 (z2 + 1)))))) ∧ (¬ r1 ≤ 0 → (¬ z1 = (6 : Int32) → vp_in (z1 + 1) 8 ∧ (wp_Model_opener_0 i1 l1 (mm_ua a1 4 (upd (a1 4) (z1 + 1).toNatClampNeg 0)) b1 z2 (fun r5 i5 l5 a5 b5 => X i5 l5 a5 b5 (z1 + 1) (z2 + r5)))) ∧ (z1 = (6 : Int32) → K (-1) i1 l1 a1 b1))))
def wl_Model_measure_0 (K : Int32 → mm_i → mm_j → mm_a → mm_b → Prop) : Nat → mm_i → mm_j → mm_a → mm_b → Int32 → Int32 → Prop
  | 0 => fun _ _ _ _ _ _ => False
  | n + 1 => fun i l a b z1 z2 => wt_Model_measure_0 (wl_Model_measure_0 K n) K i l a b z1 z2
set_option maxRecDepth 100000 in
set_option maxHeartbeats 4000000 in
theorem vt_Model_measure_0 {k0 : Nat} {t : mm_H} {K : Int32 → mm_i → mm_j → mm_a → mm_b → Prop} {X : mm_i → mm_j → mm_a → mm_b → Int32 → Int32 → Prop} (hX : ∀ {i l a b z1 z2}, X i l a b z1 z2 → mm_V M_Model_measure 4 k0 (mx_PI t K) 0 0 11 [some (.ref 0), some (.int z1), some (.int z2), none, none] [] (Wm i l a b ++ t)) {i : mm_i} {l : mm_j} {a : mm_a} {b : mm_b} {z1 : Int32} {z2 : Int32} (h : wt_Model_measure_0 X K i l a b z1 z2) : mm_V M_Model_measure 4 k0 (mx_PI t K) 0 0 11 [some (.ref 0), some (.int z1), some (.int z2), none, none] [] (Wm i l a b ++ t) := by
  unfold wt_Model_measure_0 at h
  refine mm_iload_n (M := M_Model_measure) d_Model_measure_11 rfl ?_
  refine mm_aload_n (M := M_Model_measure) d_Model_measure_12 rfl ?_
  refine mm_getf (M := M_Model_measure) (u := .int (i 1)) 7 1 d_Model_measure_13 fl_Model_50 xg_0 rfl ?_
  refine mm_icmp_ge (M := M_Model_measure) 181 d_Model_measure_16 (by decide) (fun c => ?_) (fun c => ?_)
  · have h := h.1 c
    refine mm_iload_n (M := M_Model_measure) d_Model_measure_181 rfl ?_
    refine mm_if_ne (M := M_Model_measure) 194 d_Model_measure_182 (by decide) (fun c => ?_) (fun c => ?_)
    · have h := h.1 c
      refine mm_iconst (M := M_Model_measure) (v := (-1)) d_Model_measure_194 (by decide) ?_
      exact mm_retv (M := M_Model_measure) ⟨_, rfl, rfl, d_Model_measure_195⟩ ⟨_, _, _, _, _, rfl, rfl, h⟩
    · have h := h.2 c
      refine mm_aload_n (M := M_Model_measure) d_Model_measure_185 rfl ?_
      refine mm_getf (M := M_Model_measure) (u := .ref 4) 7 15 d_Model_measure_186 fl_Model_19 xg_0 rfl ?_
      refine mm_iconst (M := M_Model_measure) (v := 0) d_Model_measure_189 (by decide) ?_
      obtain ⟨hin, h⟩ := h
      refine mm_iald (M := M_Model_measure) (f := (a 4)) d_Model_measure_190 xg_4 hin ?_
      refine mm_goto (M := M_Model_measure) (tgt := 195) d_Model_measure_191 (by decide) ?_
      exact mm_retv (M := M_Model_measure) ⟨_, rfl, rfl, d_Model_measure_195⟩ ⟨_, _, _, _, _, rfl, rfl, h⟩
  · have h := h.2 c
    refine mm_iconst (M := M_Model_measure) (v := 0) d_Model_measure_19 (by decide) ?_
    refine mm_istore_n (M := M_Model_measure) d_Model_measure_20 (Nat.le_of_ble_eq_true rfl) ?_
    refine mm_eqL (L' := [some (.ref 0), some (.int z1), some (.int z2), some (.int 0), none]) rfl ?_
    refine mm_iload_n (M := M_Model_measure) d_Model_measure_21 rfl ?_
    refine mm_istore (M := M_Model_measure) d_Model_measure_22 (Nat.le_of_ble_eq_true rfl) ?_
    refine mm_eqL (L' := [some (.ref 0), some (.int z1), some (.int z2), some (.int 0), some (.int z2)]) rfl ?_
    refine mm_aload_n (M := M_Model_measure) d_Model_measure_24 rfl ?_
    refine mm_iload_n (M := M_Model_measure) d_Model_measure_25 rfl ?_
    refine mm_eqs (st2 := [.int z2].reverse ++ .ref 0 :: []) rfl ?_
    refine mm_callV (M := M_Model_measure) (y := y_Model_opener) (M' := M_Model_opener) (d' := 1) (kc := 0) (ks := 0) (kc' := 0) (ks' := 0) (n := 1) d_Model_measure_26 ok_Model_opener ml_Model_60 (by decide) rfl (Nat.le_of_ble_eq_true rfl) ⟨tw_790, ts_Model_opener⟩ xg_0 rfl (ct_Model_opener_0 h) (fun v w h => ?_)
    obtain ⟨r1, i1, l1, a1, b1, rfl, rfl, h⟩ := h
    refine mm_eqs (st2 := [.int r1]) rfl ?_
    refine mm_if_le (M := M_Model_measure) 61 d_Model_measure_29 (by decide) (fun c => ?_) (fun c => ?_)
    · have h := h.1 c
      refine mm_aload_n (M := M_Model_measure) d_Model_measure_61 rfl ?_
      refine mm_iload_n (M := M_Model_measure) d_Model_measure_62 rfl ?_
      refine mm_eqs (st2 := [.int z2].reverse ++ .ref 0 :: []) rfl ?_
      refine mm_callV (M := M_Model_measure) (y := y_Model_c) (M' := M_Model_c) (d' := 0) (kc := 0) (ks := 0) (kc' := 0) (ks' := 0) (n := 1) d_Model_measure_63 ok_Model_c ml_Model_53 (by decide) rfl (Nat.le_of_ble_eq_true rfl) ⟨tw_794, ts_Model_c⟩ xg_0 rfl (ct_Model_c_0 h) (fun v w h => ?_)
      obtain ⟨r2, i2, l2, a2, b2, rfl, rfl, h⟩ := h
      refine mm_eqs (st2 := [.int r2]) rfl ?_
      refine mm_bipush (M := M_Model_measure) (v := 124) d_Model_measure_66 (by decide) ?_
      refine mm_icmp_ne (M := M_Model_measure) 87 d_Model_measure_68 (by decide) (fun c => ?_) (fun c => ?_)
      · have h := h.1 c
        refine mm_aload_n (M := M_Model_measure) d_Model_measure_87 rfl ?_
        refine mm_iload_n (M := M_Model_measure) d_Model_measure_88 rfl ?_
        refine mm_eqs (st2 := [.int z2].reverse ++ .ref 0 :: []) rfl ?_
        refine mm_callV (M := M_Model_measure) (y := y_Model_c) (M' := M_Model_c) (d' := 0) (kc := 0) (ks := 0) (kc' := 0) (ks' := 0) (n := 1) d_Model_measure_89 ok_Model_c ml_Model_53 (by decide) rfl (Nat.le_of_ble_eq_true rfl) ⟨tw_794, ts_Model_c⟩ xg_0 rfl (ct_Model_c_0 h) (fun v w h => ?_)
        obtain ⟨r3, i3, l3, a3, b3, rfl, rfl, h⟩ := h
        refine mm_eqs (st2 := [.int r3]) rfl ?_
        refine mm_bipush (M := M_Model_measure) (v := 41) d_Model_measure_92 (by decide) ?_
        refine mm_icmp_ne (M := M_Model_measure) 123 d_Model_measure_94 (by decide) (fun c => ?_) (fun c => ?_)
        · have h := h.1 c
          refine mm_iconst (M := M_Model_measure) (v := 1) d_Model_measure_123 (by decide) ?_
          refine mm_istore_n (M := M_Model_measure) d_Model_measure_124 (Nat.le_of_ble_eq_true rfl) ?_
          refine mm_eqL (L' := [some (.ref 0), some (.int z1), some (.int z2), some (.int 1), some (.int z2)]) rfl ?_
          refine mm_aload_n (M := M_Model_measure) d_Model_measure_125 rfl ?_
          refine mm_iload_n (M := M_Model_measure) d_Model_measure_126 rfl ?_
          refine mm_eqs (st2 := [.int z2].reverse ++ .ref 0 :: []) rfl ?_
          refine mm_callV (M := M_Model_measure) (y := y_Model_behindPlain) (M' := M_Model_behindPlain) (d' := 3) (kc := 0) (ks := 0) (kc' := 0) (ks' := 0) (n := 1) d_Model_measure_127 ok_Model_behindPlain ml_Model_63 (by decide) rfl (Nat.le_of_ble_eq_true rfl) ⟨tw_798, ts_Model_behindPlain⟩ xg_0 rfl (ct_Model_behindPlain_0 h) (fun v w h => ?_)
          obtain ⟨r4, i4, l4, a4, b4, rfl, rfl, h⟩ := h
          refine mm_eqs (st2 := [.int r4]) rfl ?_
          refine mm_istore (M := M_Model_measure) d_Model_measure_130 (Nat.le_of_ble_eq_true rfl) ?_
          refine mm_eqL (L' := [some (.ref 0), some (.int z1), some (.int z2), some (.int 1), some (.int r4)]) rfl ?_
          refine mm_drop (L' := [some (.ref 0), some (.int z1), none, some (.int 1), some (.int r4)]) ⟨rfl, ⟨rfl, ⟨rfl, ⟨rfl, trivial⟩⟩⟩⟩ ?_
          exact vq_Model_measure_0_132 hX h
        · have h := h.2 c
          refine mm_iload_n (M := M_Model_measure) d_Model_measure_97 rfl ?_
          refine mm_if_ne (M := M_Model_measure) 103 d_Model_measure_98 (by decide) (fun c => ?_) (fun c => ?_)
          · have h := h.1 c
            refine mm_aload_n (M := M_Model_measure) d_Model_measure_103 rfl ?_
            refine mm_getf (M := M_Model_measure) (u := .ref 4) 7 15 d_Model_measure_104 fl_Model_19 xg_0 rfl ?_
            refine mm_iload_n (M := M_Model_measure) d_Model_measure_107 rfl ?_
            obtain ⟨hin, h⟩ := h
            refine mm_iald (M := M_Model_measure) (f := (a3 4)) d_Model_measure_108 xg_4 hin ?_
            refine mm_iconst (M := M_Model_measure) (v := 2) d_Model_measure_109 (by decide) ?_
            refine mm_iadd (M := M_Model_measure) d_Model_measure_110 ?_
            refine mm_istore_n (M := M_Model_measure) d_Model_measure_111 (Nat.le_of_ble_eq_true rfl) ?_
            refine mm_eqL (L' := [some (.ref 0), some (.int z1), some (.int z2), some (.int (((a3 4) z1.toNatClampNeg) + (2 : Int32))), some (.int z2)]) rfl ?_
            refine mm_iinc (M := M_Model_measure) (v := (-1)) d_Model_measure_112 rfl (by decide) (Nat.le_of_ble_eq_true rfl) ?_
            refine mm_eqL (L' := [some (.ref 0), some (.int (z1 + (-1))), some (.int z2), some (.int (((a3 4) z1.toNatClampNeg) + (2 : Int32))), some (.int z2)]) rfl ?_
            refine mm_iload_n (M := M_Model_measure) d_Model_measure_115 rfl ?_
            refine mm_iconst (M := M_Model_measure) (v := 1) d_Model_measure_116 (by decide) ?_
            refine mm_iadd (M := M_Model_measure) d_Model_measure_117 ?_
            refine mm_istore (M := M_Model_measure) d_Model_measure_118 (Nat.le_of_ble_eq_true rfl) ?_
            refine mm_eqL (L' := [some (.ref 0), some (.int (z1 + (-1))), some (.int z2), some (.int (((a3 4) z1.toNatClampNeg) + (2 : Int32))), some (.int (z2 + (1 : Int32)))]) rfl ?_
            refine mm_goto (M := M_Model_measure) (tgt := 132) d_Model_measure_120 (by decide) ?_
            refine mm_drop (L' := [some (.ref 0), some (.int (z1 + (-1))), none, some (.int (((a3 4) z1.toNatClampNeg) + (2 : Int32))), some (.int (z2 + (1 : Int32)))]) ⟨rfl, ⟨rfl, ⟨rfl, ⟨rfl, trivial⟩⟩⟩⟩ ?_
            exact vq_Model_measure_0_132 hX h
          · have h := h.2 c
            refine mm_iconst (M := M_Model_measure) (v := (-1)) d_Model_measure_101 (by decide) ?_
            exact mm_retv (M := M_Model_measure) ⟨_, rfl, rfl, d_Model_measure_102⟩ ⟨_, _, _, _, _, rfl, rfl, h⟩
      · have h := h.2 c
        refine mm_aload_n (M := M_Model_measure) d_Model_measure_71 rfl ?_
        refine mm_getf (M := M_Model_measure) (u := .ref 4) 7 15 d_Model_measure_72 fl_Model_19 xg_0 rfl ?_
        refine mm_iload_n (M := M_Model_measure) d_Model_measure_75 rfl ?_
        refine mm_dup2 (M := M_Model_measure) d_Model_measure_76 rfl rfl ?_
        obtain ⟨hin, h⟩ := h
        refine mm_iald (M := M_Model_measure) (f := (a2 4)) d_Model_measure_77 xg_4 hin ?_
        refine mm_iconst (M := M_Model_measure) (v := 1) d_Model_measure_78 (by decide) ?_
        refine mm_iadd (M := M_Model_measure) d_Model_measure_79 ?_
        obtain ⟨hin, h⟩ := h
        refine mm_iast (M := M_Model_measure) (f := (a2 4)) d_Model_measure_80 xg_4 hin ?_
        refine mm_eqw xa_4 ?_
        refine mm_iinc (M := M_Model_measure) (v := 1) d_Model_measure_81 rfl (by decide) (Nat.le_of_ble_eq_true rfl) ?_
        refine mm_eqL (L' := [some (.ref 0), some (.int z1), some (.int (z2 + 1)), some (.int 0), some (.int z2)]) rfl ?_
        refine mm_goto (M := M_Model_measure) (tgt := 11) d_Model_measure_84 (by decide) ?_
        refine mm_drop (L' := [some (.ref 0), some (.int z1), some (.int (z2 + 1)), none, none]) ⟨rfl, ⟨rfl, ⟨rfl, trivial⟩⟩⟩ ?_
        exact hX h
    · have h := h.2 c
      refine mm_iload_n (M := M_Model_measure) d_Model_measure_32 rfl ?_
      refine mm_bipush (M := M_Model_measure) (v := 6) d_Model_measure_33 (by decide) ?_
      refine mm_icmp_ne (M := M_Model_measure) 40 d_Model_measure_35 (by decide) (fun c => ?_) (fun c => ?_)
      · have h := h.1 c
        refine mm_iinc (M := M_Model_measure) (v := 1) d_Model_measure_40 rfl (by decide) (Nat.le_of_ble_eq_true rfl) ?_
        refine mm_eqL (L' := [some (.ref 0), some (.int (z1 + 1)), some (.int z2), some (.int 0), some (.int z2)]) rfl ?_
        refine mm_aload_n (M := M_Model_measure) d_Model_measure_43 rfl ?_
        refine mm_getf (M := M_Model_measure) (u := .ref 4) 7 15 d_Model_measure_44 fl_Model_19 xg_0 rfl ?_
        refine mm_iload_n (M := M_Model_measure) d_Model_measure_47 rfl ?_
        refine mm_iconst (M := M_Model_measure) (v := 0) d_Model_measure_48 (by decide) ?_
        obtain ⟨hin, h⟩ := h
        refine mm_iast (M := M_Model_measure) (f := (a1 4)) d_Model_measure_49 xg_4 hin ?_
        refine mm_eqw xa_4 ?_
        refine mm_iload_n (M := M_Model_measure) d_Model_measure_50 rfl ?_
        refine mm_aload_n (M := M_Model_measure) d_Model_measure_51 rfl ?_
        refine mm_iload_n (M := M_Model_measure) d_Model_measure_52 rfl ?_
        refine mm_eqs (st2 := [.int z2].reverse ++ .ref 0 :: [.int z2]) rfl ?_
        refine mm_callV (M := M_Model_measure) (y := y_Model_opener) (M' := M_Model_opener) (d' := 1) (kc := 0) (ks := 0) (kc' := 0) (ks' := 0) (n := 1) d_Model_measure_53 ok_Model_opener ml_Model_60 (by decide) rfl (Nat.le_of_ble_eq_true rfl) ⟨tw_790, ts_Model_opener⟩ xg_0 rfl (ct_Model_opener_0 h) (fun v w h => ?_)
        obtain ⟨r5, i5, l5, a5, b5, rfl, rfl, h⟩ := h
        refine mm_eqs (st2 := [.int r5, .int z2]) rfl ?_
        refine mm_iadd (M := M_Model_measure) d_Model_measure_56 ?_
        refine mm_istore_n (M := M_Model_measure) d_Model_measure_57 (Nat.le_of_ble_eq_true rfl) ?_
        refine mm_eqL (L' := [some (.ref 0), some (.int (z1 + 1)), some (.int (z2 + r5)), some (.int 0), some (.int z2)]) rfl ?_
        refine mm_goto (M := M_Model_measure) (tgt := 11) d_Model_measure_58 (by decide) ?_
        refine mm_drop (L' := [some (.ref 0), some (.int (z1 + 1)), some (.int (z2 + r5)), none, none]) ⟨rfl, ⟨rfl, ⟨rfl, trivial⟩⟩⟩ ?_
        exact hX h
      · have h := h.2 c
        refine mm_iconst (M := M_Model_measure) (v := (-1)) d_Model_measure_38 (by decide) ?_
        exact mm_retv (M := M_Model_measure) ⟨_, rfl, rfl, d_Model_measure_39⟩ ⟨_, _, _, _, _, rfl, rfl, h⟩
theorem vl_Model_measure_0 {k0 : Nat} {t : mm_H} {K : Int32 → mm_i → mm_j → mm_a → mm_b → Prop} : ∀ (n : Nat) {i : mm_i} {l : mm_j} {a : mm_a} {b : mm_b} {z1 : Int32} {z2 : Int32}, wl_Model_measure_0 K n i l a b z1 z2 → mm_V M_Model_measure 4 k0 (mx_PI t K) 0 0 11 [some (.ref 0), some (.int z1), some (.int z2), none, none] [] (Wm i l a b ++ t)
  | 0, _, _, _, _, _, _, h => h.elim
  | n + 1, _, _, _, _, _, _, h => vt_Model_measure_0 (fun h => vl_Model_measure_0 n h) h
def wp_Model_measure_0 (i : mm_i) (l : mm_j) (a : mm_a) (b : mm_b)  (K : Int32 → mm_i → mm_j → mm_a → mm_b → Prop) : Prop :=
  vp_in 0 8 ∧ (∃ n, wl_Model_measure_0 K n i l (mm_ua a 4 (upd (a 4) (0 : Int32).toNatClampNeg 0)) b 0 0)
set_option maxRecDepth 100000 in
set_option maxHeartbeats 4000000 in
theorem ct_Model_measure_0 {i : mm_i} {l : mm_j} {a : mm_a} {b : mm_b} {t : mm_H}  {K : Int32 → mm_i → mm_j → mm_a → mm_b → Prop} (h : wp_Model_measure_0 i l a b  K) : mm_Ct y_Model_measure M_Model_measure 4 0 0 [.ref 0] (Wm i l a b ++ t) (mx_PI t K) := by
  refine mm_Ct.of (by decide) rfl (fun q => absurd q (by decide)) (Nat.le_of_ble_eq_true rfl) ?_
  unfold wp_Model_measure_0 at h
  refine mm_eqL (L' := [some (.ref 0), none, none, none, none]) rfl ?_
  refine mm_iconst (M := M_Model_measure) (v := 0) d_Model_measure_0 (by decide) ?_
  refine mm_istore_n (M := M_Model_measure) d_Model_measure_1 (Nat.le_of_ble_eq_true rfl) ?_
  refine mm_eqL (L' := [some (.ref 0), some (.int 0), none, none, none]) rfl ?_
  refine mm_iconst (M := M_Model_measure) (v := 0) d_Model_measure_2 (by decide) ?_
  refine mm_istore_n (M := M_Model_measure) d_Model_measure_3 (Nat.le_of_ble_eq_true rfl) ?_
  refine mm_eqL (L' := [some (.ref 0), some (.int 0), some (.int 0), none, none]) rfl ?_
  refine mm_aload_n (M := M_Model_measure) d_Model_measure_4 rfl ?_
  refine mm_getf (M := M_Model_measure) (u := .ref 4) 7 15 d_Model_measure_5 fl_Model_19 xg_0 rfl ?_
  refine mm_iconst (M := M_Model_measure) (v := 0) d_Model_measure_8 (by decide) ?_
  refine mm_iconst (M := M_Model_measure) (v := 0) d_Model_measure_9 (by decide) ?_
  obtain ⟨hin, h⟩ := h
  refine mm_iast (M := M_Model_measure) (f := (a 4)) d_Model_measure_10 xg_4 hin ?_
  refine mm_eqw xa_4 ?_
  obtain ⟨n, h⟩ := h
  refine mm_drop (L' := [some (.ref 0), some (.int 0), some (.int 0), none, none]) ⟨rfl, ⟨rfl, ⟨rfl, trivial⟩⟩⟩ ?_
  exact (vl_Model_measure_0 n) h
def wq_Model_compile_0_108 (K : Int32 → mm_i → mm_j → mm_a → mm_b → Prop) (i : mm_i) (l : mm_j) (a : mm_a) (b : mm_b) (z2 : Int32) (z3 : Int32) (z4 : Int32) : Prop :=
  (z4 = 0 → (z3 = 0 → K (-3) (upd i 1 0) l a b) ∧ (¬ z3 = 0 → K (-2) (upd i 1 0) l a b)) ∧ (¬ z4 = 0 → K z2 (upd i 1 0) l a b)
set_option maxRecDepth 100000 in
set_option maxHeartbeats 4000000 in
theorem vq_Model_compile_0_108 {k0 : Nat} {t : mm_H} {K : Int32 → mm_i → mm_j → mm_a → mm_b → Prop} {i : mm_i} {l : mm_j} {a : mm_a} {b : mm_b} {z2 : Int32} {z3 : Int32} {z4 : Int32} (h : wq_Model_compile_0_108 K i l a b z2 z3 z4) : mm_V M_Model_compile 5 k0 (mx_PI t K) 0 0 108 [some (.ref 0), none, some (.int z2), some (.int z3), some (.int z4), none] [] (Wm i l a b ++ t) := by
  unfold wq_Model_compile_0_108 at h
  refine mm_aload_n (M := M_Model_compile) d_Model_compile_108 rfl ?_
  refine mm_iconst (M := M_Model_compile) (v := 0) d_Model_compile_109 (by decide) ?_
  refine mm_putf (M := M_Model_compile) 7 1 .int d_Model_compile_110 fl_Model_50 fp_Model_50 ft_7_1 xg_0 (Nat.le_of_ble_eq_true rfl) trivial ?_
  refine mm_eqw xs_1 ?_
  refine mm_iload (M := M_Model_compile) d_Model_compile_113 rfl ?_
  refine mm_if_eq (M := M_Model_compile) 122 d_Model_compile_115 (by decide) (fun c => ?_) (fun c => ?_)
  · have h := h.1 c
    refine mm_iload_n (M := M_Model_compile) d_Model_compile_122 rfl ?_
    refine mm_if_eq (M := M_Model_compile) 131 d_Model_compile_123 (by decide) (fun c => ?_) (fun c => ?_)
    · have h := h.1 c
      refine mm_bipush (M := M_Model_compile) (v := (-3)) d_Model_compile_131 (by decide) ?_
      exact mm_retv (M := M_Model_compile) ⟨_, rfl, rfl, d_Model_compile_133⟩ ⟨_, _, _, _, _, rfl, rfl, h⟩
    · have h := h.2 c
      refine mm_bipush (M := M_Model_compile) (v := (-2)) d_Model_compile_126 (by decide) ?_
      refine mm_goto (M := M_Model_compile) (tgt := 133) d_Model_compile_128 (by decide) ?_
      exact mm_retv (M := M_Model_compile) ⟨_, rfl, rfl, d_Model_compile_133⟩ ⟨_, _, _, _, _, rfl, rfl, h⟩
  · have h := h.2 c
    refine mm_iload_n (M := M_Model_compile) d_Model_compile_118 rfl ?_
    refine mm_goto (M := M_Model_compile) (tgt := 133) d_Model_compile_119 (by decide) ?_
    exact mm_retv (M := M_Model_compile) ⟨_, rfl, rfl, d_Model_compile_133⟩ ⟨_, _, _, _, _, rfl, rfl, h⟩
def wt_Model_compile_0 (X : mm_i → mm_j → mm_a → mm_b → Int32 → Int32 → Int32 → Int32 → Int32 → Prop) (K : Int32 → mm_i → mm_j → mm_a → mm_b → Prop) (i : mm_i) (l : mm_j) (a : mm_a) (b : mm_b) (z1 : Int32) (z2 : Int32) (z3 : Int32) (z4 : Int32) (z5 : Int32) : Prop :=
  ((32 : Int32) ≤ z5 → wq_Model_compile_0_108 K (upd (upd (upd i 5 z2) 6 z1) 11 0) l a b z2 z3 z4) ∧ (¬ (32 : Int32) ≤ z5 → vp_in z5 32 ∧ (vp_in z5 32 ∧ (X i l (mm_ua a 2 (upd (a 2) z5.toNatClampNeg ((a 1) z5.toNatClampNeg))) b z1 z2 z3 z4 (z5 + 1))))
def wl_Model_compile_0 (K : Int32 → mm_i → mm_j → mm_a → mm_b → Prop) : Nat → mm_i → mm_j → mm_a → mm_b → Int32 → Int32 → Int32 → Int32 → Int32 → Prop
  | 0 => fun _ _ _ _ _ _ _ _ _ => False
  | n + 1 => fun i l a b z1 z2 z3 z4 z5 => wt_Model_compile_0 (wl_Model_compile_0 K n) K i l a b z1 z2 z3 z4 z5
set_option maxRecDepth 100000 in
set_option maxHeartbeats 4000000 in
theorem vt_Model_compile_0 {k0 : Nat} {t : mm_H} {K : Int32 → mm_i → mm_j → mm_a → mm_b → Prop} {X : mm_i → mm_j → mm_a → mm_b → Int32 → Int32 → Int32 → Int32 → Int32 → Prop} (hX : ∀ {i l a b z1 z2 z3 z4 z5}, X i l a b z1 z2 z3 z4 z5 → mm_V M_Model_compile 5 k0 (mx_PI t K) 0 0 66 [some (.ref 0), some (.int z1), some (.int z2), some (.int z3), some (.int z4), some (.int z5)] [] (Wm i l a b ++ t)) {i : mm_i} {l : mm_j} {a : mm_a} {b : mm_b} {z1 : Int32} {z2 : Int32} {z3 : Int32} {z4 : Int32} {z5 : Int32} (h : wt_Model_compile_0 X K i l a b z1 z2 z3 z4 z5) : mm_V M_Model_compile 5 k0 (mx_PI t K) 0 0 66 [some (.ref 0), some (.int z1), some (.int z2), some (.int z3), some (.int z4), some (.int z5)] [] (Wm i l a b ++ t) := by
  unfold wt_Model_compile_0 at h
  refine mm_iload (M := M_Model_compile) d_Model_compile_66 rfl ?_
  refine mm_bipush (M := M_Model_compile) (v := 32) d_Model_compile_68 (by decide) ?_
  refine mm_icmp_ge (M := M_Model_compile) 93 d_Model_compile_70 (by decide) (fun c => ?_) (fun c => ?_)
  · have h := h.1 c
    refine mm_aload_n (M := M_Model_compile) d_Model_compile_93 rfl ?_
    refine mm_iload_n (M := M_Model_compile) d_Model_compile_94 rfl ?_
    refine mm_putf (M := M_Model_compile) 7 5 .int d_Model_compile_95 fl_Model_90 fp_Model_90 ft_7_5 xg_0 (Nat.le_of_ble_eq_true rfl) trivial ?_
    refine mm_eqw xs_5 ?_
    refine mm_aload_n (M := M_Model_compile) d_Model_compile_98 rfl ?_
    refine mm_iload_n (M := M_Model_compile) d_Model_compile_99 rfl ?_
    refine mm_putf (M := M_Model_compile) 7 6 .int d_Model_compile_100 fl_Model_93 fp_Model_93 ft_7_6 xg_0 (Nat.le_of_ble_eq_true rfl) trivial ?_
    refine mm_eqw xs_6 ?_
    refine mm_aload_n (M := M_Model_compile) d_Model_compile_103 rfl ?_
    refine mm_iconst (M := M_Model_compile) (v := 0) d_Model_compile_104 (by decide) ?_
    refine mm_putf (M := M_Model_compile) 7 11 .boolean d_Model_compile_105 fl_Model_96 fp_Model_96 ft_7_11 xg_0 (Nat.le_of_ble_eq_true rfl) (Or.inl rfl) ?_
    refine mm_eqw xs_11 ?_
    refine mm_drop (L' := [some (.ref 0), none, some (.int z2), some (.int z3), some (.int z4), none]) ⟨rfl, ⟨rfl, ⟨rfl, ⟨rfl, trivial⟩⟩⟩⟩ ?_
    exact vq_Model_compile_0_108 h
  · have h := h.2 c
    refine mm_aload_n (M := M_Model_compile) d_Model_compile_73 rfl ?_
    refine mm_getf (M := M_Model_compile) (u := .ref 2) 7 7 d_Model_compile_74 fl_Model_13 xg_0 rfl ?_
    refine mm_iload (M := M_Model_compile) d_Model_compile_77 rfl ?_
    refine mm_aload_n (M := M_Model_compile) d_Model_compile_79 rfl ?_
    refine mm_getf (M := M_Model_compile) (u := .ref 1) 7 2 d_Model_compile_80 fl_Model_7 xg_0 rfl ?_
    refine mm_iload (M := M_Model_compile) d_Model_compile_83 rfl ?_
    obtain ⟨hin, h⟩ := h
    refine mm_iald (M := M_Model_compile) (f := (a 1)) d_Model_compile_85 xg_1 hin ?_
    obtain ⟨hin, h⟩ := h
    refine mm_iast (M := M_Model_compile) (f := (a 2)) d_Model_compile_86 xg_2 hin ?_
    refine mm_eqw xa_2 ?_
    refine mm_iinc (M := M_Model_compile) (v := 1) d_Model_compile_87 rfl (by decide) (Nat.le_of_ble_eq_true rfl) ?_
    refine mm_eqL (L' := [some (.ref 0), some (.int z1), some (.int z2), some (.int z3), some (.int z4), some (.int (z5 + 1))]) rfl ?_
    refine mm_goto (M := M_Model_compile) (tgt := 66) d_Model_compile_90 (by decide) ?_
    refine mm_drop (L' := [some (.ref 0), some (.int z1), some (.int z2), some (.int z3), some (.int z4), some (.int (z5 + 1))]) ⟨rfl, ⟨rfl, ⟨rfl, ⟨rfl, ⟨rfl, ⟨rfl, trivial⟩⟩⟩⟩⟩⟩ ?_
    exact hX h
theorem vl_Model_compile_0 {k0 : Nat} {t : mm_H} {K : Int32 → mm_i → mm_j → mm_a → mm_b → Prop} : ∀ (n : Nat) {i : mm_i} {l : mm_j} {a : mm_a} {b : mm_b} {z1 : Int32} {z2 : Int32} {z3 : Int32} {z4 : Int32} {z5 : Int32}, wl_Model_compile_0 K n i l a b z1 z2 z3 z4 z5 → mm_V M_Model_compile 5 k0 (mx_PI t K) 0 0 66 [some (.ref 0), some (.int z1), some (.int z2), some (.int z3), some (.int z4), some (.int z5)] [] (Wm i l a b ++ t)
  | 0, _, _, _, _, _, _, _, _, _, h => h.elim
  | n + 1, _, _, _, _, _, _, _, _, _, h => vt_Model_compile_0 (fun h => vl_Model_compile_0 n h) h
def wq_Model_compile_0_45 (K : Int32 → mm_i → mm_j → mm_a → mm_b → Prop) (i : mm_i) (l : mm_j) (a : mm_a) (b : mm_b) (z1 : Int32) (z2 : Int32) (z3 : Int32) (z4 : Int32) : Prop :=
  (z4 = 0 → wq_Model_compile_0_108 K i l a b z2 z3 z4) ∧ (¬ z4 = 0 → ∃ n, wl_Model_compile_0 K n (upd (upd i 3 1) 4 (i 1)) l a b z1 z2 z3 z4 0)
set_option maxRecDepth 100000 in
set_option maxHeartbeats 4000000 in
theorem vq_Model_compile_0_45 {k0 : Nat} {t : mm_H} {K : Int32 → mm_i → mm_j → mm_a → mm_b → Prop} {i : mm_i} {l : mm_j} {a : mm_a} {b : mm_b} {z1 : Int32} {z2 : Int32} {z3 : Int32} {z4 : Int32} (h : wq_Model_compile_0_45 K i l a b z1 z2 z3 z4) : mm_V M_Model_compile 5 k0 (mx_PI t K) 0 0 45 [some (.ref 0), some (.int z1), some (.int z2), some (.int z3), some (.int z4), none] [] (Wm i l a b ++ t) := by
  unfold wq_Model_compile_0_45 at h
  refine mm_iload (M := M_Model_compile) d_Model_compile_45 rfl ?_
  refine mm_if_eq (M := M_Model_compile) 108 d_Model_compile_47 (by decide) (fun c => ?_) (fun c => ?_)
  · have h := h.1 c
    refine mm_drop (L' := [some (.ref 0), none, some (.int z2), some (.int z3), some (.int z4), none]) ⟨rfl, ⟨rfl, ⟨rfl, ⟨rfl, trivial⟩⟩⟩⟩ ?_
    exact vq_Model_compile_0_108 h
  · have h := h.2 c
    refine mm_aload_n (M := M_Model_compile) d_Model_compile_50 rfl ?_
    refine mm_iconst (M := M_Model_compile) (v := 1) d_Model_compile_51 (by decide) ?_
    refine mm_putf (M := M_Model_compile) 7 3 .boolean d_Model_compile_52 fl_Model_83 fp_Model_83 ft_7_3 xg_0 (Nat.le_of_ble_eq_true rfl) (Or.inr rfl) ?_
    refine mm_eqw xs_3 ?_
    refine mm_aload_n (M := M_Model_compile) d_Model_compile_55 rfl ?_
    refine mm_aload_n (M := M_Model_compile) d_Model_compile_56 rfl ?_
    refine mm_getf (M := M_Model_compile) (u := .int (i 1)) 7 1 d_Model_compile_57 fl_Model_50 xg_0 rfl ?_
    refine mm_putf (M := M_Model_compile) 7 4 .int d_Model_compile_60 fl_Model_87 fp_Model_87 ft_7_4 xg_0 (Nat.le_of_ble_eq_true rfl) trivial ?_
    refine mm_eqw xs_4 ?_
    refine mm_iconst (M := M_Model_compile) (v := 0) d_Model_compile_63 (by decide) ?_
    refine mm_istore (M := M_Model_compile) d_Model_compile_64 (Nat.le_of_ble_eq_true rfl) ?_
    refine mm_eqL (L' := [some (.ref 0), some (.int z1), some (.int z2), some (.int z3), some (.int z4), some (.int 0)]) rfl ?_
    obtain ⟨n, h⟩ := h
    refine mm_drop (L' := [some (.ref 0), some (.int z1), some (.int z2), some (.int z3), some (.int z4), some (.int 0)]) ⟨rfl, ⟨rfl, ⟨rfl, ⟨rfl, ⟨rfl, ⟨rfl, trivial⟩⟩⟩⟩⟩⟩ ?_
    exact (vl_Model_compile_0 n) h
def wq_Model_compile_0_28 (K : Int32 → mm_i → mm_j → mm_a → mm_b → Prop) (i : mm_i) (l : mm_j) (a : mm_a) (b : mm_b) (z1 : Int32) (z2 : Int32) (z3 : Int32) : Prop :=
  (z3 = 0 → wq_Model_compile_0_45 K i l a b z1 z2 z3 0) ∧ (¬ z3 = 0 → ((60 : Int32) < z1 → wq_Model_compile_0_45 K i l a b z1 z2 z3 0) ∧ (¬ (60 : Int32) < z1 → wq_Model_compile_0_45 K i l a b z1 z2 z3 1))
set_option maxRecDepth 100000 in
set_option maxHeartbeats 4000000 in
theorem vq_Model_compile_0_28 {k0 : Nat} {t : mm_H} {K : Int32 → mm_i → mm_j → mm_a → mm_b → Prop} {i : mm_i} {l : mm_j} {a : mm_a} {b : mm_b} {z1 : Int32} {z2 : Int32} {z3 : Int32} (h : wq_Model_compile_0_28 K i l a b z1 z2 z3) : mm_V M_Model_compile 5 k0 (mx_PI t K) 0 0 28 [some (.ref 0), some (.int z1), some (.int z2), some (.int z3), none, none] [] (Wm i l a b ++ t) := by
  unfold wq_Model_compile_0_28 at h
  refine mm_iload_n (M := M_Model_compile) d_Model_compile_28 rfl ?_
  refine mm_if_eq (M := M_Model_compile) 42 d_Model_compile_29 (by decide) (fun c => ?_) (fun c => ?_)
  · have h := h.1 c
    refine mm_iconst (M := M_Model_compile) (v := 0) d_Model_compile_42 (by decide) ?_
    refine mm_istore (M := M_Model_compile) d_Model_compile_43 (Nat.le_of_ble_eq_true rfl) ?_
    refine mm_eqL (L' := [some (.ref 0), some (.int z1), some (.int z2), some (.int z3), some (.int 0), none]) rfl ?_
    refine mm_drop (L' := [some (.ref 0), some (.int z1), some (.int z2), some (.int z3), some (.int 0), none]) ⟨rfl, ⟨rfl, ⟨rfl, ⟨rfl, ⟨rfl, trivial⟩⟩⟩⟩⟩ ?_
    exact vq_Model_compile_0_45 h
  · have h := h.2 c
    refine mm_iload_n (M := M_Model_compile) d_Model_compile_32 rfl ?_
    refine mm_bipush (M := M_Model_compile) (v := 60) d_Model_compile_33 (by decide) ?_
    refine mm_icmp_gt (M := M_Model_compile) 42 d_Model_compile_35 (by decide) (fun c => ?_) (fun c => ?_)
    · have h := h.1 c
      refine mm_iconst (M := M_Model_compile) (v := 0) d_Model_compile_42 (by decide) ?_
      refine mm_istore (M := M_Model_compile) d_Model_compile_43 (Nat.le_of_ble_eq_true rfl) ?_
      refine mm_eqL (L' := [some (.ref 0), some (.int z1), some (.int z2), some (.int z3), some (.int 0), none]) rfl ?_
      refine mm_drop (L' := [some (.ref 0), some (.int z1), some (.int z2), some (.int z3), some (.int 0), none]) ⟨rfl, ⟨rfl, ⟨rfl, ⟨rfl, ⟨rfl, trivial⟩⟩⟩⟩⟩ ?_
      exact vq_Model_compile_0_45 h
    · have h := h.2 c
      refine mm_iconst (M := M_Model_compile) (v := 1) d_Model_compile_38 (by decide) ?_
      refine mm_goto (M := M_Model_compile) (tgt := 43) d_Model_compile_39 (by decide) ?_
      refine mm_istore (M := M_Model_compile) d_Model_compile_43 (Nat.le_of_ble_eq_true rfl) ?_
      refine mm_eqL (L' := [some (.ref 0), some (.int z1), some (.int z2), some (.int z3), some (.int 1), none]) rfl ?_
      refine mm_drop (L' := [some (.ref 0), some (.int z1), some (.int z2), some (.int z3), some (.int 1), none]) ⟨rfl, ⟨rfl, ⟨rfl, ⟨rfl, ⟨rfl, trivial⟩⟩⟩⟩⟩ ?_
      exact vq_Model_compile_0_45 h
def wp_Model_compile_0 (i : mm_i) (l : mm_j) (a : mm_a) (b : mm_b)  (K : Int32 → mm_i → mm_j → mm_a → mm_b → Prop) : Prop :=
  wp_Model_measure_0 i l a b (fun r1 i1 l1 a1 b1 => wp_Model_groupsOf_0 i1 l1 a1 b1 (fun r2 i2 l2 a2 b2 => (r1 < 0 → wq_Model_compile_0_28 K i2 l2 a2 b2 r1 r2 0) ∧ (¬ r1 < 0 → wp_Model_namesGood_0 i2 l2 a2 b2 r2 (fun r3 i3 l3 a3 b3 => (r3 = 0 → wq_Model_compile_0_28 K i3 l3 a3 b3 r1 r2 0) ∧ (¬ r3 = 0 → wq_Model_compile_0_28 K i3 l3 a3 b3 r1 r2 1)))))
set_option maxRecDepth 100000 in
set_option maxHeartbeats 4000000 in
theorem ct_Model_compile_0 {i : mm_i} {l : mm_j} {a : mm_a} {b : mm_b} {t : mm_H}  {K : Int32 → mm_i → mm_j → mm_a → mm_b → Prop} (h : wp_Model_compile_0 i l a b  K) : mm_Ct y_Model_compile M_Model_compile 5 0 0 [.ref 0] (Wm i l a b ++ t) (mx_PI t K) := by
  refine mm_Ct.of (by decide) rfl (fun q => absurd q (by decide)) (Nat.le_of_ble_eq_true rfl) ?_
  unfold wp_Model_compile_0 at h
  refine mm_eqL (L' := [some (.ref 0), none, none, none, none, none]) rfl ?_
  refine mm_aload_n (M := M_Model_compile) d_Model_compile_0 rfl ?_
  refine mm_eqs (st2 := [].reverse ++ .ref 0 :: []) rfl ?_
  refine mm_callV (M := M_Model_compile) (y := y_Model_measure) (M' := M_Model_measure) (d' := 4) (kc := 0) (ks := 0) (kc' := 0) (ks' := 0) (n := 0) d_Model_compile_1 ok_Model_measure ml_Model_73 (by decide) rfl (Nat.le_of_ble_eq_true rfl) ⟨tw_786, ts_Model_measure⟩ xg_0 rfl (ct_Model_measure_0 h) (fun v w h => ?_)
  obtain ⟨r1, i1, l1, a1, b1, rfl, rfl, h⟩ := h
  refine mm_eqs (st2 := [.int r1]) rfl ?_
  refine mm_istore_n (M := M_Model_compile) d_Model_compile_4 (Nat.le_of_ble_eq_true rfl) ?_
  refine mm_eqL (L' := [some (.ref 0), some (.int r1), none, none, none, none]) rfl ?_
  refine mm_aload_n (M := M_Model_compile) d_Model_compile_5 rfl ?_
  refine mm_eqs (st2 := [].reverse ++ .ref 0 :: []) rfl ?_
  refine mm_callV (M := M_Model_compile) (y := y_Model_groupsOf) (M' := M_Model_groupsOf) (d' := 1) (kc := 0) (ks := 0) (kc' := 0) (ks' := 0) (n := 0) d_Model_compile_6 ok_Model_groupsOf ml_Model_77 (by decide) rfl (Nat.le_of_ble_eq_true rfl) ⟨tw_814, ts_Model_groupsOf⟩ xg_0 rfl (ct_Model_groupsOf_0 h) (fun v w h => ?_)
  obtain ⟨r2, i2, l2, a2, b2, rfl, rfl, h⟩ := h
  refine mm_eqs (st2 := [.int r2]) rfl ?_
  refine mm_istore_n (M := M_Model_compile) d_Model_compile_9 (Nat.le_of_ble_eq_true rfl) ?_
  refine mm_eqL (L' := [some (.ref 0), some (.int r1), some (.int r2), none, none, none]) rfl ?_
  refine mm_iload_n (M := M_Model_compile) d_Model_compile_10 rfl ?_
  refine mm_if_lt (M := M_Model_compile) 26 d_Model_compile_11 (by decide) (fun c => ?_) (fun c => ?_)
  · have h := h.1 c
    refine mm_iconst (M := M_Model_compile) (v := 0) d_Model_compile_26 (by decide) ?_
    refine mm_istore_n (M := M_Model_compile) d_Model_compile_27 (Nat.le_of_ble_eq_true rfl) ?_
    refine mm_eqL (L' := [some (.ref 0), some (.int r1), some (.int r2), some (.int 0), none, none]) rfl ?_
    refine mm_drop (L' := [some (.ref 0), some (.int r1), some (.int r2), some (.int 0), none, none]) ⟨rfl, ⟨rfl, ⟨rfl, ⟨rfl, trivial⟩⟩⟩⟩ ?_
    exact vq_Model_compile_0_28 h
  · have h := h.2 c
    refine mm_aload_n (M := M_Model_compile) d_Model_compile_14 rfl ?_
    refine mm_iload_n (M := M_Model_compile) d_Model_compile_15 rfl ?_
    refine mm_eqs (st2 := [.int r2].reverse ++ .ref 0 :: []) rfl ?_
    refine mm_callV (M := M_Model_compile) (y := y_Model_namesGood) (M' := M_Model_namesGood) (d' := 1) (kc := 0) (ks := 0) (kc' := 0) (ks' := 0) (n := 1) d_Model_compile_16 ok_Model_namesGood ml_Model_80 (by decide) rfl (Nat.le_of_ble_eq_true rfl) ⟨tw_818, ts_Model_namesGood⟩ xg_0 rfl (ct_Model_namesGood_0 h) (fun v w h => ?_)
    obtain ⟨r3, i3, l3, a3, b3, rfl, rfl, h⟩ := h
    refine mm_eqs (st2 := [.int r3]) rfl ?_
    refine mm_if_eq (M := M_Model_compile) 26 d_Model_compile_19 (by decide) (fun c => ?_) (fun c => ?_)
    · have h := h.1 c
      refine mm_iconst (M := M_Model_compile) (v := 0) d_Model_compile_26 (by decide) ?_
      refine mm_istore_n (M := M_Model_compile) d_Model_compile_27 (Nat.le_of_ble_eq_true rfl) ?_
      refine mm_eqL (L' := [some (.ref 0), some (.int r1), some (.int r2), some (.int 0), none, none]) rfl ?_
      refine mm_drop (L' := [some (.ref 0), some (.int r1), some (.int r2), some (.int 0), none, none]) ⟨rfl, ⟨rfl, ⟨rfl, ⟨rfl, trivial⟩⟩⟩⟩ ?_
      exact vq_Model_compile_0_28 h
    · have h := h.2 c
      refine mm_iconst (M := M_Model_compile) (v := 1) d_Model_compile_22 (by decide) ?_
      refine mm_goto (M := M_Model_compile) (tgt := 27) d_Model_compile_23 (by decide) ?_
      refine mm_istore_n (M := M_Model_compile) d_Model_compile_27 (Nat.le_of_ble_eq_true rfl) ?_
      refine mm_eqL (L' := [some (.ref 0), some (.int r1), some (.int r2), some (.int 1), none, none]) rfl ?_
      refine mm_drop (L' := [some (.ref 0), some (.int r1), some (.int r2), some (.int 1), none, none]) ⟨rfl, ⟨rfl, ⟨rfl, ⟨rfl, trivial⟩⟩⟩⟩ ?_
      exact vq_Model_compile_0_28 h
def wp_Model_feed_0 (i : mm_i) (l : mm_j) (a : mm_a) (b : mm_b) (x1 : Int32) (K : Int32 → mm_i → mm_j → mm_a → mm_b → Prop) : Prop :=
  wp_Model_letter i l a b x1 (fun r1 i1 l1 a1 b1 => (¬ r1 = 0 → (¬ (i1 8) = (40 : Int32) → vp_in (i1 8) 40 ∧ (K ((i1 8) + (1 : Int32)) (upd (upd i1 8 ((i1 8) + (1 : Int32))) 11 0) l1 (mm_ua a1 3 (upd (a1 3) (i1 8).toNatClampNeg x1)) b1)) ∧ ((i1 8) = (40 : Int32) → K (-2) i1 l1 a1 b1)) ∧ (r1 = 0 → K (-1) i1 l1 a1 b1))
set_option maxRecDepth 100000 in
set_option maxHeartbeats 4000000 in
theorem ct_Model_feed_0 {i : mm_i} {l : mm_j} {a : mm_a} {b : mm_b} {t : mm_H} {x1 : Int32} {K : Int32 → mm_i → mm_j → mm_a → mm_b → Prop} (h : wp_Model_feed_0 i l a b x1 K) : mm_Ct y_Model_feed M_Model_feed 2 0 0 [.ref 0, .int x1] (Wm i l a b ++ t) (mx_PI t K) := by
  refine mm_Ct.of (by decide) rfl (fun q => absurd q (by decide)) (Nat.le_of_ble_eq_true rfl) ?_
  unfold wp_Model_feed_0 at h
  refine mm_eqL (L' := [some (.ref 0), some (.int x1)]) rfl ?_
  refine mm_iload_n (M := M_Model_feed) d_Model_feed_0 rfl ?_
  refine mm_eqs (st2 := [.int x1].reverse ++ []) rfl ?_
  refine mm_callS (M := M_Model_feed) (y := y_Model_letter) (M' := M_Model_letter) (d' := 1) (kc := 0) (ks := 0) (kc' := 0) (ks' := 0) (n := 1) d_Model_feed_1 ok_Model_letter ml_Model_43 (by decide) rfl (Nat.le_of_ble_eq_true rfl) tw_772 (ct_Model_letter h) (fun v w h => ?_)
  obtain ⟨r1, i1, l1, a1, b1, rfl, rfl, h⟩ := h
  refine mm_eqs (st2 := [.int r1]) rfl ?_
  refine mm_if_ne (M := M_Model_feed) 9 d_Model_feed_4 (by decide) (fun c => ?_) (fun c => ?_)
  · have h := h.1 c
    refine mm_aload_n (M := M_Model_feed) d_Model_feed_9 rfl ?_
    refine mm_getf (M := M_Model_feed) (u := .int (i1 8)) 7 8 d_Model_feed_10 fl_Model_99 xg_0 rfl ?_
    refine mm_bipush (M := M_Model_feed) (v := 40) d_Model_feed_13 (by decide) ?_
    refine mm_icmp_ne (M := M_Model_feed) 21 d_Model_feed_15 (by decide) (fun c => ?_) (fun c => ?_)
    · have h := h.1 c
      refine mm_aload_n (M := M_Model_feed) d_Model_feed_21 rfl ?_
      refine mm_getf (M := M_Model_feed) (u := .ref 3) 7 9 d_Model_feed_22 fl_Model_16 xg_0 rfl ?_
      refine mm_aload_n (M := M_Model_feed) d_Model_feed_25 rfl ?_
      refine mm_getf (M := M_Model_feed) (u := .int (i1 8)) 7 8 d_Model_feed_26 fl_Model_99 xg_0 rfl ?_
      refine mm_iload_n (M := M_Model_feed) d_Model_feed_29 rfl ?_
      obtain ⟨hin, h⟩ := h
      refine mm_iast (M := M_Model_feed) (f := (a1 3)) d_Model_feed_30 xg_3 hin ?_
      refine mm_eqw xa_3 ?_
      refine mm_aload_n (M := M_Model_feed) d_Model_feed_31 rfl ?_
      refine mm_dup (M := M_Model_feed) d_Model_feed_32 rfl ?_
      refine mm_getf (M := M_Model_feed) (u := .int (i1 8)) 7 8 d_Model_feed_33 fl_Model_99 xg_0 rfl ?_
      refine mm_iconst (M := M_Model_feed) (v := 1) d_Model_feed_36 (by decide) ?_
      refine mm_iadd (M := M_Model_feed) d_Model_feed_37 ?_
      refine mm_putf (M := M_Model_feed) 7 8 .int d_Model_feed_38 fl_Model_99 fp_Model_99 ft_7_8 xg_0 (Nat.le_of_ble_eq_true rfl) trivial ?_
      refine mm_eqw xs_8 ?_
      refine mm_aload_n (M := M_Model_feed) d_Model_feed_41 rfl ?_
      refine mm_iconst (M := M_Model_feed) (v := 0) d_Model_feed_42 (by decide) ?_
      refine mm_putf (M := M_Model_feed) 7 11 .boolean d_Model_feed_43 fl_Model_96 fp_Model_96 ft_7_11 xg_0 (Nat.le_of_ble_eq_true rfl) (Or.inl rfl) ?_
      refine mm_eqw xs_11 ?_
      refine mm_aload_n (M := M_Model_feed) d_Model_feed_46 rfl ?_
      refine mm_getf (M := M_Model_feed) (u := .int ((i1 8) + (1 : Int32))) 7 8 d_Model_feed_47 fl_Model_99 xg_0 rfl ?_
      exact mm_retv (M := M_Model_feed) ⟨_, rfl, rfl, d_Model_feed_50⟩ ⟨_, _, _, _, _, rfl, rfl, h⟩
    · have h := h.2 c
      refine mm_bipush (M := M_Model_feed) (v := (-2)) d_Model_feed_18 (by decide) ?_
      exact mm_retv (M := M_Model_feed) ⟨_, rfl, rfl, d_Model_feed_20⟩ ⟨_, _, _, _, _, rfl, rfl, h⟩
  · have h := h.2 c
    refine mm_iconst (M := M_Model_feed) (v := (-1)) d_Model_feed_7 (by decide) ?_
    exact mm_retv (M := M_Model_feed) ⟨_, rfl, rfl, d_Model_feed_8⟩ ⟨_, _, _, _, _, rfl, rfl, h⟩
def wp_Model_clear_0 (i : mm_i) (l : mm_j) (a : mm_a) (b : mm_b)  (K : Int32 → mm_i → mm_j → mm_a → mm_b → Prop) : Prop :=
  K (i 8) (upd (upd i 8 0) 11 0) l a b
set_option maxRecDepth 100000 in
set_option maxHeartbeats 4000000 in
theorem ct_Model_clear_0 {i : mm_i} {l : mm_j} {a : mm_a} {b : mm_b} {t : mm_H}  {K : Int32 → mm_i → mm_j → mm_a → mm_b → Prop} (h : wp_Model_clear_0 i l a b  K) : mm_Ct y_Model_clear M_Model_clear 0 0 0 [.ref 0] (Wm i l a b ++ t) (mx_PI t K) := by
  refine mm_Ct.of (by decide) rfl (fun q => absurd q (by decide)) (Nat.le_of_ble_eq_true rfl) ?_
  unfold wp_Model_clear_0 at h
  refine mm_eqL (L' := [some (.ref 0), none]) rfl ?_
  refine mm_aload_n (M := M_Model_clear) d_Model_clear_0 rfl ?_
  refine mm_getf (M := M_Model_clear) (u := .int (i 8)) 7 8 d_Model_clear_1 fl_Model_99 xg_0 rfl ?_
  refine mm_istore_n (M := M_Model_clear) d_Model_clear_4 (Nat.le_of_ble_eq_true rfl) ?_
  refine mm_eqL (L' := [some (.ref 0), some (.int (i 8))]) rfl ?_
  refine mm_aload_n (M := M_Model_clear) d_Model_clear_5 rfl ?_
  refine mm_iconst (M := M_Model_clear) (v := 0) d_Model_clear_6 (by decide) ?_
  refine mm_putf (M := M_Model_clear) 7 8 .int d_Model_clear_7 fl_Model_99 fp_Model_99 ft_7_8 xg_0 (Nat.le_of_ble_eq_true rfl) trivial ?_
  refine mm_eqw xs_8 ?_
  refine mm_aload_n (M := M_Model_clear) d_Model_clear_10 rfl ?_
  refine mm_iconst (M := M_Model_clear) (v := 0) d_Model_clear_11 (by decide) ?_
  refine mm_putf (M := M_Model_clear) 7 11 .boolean d_Model_clear_12 fl_Model_96 fp_Model_96 ft_7_11 xg_0 (Nat.le_of_ble_eq_true rfl) (Or.inl rfl) ?_
  refine mm_eqw xs_11 ?_
  refine mm_iload_n (M := M_Model_clear) d_Model_clear_15 rfl ?_
  exact mm_retv (M := M_Model_clear) ⟨_, rfl, rfl, d_Model_clear_16⟩ ⟨_, _, _, _, _, rfl, rfl, h⟩
