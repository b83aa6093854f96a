def wp_Text_isFull_2 (n1 n2 : Nat) (i : mm_i) (l : mm_j) (a : mm_a) (b : mm_b)  (K : Int32 → mm_i → mm_j → mm_a → mm_b → Prop) : Prop :=
  ((i 33) < (32 : Int32) → K 0 i l a b) ∧ (¬ (i 33) < (32 : Int32) → K 1 i l a b)
set_option maxRecDepth 100000 in
set_option maxHeartbeats 4000000 in
theorem ct_Text_isFull_2 {n1 n2 : Nat} {i : mm_i} {l : mm_j} {a : mm_a} {b : mm_b} {t : mm_H}  {K : Int32 → mm_i → mm_j → mm_a → mm_b → Prop} (h : wp_Text_isFull_2 n1 n2 i l a b  K) : mm_Ct y_Text_isFull M_Text_isFull 0 0 0 [.ref 2] (Wd 4 22 n1 n2 i l a b ++ t) (mm_PI n1 n2 t K) := by
  refine mm_Ct.of (by decide) rfl (fun q => absurd q (by decide)) (Nat.le_of_ble_eq_true rfl) ?_
  unfold wp_Text_isFull_2 at h
  refine mm_eqL (L' := [some (.ref 2)]) rfl ?_
  refine mm_aload_n (M := M_Text_isFull) d_Text_isFull_0 rfl ?_
  refine mm_getf (M := M_Text_isFull) (u := .int (i 33)) 0 1 d_Text_isFull_1 fl_Text_9 wg_2 rfl ?_
  refine mm_aload_n (M := M_Text_isFull) d_Text_isFull_4 rfl ?_
  refine mm_getf (M := M_Text_isFull) (u := .ref 3) 0 0 d_Text_isFull_5 fl_Text_15 wg_2 rfl ?_
  refine mm_alen0 (M := M_Text_isFull) (v := 32) d_Text_isFull_8 wg_3 rfl ?_
  refine mm_icmp_lt (M := M_Text_isFull) 16 d_Text_isFull_9 (by decide) (fun c => ?_) (fun c => ?_)
  · have h := h.1 c
    refine mm_iconst (M := M_Text_isFull) (v := 0) d_Text_isFull_16 (by decide) ?_
    exact mm_retv (M := M_Text_isFull) ⟨_, rfl, (by decide), d_Text_isFull_17⟩ ⟨_, _, _, _, _, rfl, rfl, h⟩
  · have h := h.2 c
    refine mm_iconst (M := M_Text_isFull) (v := 1) d_Text_isFull_12 (by decide) ?_
    refine mm_goto (M := M_Text_isFull) (tgt := 17) d_Text_isFull_13 (by decide) ?_
    exact mm_retv (M := M_Text_isFull) ⟨_, rfl, (by decide), d_Text_isFull_17⟩ ⟨_, _, _, _, _, rfl, rfl, h⟩
def wp_Text_isFull_20 (n1 n2 : Nat) (i : mm_i) (l : mm_j) (a : mm_a) (b : mm_b)  (K : Int32 → mm_i → mm_j → mm_a → mm_b → Prop) : Prop :=
  ((i 321) < (40 : Int32) → K 0 i l a b) ∧ (¬ (i 321) < (40 : Int32) → K 1 i l a b)
set_option maxRecDepth 100000 in
set_option maxHeartbeats 4000000 in
theorem ct_Text_isFull_20 {n1 n2 : Nat} {i : mm_i} {l : mm_j} {a : mm_a} {b : mm_b} {t : mm_H}  {K : Int32 → mm_i → mm_j → mm_a → mm_b → Prop} (h : wp_Text_isFull_20 n1 n2 i l a b  K) : mm_Ct y_Text_isFull M_Text_isFull 0 0 0 [.ref 20] (Wd 4 22 n1 n2 i l a b ++ t) (mm_PI n1 n2 t K) := by
  refine mm_Ct.of (by decide) rfl (fun q => absurd q (by decide)) (Nat.le_of_ble_eq_true rfl) ?_
  unfold wp_Text_isFull_20 at h
  refine mm_eqL (L' := [some (.ref 20)]) rfl ?_
  refine mm_aload_n (M := M_Text_isFull) d_Text_isFull_0 rfl ?_
  refine mm_getf (M := M_Text_isFull) (u := .int (i 321)) 0 1 d_Text_isFull_1 fl_Text_9 wg_20 rfl ?_
  refine mm_aload_n (M := M_Text_isFull) d_Text_isFull_4 rfl ?_
  refine mm_getf (M := M_Text_isFull) (u := .ref 21) 0 0 d_Text_isFull_5 fl_Text_15 wg_20 rfl ?_
  refine mm_alen0 (M := M_Text_isFull) (v := 40) d_Text_isFull_8 wg_21 rfl ?_
  refine mm_icmp_lt (M := M_Text_isFull) 16 d_Text_isFull_9 (by decide) (fun c => ?_) (fun c => ?_)
  · have h := h.1 c
    refine mm_iconst (M := M_Text_isFull) (v := 0) d_Text_isFull_16 (by decide) ?_
    exact mm_retv (M := M_Text_isFull) ⟨_, rfl, (by decide), d_Text_isFull_17⟩ ⟨_, _, _, _, _, rfl, rfl, h⟩
  · have h := h.2 c
    refine mm_iconst (M := M_Text_isFull) (v := 1) d_Text_isFull_12 (by decide) ?_
    refine mm_goto (M := M_Text_isFull) (tgt := 17) d_Text_isFull_13 (by decide) ?_
    exact mm_retv (M := M_Text_isFull) ⟨_, rfl, (by decide), d_Text_isFull_17⟩ ⟨_, _, _, _, _, rfl, rfl, h⟩
def wp_Text_add_2 (n1 n2 : Nat) (i : mm_i) (l : mm_j) (a : mm_a) (b : mm_b) (x1 : Int32) (K : Int32 → mm_i → mm_j → mm_a → mm_b → Prop) : Prop :=
  wp_Text_isFull_2 n1 n2 i l a b (fun r1 i1 l1 a1 b1 => (¬ r1 = 0 → K (i1 33) i1 l1 a1 b1) ∧ (r1 = 0 → vp_in (i1 33) 32 ∧ (K ((i1 33) + (1 : Int32)) (upd i1 33 ((i1 33) + (1 : Int32))) l1 (mm_ua a1 3 (upd (a1 3) (i1 33).toNatClampNeg x1)) b1)))
set_option maxRecDepth 100000 in
set_option maxHeartbeats 4000000 in
theorem ct_Text_add_2 {n1 n2 : Nat} {i : mm_i} {l : mm_j} {a : mm_a} {b : mm_b} {t : mm_H} {x1 : Int32} {K : Int32 → mm_i → mm_j → mm_a → mm_b → Prop} (h : wp_Text_add_2 n1 n2 i l a b x1 K) : mm_Ct y_Text_add M_Text_add 1 0 0 [.ref 2, .int x1] (Wd 4 22 n1 n2 i l a b ++ t) (mm_PI n1 n2 t K) := by
  refine mm_Ct.of (by decide) rfl (fun q => absurd q (by decide)) (Nat.le_of_ble_eq_true rfl) ?_
  unfold wp_Text_add_2 at h
  refine mm_eqL (L' := [some (.ref 2), some (.int x1)]) rfl ?_
  refine mm_aload_n (M := M_Text_add) d_Text_add_0 rfl ?_
  refine mm_eqs (st2 := [].reverse ++ .ref 2 :: []) rfl ?_
  refine mm_callV (M := M_Text_add) (y := y_Text_isFull) (M' := M_Text_isFull) (d' := 0) (kc := 0) (ks := 0) (kc' := 0) (ks' := 0) (n := 0) d_Text_add_1 ok_Text_isFull ml_Text_19 (by decide) rfl (Nat.le_of_ble_eq_true rfl) ⟨tw_402, tw_403⟩ wg_2 rfl (ct_Text_isFull_2 h) (fun v w h => ?_)
  obtain ⟨r1, i1, l1, a1, b1, rfl, rfl, h⟩ := h
  refine mm_eqs (st2 := [.int r1]) rfl ?_
  refine mm_if_ne (M := M_Text_add) 27 d_Text_add_4 (by decide) (fun c => ?_) (fun c => ?_)
  · have h := h.1 c
    refine mm_aload_n (M := M_Text_add) d_Text_add_27 rfl ?_
    refine mm_getf (M := M_Text_add) (u := .int (i1 33)) 0 1 d_Text_add_28 fl_Text_9 wg_2 rfl ?_
    exact mm_retv (M := M_Text_add) ⟨_, rfl, rfl, d_Text_add_31⟩ ⟨_, _, _, _, _, rfl, rfl, h⟩
  · have h := h.2 c
    refine mm_aload_n (M := M_Text_add) d_Text_add_7 rfl ?_
    refine mm_getf (M := M_Text_add) (u := .ref 3) 0 0 d_Text_add_8 fl_Text_15 wg_2 rfl ?_
    refine mm_aload_n (M := M_Text_add) d_Text_add_11 rfl ?_
    refine mm_getf (M := M_Text_add) (u := .int (i1 33)) 0 1 d_Text_add_12 fl_Text_9 wg_2 rfl ?_
    refine mm_iload_n (M := M_Text_add) d_Text_add_15 rfl ?_
    obtain ⟨hin, h⟩ := h
    refine mm_iast (M := M_Text_add) (f := (a1 3)) d_Text_add_16 wg_3 hin ?_
    refine mm_eqw wa_3 ?_
    refine mm_aload_n (M := M_Text_add) d_Text_add_17 rfl ?_
    refine mm_dup (M := M_Text_add) d_Text_add_18 rfl ?_
    refine mm_getf (M := M_Text_add) (u := .int (i1 33)) 0 1 d_Text_add_19 fl_Text_9 wg_2 rfl ?_
    refine mm_iconst (M := M_Text_add) (v := 1) d_Text_add_22 (by decide) ?_
    refine mm_iadd (M := M_Text_add) d_Text_add_23 ?_
    refine mm_putf (M := M_Text_add) 0 1 .int d_Text_add_24 fl_Text_9 fp_Text_9 ft_0_1 wg_2 (Nat.le_of_ble_eq_true rfl) trivial ?_
    refine mm_eqw ws_33 ?_
    refine mm_aload_n (M := M_Text_add) d_Text_add_27 rfl ?_
    refine mm_getf (M := M_Text_add) (u := .int ((i1 33) + (1 : Int32))) 0 1 d_Text_add_28 fl_Text_9 wg_2 rfl ?_
    exact mm_retv (M := M_Text_add) ⟨_, rfl, rfl, d_Text_add_31⟩ ⟨_, _, _, _, _, rfl, rfl, h⟩
def wp_Text_add_20 (n1 n2 : Nat) (i : mm_i) (l : mm_j) (a : mm_a) (b : mm_b) (x1 : Int32) (K : Int32 → mm_i → mm_j → mm_a → mm_b → Prop) : Prop :=
  wp_Text_isFull_20 n1 n2 i l a b (fun r1 i1 l1 a1 b1 => (¬ r1 = 0 → K (i1 321) i1 l1 a1 b1) ∧ (r1 = 0 → vp_in (i1 321) 40 ∧ (K ((i1 321) + (1 : Int32)) (upd i1 321 ((i1 321) + (1 : Int32))) l1 (mm_ua a1 21 (upd (a1 21) (i1 321).toNatClampNeg x1)) b1)))
set_option maxRecDepth 100000 in
set_option maxHeartbeats 4000000 in
theorem ct_Text_add_20 {n1 n2 : Nat} {i : mm_i} {l : mm_j} {a : mm_a} {b : mm_b} {t : mm_H} {x1 : Int32} {K : Int32 → mm_i → mm_j → mm_a → mm_b → Prop} (h : wp_Text_add_20 n1 n2 i l a b x1 K) : mm_Ct y_Text_add M_Text_add 1 0 0 [.ref 20, .int x1] (Wd 4 22 n1 n2 i l a b ++ t) (mm_PI n1 n2 t K) := by
  refine mm_Ct.of (by decide) rfl (fun q => absurd q (by decide)) (Nat.le_of_ble_eq_true rfl) ?_
  unfold wp_Text_add_20 at h
  refine mm_eqL (L' := [some (.ref 20), some (.int x1)]) rfl ?_
  refine mm_aload_n (M := M_Text_add) d_Text_add_0 rfl ?_
  refine mm_eqs (st2 := [].reverse ++ .ref 20 :: []) rfl ?_
  refine mm_callV (M := M_Text_add) (y := y_Text_isFull) (M' := M_Text_isFull) (d' := 0) (kc := 0) (ks := 0) (kc' := 0) (ks' := 0) (n := 0) d_Text_add_1 ok_Text_isFull ml_Text_19 (by decide) rfl (Nat.le_of_ble_eq_true rfl) ⟨tw_402, tw_403⟩ wg_20 rfl (ct_Text_isFull_20 h) (fun v w h => ?_)
  obtain ⟨r1, i1, l1, a1, b1, rfl, rfl, h⟩ := h
  refine mm_eqs (st2 := [.int r1]) rfl ?_
  refine mm_if_ne (M := M_Text_add) 27 d_Text_add_4 (by decide) (fun c => ?_) (fun c => ?_)
  · have h := h.1 c
    refine mm_aload_n (M := M_Text_add) d_Text_add_27 rfl ?_
    refine mm_getf (M := M_Text_add) (u := .int (i1 321)) 0 1 d_Text_add_28 fl_Text_9 wg_20 rfl ?_
    exact mm_retv (M := M_Text_add) ⟨_, rfl, rfl, d_Text_add_31⟩ ⟨_, _, _, _, _, rfl, rfl, h⟩
  · have h := h.2 c
    refine mm_aload_n (M := M_Text_add) d_Text_add_7 rfl ?_
    refine mm_getf (M := M_Text_add) (u := .ref 21) 0 0 d_Text_add_8 fl_Text_15 wg_20 rfl ?_
    refine mm_aload_n (M := M_Text_add) d_Text_add_11 rfl ?_
    refine mm_getf (M := M_Text_add) (u := .int (i1 321)) 0 1 d_Text_add_12 fl_Text_9 wg_20 rfl ?_
    refine mm_iload_n (M := M_Text_add) d_Text_add_15 rfl ?_
    obtain ⟨hin, h⟩ := h
    refine mm_iast (M := M_Text_add) (f := (a1 21)) d_Text_add_16 wg_21 hin ?_
    refine mm_eqw wa_21 ?_
    refine mm_aload_n (M := M_Text_add) d_Text_add_17 rfl ?_
    refine mm_dup (M := M_Text_add) d_Text_add_18 rfl ?_
    refine mm_getf (M := M_Text_add) (u := .int (i1 321)) 0 1 d_Text_add_19 fl_Text_9 wg_20 rfl ?_
    refine mm_iconst (M := M_Text_add) (v := 1) d_Text_add_22 (by decide) ?_
    refine mm_iadd (M := M_Text_add) d_Text_add_23 ?_
    refine mm_putf (M := M_Text_add) 0 1 .int d_Text_add_24 fl_Text_9 fp_Text_9 ft_0_1 wg_20 (Nat.le_of_ble_eq_true rfl) trivial ?_
    refine mm_eqw ws_321 ?_
    refine mm_aload_n (M := M_Text_add) d_Text_add_27 rfl ?_
    refine mm_getf (M := M_Text_add) (u := .int ((i1 321) + (1 : Int32))) 0 1 d_Text_add_28 fl_Text_9 wg_20 rfl ?_
    exact mm_retv (M := M_Text_add) ⟨_, rfl, rfl, d_Text_add_31⟩ ⟨_, _, _, _, _, rfl, rfl, h⟩
def wp_Text_codeAt_2 (n1 n2 : Nat) (i : mm_i) (l : mm_j) (a : mm_a) (b : mm_b) (x1 : Int32) (K : Int32 → mm_i → mm_j → mm_a → mm_b → Prop) : Prop :=
  (x1 < 0 → K (-1) i l a b) ∧ (¬ x1 < 0 → ((i 33) ≤ x1 → K (-1) i l a b) ∧ (¬ (i 33) ≤ x1 → vp_in x1 32 ∧ (K ((a 3) x1.toNatClampNeg) i l a b)))
set_option maxRecDepth 100000 in
set_option maxHeartbeats 4000000 in
theorem ct_Text_codeAt_2 {n1 n2 : Nat} {i : mm_i} {l : mm_j} {a : mm_a} {b : mm_b} {t : mm_H} {x1 : Int32} {K : Int32 → mm_i → mm_j → mm_a → mm_b → Prop} (h : wp_Text_codeAt_2 n1 n2 i l a b x1 K) : mm_Ct y_Text_codeAt M_Text_codeAt 0 0 0 [.ref 2, .int x1] (Wd 4 22 n1 n2 i l a b ++ t) (mm_PI n1 n2 t K) := by
  refine mm_Ct.of (by decide) rfl (fun q => absurd q (by decide)) (Nat.le_of_ble_eq_true rfl) ?_
  unfold wp_Text_codeAt_2 at h
  refine mm_eqL (L' := [some (.ref 2), some (.int x1)]) rfl ?_
  refine mm_iload_n (M := M_Text_codeAt) d_Text_codeAt_0 rfl ?_
  refine mm_if_lt (M := M_Text_codeAt) 21 d_Text_codeAt_1 (by decide) (fun c => ?_) (fun c => ?_)
  · have h := h.1 c
    refine mm_iconst (M := M_Text_codeAt) (v := (-1)) d_Text_codeAt_21 (by decide) ?_
    exact mm_retv (M := M_Text_codeAt) ⟨_, rfl, rfl, d_Text_codeAt_22⟩ ⟨_, _, _, _, _, rfl, rfl, h⟩
  · have h := h.2 c
    refine mm_iload_n (M := M_Text_codeAt) d_Text_codeAt_4 rfl ?_
    refine mm_aload_n (M := M_Text_codeAt) d_Text_codeAt_5 rfl ?_
    refine mm_getf (M := M_Text_codeAt) (u := .int (i 33)) 0 1 d_Text_codeAt_6 fl_Text_9 wg_2 rfl ?_
    refine mm_icmp_ge (M := M_Text_codeAt) 21 d_Text_codeAt_9 (by decide) (fun c => ?_) (fun c => ?_)
    · have h := h.1 c
      refine mm_iconst (M := M_Text_codeAt) (v := (-1)) d_Text_codeAt_21 (by decide) ?_
      exact mm_retv (M := M_Text_codeAt) ⟨_, rfl, rfl, d_Text_codeAt_22⟩ ⟨_, _, _, _, _, rfl, rfl, h⟩
    · have h := h.2 c
      refine mm_aload_n (M := M_Text_codeAt) d_Text_codeAt_12 rfl ?_
      refine mm_getf (M := M_Text_codeAt) (u := .ref 3) 0 0 d_Text_codeAt_13 fl_Text_15 wg_2 rfl ?_
      refine mm_iload_n (M := M_Text_codeAt) d_Text_codeAt_16 rfl ?_
      obtain ⟨hin, h⟩ := h
      refine mm_iald (M := M_Text_codeAt) (f := (a 3)) d_Text_codeAt_17 wg_3 hin ?_
      refine mm_goto (M := M_Text_codeAt) (tgt := 22) d_Text_codeAt_18 (by decide) ?_
      exact mm_retv (M := M_Text_codeAt) ⟨_, rfl, rfl, d_Text_codeAt_22⟩ ⟨_, _, _, _, _, rfl, rfl, h⟩
def wp_Captures_with (n1 n2 : Nat) (i : mm_i) (l : mm_j) (a : mm_a) (b : mm_b) (x1 : Int64) (x2 : Int32) (x3 : Int32) (x4 : Int32) (K : Int64 → mm_i → mm_j → mm_a → mm_b → Prop) : Prop :=
  K ((x1 &&& (((4095 : Int64) <<< (((x2 - (1 : Int32)) * (12 : Int32)).toInt64 &&& 63)) ^^^ ((-1) : Int64))) ||| ((((x3 + (1 : Int32)) ||| ((x4 + (1 : Int32)) <<< ((6 : Int32) &&& 31))).toInt64) <<< (((x2 - (1 : Int32)) * (12 : Int32)).toInt64 &&& 63))) i l a b
set_option maxRecDepth 100000 in
set_option maxHeartbeats 4000000 in
theorem ct_Captures_with {n1 n2 : Nat} {i : mm_i} {l : mm_j} {a : mm_a} {b : mm_b} {t : mm_H} {x1 : Int64} {x2 : Int32} {x3 : Int32} {x4 : Int32} {K : Int64 → mm_i → mm_j → mm_a → mm_b → Prop} (h : wp_Captures_with n1 n2 i l a b x1 x2 x3 x4 K) : mm_Ct y_Captures_with M_Captures_with 0 0 0 [.long x1, .int x2, .int x3, .int x4] (Wd 4 22 n1 n2 i l a b ++ t) (mm_PJ n1 n2 t K) := by
  refine mm_Ct.of (by decide) rfl (fun q => absurd q (by decide)) (Nat.le_of_ble_eq_true rfl) ?_
  unfold wp_Captures_with at h
  refine mm_eqL (L' := [some (.long x1), none, some (.int x2), some (.int x3), some (.int x4), none, none, none]) rfl ?_
  refine mm_iload_n (M := M_Captures_with) d_Captures_with_0 rfl ?_
  refine mm_iconst (M := M_Captures_with) (v := 1) d_Captures_with_1 (by decide) ?_
  refine mm_isub (M := M_Captures_with) d_Captures_with_2 ?_
  refine mm_bipush (M := M_Captures_with) (v := 12) d_Captures_with_3 (by decide) ?_
  refine mm_imul (M := M_Captures_with) d_Captures_with_5 ?_
  refine mm_istore (M := M_Captures_with) d_Captures_with_6 (Nat.le_of_ble_eq_true rfl) ?_
  refine mm_eqL (L' := [some (.long x1), none, some (.int x2), some (.int x3), some (.int x4), some (.int ((x2 - (1 : Int32)) * (12 : Int32))), none, none]) rfl ?_
  refine mm_iload_n (M := M_Captures_with) d_Captures_with_8 rfl ?_
  refine mm_iconst (M := M_Captures_with) (v := 1) d_Captures_with_9 (by decide) ?_
  refine mm_iadd (M := M_Captures_with) d_Captures_with_10 ?_
  refine mm_iload (M := M_Captures_with) d_Captures_with_11 rfl ?_
  refine mm_iconst (M := M_Captures_with) (v := 1) d_Captures_with_13 (by decide) ?_
  refine mm_iadd (M := M_Captures_with) d_Captures_with_14 ?_
  refine mm_bipush (M := M_Captures_with) (v := 6) d_Captures_with_15 (by decide) ?_
  refine mm_ishl (M := M_Captures_with) d_Captures_with_17 ?_
  refine mm_ior (M := M_Captures_with) d_Captures_with_18 ?_
  refine mm_i2l (M := M_Captures_with) d_Captures_with_19 ?_
  refine mm_lstore (M := M_Captures_with) d_Captures_with_20 (Nat.le_of_ble_eq_true rfl) ?_
  refine mm_eqL (L' := [some (.long x1), none, some (.int x2), some (.int x3), some (.int x4), some (.int ((x2 - (1 : Int32)) * (12 : Int32))), some (.long (((x3 + (1 : Int32)) ||| ((x4 + (1 : Int32)) <<< ((6 : Int32) &&& 31))).toInt64)), none]) rfl ?_
  refine mm_lload_n (M := M_Captures_with) d_Captures_with_22 rfl ?_
  refine mm_ldc2 (M := M_Captures_with) (v := 4095) d_Captures_with_23 tw_636 ?_
  refine mm_iload (M := M_Captures_with) d_Captures_with_26 rfl ?_
  refine mm_lshl (M := M_Captures_with) d_Captures_with_28 ?_
  refine mm_ldc2 (M := M_Captures_with) (v := (-1)) d_Captures_with_29 tw_637 ?_
  refine mm_lxor (M := M_Captures_with) d_Captures_with_32 ?_
  refine mm_land (M := M_Captures_with) d_Captures_with_33 ?_
  refine mm_lload (M := M_Captures_with) d_Captures_with_34 rfl ?_
  refine mm_iload (M := M_Captures_with) d_Captures_with_36 rfl ?_
  refine mm_lshl (M := M_Captures_with) d_Captures_with_38 ?_
  refine mm_lor (M := M_Captures_with) d_Captures_with_39 ?_
  exact mm_retv (M := M_Captures_with) ⟨rfl, d_Captures_with_40⟩ ⟨_, _, _, _, _, rfl, rfl, h⟩
def wp_Captures_from (n1 n2 : Nat) (i : mm_i) (l : mm_j) (a : mm_a) (b : mm_b) (x1 : Int64) (x2 : Int32) (K : Int32 → mm_i → mm_j → mm_a → mm_b → Prop) : Prop :=
  (¬ ((((x1.toUInt64 >>> (((x2 - (1 : Int32)) * (12 : Int32)).toInt64.toUInt64 &&& Int64.toUInt64 63)).toInt64).toInt32) &&& (63 : Int32)) = 0 → K (((((x1.toUInt64 >>> (((x2 - (1 : Int32)) * (12 : Int32)).toInt64.toUInt64 &&& Int64.toUInt64 63)).toInt64).toInt32) &&& (63 : Int32)) - (1 : Int32)) i l a b) ∧ (((((x1.toUInt64 >>> (((x2 - (1 : Int32)) * (12 : Int32)).toInt64.toUInt64 &&& Int64.toUInt64 63)).toInt64).toInt32) &&& (63 : Int32)) = 0 → K (-6) i l a b)
set_option maxRecDepth 100000 in
set_option maxHeartbeats 4000000 in
theorem ct_Captures_from {n1 n2 : Nat} {i : mm_i} {l : mm_j} {a : mm_a} {b : mm_b} {t : mm_H} {x1 : Int64} {x2 : Int32} {K : Int32 → mm_i → mm_j → mm_a → mm_b → Prop} (h : wp_Captures_from n1 n2 i l a b x1 x2 K) : mm_Ct y_Captures_from M_Captures_from 0 0 0 [.long x1, .int x2] (Wd 4 22 n1 n2 i l a b ++ t) (mm_PI n1 n2 t K) := by
  refine mm_Ct.of (by decide) rfl (fun q => absurd q (by decide)) (Nat.le_of_ble_eq_true rfl) ?_
  unfold wp_Captures_from at h
  refine mm_eqL (L' := [some (.long x1), none, some (.int x2), none]) rfl ?_
  refine mm_lload_n (M := M_Captures_from) d_Captures_from_0 rfl ?_
  refine mm_iload_n (M := M_Captures_from) d_Captures_from_1 rfl ?_
  refine mm_iconst (M := M_Captures_from) (v := 1) d_Captures_from_2 (by decide) ?_
  refine mm_isub (M := M_Captures_from) d_Captures_from_3 ?_
  refine mm_bipush (M := M_Captures_from) (v := 12) d_Captures_from_4 (by decide) ?_
  refine mm_imul (M := M_Captures_from) d_Captures_from_6 ?_
  refine mm_lushr (M := M_Captures_from) d_Captures_from_7 ?_
  refine mm_l2i (M := M_Captures_from) d_Captures_from_8 ?_
  refine mm_bipush (M := M_Captures_from) (v := 63) d_Captures_from_9 (by decide) ?_
  refine mm_iand (M := M_Captures_from) d_Captures_from_11 ?_
  refine mm_istore_n (M := M_Captures_from) d_Captures_from_12 (Nat.le_of_ble_eq_true rfl) ?_
  refine mm_eqL (L' := [some (.long x1), none, some (.int x2), some (.int ((((x1.toUInt64 >>> (((x2 - (1 : Int32)) * (12 : Int32)).toInt64.toUInt64 &&& Int64.toUInt64 63)).toInt64).toInt32) &&& (63 : Int32)))]) rfl ?_
  refine mm_iload_n (M := M_Captures_from) d_Captures_from_13 rfl ?_
  refine mm_if_ne (M := M_Captures_from) 22 d_Captures_from_14 (by decide) (fun c => ?_) (fun c => ?_)
  · have h := h.1 c
    refine mm_iload_n (M := M_Captures_from) d_Captures_from_22 rfl ?_
    refine mm_iconst (M := M_Captures_from) (v := 1) d_Captures_from_23 (by decide) ?_
    refine mm_isub (M := M_Captures_from) d_Captures_from_24 ?_
    exact mm_retv (M := M_Captures_from) ⟨_, rfl, rfl, d_Captures_from_25⟩ ⟨_, _, _, _, _, rfl, rfl, h⟩
  · have h := h.2 c
    refine mm_bipush (M := M_Captures_from) (v := (-6)) d_Captures_from_17 (by decide) ?_
    refine mm_goto (M := M_Captures_from) (tgt := 25) d_Captures_from_19 (by decide) ?_
    exact mm_retv (M := M_Captures_from) ⟨_, rfl, rfl, d_Captures_from_25⟩ ⟨_, _, _, _, _, rfl, rfl, h⟩
def wp_Captures_to (n1 n2 : Nat) (i : mm_i) (l : mm_j) (a : mm_a) (b : mm_b) (x1 : Int64) (x2 : Int32) (K : Int32 → mm_i → mm_j → mm_a → mm_b → Prop) : Prop :=
  (¬ ((((x1.toUInt64 >>> ((((x2 - (1 : Int32)) * (12 : Int32)) + (6 : Int32)).toInt64.toUInt64 &&& Int64.toUInt64 63)).toInt64).toInt32) &&& (63 : Int32)) = 0 → K (((((x1.toUInt64 >>> ((((x2 - (1 : Int32)) * (12 : Int32)) + (6 : Int32)).toInt64.toUInt64 &&& Int64.toUInt64 63)).toInt64).toInt32) &&& (63 : Int32)) - (1 : Int32)) i l a b) ∧ (((((x1.toUInt64 >>> ((((x2 - (1 : Int32)) * (12 : Int32)) + (6 : Int32)).toInt64.toUInt64 &&& Int64.toUInt64 63)).toInt64).toInt32) &&& (63 : Int32)) = 0 → K (-6) i l a b)
set_option maxRecDepth 100000 in
set_option maxHeartbeats 4000000 in
theorem ct_Captures_to {n1 n2 : Nat} {i : mm_i} {l : mm_j} {a : mm_a} {b : mm_b} {t : mm_H} {x1 : Int64} {x2 : Int32} {K : Int32 → mm_i → mm_j → mm_a → mm_b → Prop} (h : wp_Captures_to n1 n2 i l a b x1 x2 K) : mm_Ct y_Captures_to M_Captures_to 0 0 0 [.long x1, .int x2] (Wd 4 22 n1 n2 i l a b ++ t) (mm_PI n1 n2 t K) := by
  refine mm_Ct.of (by decide) rfl (fun q => absurd q (by decide)) (Nat.le_of_ble_eq_true rfl) ?_
  unfold wp_Captures_to at h
  refine mm_eqL (L' := [some (.long x1), none, some (.int x2), none]) rfl ?_
  refine mm_lload_n (M := M_Captures_to) d_Captures_to_0 rfl ?_
  refine mm_iload_n (M := M_Captures_to) d_Captures_to_1 rfl ?_
  refine mm_iconst (M := M_Captures_to) (v := 1) d_Captures_to_2 (by decide) ?_
  refine mm_isub (M := M_Captures_to) d_Captures_to_3 ?_
  refine mm_bipush (M := M_Captures_to) (v := 12) d_Captures_to_4 (by decide) ?_
  refine mm_imul (M := M_Captures_to) d_Captures_to_6 ?_
  refine mm_bipush (M := M_Captures_to) (v := 6) d_Captures_to_7 (by decide) ?_
  refine mm_iadd (M := M_Captures_to) d_Captures_to_9 ?_
  refine mm_lushr (M := M_Captures_to) d_Captures_to_10 ?_
  refine mm_l2i (M := M_Captures_to) d_Captures_to_11 ?_
  refine mm_bipush (M := M_Captures_to) (v := 63) d_Captures_to_12 (by decide) ?_
  refine mm_iand (M := M_Captures_to) d_Captures_to_14 ?_
  refine mm_istore_n (M := M_Captures_to) d_Captures_to_15 (Nat.le_of_ble_eq_true rfl) ?_
  refine mm_eqL (L' := [some (.long x1), none, some (.int x2), some (.int ((((x1.toUInt64 >>> ((((x2 - (1 : Int32)) * (12 : Int32)) + (6 : Int32)).toInt64.toUInt64 &&& Int64.toUInt64 63)).toInt64).toInt32) &&& (63 : Int32)))]) rfl ?_
  refine mm_iload_n (M := M_Captures_to) d_Captures_to_16 rfl ?_
  refine mm_if_ne (M := M_Captures_to) 25 d_Captures_to_17 (by decide) (fun c => ?_) (fun c => ?_)
  · have h := h.1 c
    refine mm_iload_n (M := M_Captures_to) d_Captures_to_25 rfl ?_
    refine mm_iconst (M := M_Captures_to) (v := 1) d_Captures_to_26 (by decide) ?_
    refine mm_isub (M := M_Captures_to) d_Captures_to_27 ?_
    exact mm_retv (M := M_Captures_to) ⟨_, rfl, rfl, d_Captures_to_28⟩ ⟨_, _, _, _, _, rfl, rfl, h⟩
  · have h := h.2 c
    refine mm_bipush (M := M_Captures_to) (v := (-6)) d_Captures_to_20 (by decide) ?_
    refine mm_goto (M := M_Captures_to) (tgt := 28) d_Captures_to_22 (by decide) ?_
    exact mm_retv (M := M_Captures_to) ⟨_, rfl, rfl, d_Captures_to_28⟩ ⟨_, _, _, _, _, rfl, rfl, h⟩
def wp_Program_empty_4 (n1 n2 : Nat) (i : mm_i) (l : mm_j) (a : mm_a) (b : mm_b)  (K : mm_i → mm_j → mm_a → mm_b → Prop) : Prop :=
  K (upd (upd (upd (upd i 74 0) 75 0) 76 0) 77 0) l a b
set_option maxRecDepth 100000 in
set_option maxHeartbeats 4000000 in
theorem ct_Program_empty_4 {n1 n2 : Nat} {i : mm_i} {l : mm_j} {a : mm_a} {b : mm_b} {t : mm_H}  {K : mm_i → mm_j → mm_a → mm_b → Prop} (h : wp_Program_empty_4 n1 n2 i l a b  K) : mm_Ct y_Program_empty M_Program_empty 0 0 0 [.ref 4] (Wd 4 22 n1 n2 i l a b ++ t) (mm_PV n1 n2 t K) := by
  refine mm_Ct.of (by decide) rfl (fun q => absurd q (by decide)) (Nat.le_of_ble_eq_true rfl) ?_
  unfold wp_Program_empty_4 at h
  refine mm_eqL (L' := [some (.ref 4)]) rfl ?_
  refine mm_aload_n (M := M_Program_empty) d_Program_empty_0 rfl ?_
  refine mm_iconst (M := M_Program_empty) (v := 0) d_Program_empty_1 (by decide) ?_
  refine mm_putf (M := M_Program_empty) 1 10 .int d_Program_empty_2 fl_Program_42 fp_Program_42 ft_1_10 wg_4 (Nat.le_of_ble_eq_true rfl) trivial ?_
  refine mm_eqw ws_74 ?_
  refine mm_aload_n (M := M_Program_empty) d_Program_empty_5 rfl ?_
  refine mm_iconst (M := M_Program_empty) (v := 0) d_Program_empty_6 (by decide) ?_
  refine mm_putf (M := M_Program_empty) 1 11 .int d_Program_empty_7 fl_Program_46 fp_Program_46 ft_1_11 wg_4 (Nat.le_of_ble_eq_true rfl) trivial ?_
  refine mm_eqw ws_75 ?_
  refine mm_aload_n (M := M_Program_empty) d_Program_empty_10 rfl ?_
  refine mm_iconst (M := M_Program_empty) (v := 0) d_Program_empty_11 (by decide) ?_
  refine mm_putf (M := M_Program_empty) 1 12 .int d_Program_empty_12 fl_Program_49 fp_Program_49 ft_1_12 wg_4 (Nat.le_of_ble_eq_true rfl) trivial ?_
  refine mm_eqw ws_76 ?_
  refine mm_aload_n (M := M_Program_empty) d_Program_empty_15 rfl ?_
  refine mm_iconst (M := M_Program_empty) (v := 0) d_Program_empty_16 (by decide) ?_
  refine mm_putf (M := M_Program_empty) 1 13 .int d_Program_empty_17 fl_Program_52 fp_Program_52 ft_1_13 wg_4 (Nat.le_of_ble_eq_true rfl) trivial ?_
  refine mm_eqw ws_77 ?_
  exact mm_ret (M := M_Program_empty) ⟨rfl, d_Program_empty_20⟩ ⟨_, _, _, _, rfl, rfl, h⟩
def wp_Program_addRow_4 (n1 n2 : Nat) (i : mm_i) (l : mm_j) (a : mm_a) (b : mm_b)  (K : Int32 → mm_i → mm_j → mm_a → mm_b → Prop) : Prop :=
  vp_in (i 75) 33 ∧ (vp_in (i 75) 33 ∧ (K (i 75) (upd i 75 ((i 75) + (1 : Int32))) l (mm_ua (mm_ua a 12 (upd (a 12) (i 75).toNatClampNeg (-1))) 13 (upd (a 13) (i 75).toNatClampNeg (-1))) b))
set_option maxRecDepth 100000 in
set_option maxHeartbeats 4000000 in
theorem ct_Program_addRow_4 {n1 n2 : Nat} {i : mm_i} {l : mm_j} {a : mm_a} {b : mm_b} {t : mm_H}  {K : Int32 → mm_i → mm_j → mm_a → mm_b → Prop} (h : wp_Program_addRow_4 n1 n2 i l a b  K) : mm_Ct y_Program_addRow M_Program_addRow 0 0 0 [.ref 4] (Wd 4 22 n1 n2 i l a b ++ t) (mm_PI n1 n2 t K) := by
  refine mm_Ct.of (by decide) rfl (fun q => absurd q (by decide)) (Nat.le_of_ble_eq_true rfl) ?_
  unfold wp_Program_addRow_4 at h
  refine mm_eqL (L' := [some (.ref 4), none]) rfl ?_
  refine mm_aload_n (M := M_Program_addRow) d_Program_addRow_0 rfl ?_
  refine mm_getf (M := M_Program_addRow) (u := .int (i 75)) 1 11 d_Program_addRow_1 fl_Program_46 wg_4 rfl ?_
  refine mm_istore_n (M := M_Program_addRow) d_Program_addRow_4 (Nat.le_of_ble_eq_true rfl) ?_
  refine mm_eqL (L' := [some (.ref 4), some (.int (i 75))]) rfl ?_
  refine mm_aload_n (M := M_Program_addRow) d_Program_addRow_5 rfl ?_
  refine mm_getf (M := M_Program_addRow) (u := .ref 12) 1 7 d_Program_addRow_6 fl_Program_33 wg_4 rfl ?_
  refine mm_iload_n (M := M_Program_addRow) d_Program_addRow_9 rfl ?_
  refine mm_iconst (M := M_Program_addRow) (v := (-1)) d_Program_addRow_10 (by decide) ?_
  obtain ⟨hin, h⟩ := h
  refine mm_iast (M := M_Program_addRow) (f := (a 12)) d_Program_addRow_11 wg_12 hin ?_
  refine mm_eqw wa_12 ?_
  refine mm_aload_n (M := M_Program_addRow) d_Program_addRow_12 rfl ?_
  refine mm_getf (M := M_Program_addRow) (u := .ref 13) 1 8 d_Program_addRow_13 fl_Program_36 wg_4 rfl ?_
  refine mm_iload_n (M := M_Program_addRow) d_Program_addRow_16 rfl ?_
  refine mm_iconst (M := M_Program_addRow) (v := (-1)) d_Program_addRow_17 (by decide) ?_
  obtain ⟨hin, h⟩ := h
  refine mm_iast (M := M_Program_addRow) (f := (a 13)) d_Program_addRow_18 wg_13 hin ?_
  refine mm_eqw wa_13 ?_
  refine mm_aload_n (M := M_Program_addRow) d_Program_addRow_19 rfl ?_
  refine mm_dup (M := M_Program_addRow) d_Program_addRow_20 rfl ?_
  refine mm_getf (M := M_Program_addRow) (u := .int (i 75)) 1 11 d_Program_addRow_21 fl_Program_46 wg_4 rfl ?_
  refine mm_iconst (M := M_Program_addRow) (v := 1) d_Program_addRow_24 (by decide) ?_
  refine mm_iadd (M := M_Program_addRow) d_Program_addRow_25 ?_
  refine mm_putf (M := M_Program_addRow) 1 11 .int d_Program_addRow_26 fl_Program_46 fp_Program_46 ft_1_11 wg_4 (Nat.le_of_ble_eq_true rfl) trivial ?_
  refine mm_eqw ws_75 ?_
  refine mm_iload_n (M := M_Program_addRow) d_Program_addRow_29 rfl ?_
  exact mm_retv (M := M_Program_addRow) ⟨_, rfl, rfl, d_Program_addRow_30⟩ ⟨_, _, _, _, _, rfl, rfl, h⟩
def wp_Program_addItem_4 (n1 n2 : Nat) (i : mm_i) (l : mm_j) (a : mm_a) (b : mm_b) (x1 : Int32) (x2 : Int32) (K : Int32 → mm_i → mm_j → mm_a → mm_b → Prop) : Prop :=
  vp_in (i 74) 32 ∧ (vp_in (i 74) 32 ∧ (vp_in (i 74) 32 ∧ (vp_in (i 74) 32 ∧ (vp_in (i 74) 32 ∧ (vp_in (i 74) 32 ∧ (vp_in (i 74) 32 ∧ (K (i 74) (upd i 74 ((i 74) + (1 : Int32))) l (mm_ua (mm_ua (mm_ua (mm_ua (mm_ua (mm_ua (mm_ua a 5 (upd (a 5) (i 74).toNatClampNeg x1)) 6 (upd (a 6) (i 74).toNatClampNeg x2)) 7 (upd (a 7) (i 74).toNatClampNeg 0)) 8 (upd (a 8) (i 74).toNatClampNeg 1)) 9 (upd (a 9) (i 74).toNatClampNeg 0)) 10 (upd (a 10) (i 74).toNatClampNeg (-1))) 11 (upd (a 11) (i 74).toNatClampNeg (-1))) b)))))))
set_option maxRecDepth 100000 in
set_option maxHeartbeats 4000000 in
theorem ct_Program_addItem_4 {n1 n2 : Nat} {i : mm_i} {l : mm_j} {a : mm_a} {b : mm_b} {t : mm_H} {x1 : Int32} {x2 : Int32} {K : Int32 → mm_i → mm_j → mm_a → mm_b → Prop} (h : wp_Program_addItem_4 n1 n2 i l a b x1 x2 K) : mm_Ct y_Program_addItem M_Program_addItem 0 0 0 [.ref 4, .int x1, .int x2] (Wd 4 22 n1 n2 i l a b ++ t) (mm_PI n1 n2 t K) := by
  refine mm_Ct.of (by decide) rfl (fun q => absurd q (by decide)) (Nat.le_of_ble_eq_true rfl) ?_
  unfold wp_Program_addItem_4 at h
  refine mm_eqL (L' := [some (.ref 4), some (.int x1), some (.int x2), none]) rfl ?_
  refine mm_aload_n (M := M_Program_addItem) d_Program_addItem_0 rfl ?_
  refine mm_getf (M := M_Program_addItem) (u := .int (i 74)) 1 10 d_Program_addItem_1 fl_Program_42 wg_4 rfl ?_
  refine mm_istore_n (M := M_Program_addItem) d_Program_addItem_4 (Nat.le_of_ble_eq_true rfl) ?_
  refine mm_eqL (L' := [some (.ref 4), some (.int x1), some (.int x2), some (.int (i 74))]) rfl ?_
  refine mm_aload_n (M := M_Program_addItem) d_Program_addItem_5 rfl ?_
  refine mm_getf (M := M_Program_addItem) (u := .ref 5) 1 0 d_Program_addItem_6 fl_Program_9 wg_4 rfl ?_
  refine mm_iload_n (M := M_Program_addItem) d_Program_addItem_9 rfl ?_
  refine mm_iload_n (M := M_Program_addItem) d_Program_addItem_10 rfl ?_
  obtain ⟨hin, h⟩ := h
  refine mm_iast (M := M_Program_addItem) (f := (a 5)) d_Program_addItem_11 wg_5 hin ?_
  refine mm_eqw wa_5 ?_
  refine mm_aload_n (M := M_Program_addItem) d_Program_addItem_12 rfl ?_
  refine mm_getf (M := M_Program_addItem) (u := .ref 6) 1 1 d_Program_addItem_13 fl_Program_15 wg_4 rfl ?_
  refine mm_iload_n (M := M_Program_addItem) d_Program_addItem_16 rfl ?_
  refine mm_iload_n (M := M_Program_addItem) d_Program_addItem_17 rfl ?_
  obtain ⟨hin, h⟩ := h
  refine mm_iast (M := M_Program_addItem) (f := (a 6)) d_Program_addItem_18 wg_6 hin ?_
  refine mm_eqw wa_6 ?_
  refine mm_aload_n (M := M_Program_addItem) d_Program_addItem_19 rfl ?_
  refine mm_getf (M := M_Program_addItem) (u := .ref 7) 1 2 d_Program_addItem_20 fl_Program_18 wg_4 rfl ?_
  refine mm_iload_n (M := M_Program_addItem) d_Program_addItem_23 rfl ?_
  refine mm_iconst (M := M_Program_addItem) (v := 0) d_Program_addItem_24 (by decide) ?_
  obtain ⟨hin, h⟩ := h
  refine mm_iast (M := M_Program_addItem) (f := (a 7)) d_Program_addItem_25 wg_7 hin ?_
  refine mm_eqw wa_7 ?_
  refine mm_aload_n (M := M_Program_addItem) d_Program_addItem_26 rfl ?_
  refine mm_getf (M := M_Program_addItem) (u := .ref 8) 1 3 d_Program_addItem_27 fl_Program_21 wg_4 rfl ?_
  refine mm_iload_n (M := M_Program_addItem) d_Program_addItem_30 rfl ?_
  refine mm_iconst (M := M_Program_addItem) (v := 1) d_Program_addItem_31 (by decide) ?_
  obtain ⟨hin, h⟩ := h
  refine mm_iast (M := M_Program_addItem) (f := (a 8)) d_Program_addItem_32 wg_8 hin ?_
  refine mm_eqw wa_8 ?_
  refine mm_aload_n (M := M_Program_addItem) d_Program_addItem_33 rfl ?_
  refine mm_getf (M := M_Program_addItem) (u := .ref 9) 1 4 d_Program_addItem_34 fl_Program_24 wg_4 rfl ?_
  refine mm_iload_n (M := M_Program_addItem) d_Program_addItem_37 rfl ?_
  refine mm_iconst (M := M_Program_addItem) (v := 0) d_Program_addItem_38 (by decide) ?_
  obtain ⟨hin, h⟩ := h
  refine mm_iast (M := M_Program_addItem) (f := (a 9)) d_Program_addItem_39 wg_9 hin ?_
  refine mm_eqw wa_9 ?_
  refine mm_aload_n (M := M_Program_addItem) d_Program_addItem_40 rfl ?_
  refine mm_getf (M := M_Program_addItem) (u := .ref 10) 1 5 d_Program_addItem_41 fl_Program_27 wg_4 rfl ?_
  refine mm_iload_n (M := M_Program_addItem) d_Program_addItem_44 rfl ?_
  refine mm_iconst (M := M_Program_addItem) (v := (-1)) d_Program_addItem_45 (by decide) ?_
  obtain ⟨hin, h⟩ := h
  refine mm_iast (M := M_Program_addItem) (f := (a 10)) d_Program_addItem_46 wg_10 hin ?_
  refine mm_eqw wa_10 ?_
  refine mm_aload_n (M := M_Program_addItem) d_Program_addItem_47 rfl ?_
  refine mm_getf (M := M_Program_addItem) (u := .ref 11) 1 6 d_Program_addItem_48 fl_Program_30 wg_4 rfl ?_
  refine mm_iload_n (M := M_Program_addItem) d_Program_addItem_51 rfl ?_
  refine mm_iconst (M := M_Program_addItem) (v := (-1)) d_Program_addItem_52 (by decide) ?_
  obtain ⟨hin, h⟩ := h
  refine mm_iast (M := M_Program_addItem) (f := (a 11)) d_Program_addItem_53 wg_11 hin ?_
  refine mm_eqw wa_11 ?_
  refine mm_aload_n (M := M_Program_addItem) d_Program_addItem_54 rfl ?_
  refine mm_dup (M := M_Program_addItem) d_Program_addItem_55 rfl ?_
  refine mm_getf (M := M_Program_addItem) (u := .int (i 74)) 1 10 d_Program_addItem_56 fl_Program_42 wg_4 rfl ?_
  refine mm_iconst (M := M_Program_addItem) (v := 1) d_Program_addItem_59 (by decide) ?_
  refine mm_iadd (M := M_Program_addItem) d_Program_addItem_60 ?_
  refine mm_putf (M := M_Program_addItem) 1 10 .int d_Program_addItem_61 fl_Program_42 fp_Program_42 ft_1_10 wg_4 (Nat.le_of_ble_eq_true rfl) trivial ?_
  refine mm_eqw ws_74 ?_
  refine mm_iload_n (M := M_Program_addItem) d_Program_addItem_64 rfl ?_
  exact mm_retv (M := M_Program_addItem) ⟨_, rfl, rfl, d_Program_addItem_65⟩ ⟨_, _, _, _, _, rfl, rfl, h⟩
def wp_Frames_empty_33 (n1 n2 : Nat) (i : mm_i) (l : mm_j) (a : mm_a) (b : mm_b)  (K : mm_i → mm_j → mm_a → mm_b → Prop) : Prop :=
  K (upd i 535 1) l a b
set_option maxRecDepth 100000 in
set_option maxHeartbeats 4000000 in
theorem ct_Frames_empty_33 {n1 n2 : Nat} {i : mm_i} {l : mm_j} {a : mm_a} {b : mm_b} {t : mm_H}  {K : mm_i → mm_j → mm_a → mm_b → Prop} (h : wp_Frames_empty_33 n1 n2 i l a b  K) : mm_Ct y_Frames_empty M_Frames_empty 0 0 0 [.ref 33] (Wd 4 22 n1 n2 i l a b ++ t) (mm_PV n1 n2 t K) := by
  refine mm_Ct.of (by decide) rfl (fun q => absurd q (by decide)) (Nat.le_of_ble_eq_true rfl) ?_
  unfold wp_Frames_empty_33 at h
  refine mm_eqL (L' := [some (.ref 33)]) rfl ?_
  refine mm_aload_n (M := M_Frames_empty) d_Frames_empty_0 rfl ?_
  refine mm_iconst (M := M_Frames_empty) (v := 1) d_Frames_empty_1 (by decide) ?_
  refine mm_putf (M := M_Frames_empty) 3 7 .int d_Frames_empty_2 fl_Frames_7 fp_Frames_7 ft_3_7 wg_33 (Nat.le_of_ble_eq_true rfl) trivial ?_
  refine mm_eqw ws_535 ?_
  exact mm_ret (M := M_Frames_empty) ⟨rfl, d_Frames_empty_5⟩ ⟨_, _, _, _, rfl, rfl, h⟩
def wp_Frames_hasRoom_33 (n1 n2 : Nat) (i : mm_i) (l : mm_j) (a : mm_a) (b : mm_b) (x1 : Int32) (K : Int32 → mm_i → mm_j → mm_a → mm_b → Prop) : Prop :=
  ((nI n1) < ((i 535) + x1) → K 0 i l a b) ∧ (¬ (nI n1) < ((i 535) + x1) → K 1 i l a b)
set_option maxRecDepth 100000 in
set_option maxHeartbeats 4000000 in
theorem ct_Frames_hasRoom_33 {n1 n2 : Nat} {i : mm_i} {l : mm_j} {a : mm_a} {b : mm_b} {t : mm_H} {x1 : Int32} {K : Int32 → mm_i → mm_j → mm_a → mm_b → Prop} (h : wp_Frames_hasRoom_33 n1 n2 i l a b x1 K) : mm_Ct y_Frames_hasRoom M_Frames_hasRoom 0 0 0 [.ref 33, .int x1] (Wd 4 22 n1 n2 i l a b ++ t) (mm_PI n1 n2 t K) := by
  refine mm_Ct.of (by decide) rfl (fun q => absurd q (by decide)) (Nat.le_of_ble_eq_true rfl) ?_
  unfold wp_Frames_hasRoom_33 at h
  refine mm_eqL (L' := [some (.ref 33), some (.int x1)]) rfl ?_
  refine mm_aload_n (M := M_Frames_hasRoom) d_Frames_hasRoom_0 rfl ?_
  refine mm_getf (M := M_Frames_hasRoom) (u := .int (i 535)) 3 7 d_Frames_hasRoom_1 fl_Frames_7 wg_33 rfl ?_
  refine mm_iload_n (M := M_Frames_hasRoom) d_Frames_hasRoom_4 rfl ?_
  refine mm_iadd (M := M_Frames_hasRoom) d_Frames_hasRoom_5 ?_
  refine mm_aload_n (M := M_Frames_hasRoom) d_Frames_hasRoom_6 rfl ?_
  refine mm_getf (M := M_Frames_hasRoom) (u := .ref 34) 3 0 d_Frames_hasRoom_7 fl_Frames_13 wg_33 rfl ?_
  refine mm_alen0 (M := M_Frames_hasRoom) (v := nI n1) d_Frames_hasRoom_10 wg_34 rfl ?_
  refine mm_icmp_gt (M := M_Frames_hasRoom) 18 d_Frames_hasRoom_11 (by decide) (fun c => ?_) (fun c => ?_)
  · have h := h.1 c
    refine mm_iconst (M := M_Frames_hasRoom) (v := 0) d_Frames_hasRoom_18 (by decide) ?_
    exact mm_retv (M := M_Frames_hasRoom) ⟨_, rfl, (by decide), d_Frames_hasRoom_19⟩ ⟨_, _, _, _, _, rfl, rfl, h⟩
  · have h := h.2 c
    refine mm_iconst (M := M_Frames_hasRoom) (v := 1) d_Frames_hasRoom_14 (by decide) ?_
    refine mm_goto (M := M_Frames_hasRoom) (tgt := 19) d_Frames_hasRoom_15 (by decide) ?_
    exact mm_retv (M := M_Frames_hasRoom) ⟨_, rfl, (by decide), d_Frames_hasRoom_19⟩ ⟨_, _, _, _, _, rfl, rfl, h⟩
def wp_Frames_add_33 (n1 n2 : Nat) (i : mm_i) (l : mm_j) (a : mm_a) (b : mm_b) (x1 : Int32) (x2 : Int32) (x3 : Int32) (x4 : Int32) (x5 : Int64) (x6 : Int32) (K : Int32 → mm_i → mm_j → mm_a → mm_b → Prop) : Prop :=
  vp_in (i 535) n1 ∧ (vp_in (i 535) n1 ∧ (vp_in (i 535) n1 ∧ (vp_in (i 535) n1 ∧ (vp_in (i 535) n1 ∧ (vp_in (i 535) n1 ∧ ((¬ x1 = (2 : Int32) → vp_in x6 n1 ∧ (vp_in (i 535) n1 ∧ (K (i 535) (upd i 535 ((i 535) + (1 : Int32))) l (mm_ua (mm_ua (mm_ua (mm_ua (mm_ua (mm_ua a 34 (upd (a 34) (i 535).toNatClampNeg x1)) 35 (upd (a 35) (i 535).toNatClampNeg x2)) 36 (upd (a 36) (i 535).toNatClampNeg x3)) 37 (upd (a 37) (i 535).toNatClampNeg x4)) 39 (upd (a 39) (i 535).toNatClampNeg x6)) 40 (upd (a 40) (i 535).toNatClampNeg ((a 40) x6.toNatClampNeg))) (mm_ub b 38 (vp_updL (b 38) (i 535).toNatClampNeg x5))))) ∧ (x1 = (2 : Int32) → vp_in x6 n1 ∧ (vp_in (i 535) n1 ∧ (K (i 535) (upd i 535 ((i 535) + (1 : Int32))) l (mm_ua (mm_ua (mm_ua (mm_ua (mm_ua (mm_ua a 34 (upd (a 34) (i 535).toNatClampNeg x1)) 35 (upd (a 35) (i 535).toNatClampNeg x2)) 36 (upd (a 36) (i 535).toNatClampNeg x3)) 37 (upd (a 37) (i 535).toNatClampNeg x4)) 39 (upd (a 39) (i 535).toNatClampNeg x6)) 40 (upd (a 40) (i 535).toNatClampNeg (((a 40) x6.toNatClampNeg) + (1 : Int32)))) (mm_ub b 38 (vp_updL (b 38) (i 535).toNatClampNeg x5)))))))))))
set_option maxRecDepth 100000 in
set_option maxHeartbeats 4000000 in
theorem ct_Frames_add_33 {n1 n2 : Nat} {i : mm_i} {l : mm_j} {a : mm_a} {b : mm_b} {t : mm_H} {x1 : Int32} {x2 : Int32} {x3 : Int32} {x4 : Int32} {x5 : Int64} {x6 : Int32} {K : Int32 → mm_i → mm_j → mm_a → mm_b → Prop} (h : wp_Frames_add_33 n1 n2 i l a b x1 x2 x3 x4 x5 x6 K) : mm_Ct y_Frames_add M_Frames_add 0 0 0 [.ref 33, .int x1, .int x2, .int x3, .int x4, .long x5, .int x6] (Wd 4 22 n1 n2 i l a b ++ t) (mm_PI n1 n2 t K) := by
  refine mm_Ct.of (by decide) rfl (fun q => absurd q (by decide)) (Nat.le_of_ble_eq_true rfl) ?_
  unfold wp_Frames_add_33 at h
  refine mm_eqL (L' := [some (.ref 33), some (.int x1), some (.int x2), some (.int x3), some (.int x4), some (.long x5), none, some (.int x6), none]) rfl ?_
  refine mm_aload_n (M := M_Frames_add) d_Frames_add_0 rfl ?_
  refine mm_getf (M := M_Frames_add) (u := .int (i 535)) 3 7 d_Frames_add_1 fl_Frames_7 wg_33 rfl ?_
  refine mm_istore (M := M_Frames_add) d_Frames_add_4 (Nat.le_of_ble_eq_true rfl) ?_
  refine mm_eqL (L' := [some (.ref 33), some (.int x1), some (.int x2), some (.int x3), some (.int x4), some (.long x5), none, some (.int x6), some (.int (i 535))]) rfl ?_
  refine mm_aload_n (M := M_Frames_add) d_Frames_add_6 rfl ?_
  refine mm_getf (M := M_Frames_add) (u := .ref 34) 3 0 d_Frames_add_7 fl_Frames_13 wg_33 rfl ?_
  refine mm_iload (M := M_Frames_add) d_Frames_add_10 rfl ?_
  refine mm_iload_n (M := M_Frames_add) d_Frames_add_12 rfl ?_
  obtain ⟨hin, h⟩ := h
  refine mm_iast (M := M_Frames_add) (f := (a 34)) d_Frames_add_13 wg_34 hin ?_
  refine mm_eqw wa_34 ?_
  refine mm_aload_n (M := M_Frames_add) d_Frames_add_14 rfl ?_
  refine mm_getf (M := M_Frames_add) (u := .ref 35) 3 1 d_Frames_add_15 fl_Frames_17 wg_33 rfl ?_
  refine mm_iload (M := M_Frames_add) d_Frames_add_18 rfl ?_
  refine mm_iload_n (M := M_Frames_add) d_Frames_add_20 rfl ?_
  obtain ⟨hin, h⟩ := h
  refine mm_iast (M := M_Frames_add) (f := (a 35)) d_Frames_add_21 wg_35 hin ?_
  refine mm_eqw wa_35 ?_
  refine mm_aload_n (M := M_Frames_add) d_Frames_add_22 rfl ?_
  refine mm_getf (M := M_Frames_add) (u := .ref 36) 3 2 d_Frames_add_23 fl_Frames_20 wg_33 rfl ?_
  refine mm_iload (M := M_Frames_add) d_Frames_add_26 rfl ?_
  refine mm_iload_n (M := M_Frames_add) d_Frames_add_28 rfl ?_
  obtain ⟨hin, h⟩ := h
  refine mm_iast (M := M_Frames_add) (f := (a 36)) d_Frames_add_29 wg_36 hin ?_
  refine mm_eqw wa_36 ?_
  refine mm_aload_n (M := M_Frames_add) d_Frames_add_30 rfl ?_
  refine mm_getf (M := M_Frames_add) (u := .ref 37) 3 3 d_Frames_add_31 fl_Frames_23 wg_33 rfl ?_
  refine mm_iload (M := M_Frames_add) d_Frames_add_34 rfl ?_
  refine mm_iload (M := M_Frames_add) d_Frames_add_36 rfl ?_
  obtain ⟨hin, h⟩ := h
  refine mm_iast (M := M_Frames_add) (f := (a 37)) d_Frames_add_38 wg_37 hin ?_
  refine mm_eqw wa_37 ?_
  refine mm_aload_n (M := M_Frames_add) d_Frames_add_39 rfl ?_
  refine mm_getf (M := M_Frames_add) (u := .ref 38) 3 4 d_Frames_add_40 fl_Frames_26 wg_33 rfl ?_
  refine mm_iload (M := M_Frames_add) d_Frames_add_43 rfl ?_
  refine mm_lload (M := M_Frames_add) d_Frames_add_45 rfl ?_
  obtain ⟨hin, h⟩ := h
  refine mm_last (M := M_Frames_add) (f := (b 38)) d_Frames_add_47 wg_38 hin ?_
  refine mm_eqw wa_38 ?_
  refine mm_aload_n (M := M_Frames_add) d_Frames_add_48 rfl ?_
  refine mm_getf (M := M_Frames_add) (u := .ref 39) 3 5 d_Frames_add_49 fl_Frames_30 wg_33 rfl ?_
  refine mm_iload (M := M_Frames_add) d_Frames_add_52 rfl ?_
  refine mm_iload (M := M_Frames_add) d_Frames_add_54 rfl ?_
  obtain ⟨hin, h⟩ := h
  refine mm_iast (M := M_Frames_add) (f := (a 39)) d_Frames_add_56 wg_39 hin ?_
  refine mm_eqw wa_39 ?_
  refine mm_aload_n (M := M_Frames_add) d_Frames_add_57 rfl ?_
  refine mm_getf (M := M_Frames_add) (u := .ref 40) 3 6 d_Frames_add_58 fl_Frames_33 wg_33 rfl ?_
  refine mm_iload (M := M_Frames_add) d_Frames_add_61 rfl ?_
  refine mm_iload_n (M := M_Frames_add) d_Frames_add_63 rfl ?_
  refine mm_iconst (M := M_Frames_add) (v := 2) d_Frames_add_64 (by decide) ?_
  refine mm_icmp_ne (M := M_Frames_add) 80 d_Frames_add_65 (by decide) (fun c => ?_) (fun c => ?_)
  · have h := h.1 c
    refine mm_aload_n (M := M_Frames_add) d_Frames_add_80 rfl ?_
    refine mm_getf (M := M_Frames_add) (u := .ref 40) 3 6 d_Frames_add_81 fl_Frames_33 wg_33 rfl ?_
    refine mm_iload (M := M_Frames_add) d_Frames_add_84 rfl ?_
    obtain ⟨hin, h⟩ := h
    refine mm_iald (M := M_Frames_add) (f := (a 40)) d_Frames_add_86 wg_40 hin ?_
    obtain ⟨hin, h⟩ := h
    refine mm_iast (M := M_Frames_add) (f := (a 40)) d_Frames_add_87 wg_40 hin ?_
    refine mm_eqw wa_40 ?_
    refine mm_aload_n (M := M_Frames_add) d_Frames_add_88 rfl ?_
    refine mm_dup (M := M_Frames_add) d_Frames_add_89 rfl ?_
    refine mm_getf (M := M_Frames_add) (u := .int (i 535)) 3 7 d_Frames_add_90 fl_Frames_7 wg_33 rfl ?_
    refine mm_iconst (M := M_Frames_add) (v := 1) d_Frames_add_93 (by decide) ?_
    refine mm_iadd (M := M_Frames_add) d_Frames_add_94 ?_
    refine mm_putf (M := M_Frames_add) 3 7 .int d_Frames_add_95 fl_Frames_7 fp_Frames_7 ft_3_7 wg_33 (Nat.le_of_ble_eq_true rfl) trivial ?_
    refine mm_eqw ws_535 ?_
    refine mm_iload (M := M_Frames_add) d_Frames_add_98 rfl ?_
    exact mm_retv (M := M_Frames_add) ⟨_, rfl, rfl, d_Frames_add_100⟩ ⟨_, _, _, _, _, rfl, rfl, h⟩
  · have h := h.2 c
    refine mm_aload_n (M := M_Frames_add) d_Frames_add_68 rfl ?_
    refine mm_getf (M := M_Frames_add) (u := .ref 40) 3 6 d_Frames_add_69 fl_Frames_33 wg_33 rfl ?_
    refine mm_iload (M := M_Frames_add) d_Frames_add_72 rfl ?_
    obtain ⟨hin, h⟩ := h
    refine mm_iald (M := M_Frames_add) (f := (a 40)) d_Frames_add_74 wg_40 hin ?_
    refine mm_iconst (M := M_Frames_add) (v := 1) d_Frames_add_75 (by decide) ?_
    refine mm_iadd (M := M_Frames_add) d_Frames_add_76 ?_
    refine mm_goto (M := M_Frames_add) (tgt := 87) d_Frames_add_77 (by decide) ?_
    obtain ⟨hin, h⟩ := h
    refine mm_iast (M := M_Frames_add) (f := (a 40)) d_Frames_add_87 wg_40 hin ?_
    refine mm_eqw wa_40 ?_
    refine mm_aload_n (M := M_Frames_add) d_Frames_add_88 rfl ?_
    refine mm_dup (M := M_Frames_add) d_Frames_add_89 rfl ?_
    refine mm_getf (M := M_Frames_add) (u := .int (i 535)) 3 7 d_Frames_add_90 fl_Frames_7 wg_33 rfl ?_
    refine mm_iconst (M := M_Frames_add) (v := 1) d_Frames_add_93 (by decide) ?_
    refine mm_iadd (M := M_Frames_add) d_Frames_add_94 ?_
    refine mm_putf (M := M_Frames_add) 3 7 .int d_Frames_add_95 fl_Frames_7 fp_Frames_7 ft_3_7 wg_33 (Nat.le_of_ble_eq_true rfl) trivial ?_
    refine mm_eqw ws_535 ?_
    refine mm_iload (M := M_Frames_add) d_Frames_add_98 rfl ?_
    exact mm_retv (M := M_Frames_add) ⟨_, rfl, rfl, d_Frames_add_100⟩ ⟨_, _, _, _, _, rfl, rfl, h⟩
def wp_Choices_hasRoom_41 (n1 n2 : Nat) (i : mm_i) (l : mm_j) (a : mm_a) (b : mm_b) (x1 : Int32) (K : Int32 → mm_i → mm_j → mm_a → mm_b → Prop) : Prop :=
  ((nI n2) < ((i 661) + x1) → K 0 i l a b) ∧ (¬ (nI n2) < ((i 661) + x1) → K 1 i l a b)
set_option maxRecDepth 100000 in
set_option maxHeartbeats 4000000 in
theorem ct_Choices_hasRoom_41 {n1 n2 : Nat} {i : mm_i} {l : mm_j} {a : mm_a} {b : mm_b} {t : mm_H} {x1 : Int32} {K : Int32 → mm_i → mm_j → mm_a → mm_b → Prop} (h : wp_Choices_hasRoom_41 n1 n2 i l a b x1 K) : mm_Ct y_Choices_hasRoom M_Choices_hasRoom 0 0 0 [.ref 41, .int x1] (Wd 4 22 n1 n2 i l a b ++ t) (mm_PI n1 n2 t K) := by
  refine mm_Ct.of (by decide) rfl (fun q => absurd q (by decide)) (Nat.le_of_ble_eq_true rfl) ?_
  unfold wp_Choices_hasRoom_41 at h
  refine mm_eqL (L' := [some (.ref 41), some (.int x1)]) rfl ?_
  refine mm_aload_n (M := M_Choices_hasRoom) d_Choices_hasRoom_0 rfl ?_
  refine mm_getf (M := M_Choices_hasRoom) (u := .int (i 661)) 4 5 d_Choices_hasRoom_1 fl_Choices_7 wg_41 rfl ?_
  refine mm_iload_n (M := M_Choices_hasRoom) d_Choices_hasRoom_4 rfl ?_
  refine mm_iadd (M := M_Choices_hasRoom) d_Choices_hasRoom_5 ?_
  refine mm_aload_n (M := M_Choices_hasRoom) d_Choices_hasRoom_6 rfl ?_
  refine mm_getf (M := M_Choices_hasRoom) (u := .ref 42) 4 0 d_Choices_hasRoom_7 fl_Choices_13 wg_41 rfl ?_
  refine mm_alen0 (M := M_Choices_hasRoom) (v := nI n2) d_Choices_hasRoom_10 wg_42 rfl ?_
  refine mm_icmp_gt (M := M_Choices_hasRoom) 18 d_Choices_hasRoom_11 (by decide) (fun c => ?_) (fun c => ?_)
  · have h := h.1 c
    refine mm_iconst (M := M_Choices_hasRoom) (v := 0) d_Choices_hasRoom_18 (by decide) ?_
    exact mm_retv (M := M_Choices_hasRoom) ⟨_, rfl, (by decide), d_Choices_hasRoom_19⟩ ⟨_, _, _, _, _, rfl, rfl, h⟩
  · have h := h.2 c
    refine mm_iconst (M := M_Choices_hasRoom) (v := 1) d_Choices_hasRoom_14 (by decide) ?_
    refine mm_goto (M := M_Choices_hasRoom) (tgt := 19) d_Choices_hasRoom_15 (by decide) ?_
    exact mm_retv (M := M_Choices_hasRoom) ⟨_, rfl, (by decide), d_Choices_hasRoom_19⟩ ⟨_, _, _, _, _, rfl, rfl, h⟩
def wp_Choices_add_41 (n1 n2 : Nat) (i : mm_i) (l : mm_j) (a : mm_a) (b : mm_b) (x1 : Int32) (x2 : Int32) (x3 : Int32) (x4 : Int64) (x5 : Int32) (K : mm_i → mm_j → mm_a → mm_b → Prop) : Prop :=
  vp_in (i 661) n2 ∧ (vp_in (i 661) n2 ∧ (vp_in (i 661) n2 ∧ (vp_in (i 661) n2 ∧ (vp_in (i 661) n2 ∧ (K (upd i 661 ((i 661) + (1 : Int32))) l (mm_ua (mm_ua (mm_ua (mm_ua a 42 (upd (a 42) (i 661).toNatClampNeg x1)) 43 (upd (a 43) (i 661).toNatClampNeg x2)) 44 (upd (a 44) (i 661).toNatClampNeg x3)) 46 (upd (a 46) (i 661).toNatClampNeg x5)) (mm_ub b 45 (vp_updL (b 45) (i 661).toNatClampNeg x4)))))))
set_option maxRecDepth 100000 in
set_option maxHeartbeats 4000000 in
theorem ct_Choices_add_41 {n1 n2 : Nat} {i : mm_i} {l : mm_j} {a : mm_a} {b : mm_b} {t : mm_H} {x1 : Int32} {x2 : Int32} {x3 : Int32} {x4 : Int64} {x5 : Int32} {K : mm_i → mm_j → mm_a → mm_b → Prop} (h : wp_Choices_add_41 n1 n2 i l a b x1 x2 x3 x4 x5 K) : mm_Ct y_Choices_add M_Choices_add 0 0 0 [.ref 41, .int x1, .int x2, .int x3, .long x4, .int x5] (Wd 4 22 n1 n2 i l a b ++ t) (mm_PV n1 n2 t K) := by
  refine mm_Ct.of (by decide) rfl (fun q => absurd q (by decide)) (Nat.le_of_ble_eq_true rfl) ?_
  unfold wp_Choices_add_41 at h
  refine mm_eqL (L' := [some (.ref 41), some (.int x1), some (.int x2), some (.int x3), some (.long x4), none, some (.int x5)]) rfl ?_
  refine mm_aload_n (M := M_Choices_add) d_Choices_add_0 rfl ?_
  refine mm_getf (M := M_Choices_add) (u := .ref 42) 4 0 d_Choices_add_1 fl_Choices_13 wg_41 rfl ?_
  refine mm_aload_n (M := M_Choices_add) d_Choices_add_4 rfl ?_
  refine mm_getf (M := M_Choices_add) (u := .int (i 661)) 4 5 d_Choices_add_5 fl_Choices_7 wg_41 rfl ?_
  refine mm_iload_n (M := M_Choices_add) d_Choices_add_8 rfl ?_
  obtain ⟨hin, h⟩ := h
  refine mm_iast (M := M_Choices_add) (f := (a 42)) d_Choices_add_9 wg_42 hin ?_
  refine mm_eqw wa_42 ?_
  refine mm_aload_n (M := M_Choices_add) d_Choices_add_10 rfl ?_
  refine mm_getf (M := M_Choices_add) (u := .ref 43) 4 1 d_Choices_add_11 fl_Choices_17 wg_41 rfl ?_
  refine mm_aload_n (M := M_Choices_add) d_Choices_add_14 rfl ?_
  refine mm_getf (M := M_Choices_add) (u := .int (i 661)) 4 5 d_Choices_add_15 fl_Choices_7 wg_41 rfl ?_
  refine mm_iload_n (M := M_Choices_add) d_Choices_add_18 rfl ?_
  obtain ⟨hin, h⟩ := h
  refine mm_iast (M := M_Choices_add) (f := (a 43)) d_Choices_add_19 wg_43 hin ?_
  refine mm_eqw wa_43 ?_
  refine mm_aload_n (M := M_Choices_add) d_Choices_add_20 rfl ?_
  refine mm_getf (M := M_Choices_add) (u := .ref 44) 4 2 d_Choices_add_21 fl_Choices_20 wg_41 rfl ?_
  refine mm_aload_n (M := M_Choices_add) d_Choices_add_24 rfl ?_
  refine mm_getf (M := M_Choices_add) (u := .int (i 661)) 4 5 d_Choices_add_25 fl_Choices_7 wg_41 rfl ?_
  refine mm_iload_n (M := M_Choices_add) d_Choices_add_28 rfl ?_
  obtain ⟨hin, h⟩ := h
  refine mm_iast (M := M_Choices_add) (f := (a 44)) d_Choices_add_29 wg_44 hin ?_
  refine mm_eqw wa_44 ?_
  refine mm_aload_n (M := M_Choices_add) d_Choices_add_30 rfl ?_
  refine mm_getf (M := M_Choices_add) (u := .ref 45) 4 3 d_Choices_add_31 fl_Choices_23 wg_41 rfl ?_
  refine mm_aload_n (M := M_Choices_add) d_Choices_add_34 rfl ?_
  refine mm_getf (M := M_Choices_add) (u := .int (i 661)) 4 5 d_Choices_add_35 fl_Choices_7 wg_41 rfl ?_
  refine mm_lload (M := M_Choices_add) d_Choices_add_38 rfl ?_
  obtain ⟨hin, h⟩ := h
  refine mm_last (M := M_Choices_add) (f := (b 45)) d_Choices_add_40 wg_45 hin ?_
  refine mm_eqw wa_45 ?_
  refine mm_aload_n (M := M_Choices_add) d_Choices_add_41 rfl ?_
  refine mm_getf (M := M_Choices_add) (u := .ref 46) 4 4 d_Choices_add_42 fl_Choices_27 wg_41 rfl ?_
  refine mm_aload_n (M := M_Choices_add) d_Choices_add_45 rfl ?_
  refine mm_getf (M := M_Choices_add) (u := .int (i 661)) 4 5 d_Choices_add_46 fl_Choices_7 wg_41 rfl ?_
  refine mm_iload (M := M_Choices_add) d_Choices_add_49 rfl ?_
  obtain ⟨hin, h⟩ := h
  refine mm_iast (M := M_Choices_add) (f := (a 46)) d_Choices_add_51 wg_46 hin ?_
  refine mm_eqw wa_46 ?_
  refine mm_aload_n (M := M_Choices_add) d_Choices_add_52 rfl ?_
  refine mm_dup (M := M_Choices_add) d_Choices_add_53 rfl ?_
  refine mm_getf (M := M_Choices_add) (u := .int (i 661)) 4 5 d_Choices_add_54 fl_Choices_7 wg_41 rfl ?_
  refine mm_iconst (M := M_Choices_add) (v := 1) d_Choices_add_57 (by decide) ?_
  refine mm_iadd (M := M_Choices_add) d_Choices_add_58 ?_
  refine mm_putf (M := M_Choices_add) 4 5 .int d_Choices_add_59 fl_Choices_7 fp_Choices_7 ft_4_5 wg_41 (Nat.le_of_ble_eq_true rfl) trivial ?_
  refine mm_eqw ws_661 ?_
  exact mm_ret (M := M_Choices_add) ⟨rfl, d_Choices_add_62⟩ ⟨_, _, _, _, rfl, rfl, h⟩
def wp_Choices_cutTo_41 (n1 n2 : Nat) (i : mm_i) (l : mm_j) (a : mm_a) (b : mm_b) (x1 : Int32) (K : mm_i → mm_j → mm_a → mm_b → Prop) : Prop :=
  ((i 661) ≤ x1 → K i l a b) ∧ (¬ (i 661) ≤ x1 → K (upd i 661 x1) l a b)
set_option maxRecDepth 100000 in
set_option maxHeartbeats 4000000 in
theorem ct_Choices_cutTo_41 {n1 n2 : Nat} {i : mm_i} {l : mm_j} {a : mm_a} {b : mm_b} {t : mm_H} {x1 : Int32} {K : mm_i → mm_j → mm_a → mm_b → Prop} (h : wp_Choices_cutTo_41 n1 n2 i l a b x1 K) : mm_Ct y_Choices_cutTo M_Choices_cutTo 0 0 0 [.ref 41, .int x1] (Wd 4 22 n1 n2 i l a b ++ t) (mm_PV n1 n2 t K) := by
  refine mm_Ct.of (by decide) rfl (fun q => absurd q (by decide)) (Nat.le_of_ble_eq_true rfl) ?_
  unfold wp_Choices_cutTo_41 at h
  refine mm_eqL (L' := [some (.ref 41), some (.int x1)]) rfl ?_
  refine mm_iload_n (M := M_Choices_cutTo) d_Choices_cutTo_0 rfl ?_
  refine mm_aload_n (M := M_Choices_cutTo) d_Choices_cutTo_1 rfl ?_
  refine mm_getf (M := M_Choices_cutTo) (u := .int (i 661)) 4 5 d_Choices_cutTo_2 fl_Choices_7 wg_41 rfl ?_
  refine mm_icmp_ge (M := M_Choices_cutTo) 13 d_Choices_cutTo_5 (by decide) (fun c => ?_) (fun c => ?_)
  · have h := h.1 c
    exact mm_ret (M := M_Choices_cutTo) ⟨rfl, d_Choices_cutTo_13⟩ ⟨_, _, _, _, rfl, rfl, h⟩
  · have h := h.2 c
    refine mm_aload_n (M := M_Choices_cutTo) d_Choices_cutTo_8 rfl ?_
    refine mm_iload_n (M := M_Choices_cutTo) d_Choices_cutTo_9 rfl ?_
    refine mm_putf (M := M_Choices_cutTo) 4 5 .int d_Choices_cutTo_10 fl_Choices_7 fp_Choices_7 ft_4_5 wg_41 (Nat.le_of_ble_eq_true rfl) trivial ?_
    refine mm_eqw ws_661 ?_
    exact mm_ret (M := M_Choices_cutTo) ⟨rfl, d_Choices_cutTo_13⟩ ⟨_, _, _, _, rfl, rfl, h⟩
def wp_Bench_isLetter (n1 n2 : Nat) (i : mm_i) (l : mm_j) (a : mm_a) (b : mm_b) (x1 : Int32) (K : Int32 → mm_i → mm_j → mm_a → mm_b → Prop) : Prop :=
  (x1 < (97 : Int32) → K 0 i l a b) ∧ (¬ x1 < (97 : Int32) → ((122 : Int32) < x1 → K 0 i l a b) ∧ (¬ (122 : Int32) < x1 → K 1 i l a b))
set_option maxRecDepth 100000 in
set_option maxHeartbeats 4000000 in
theorem ct_Bench_isLetter {n1 n2 : Nat} {i : mm_i} {l : mm_j} {a : mm_a} {b : mm_b} {t : mm_H} {x1 : Int32} {K : Int32 → mm_i → mm_j → mm_a → mm_b → Prop} (h : wp_Bench_isLetter n1 n2 i l a b x1 K) : mm_Ct y_Bench_isLetter M_Bench_isLetter 0 0 0 [.int x1] (Wd 4 22 n1 n2 i l a b ++ t) (mm_PI n1 n2 t K) := by
  refine mm_Ct.of (by decide) rfl (fun q => absurd q (by decide)) (Nat.le_of_ble_eq_true rfl) ?_
  unfold wp_Bench_isLetter at h
  refine mm_eqL (L' := [some (.int x1)]) rfl ?_
  refine mm_iload_n (M := M_Bench_isLetter) d_Bench_isLetter_0 rfl ?_
  refine mm_bipush (M := M_Bench_isLetter) (v := 97) d_Bench_isLetter_1 (by decide) ?_
  refine mm_icmp_lt (M := M_Bench_isLetter) 16 d_Bench_isLetter_3 (by decide) (fun c => ?_) (fun c => ?_)
  · have h := h.1 c
    refine mm_iconst (M := M_Bench_isLetter) (v := 0) d_Bench_isLetter_16 (by decide) ?_
    exact mm_retv (M := M_Bench_isLetter) ⟨_, rfl, (by decide), d_Bench_isLetter_17⟩ ⟨_, _, _, _, _, rfl, rfl, h⟩
  · have h := h.2 c
    refine mm_iload_n (M := M_Bench_isLetter) d_Bench_isLetter_6 rfl ?_
    refine mm_bipush (M := M_Bench_isLetter) (v := 122) d_Bench_isLetter_7 (by decide) ?_
    refine mm_icmp_gt (M := M_Bench_isLetter) 16 d_Bench_isLetter_9 (by decide) (fun c => ?_) (fun c => ?_)
    · have h := h.1 c
      refine mm_iconst (M := M_Bench_isLetter) (v := 0) d_Bench_isLetter_16 (by decide) ?_
      exact mm_retv (M := M_Bench_isLetter) ⟨_, rfl, (by decide), d_Bench_isLetter_17⟩ ⟨_, _, _, _, _, rfl, rfl, h⟩
    · have h := h.2 c
      refine mm_iconst (M := M_Bench_isLetter) (v := 1) d_Bench_isLetter_12 (by decide) ?_
      refine mm_goto (M := M_Bench_isLetter) (tgt := 17) d_Bench_isLetter_13 (by decide) ?_
      exact mm_retv (M := M_Bench_isLetter) ⟨_, rfl, (by decide), d_Bench_isLetter_17⟩ ⟨_, _, _, _, _, rfl, rfl, h⟩
def wp_Bench_isDigit (n1 n2 : Nat) (i : mm_i) (l : mm_j) (a : mm_a) (b : mm_b) (x1 : Int32) (K : Int32 → mm_i → mm_j → mm_a → mm_b → Prop) : Prop :=
  (x1 < (48 : Int32) → K 0 i l a b) ∧ (¬ x1 < (48 : Int32) → ((57 : Int32) < x1 → K 0 i l a b) ∧ (¬ (57 : Int32) < x1 → K 1 i l a b))
set_option maxRecDepth 100000 in
set_option maxHeartbeats 4000000 in
theorem ct_Bench_isDigit {n1 n2 : Nat} {i : mm_i} {l : mm_j} {a : mm_a} {b : mm_b} {t : mm_H} {x1 : Int32} {K : Int32 → mm_i → mm_j → mm_a → mm_b → Prop} (h : wp_Bench_isDigit n1 n2 i l a b x1 K) : mm_Ct y_Bench_isDigit M_Bench_isDigit 0 0 0 [.int x1] (Wd 4 22 n1 n2 i l a b ++ t) (mm_PI n1 n2 t K) := by
  refine mm_Ct.of (by decide) rfl (fun q => absurd q (by decide)) (Nat.le_of_ble_eq_true rfl) ?_
  unfold wp_Bench_isDigit at h
  refine mm_eqL (L' := [some (.int x1)]) rfl ?_
  refine mm_iload_n (M := M_Bench_isDigit) d_Bench_isDigit_0 rfl ?_
  refine mm_bipush (M := M_Bench_isDigit) (v := 48) d_Bench_isDigit_1 (by decide) ?_
  refine mm_icmp_lt (M := M_Bench_isDigit) 16 d_Bench_isDigit_3 (by decide) (fun c => ?_) (fun c => ?_)
  · have h := h.1 c
    refine mm_iconst (M := M_Bench_isDigit) (v := 0) d_Bench_isDigit_16 (by decide) ?_
    exact mm_retv (M := M_Bench_isDigit) ⟨_, rfl, (by decide), d_Bench_isDigit_17⟩ ⟨_, _, _, _, _, rfl, rfl, h⟩
  · have h := h.2 c
    refine mm_iload_n (M := M_Bench_isDigit) d_Bench_isDigit_6 rfl ?_
    refine mm_bipush (M := M_Bench_isDigit) (v := 57) d_Bench_isDigit_7 (by decide) ?_
    refine mm_icmp_gt (M := M_Bench_isDigit) 16 d_Bench_isDigit_9 (by decide) (fun c => ?_) (fun c => ?_)
    · have h := h.1 c
      refine mm_iconst (M := M_Bench_isDigit) (v := 0) d_Bench_isDigit_16 (by decide) ?_
      exact mm_retv (M := M_Bench_isDigit) ⟨_, rfl, (by decide), d_Bench_isDigit_17⟩ ⟨_, _, _, _, _, rfl, rfl, h⟩
    · have h := h.2 c
      refine mm_iconst (M := M_Bench_isDigit) (v := 1) d_Bench_isDigit_12 (by decide) ?_
      refine mm_goto (M := M_Bench_isDigit) (tgt := 17) d_Bench_isDigit_13 (by decide) ?_
      exact mm_retv (M := M_Bench_isDigit) ⟨_, rfl, (by decide), d_Bench_isDigit_17⟩ ⟨_, _, _, _, _, rfl, rfl, h⟩
def wp_Bench_placeBehindMatch_0 (n1 n2 : Nat) (i : mm_i) (l : mm_j) (a : mm_a) (b : mm_b)  (K : Int32 → mm_i → mm_j → mm_a → mm_b → Prop) : Prop :=
  (¬ (i 5) = (i 4) → K (i 5) i l a b) ∧ ((i 5) = (i 4) → K ((i 5) + (1 : Int32)) i l a b)
set_option maxRecDepth 100000 in
set_option maxHeartbeats 4000000 in
theorem ct_Bench_placeBehindMatch_0 {n1 n2 : Nat} {i : mm_i} {l : mm_j} {a : mm_a} {b : mm_b} {t : mm_H}  {K : Int32 → mm_i → mm_j → mm_a → mm_b → Prop} (h : wp_Bench_placeBehindMatch_0 n1 n2 i l a b  K) : mm_Ct y_Bench_placeBehindMatch M_Bench_placeBehindMatch 0 0 0 [.ref 0] (Wd 4 22 n1 n2 i l a b ++ t) (mm_PI n1 n2 t K) := by
  refine mm_Ct.of (by decide) rfl (fun q => absurd q (by decide)) (Nat.le_of_ble_eq_true rfl) ?_
  unfold wp_Bench_placeBehindMatch_0 at h
  refine mm_eqL (L' := [some (.ref 0)]) rfl ?_
  refine mm_aload_n (M := M_Bench_placeBehindMatch) d_Bench_placeBehindMatch_0 rfl ?_
  refine mm_getf (M := M_Bench_placeBehindMatch) (u := .int (i 5)) 6 5 d_Bench_placeBehindMatch_1 fl_Bench_27 wg_0 rfl ?_
  refine mm_aload_n (M := M_Bench_placeBehindMatch) d_Bench_placeBehindMatch_4 rfl ?_
  refine mm_getf (M := M_Bench_placeBehindMatch) (u := .int (i 4)) 6 4 d_Bench_placeBehindMatch_5 fl_Bench_23 wg_0 rfl ?_
  refine mm_icmp_ne (M := M_Bench_placeBehindMatch) 20 d_Bench_placeBehindMatch_8 (by decide) (fun c => ?_) (fun c => ?_)
  · have h := h.1 c
    refine mm_aload_n (M := M_Bench_placeBehindMatch) d_Bench_placeBehindMatch_20 rfl ?_
    refine mm_getf (M := M_Bench_placeBehindMatch) (u := .int (i 5)) 6 5 d_Bench_placeBehindMatch_21 fl_Bench_27 wg_0 rfl ?_
    exact mm_retv (M := M_Bench_placeBehindMatch) ⟨_, rfl, rfl, d_Bench_placeBehindMatch_24⟩ ⟨_, _, _, _, _, rfl, rfl, h⟩
  · have h := h.2 c
    refine mm_aload_n (M := M_Bench_placeBehindMatch) d_Bench_placeBehindMatch_11 rfl ?_
    refine mm_getf (M := M_Bench_placeBehindMatch) (u := .int (i 5)) 6 5 d_Bench_placeBehindMatch_12 fl_Bench_27 wg_0 rfl ?_
    refine mm_iconst (M := M_Bench_placeBehindMatch) (v := 1) d_Bench_placeBehindMatch_15 (by decide) ?_
    refine mm_iadd (M := M_Bench_placeBehindMatch) d_Bench_placeBehindMatch_16 ?_
    refine mm_goto (M := M_Bench_placeBehindMatch) (tgt := 24) d_Bench_placeBehindMatch_17 (by decide) ?_
    exact mm_retv (M := M_Bench_placeBehindMatch) ⟨_, rfl, rfl, d_Bench_placeBehindMatch_24⟩ ⟨_, _, _, _, _, rfl, rfl, h⟩
