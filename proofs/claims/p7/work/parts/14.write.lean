def wp_Bench_mayStandInPattern (n1 n2 : Nat) (i : mm_i) (l : mm_j) (a : mm_a) (b : mm_b) (x1 : Int32) (K : Int32 → mm_i → mm_j → mm_a → mm_b → Prop) : Prop :=
  wp_Bench_isLetter n1 n2 i l a b x1 (fun r1 i1 l1 a1 b1 => (¬ r1 = 0 → K 1 i1 l1 a1 b1) ∧ (r1 = 0 → wp_Bench_isDigit n1 n2 i1 l1 a1 b1 x1 (fun r2 i2 l2 a2 b2 => (r2 = 0 → (x1 ≤ 0 → K 0 i2 l2 a2 b2) ∧ (¬ x1 ≤ 0 → ((128 : Int32) ≤ x1 → K 0 i2 l2 a2 b2) ∧ (¬ (128 : Int32) ≤ x1 → ((mm_ix x1.toInt8.toInt32 mm_by 0) < 0 → K 0 i2 l2 a2 b2) ∧ (¬ (mm_ix x1.toInt8.toInt32 mm_by 0) < 0 → K 1 i2 l2 a2 b2)))) ∧ (¬ r2 = 0 → K 1 i2 l2 a2 b2))))
set_option maxRecDepth 100000 in
set_option maxHeartbeats 4000000 in
theorem ct_Bench_mayStandInPattern {n1 n2 : Nat} {i : mm_i} {l : mm_j} {a : mm_a} {b : mm_b} {t : mm_H} {x1 : Int32} {K : Int32 → mm_i → mm_j → mm_a → mm_b → Prop} (h : wp_Bench_mayStandInPattern n1 n2 i l a b x1 K) : mm_Ct y_Bench_mayStandInPattern M_Bench_mayStandInPattern 4 0 0 [.int x1] (Wd 4 22 n1 n2 i l a b ++ t) (mm_PI n1 n2 t K) := by
  refine mm_Ct.of (by decide) rfl (fun q => absurd q (by decide)) (Nat.le_of_ble_eq_true rfl) ?_
  unfold wp_Bench_mayStandInPattern at h
  refine mm_eqL (L' := [some (.int x1)]) rfl ?_
  refine mm_iload_n (M := M_Bench_mayStandInPattern) d_Bench_mayStandInPattern_0 rfl ?_
  refine mm_eqs (st2 := [.int x1].reverse ++ []) rfl ?_
  refine mm_callS (M := M_Bench_mayStandInPattern) (y := y_Bench_isLetter) (M' := M_Bench_isLetter) (d' := 0) (kc := 0) (ks := 0) (kc' := 0) (ks' := 0) (n := 1) d_Bench_mayStandInPattern_1 ok_Bench_isLetter ml_Bench_92 (by decide) rfl (Nat.le_of_ble_eq_true rfl) tw_313 (ct_Bench_isLetter h) (fun v w h => ?_)
  obtain ⟨r1, i1, l1, a1, b1, rfl, rfl, h⟩ := h
  refine mm_eqs (st2 := [.int r1]) rfl ?_
  refine mm_if_ne (M := M_Bench_mayStandInPattern) 14 d_Bench_mayStandInPattern_4 (by decide) (fun c => ?_) (fun c => ?_)
  · have h := h.1 c
    refine mm_iconst (M := M_Bench_mayStandInPattern) (v := 1) d_Bench_mayStandInPattern_14 (by decide) ?_
    exact mm_retv (M := M_Bench_mayStandInPattern) ⟨_, rfl, (by decide), d_Bench_mayStandInPattern_15⟩ ⟨_, _, _, _, _, rfl, rfl, h⟩
  · have h := h.2 c
    refine mm_iload_n (M := M_Bench_mayStandInPattern) d_Bench_mayStandInPattern_7 rfl ?_
    refine mm_eqs (st2 := [.int x1].reverse ++ []) rfl ?_
    refine mm_callS (M := M_Bench_mayStandInPattern) (y := y_Bench_isDigit) (M' := M_Bench_isDigit) (d' := 0) (kc := 0) (ks := 0) (kc' := 0) (ks' := 0) (n := 1) d_Bench_mayStandInPattern_8 ok_Bench_isDigit ml_Bench_126 (by decide) rfl (Nat.le_of_ble_eq_true rfl) tw_316 (ct_Bench_isDigit h) (fun v w h => ?_)
    obtain ⟨r2, i2, l2, a2, b2, rfl, rfl, h⟩ := h
    refine mm_eqs (st2 := [.int r2]) rfl ?_
    refine mm_if_eq (M := M_Bench_mayStandInPattern) 16 d_Bench_mayStandInPattern_11 (by decide) (fun c => ?_) (fun c => ?_)
    · have h := h.1 c
      refine mm_iload_n (M := M_Bench_mayStandInPattern) d_Bench_mayStandInPattern_16 rfl ?_
      refine mm_if_le (M := M_Bench_mayStandInPattern) 41 d_Bench_mayStandInPattern_17 (by decide) (fun c => ?_) (fun c => ?_)
      · have h := h.1 c
        refine mm_iconst (M := M_Bench_mayStandInPattern) (v := 0) d_Bench_mayStandInPattern_41 (by decide) ?_
        exact mm_retv (M := M_Bench_mayStandInPattern) ⟨_, rfl, (by decide), d_Bench_mayStandInPattern_42⟩ ⟨_, _, _, _, _, rfl, rfl, h⟩
      · have h := h.2 c
        refine mm_iload_n (M := M_Bench_mayStandInPattern) d_Bench_mayStandInPattern_20 rfl ?_
        refine mm_sipush (M := M_Bench_mayStandInPattern) (v := 128) d_Bench_mayStandInPattern_21 (by decide) ?_
        refine mm_icmp_ge (M := M_Bench_mayStandInPattern) 41 d_Bench_mayStandInPattern_24 (by decide) (fun c => ?_) (fun c => ?_)
        · have h := h.1 c
          refine mm_iconst (M := M_Bench_mayStandInPattern) (v := 0) d_Bench_mayStandInPattern_41 (by decide) ?_
          exact mm_retv (M := M_Bench_mayStandInPattern) ⟨_, rfl, (by decide), d_Bench_mayStandInPattern_42⟩ ⟨_, _, _, _, _, rfl, rfl, h⟩
        · have h := h.2 c
          obtain ⟨k, hk, hkx⟩ := js_small (x := x1) (by assumption) (by assumption)
          subst hkx
          refine mm_str (M := M_Bench_mayStandInPattern) hk rfl rfl d_Bench_mayStandInPattern_27 d_Bench_mayStandInPattern_29 d_Bench_mayStandInPattern_30 d_Bench_mayStandInPattern_31 (Nat.le_of_ble_eq_true rfl) (by decide) ?_
          refine mm_if_lt (M := M_Bench_mayStandInPattern) 41 d_Bench_mayStandInPattern_34 (by decide) (fun c => ?_) (fun c => ?_)
          · have h := h.1 c
            refine mm_iconst (M := M_Bench_mayStandInPattern) (v := 0) d_Bench_mayStandInPattern_41 (by decide) ?_
            exact mm_retv (M := M_Bench_mayStandInPattern) ⟨_, rfl, (by decide), d_Bench_mayStandInPattern_42⟩ ⟨_, _, _, _, _, rfl, rfl, h⟩
          · have h := h.2 c
            refine mm_iconst (M := M_Bench_mayStandInPattern) (v := 1) d_Bench_mayStandInPattern_37 (by decide) ?_
            refine mm_goto (M := M_Bench_mayStandInPattern) (tgt := 42) d_Bench_mayStandInPattern_38 (by decide) ?_
            exact mm_retv (M := M_Bench_mayStandInPattern) ⟨_, rfl, (by decide), d_Bench_mayStandInPattern_42⟩ ⟨_, _, _, _, _, rfl, rfl, h⟩
    · have h := h.2 c
      refine mm_iconst (M := M_Bench_mayStandInPattern) (v := 1) d_Bench_mayStandInPattern_14 (by decide) ?_
      exact mm_retv (M := M_Bench_mayStandInPattern) ⟨_, rfl, (by decide), d_Bench_mayStandInPattern_15⟩ ⟨_, _, _, _, _, rfl, rfl, h⟩
def wp_Bench_write_0 (n1 n2 : Nat) (i : mm_i) (l : mm_j) (a : mm_a) (b : mm_b) (x1 : Int32) (K : Int32 → mm_i → mm_j → mm_a → mm_b → Prop) : Prop :=
  wp_Bench_mayStandInPattern n1 n2 i l a b x1 (fun r1 i1 l1 a1 b1 => (¬ r1 = 0 → wp_Text_isFull_2 n1 n2 i1 l1 a1 b1 (fun r2 i2 l2 a2 b2 => (r2 = 0 → wp_Text_add_2 n1 n2 i2 l2 a2 b2 x1 (fun r3 i3 l3 a3 b3 => K r3 i3 l3 a3 b3)) ∧ (¬ r2 = 0 → K (-2) i2 l2 a2 b2))) ∧ (r1 = 0 → K (-1) i1 l1 a1 b1))
set_option maxRecDepth 100000 in
set_option maxHeartbeats 4000000 in
theorem ct_Bench_write_0 {n1 n2 : Nat} {i : mm_i} {l : mm_j} {a : mm_a} {b : mm_b} {t : mm_H} {x1 : Int32} {K : Int32 → mm_i → mm_j → mm_a → mm_b → Prop} (h : wp_Bench_write_0 n1 n2 i l a b x1 K) : mm_Ct y_Bench_write M_Bench_write 5 0 0 [.ref 0, .int x1] (Wd 4 22 n1 n2 i l a b ++ t) (mm_PI n1 n2 t K) := by
  refine mm_Ct.of (by decide) rfl (fun q => absurd q (by decide)) (Nat.le_of_ble_eq_true rfl) ?_
  unfold wp_Bench_write_0 at h
  refine mm_eqL (L' := [some (.ref 0), some (.int x1)]) rfl ?_
  refine mm_iload_n (M := M_Bench_write) d_Bench_write_0 rfl ?_
  refine mm_eqs (st2 := [.int x1].reverse ++ []) rfl ?_
  refine mm_callS (M := M_Bench_write) (y := y_Bench_mayStandInPattern) (M' := M_Bench_mayStandInPattern) (d' := 4) (kc := 0) (ks := 0) (kc' := 0) (ks' := 0) (n := 1) d_Bench_write_1 ok_Bench_mayStandInPattern ml_Bench_55 (by decide) rfl (Nat.le_of_ble_eq_true rfl) tw_310 (ct_Bench_mayStandInPattern h) (fun v w h => ?_)
  obtain ⟨r1, i1, l1, a1, b1, rfl, rfl, h⟩ := h
  refine mm_eqs (st2 := [.int r1]) rfl ?_
  refine mm_if_ne (M := M_Bench_write) 9 d_Bench_write_4 (by decide) (fun c => ?_) (fun c => ?_)
  · have h := h.1 c
    refine mm_aload_n (M := M_Bench_write) d_Bench_write_9 rfl ?_
    refine mm_getf (M := M_Bench_write) (u := .ref 1) 6 0 d_Bench_write_10 fl_Bench_10 wg_0 rfl ?_
    refine mm_getf (M := M_Bench_write) (u := .ref 2) 2 0 d_Bench_write_13 fl_Bench_59 wg_1 rfl ?_
    refine mm_eqs (st2 := [].reverse ++ .ref 2 :: []) rfl ?_
    refine mm_callV (M := M_Bench_write) (y := y_Text_isFull) (M' := M_Text_isFull) (d' := 0) (kc := 0) (ks := 0) (kc' := 0) (ks' := 0) (n := 0) d_Bench_write_16 ok_Text_isFull ml_Bench_63 (by decide) rfl (Nat.le_of_ble_eq_true rfl) ⟨tw_402, tw_403⟩ wg_2 rfl (ct_Text_isFull_2 h) (fun v w h => ?_)
    obtain ⟨r2, i2, l2, a2, b2, rfl, rfl, h⟩ := h
    refine mm_eqs (st2 := [.int r2]) rfl ?_
    refine mm_if_eq (M := M_Bench_write) 27 d_Bench_write_19 (by decide) (fun c => ?_) (fun c => ?_)
    · have h := h.1 c
      refine mm_aload_n (M := M_Bench_write) d_Bench_write_27 rfl ?_
      refine mm_getf (M := M_Bench_write) (u := .ref 1) 6 0 d_Bench_write_28 fl_Bench_10 wg_0 rfl ?_
      refine mm_getf (M := M_Bench_write) (u := .ref 2) 2 0 d_Bench_write_31 fl_Bench_59 wg_1 rfl ?_
      refine mm_iload_n (M := M_Bench_write) d_Bench_write_34 rfl ?_
      refine mm_eqs (st2 := [.int x1].reverse ++ .ref 2 :: []) rfl ?_
      refine mm_callV (M := M_Bench_write) (y := y_Text_add) (M' := M_Text_add) (d' := 1) (kc := 0) (ks := 0) (kc' := 0) (ks' := 0) (n := 1) d_Bench_write_35 ok_Text_add ml_Bench_69 (by decide) rfl (Nat.le_of_ble_eq_true rfl) ⟨tw_406, tw_407⟩ wg_2 rfl (ct_Text_add_2 h) (fun v w h => ?_)
      obtain ⟨r3, i3, l3, a3, b3, rfl, rfl, h⟩ := h
      refine mm_eqs (st2 := [.int r3]) rfl ?_
      exact mm_retv (M := M_Bench_write) ⟨_, rfl, rfl, d_Bench_write_38⟩ ⟨_, _, _, _, _, rfl, rfl, h⟩
    · have h := h.2 c
      refine mm_bipush (M := M_Bench_write) (v := (-2)) d_Bench_write_22 (by decide) ?_
      refine mm_goto (M := M_Bench_write) (tgt := 38) d_Bench_write_24 (by decide) ?_
      exact mm_retv (M := M_Bench_write) ⟨_, rfl, rfl, d_Bench_write_38⟩ ⟨_, _, _, _, _, rfl, rfl, h⟩
  · have h := h.2 c
    refine mm_iconst (M := M_Bench_write) (v := (-1)) d_Bench_write_7 (by decide) ?_
    exact mm_retv (M := M_Bench_write) ⟨_, rfl, rfl, d_Bench_write_8⟩ ⟨_, _, _, _, _, rfl, rfl, h⟩
