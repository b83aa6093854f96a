def wp_Bench_feed_0 (n1 n2 : Nat) (i : mm_i) (l : mm_j) (a : mm_a) (b : mm_b) (x1 : Int32) (K : Int32 → mm_i → mm_j → mm_a → mm_b → Prop) : Prop :=
  wp_Bench_isLetter n1 n2 i l a b x1 (fun r1 i1 l1 a1 b1 => (¬ r1 = 0 → wp_Text_isFull_20 n1 n2 i1 l1 a1 b1 (fun r2 i2 l2 a2 b2 => (r2 = 0 → wp_Text_add_20 n1 n2 (upd i2 3 0) l2 a2 b2 x1 (fun r3 i3 l3 a3 b3 => K r3 i3 l3 a3 b3)) ∧ (¬ r2 = 0 → K (-2) i2 l2 a2 b2))) ∧ (r1 = 0 → K (-1) i1 l1 a1 b1))
set_option maxRecDepth 100000 in
set_option maxHeartbeats 4000000 in
theorem ct_Bench_feed_0 {n1 n2 : Nat} {i : mm_i} {l : mm_j} {a : mm_a} {b : mm_b} {t : mm_H} {x1 : Int32} {K : Int32 → mm_i → mm_j → mm_a → mm_b → Prop} (h : wp_Bench_feed_0 n1 n2 i l a b x1 K) : mm_Ct y_Bench_feed M_Bench_feed 2 0 0 [.ref 0, .int x1] (Wd 4 22 n1 n2 i l a b ++ t) (mm_PI n1 n2 t K) := by
  refine mm_Ct.of (by decide) rfl (fun q => absurd q (by decide)) (Nat.le_of_ble_eq_true rfl) ?_
  unfold wp_Bench_feed_0 at h
  refine mm_eqL (L' := [some (.ref 0), some (.int x1)]) rfl ?_
  refine mm_iload_n (M := M_Bench_feed) d_Bench_feed_0 rfl ?_
  refine mm_eqs (st2 := [.int x1].reverse ++ []) rfl ?_
  refine mm_callS (M := M_Bench_feed) (y := y_Bench_isLetter) (M' := M_Bench_isLetter) (d' := 0) (kc := 0) (ks := 0) (kc' := 0) (ks' := 0) (n := 1) d_Bench_feed_1 ok_Bench_isLetter ml_Bench_92 (by decide) rfl (Nat.le_of_ble_eq_true rfl) tw_313 (ct_Bench_isLetter h) (fun v w h => ?_)
  obtain ⟨r1, i1, l1, a1, b1, rfl, rfl, h⟩ := h
  refine mm_eqs (st2 := [.int r1]) rfl ?_
  refine mm_if_ne (M := M_Bench_feed) 9 d_Bench_feed_4 (by decide) (fun c => ?_) (fun c => ?_)
  · have h := h.1 c
    refine mm_aload_n (M := M_Bench_feed) d_Bench_feed_9 rfl ?_
    refine mm_getf (M := M_Bench_feed) (u := .ref 19) 6 1 d_Bench_feed_10 fl_Bench_51 wg_0 rfl ?_
    refine mm_getf (M := M_Bench_feed) (u := .ref 20) 5 0 d_Bench_feed_13 fl_Bench_95 wg_19 rfl ?_
    refine mm_eqs (st2 := [].reverse ++ .ref 20 :: []) rfl ?_
    refine mm_callV (M := M_Bench_feed) (y := y_Text_isFull) (M' := M_Text_isFull) (d' := 0) (kc := 0) (ks := 0) (kc' := 0) (ks' := 0) (n := 0) d_Bench_feed_16 ok_Text_isFull ml_Bench_63 (by decide) rfl (Nat.le_of_ble_eq_true rfl) ⟨tw_402, tw_403⟩ wg_20 rfl (ct_Text_isFull_20 h) (fun v w h => ?_)
    obtain ⟨r2, i2, l2, a2, b2, rfl, rfl, h⟩ := h
    refine mm_eqs (st2 := [.int r2]) rfl ?_
    refine mm_if_eq (M := M_Bench_feed) 25 d_Bench_feed_19 (by decide) (fun c => ?_) (fun c => ?_)
    · have h := h.1 c
      refine mm_aload_n (M := M_Bench_feed) d_Bench_feed_25 rfl ?_
      refine mm_iconst (M := M_Bench_feed) (v := 0) d_Bench_feed_26 (by decide) ?_
      refine mm_putf (M := M_Bench_feed) 6 3 .boolean d_Bench_feed_27 fl_Bench_20 fp_Bench_20 ft_6_3 wg_0 (Nat.le_of_ble_eq_true rfl) (Or.inl rfl) ?_
      refine mm_eqw ws_3 ?_
      refine mm_aload_n (M := M_Bench_feed) d_Bench_feed_30 rfl ?_
      refine mm_getf (M := M_Bench_feed) (u := .ref 19) 6 1 d_Bench_feed_31 fl_Bench_51 wg_0 rfl ?_
      refine mm_getf (M := M_Bench_feed) (u := .ref 20) 5 0 d_Bench_feed_34 fl_Bench_95 wg_19 rfl ?_
      refine mm_iload_n (M := M_Bench_feed) d_Bench_feed_37 rfl ?_
      refine mm_eqs (st2 := [.int x1].reverse ++ .ref 20 :: []) rfl ?_
      refine mm_callV (M := M_Bench_feed) (y := y_Text_add) (M' := M_Text_add) (d' := 1) (kc := 0) (ks := 0) (kc' := 0) (ks' := 0) (n := 1) d_Bench_feed_38 ok_Text_add ml_Bench_69 (by decide) rfl (Nat.le_of_ble_eq_true rfl) ⟨tw_406, tw_407⟩ wg_20 rfl (ct_Text_add_20 h) (fun v w h => ?_)
      obtain ⟨r3, i3, l3, a3, b3, rfl, rfl, h⟩ := h
      refine mm_eqs (st2 := [.int r3]) rfl ?_
      exact mm_retv (M := M_Bench_feed) ⟨_, rfl, rfl, d_Bench_feed_41⟩ ⟨_, _, _, _, _, rfl, rfl, h⟩
    · have h := h.2 c
      refine mm_bipush (M := M_Bench_feed) (v := (-2)) d_Bench_feed_22 (by decide) ?_
      exact mm_retv (M := M_Bench_feed) ⟨_, rfl, rfl, d_Bench_feed_24⟩ ⟨_, _, _, _, _, rfl, rfl, h⟩
  · have h := h.2 c
    refine mm_iconst (M := M_Bench_feed) (v := (-1)) d_Bench_feed_7 (by decide) ?_
    exact mm_retv (M := M_Bench_feed) ⟨_, rfl, rfl, d_Bench_feed_8⟩ ⟨_, _, _, _, _, rfl, rfl, h⟩
def wp_Bench_clear_0 (n1 n2 : Nat) (i : mm_i) (l : mm_j) (a : mm_a) (b : mm_b)  (K : Int32 → mm_i → mm_j → mm_a → mm_b → Prop) : Prop :=
  K (i 321) (upd (upd i 321 0) 3 0) l a b
set_option maxRecDepth 100000 in
set_option maxHeartbeats 4000000 in
theorem ct_Bench_clear_0 {n1 n2 : Nat} {i : mm_i} {l : mm_j} {a : mm_a} {b : mm_b} {t : mm_H}  {K : Int32 → mm_i → mm_j → mm_a → mm_b → Prop} (h : wp_Bench_clear_0 n1 n2 i l a b  K) : mm_Ct y_Bench_clear M_Bench_clear 0 0 0 [.ref 0] (Wd 4 22 n1 n2 i l a b ++ t) (mm_PI n1 n2 t K) := by
  refine mm_Ct.of (by decide) rfl (fun q => absurd q (by decide)) (Nat.le_of_ble_eq_true rfl) ?_
  unfold wp_Bench_clear_0 at h
  refine mm_eqL (L' := [some (.ref 0), none]) rfl ?_
  refine mm_aload_n (M := M_Bench_clear) d_Bench_clear_0 rfl ?_
  refine mm_getf (M := M_Bench_clear) (u := .ref 19) 6 1 d_Bench_clear_1 fl_Bench_51 wg_0 rfl ?_
  refine mm_getf (M := M_Bench_clear) (u := .ref 20) 5 0 d_Bench_clear_4 fl_Bench_95 wg_19 rfl ?_
  refine mm_getf (M := M_Bench_clear) (u := .int (i 321)) 0 1 d_Bench_clear_7 fl_Bench_76 wg_20 rfl ?_
  refine mm_istore_n (M := M_Bench_clear) d_Bench_clear_10 (Nat.le_of_ble_eq_true rfl) ?_
  refine mm_eqL (L' := [some (.ref 0), some (.int (i 321))]) rfl ?_
  refine mm_aload_n (M := M_Bench_clear) d_Bench_clear_11 rfl ?_
  refine mm_getf (M := M_Bench_clear) (u := .ref 19) 6 1 d_Bench_clear_12 fl_Bench_51 wg_0 rfl ?_
  refine mm_getf (M := M_Bench_clear) (u := .ref 20) 5 0 d_Bench_clear_15 fl_Bench_95 wg_19 rfl ?_
  refine mm_iconst (M := M_Bench_clear) (v := 0) d_Bench_clear_18 (by decide) ?_
  refine mm_putf (M := M_Bench_clear) 0 1 .int d_Bench_clear_19 fl_Bench_76 fp_Bench_76 ft_0_1 wg_20 (Nat.le_of_ble_eq_true rfl) trivial ?_
  refine mm_eqw ws_321 ?_
  refine mm_aload_n (M := M_Bench_clear) d_Bench_clear_22 rfl ?_
  refine mm_iconst (M := M_Bench_clear) (v := 0) d_Bench_clear_23 (by decide) ?_
  refine mm_putf (M := M_Bench_clear) 6 3 .boolean d_Bench_clear_24 fl_Bench_20 fp_Bench_20 ft_6_3 wg_0 (Nat.le_of_ble_eq_true rfl) (Or.inl rfl) ?_
  refine mm_eqw ws_3 ?_
  refine mm_iload_n (M := M_Bench_clear) d_Bench_clear_27 rfl ?_
  exact mm_retv (M := M_Bench_clear) ⟨_, rfl, rfl, d_Bench_clear_28⟩ ⟨_, _, _, _, _, rfl, rfl, h⟩
def wp_Bench_start_0 (n1 n2 : Nat) (i : mm_i) (l : mm_j) (a : mm_a) (b : mm_b) (x1 : Int32) (K : Int32 → mm_i → mm_j → mm_a → mm_b → Prop) : Prop :=
  (x1 < 0 → K (-1) i l a b) ∧ (¬ x1 < 0 → (x1 ≤ (4 : Int32) → (¬ (i 3) = 0 → (¬ x1 = 0 → wp_Captures_from n1 n2 i l a b (l 6) x1 (fun r1 i1 l1 a1 b1 => K r1 i1 l1 a1 b1)) ∧ (x1 = 0 → K (i 4) i l a b)) ∧ ((i 3) = 0 → K (-6) i l a b)) ∧ (¬ x1 ≤ (4 : Int32) → K (-1) i l a b))
set_option maxRecDepth 100000 in
set_option maxHeartbeats 4000000 in
theorem ct_Bench_start_0 {n1 n2 : Nat} {i : mm_i} {l : mm_j} {a : mm_a} {b : mm_b} {t : mm_H} {x1 : Int32} {K : Int32 → mm_i → mm_j → mm_a → mm_b → Prop} (h : wp_Bench_start_0 n1 n2 i l a b x1 K) : mm_Ct y_Bench_start M_Bench_start 1 0 0 [.ref 0, .int x1] (Wd 4 22 n1 n2 i l a b ++ t) (mm_PI n1 n2 t K) := by
  refine mm_Ct.of (by decide) rfl (fun q => absurd q (by decide)) (Nat.le_of_ble_eq_true rfl) ?_
  unfold wp_Bench_start_0 at h
  refine mm_eqL (L' := [some (.ref 0), some (.int x1)]) rfl ?_
  refine mm_iload_n (M := M_Bench_start) d_Bench_start_0 rfl ?_
  refine mm_if_lt (M := M_Bench_start) 9 d_Bench_start_1 (by decide) (fun c => ?_) (fun c => ?_)
  · have h := h.1 c
    refine mm_iconst (M := M_Bench_start) (v := (-1)) d_Bench_start_9 (by decide) ?_
    exact mm_retv (M := M_Bench_start) ⟨_, rfl, rfl, d_Bench_start_10⟩ ⟨_, _, _, _, _, rfl, rfl, h⟩
  · have h := h.2 c
    refine mm_iload_n (M := M_Bench_start) d_Bench_start_4 rfl ?_
    refine mm_iconst (M := M_Bench_start) (v := 4) d_Bench_start_5 (by decide) ?_
    refine mm_icmp_le (M := M_Bench_start) 11 d_Bench_start_6 (by decide) (fun c => ?_) (fun c => ?_)
    · have h := h.1 c
      refine mm_aload_n (M := M_Bench_start) d_Bench_start_11 rfl ?_
      refine mm_getf (M := M_Bench_start) (u := .int (i 3)) 6 3 d_Bench_start_12 fl_Bench_20 wg_0 rfl ?_
      refine mm_if_ne (M := M_Bench_start) 21 d_Bench_start_15 (by decide) (fun c => ?_) (fun c => ?_)
      · have h := h.1 c
        refine mm_iload_n (M := M_Bench_start) d_Bench_start_21 rfl ?_
        refine mm_if_ne (M := M_Bench_start) 32 d_Bench_start_22 (by decide) (fun c => ?_) (fun c => ?_)
        · have h := h.1 c
          refine mm_aload_n (M := M_Bench_start) d_Bench_start_32 rfl ?_
          refine mm_getf (M := M_Bench_start) (u := .long (l 6)) 6 6 d_Bench_start_33 fl_Bench_30 wg_0 rfl ?_
          refine mm_iload_n (M := M_Bench_start) d_Bench_start_36 rfl ?_
          refine mm_eqs (st2 := [.long (l 6), .int x1].reverse ++ []) rfl ?_
          refine mm_callS (M := M_Bench_start) (y := y_Captures_from) (M' := M_Captures_from) (d' := 0) (kc := 0) (ks := 0) (kc' := 0) (ks' := 0) (n := 2) d_Bench_start_37 ok_Captures_from ml_Bench_105 (by decide) rfl (Nat.le_of_ble_eq_true rfl) tw_600 (ct_Captures_from h) (fun v w h => ?_)
          obtain ⟨r1, i1, l1, a1, b1, rfl, rfl, h⟩ := h
          refine mm_eqs (st2 := [.int r1]) rfl ?_
          exact mm_retv (M := M_Bench_start) ⟨_, rfl, rfl, d_Bench_start_40⟩ ⟨_, _, _, _, _, rfl, rfl, h⟩
        · have h := h.2 c
          refine mm_aload_n (M := M_Bench_start) d_Bench_start_25 rfl ?_
          refine mm_getf (M := M_Bench_start) (u := .int (i 4)) 6 4 d_Bench_start_26 fl_Bench_23 wg_0 rfl ?_
          refine mm_goto (M := M_Bench_start) (tgt := 40) d_Bench_start_29 (by decide) ?_
          exact mm_retv (M := M_Bench_start) ⟨_, rfl, rfl, d_Bench_start_40⟩ ⟨_, _, _, _, _, rfl, rfl, h⟩
      · have h := h.2 c
        refine mm_bipush (M := M_Bench_start) (v := (-6)) d_Bench_start_18 (by decide) ?_
        exact mm_retv (M := M_Bench_start) ⟨_, rfl, rfl, d_Bench_start_20⟩ ⟨_, _, _, _, _, rfl, rfl, h⟩
    · have h := h.2 c
      refine mm_iconst (M := M_Bench_start) (v := (-1)) d_Bench_start_9 (by decide) ?_
      exact mm_retv (M := M_Bench_start) ⟨_, rfl, rfl, d_Bench_start_10⟩ ⟨_, _, _, _, _, rfl, rfl, h⟩
def wp_Bench_end_0 (n1 n2 : Nat) (i : mm_i) (l : mm_j) (a : mm_a) (b : mm_b) (x1 : Int32) (K : Int32 → mm_i → mm_j → mm_a → mm_b → Prop) : Prop :=
  (x1 < 0 → K (-1) i l a b) ∧ (¬ x1 < 0 → (x1 ≤ (4 : Int32) → (¬ (i 3) = 0 → (¬ x1 = 0 → wp_Captures_to n1 n2 i l a b (l 6) x1 (fun r1 i1 l1 a1 b1 => K r1 i1 l1 a1 b1)) ∧ (x1 = 0 → K (i 5) i l a b)) ∧ ((i 3) = 0 → K (-6) i l a b)) ∧ (¬ x1 ≤ (4 : Int32) → K (-1) i l a b))
set_option maxRecDepth 100000 in
set_option maxHeartbeats 4000000 in
theorem ct_Bench_end_0 {n1 n2 : Nat} {i : mm_i} {l : mm_j} {a : mm_a} {b : mm_b} {t : mm_H} {x1 : Int32} {K : Int32 → mm_i → mm_j → mm_a → mm_b → Prop} (h : wp_Bench_end_0 n1 n2 i l a b x1 K) : mm_Ct y_Bench_end M_Bench_end 1 0 0 [.ref 0, .int x1] (Wd 4 22 n1 n2 i l a b ++ t) (mm_PI n1 n2 t K) := by
  refine mm_Ct.of (by decide) rfl (fun q => absurd q (by decide)) (Nat.le_of_ble_eq_true rfl) ?_
  unfold wp_Bench_end_0 at h
  refine mm_eqL (L' := [some (.ref 0), some (.int x1)]) rfl ?_
  refine mm_iload_n (M := M_Bench_end) d_Bench_end_0 rfl ?_
  refine mm_if_lt (M := M_Bench_end) 9 d_Bench_end_1 (by decide) (fun c => ?_) (fun c => ?_)
  · have h := h.1 c
    refine mm_iconst (M := M_Bench_end) (v := (-1)) d_Bench_end_9 (by decide) ?_
    exact mm_retv (M := M_Bench_end) ⟨_, rfl, rfl, d_Bench_end_10⟩ ⟨_, _, _, _, _, rfl, rfl, h⟩
  · have h := h.2 c
    refine mm_iload_n (M := M_Bench_end) d_Bench_end_4 rfl ?_
    refine mm_iconst (M := M_Bench_end) (v := 4) d_Bench_end_5 (by decide) ?_
    refine mm_icmp_le (M := M_Bench_end) 11 d_Bench_end_6 (by decide) (fun c => ?_) (fun c => ?_)
    · have h := h.1 c
      refine mm_aload_n (M := M_Bench_end) d_Bench_end_11 rfl ?_
      refine mm_getf (M := M_Bench_end) (u := .int (i 3)) 6 3 d_Bench_end_12 fl_Bench_20 wg_0 rfl ?_
      refine mm_if_ne (M := M_Bench_end) 21 d_Bench_end_15 (by decide) (fun c => ?_) (fun c => ?_)
      · have h := h.1 c
        refine mm_iload_n (M := M_Bench_end) d_Bench_end_21 rfl ?_
        refine mm_if_ne (M := M_Bench_end) 32 d_Bench_end_22 (by decide) (fun c => ?_) (fun c => ?_)
        · have h := h.1 c
          refine mm_aload_n (M := M_Bench_end) d_Bench_end_32 rfl ?_
          refine mm_getf (M := M_Bench_end) (u := .long (l 6)) 6 6 d_Bench_end_33 fl_Bench_30 wg_0 rfl ?_
          refine mm_iload_n (M := M_Bench_end) d_Bench_end_36 rfl ?_
          refine mm_eqs (st2 := [.long (l 6), .int x1].reverse ++ []) rfl ?_
          refine mm_callS (M := M_Bench_end) (y := y_Captures_to) (M' := M_Captures_to) (d' := 0) (kc := 0) (ks := 0) (kc' := 0) (ks' := 0) (n := 2) d_Bench_end_37 ok_Captures_to ml_Bench_111 (by decide) rfl (Nat.le_of_ble_eq_true rfl) tw_603 (ct_Captures_to h) (fun v w h => ?_)
          obtain ⟨r1, i1, l1, a1, b1, rfl, rfl, h⟩ := h
          refine mm_eqs (st2 := [.int r1]) rfl ?_
          exact mm_retv (M := M_Bench_end) ⟨_, rfl, rfl, d_Bench_end_40⟩ ⟨_, _, _, _, _, rfl, rfl, h⟩
        · have h := h.2 c
          refine mm_aload_n (M := M_Bench_end) d_Bench_end_25 rfl ?_
          refine mm_getf (M := M_Bench_end) (u := .int (i 5)) 6 5 d_Bench_end_26 fl_Bench_27 wg_0 rfl ?_
          refine mm_goto (M := M_Bench_end) (tgt := 40) d_Bench_end_29 (by decide) ?_
          exact mm_retv (M := M_Bench_end) ⟨_, rfl, rfl, d_Bench_end_40⟩ ⟨_, _, _, _, _, rfl, rfl, h⟩
      · have h := h.2 c
        refine mm_bipush (M := M_Bench_end) (v := (-6)) d_Bench_end_18 (by decide) ?_
        exact mm_retv (M := M_Bench_end) ⟨_, rfl, rfl, d_Bench_end_20⟩ ⟨_, _, _, _, _, rfl, rfl, h⟩
    · have h := h.2 c
      refine mm_iconst (M := M_Bench_end) (v := (-1)) d_Bench_end_9 (by decide) ?_
      exact mm_retv (M := M_Bench_end) ⟨_, rfl, rfl, d_Bench_end_10⟩ ⟨_, _, _, _, _, rfl, rfl, h⟩
def wp_Bench_steps_0 (n1 n2 : Nat) (i : mm_i) (l : mm_j) (a : mm_a) (b : mm_b)  (K : Int32 → mm_i → mm_j → mm_a → mm_b → Prop) : Prop :=
  K (i 7) i l a b
set_option maxRecDepth 100000 in
set_option maxHeartbeats 4000000 in
theorem ct_Bench_steps_0 {n1 n2 : Nat} {i : mm_i} {l : mm_j} {a : mm_a} {b : mm_b} {t : mm_H}  {K : Int32 → mm_i → mm_j → mm_a → mm_b → Prop} (h : wp_Bench_steps_0 n1 n2 i l a b  K) : mm_Ct y_Bench_steps M_Bench_steps 0 0 0 [.ref 0] (Wd 4 22 n1 n2 i l a b ++ t) (mm_PI n1 n2 t K) := by
  refine mm_Ct.of (by decide) rfl (fun q => absurd q (by decide)) (Nat.le_of_ble_eq_true rfl) ?_
  unfold wp_Bench_steps_0 at h
  refine mm_eqL (L' := [some (.ref 0)]) rfl ?_
  refine mm_aload_n (M := M_Bench_steps) d_Bench_steps_0 rfl ?_
  refine mm_getf (M := M_Bench_steps) (u := .int (i 7)) 6 7 d_Bench_steps_1 fl_Bench_34 wg_0 rfl ?_
  exact mm_retv (M := M_Bench_steps) ⟨_, rfl, rfl, d_Bench_steps_4⟩ ⟨_, _, _, _, _, rfl, rfl, h⟩
def wp_Bench_count_0 (n1 n2 : Nat) (i : mm_i) (l : mm_j) (a : mm_a) (b : mm_b) (x1 : Int32) (K : Int32 → mm_i → mm_j → mm_a → mm_b → Prop) : Prop :=
  (x1 = 0 → K (i 33) i l a b) ∧ (¬ x1 = 0 → (x1 = 1 → K (i 321) i l a b) ∧ (¬ x1 = 1 → (x1 = 2 → ((i 2) = 0 → K (-4) i l a b) ∧ (¬ (i 2) = 0 → K (i 364) i l a b)) ∧ (¬ x1 = 2 → (x1 = 3 → ((i 2) = 0 → K (-4) i l a b) ∧ (¬ (i 2) = 0 → K (i 365) i l a b)) ∧ (¬ x1 = 3 → K (-1) i l a b))))
set_option maxRecDepth 100000 in
set_option maxHeartbeats 4000000 in
theorem ct_Bench_count_0 {n1 n2 : Nat} {i : mm_i} {l : mm_j} {a : mm_a} {b : mm_b} {t : mm_H} {x1 : Int32} {K : Int32 → mm_i → mm_j → mm_a → mm_b → Prop} (h : wp_Bench_count_0 n1 n2 i l a b x1 K) : mm_Ct y_Bench_count M_Bench_count 0 0 0 [.ref 0, .int x1] (Wd 4 22 n1 n2 i l a b ++ t) (mm_PI n1 n2 t K) := by
  refine mm_Ct.of (by decide) rfl (fun q => absurd q (by decide)) (Nat.le_of_ble_eq_true rfl) ?_
  unfold wp_Bench_count_0 at h
  refine mm_eqL (L' := [some (.ref 0), some (.int x1)]) rfl ?_
  refine mm_iload_n (M := M_Bench_count) d_Bench_count_0 rfl ?_
  refine mm_table (M := M_Bench_count) [(0, 32), (1, 43), (2, 54), (3, 77)] 100 d_Bench_count_1 (by decide) (by decide +kernel) (by decide +kernel) (by decide) ⟨fun c0 => ?_, fun c0 => ⟨fun c1 => ?_, fun c1 => ⟨fun c2 => ?_, fun c2 => ⟨fun c3 => ?_, fun c3 => ?_⟩⟩⟩⟩
  · have h := h.1 c0
    refine mm_aload_n (M := M_Bench_count) d_Bench_count_32 rfl ?_
    refine mm_getf (M := M_Bench_count) (u := .ref 1) 6 0 d_Bench_count_33 fl_Bench_10 wg_0 rfl ?_
    refine mm_getf (M := M_Bench_count) (u := .ref 2) 2 0 d_Bench_count_36 fl_Bench_59 wg_1 rfl ?_
    refine mm_getf (M := M_Bench_count) (u := .int (i 33)) 0 1 d_Bench_count_39 fl_Bench_76 wg_2 rfl ?_
    exact mm_retv (M := M_Bench_count) ⟨_, rfl, rfl, d_Bench_count_42⟩ ⟨_, _, _, _, _, rfl, rfl, h⟩
  · have h := (h.2 c0).1 c1
    refine mm_aload_n (M := M_Bench_count) d_Bench_count_43 rfl ?_
    refine mm_getf (M := M_Bench_count) (u := .ref 19) 6 1 d_Bench_count_44 fl_Bench_51 wg_0 rfl ?_
    refine mm_getf (M := M_Bench_count) (u := .ref 20) 5 0 d_Bench_count_47 fl_Bench_95 wg_19 rfl ?_
    refine mm_getf (M := M_Bench_count) (u := .int (i 321)) 0 1 d_Bench_count_50 fl_Bench_76 wg_20 rfl ?_
    exact mm_retv (M := M_Bench_count) ⟨_, rfl, rfl, d_Bench_count_53⟩ ⟨_, _, _, _, _, rfl, rfl, h⟩
  · have h := ((h.2 c0).2 c1).1 c2
    refine mm_aload_n (M := M_Bench_count) d_Bench_count_54 rfl ?_
    refine mm_getf (M := M_Bench_count) (u := .int (i 2)) 6 2 d_Bench_count_55 fl_Bench_16 wg_0 rfl ?_
    refine mm_if_eq (M := M_Bench_count) 74 d_Bench_count_58 (by decide) (fun c => ?_) (fun c => ?_)
    · have h := h.1 c
      refine mm_bipush (M := M_Bench_count) (v := (-4)) d_Bench_count_74 (by decide) ?_
      exact mm_retv (M := M_Bench_count) ⟨_, rfl, rfl, d_Bench_count_76⟩ ⟨_, _, _, _, _, rfl, rfl, h⟩
    · have h := h.2 c
      refine mm_aload_n (M := M_Bench_count) d_Bench_count_61 rfl ?_
      refine mm_getf (M := M_Bench_count) (u := .ref 19) 6 1 d_Bench_count_62 fl_Bench_51 wg_0 rfl ?_
      refine mm_getf (M := M_Bench_count) (u := .ref 22) 5 1 d_Bench_count_65 fl_Bench_88 wg_19 rfl ?_
      refine mm_getf (M := M_Bench_count) (u := .int (i 364)) 1 12 d_Bench_count_68 fl_Bench_89 wg_22 rfl ?_
      refine mm_goto (M := M_Bench_count) (tgt := 76) d_Bench_count_71 (by decide) ?_
      exact mm_retv (M := M_Bench_count) ⟨_, rfl, rfl, d_Bench_count_76⟩ ⟨_, _, _, _, _, rfl, rfl, h⟩
  · have h := (((h.2 c0).2 c1).2 c2).1 c3
    refine mm_aload_n (M := M_Bench_count) d_Bench_count_77 rfl ?_
    refine mm_getf (M := M_Bench_count) (u := .int (i 2)) 6 2 d_Bench_count_78 fl_Bench_16 wg_0 rfl ?_
    refine mm_if_eq (M := M_Bench_count) 97 d_Bench_count_81 (by decide) (fun c => ?_) (fun c => ?_)
    · have h := h.1 c
      refine mm_bipush (M := M_Bench_count) (v := (-4)) d_Bench_count_97 (by decide) ?_
      exact mm_retv (M := M_Bench_count) ⟨_, rfl, rfl, d_Bench_count_99⟩ ⟨_, _, _, _, _, rfl, rfl, h⟩
    · have h := h.2 c
      refine mm_aload_n (M := M_Bench_count) d_Bench_count_84 rfl ?_
      refine mm_getf (M := M_Bench_count) (u := .ref 19) 6 1 d_Bench_count_85 fl_Bench_51 wg_0 rfl ?_
      refine mm_getf (M := M_Bench_count) (u := .ref 22) 5 1 d_Bench_count_88 fl_Bench_88 wg_19 rfl ?_
      refine mm_getf (M := M_Bench_count) (u := .int (i 365)) 1 13 d_Bench_count_91 fl_Bench_83 wg_22 rfl ?_
      refine mm_goto (M := M_Bench_count) (tgt := 99) d_Bench_count_94 (by decide) ?_
      exact mm_retv (M := M_Bench_count) ⟨_, rfl, rfl, d_Bench_count_99⟩ ⟨_, _, _, _, _, rfl, rfl, h⟩
  · have h := ((((h.2 c0).2 c1).2 c2).2 c3)
    refine mm_iconst (M := M_Bench_count) (v := (-1)) d_Bench_count_100 (by decide) ?_
    exact mm_retv (M := M_Bench_count) ⟨_, rfl, rfl, d_Bench_count_101⟩ ⟨_, _, _, _, _, rfl, rfl, h⟩
